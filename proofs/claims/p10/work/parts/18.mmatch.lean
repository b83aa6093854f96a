def wp_Model_t_0 (i : mm_i) (l : mm_j) (a : mm_a) (b : mm_b) (x1 : Int32) (K : Int32 → mm_i → mm_j → mm_a → mm_b → Prop) : Prop :=
  ((i 4) ≤ x1 → K 0 i l a b) ∧ (¬ (i 4) ≤ x1 → vp_in x1 32 ∧ (K ((a 2) x1.toNatClampNeg) i l a b))
set_option maxRecDepth 100000 in
set_option maxHeartbeats 4000000 in
theorem ct_Model_t_0 {i : mm_i} {l : mm_j} {a : mm_a} {b : mm_b} {t : mm_H} {x1 : Int32} {K : Int32 → mm_i → mm_j → mm_a → mm_b → Prop} (h : wp_Model_t_0 i l a b x1 K) : mm_Ct y_Model_t M_Model_t 0 0 0 [.ref 0, .int x1] (Wm i l a b ++ t) (mx_PI t K) := by
  refine mm_Ct.of (by decide) rfl (fun q => absurd q (by decide)) (Nat.le_of_ble_eq_true rfl) ?_
  unfold wp_Model_t_0 at h
  refine mm_eqL (L' := [some (.ref 0), some (.int x1)]) rfl ?_
  refine mm_iload_n (M := M_Model_t) d_Model_t_0 rfl ?_
  refine mm_aload_n (M := M_Model_t) d_Model_t_1 rfl ?_
  refine mm_getf (M := M_Model_t) (u := .int (i 4)) 7 4 d_Model_t_2 fl_Model_87 xg_0 rfl ?_
  refine mm_icmp_ge (M := M_Model_t) 17 d_Model_t_5 (by decide) (fun c => ?_) (fun c => ?_)
  · have h := h.1 c
    refine mm_iconst (M := M_Model_t) (v := 0) d_Model_t_17 (by decide) ?_
    exact mm_retv (M := M_Model_t) ⟨_, rfl, rfl, d_Model_t_18⟩ ⟨_, _, _, _, _, rfl, rfl, h⟩
  · have h := h.2 c
    refine mm_aload_n (M := M_Model_t) d_Model_t_8 rfl ?_
    refine mm_getf (M := M_Model_t) (u := .ref 2) 7 7 d_Model_t_9 fl_Model_13 xg_0 rfl ?_
    refine mm_iload_n (M := M_Model_t) d_Model_t_12 rfl ?_
    obtain ⟨hin, h⟩ := h
    refine mm_iald (M := M_Model_t) (f := (a 2)) d_Model_t_13 xg_2 hin ?_
    refine mm_goto (M := M_Model_t) (tgt := 18) d_Model_t_14 (by decide) ?_
    exact mm_retv (M := M_Model_t) ⟨_, rfl, rfl, d_Model_t_18⟩ ⟨_, _, _, _, _, rfl, rfl, h⟩
def wq_Model_closing_0_40 (X : mm_i → mm_j → mm_a → mm_b → Int32 → Int32 → Prop) (K : Int32 → mm_i → mm_j → mm_a → mm_b → Prop) (i : mm_i) (l : mm_j) (a : mm_a) (b : mm_b) (z2 : Int32) (z3 : Int32) : Prop :=
  (¬ z2 = 0 → X i l a b z2 (z3 + 1)) ∧ (z2 = 0 → K z3 i l a b)
set_option maxRecDepth 100000 in
set_option maxHeartbeats 4000000 in
theorem vq_Model_closing_0_40 {k0 : Nat} {t : mm_H} {K : Int32 → mm_i → mm_j → mm_a → mm_b → Prop} {X : mm_i → mm_j → mm_a → mm_b → Int32 → Int32 → Prop} (hX : ∀ {i l a b z2 z3}, X i l a b z2 z3 → mm_V M_Model_closing 0 k0 (mx_PI t K) 0 0 4 [some (.ref 0), none, some (.int z2), some (.int z3)] [] (Wm i l a b ++ t)) {i : mm_i} {l : mm_j} {a : mm_a} {b : mm_b} {z2 : Int32} {z3 : Int32} (h : wq_Model_closing_0_40 X K i l a b z2 z3) : mm_V M_Model_closing 0 k0 (mx_PI t K) 0 0 40 [some (.ref 0), none, some (.int z2), some (.int z3)] [] (Wm i l a b ++ t) := by
  unfold wq_Model_closing_0_40 at h
  refine mm_iload_n (M := M_Model_closing) d_Model_closing_40 rfl ?_
  refine mm_if_ne (M := M_Model_closing) 46 d_Model_closing_41 (by decide) (fun c => ?_) (fun c => ?_)
  · have h := h.1 c
    refine mm_iinc (M := M_Model_closing) (v := 1) d_Model_closing_46 rfl (by decide) (Nat.le_of_ble_eq_true rfl) ?_
    refine mm_eqL (L' := [some (.ref 0), none, some (.int z2), some (.int (z3 + 1))]) rfl ?_
    refine mm_goto (M := M_Model_closing) (tgt := 4) d_Model_closing_49 (by decide) ?_
    refine mm_drop (L' := [some (.ref 0), none, some (.int z2), some (.int (z3 + 1))]) ⟨rfl, ⟨rfl, ⟨rfl, trivial⟩⟩⟩ ?_
    exact hX h
  · have h := h.2 c
    refine mm_iload_n (M := M_Model_closing) d_Model_closing_44 rfl ?_
    exact mm_retv (M := M_Model_closing) ⟨_, rfl, rfl, d_Model_closing_45⟩ ⟨_, _, _, _, _, rfl, rfl, h⟩
def wq_Model_closing_0_26 (X : mm_i → mm_j → mm_a → mm_b → Int32 → Int32 → Prop) (K : Int32 → mm_i → mm_j → mm_a → mm_b → Prop) (i : mm_i) (l : mm_j) (a : mm_a) (b : mm_b) (z2 : Int32) (z3 : Int32) : Prop :=
  vp_in z3 32 ∧ ((¬ ((a 2) z3.toNatClampNeg) = (41 : Int32) → wq_Model_closing_0_40 X K i l a b z2 z3) ∧ (((a 2) z3.toNatClampNeg) = (41 : Int32) → wq_Model_closing_0_40 X K i l a b (z2 + (-1)) z3))
set_option maxRecDepth 100000 in
set_option maxHeartbeats 4000000 in
theorem vq_Model_closing_0_26 {k0 : Nat} {t : mm_H} {K : Int32 → mm_i → mm_j → mm_a → mm_b → Prop} {X : mm_i → mm_j → mm_a → mm_b → Int32 → Int32 → Prop} (hX : ∀ {i l a b z2 z3}, X i l a b z2 z3 → mm_V M_Model_closing 0 k0 (mx_PI t K) 0 0 4 [some (.ref 0), none, some (.int z2), some (.int z3)] [] (Wm i l a b ++ t)) {i : mm_i} {l : mm_j} {a : mm_a} {b : mm_b} {z2 : Int32} {z3 : Int32} (h : wq_Model_closing_0_26 X K i l a b z2 z3) : mm_V M_Model_closing 0 k0 (mx_PI t K) 0 0 26 [some (.ref 0), none, some (.int z2), some (.int z3)] [] (Wm i l a b ++ t) := by
  unfold wq_Model_closing_0_26 at h
  refine mm_aload_n (M := M_Model_closing) d_Model_closing_26 rfl ?_
  refine mm_getf (M := M_Model_closing) (u := .ref 2) 7 7 d_Model_closing_27 fl_Model_13 xg_0 rfl ?_
  refine mm_iload_n (M := M_Model_closing) d_Model_closing_30 rfl ?_
  obtain ⟨hin, h⟩ := h
  refine mm_iald (M := M_Model_closing) (f := (a 2)) d_Model_closing_31 xg_2 hin ?_
  refine mm_bipush (M := M_Model_closing) (v := 41) d_Model_closing_32 (by decide) ?_
  refine mm_icmp_ne (M := M_Model_closing) 40 d_Model_closing_34 (by decide) (fun c => ?_) (fun c => ?_)
  · have h := h.1 c
    refine mm_drop (L' := [some (.ref 0), none, some (.int z2), some (.int z3)]) ⟨rfl, ⟨rfl, ⟨rfl, trivial⟩⟩⟩ ?_
    exact vq_Model_closing_0_40 hX h
  · have h := h.2 c
    refine mm_iinc (M := M_Model_closing) (v := (-1)) d_Model_closing_37 rfl (by decide) (Nat.le_of_ble_eq_true rfl) ?_
    refine mm_eqL (L' := [some (.ref 0), none, some (.int (z2 + (-1))), some (.int z3)]) rfl ?_
    refine mm_drop (L' := [some (.ref 0), none, some (.int (z2 + (-1))), some (.int z3)]) ⟨rfl, ⟨rfl, ⟨rfl, trivial⟩⟩⟩ ?_
    exact vq_Model_closing_0_40 hX h
def wt_Model_closing_0 (X : mm_i → mm_j → mm_a → mm_b → Int32 → Int32 → Prop) (K : Int32 → mm_i → mm_j → mm_a → mm_b → Prop) (i : mm_i) (l : mm_j) (a : mm_a) (b : mm_b) (z2 : Int32) (z3 : Int32) : Prop :=
  ((i 4) ≤ z3 → K (i 4) i l a b) ∧ (¬ (i 4) ≤ z3 → vp_in z3 32 ∧ ((¬ ((a 2) z3.toNatClampNeg) = (40 : Int32) → wq_Model_closing_0_26 X K i l a b z2 z3) ∧ (((a 2) z3.toNatClampNeg) = (40 : Int32) → wq_Model_closing_0_26 X K i l a b (z2 + 1) z3)))
def wl_Model_closing_0 (K : Int32 → mm_i → mm_j → mm_a → mm_b → Prop) : Nat → mm_i → mm_j → mm_a → mm_b → Int32 → Int32 → Prop
  | 0 => fun _ _ _ _ _ _ => False
  | n + 1 => fun i l a b z2 z3 => wt_Model_closing_0 (wl_Model_closing_0 K n) K i l a b z2 z3
set_option maxRecDepth 100000 in
set_option maxHeartbeats 4000000 in
theorem vt_Model_closing_0 {k0 : Nat} {t : mm_H} {K : Int32 → mm_i → mm_j → mm_a → mm_b → Prop} {X : mm_i → mm_j → mm_a → mm_b → Int32 → Int32 → Prop} (hX : ∀ {i l a b z2 z3}, X i l a b z2 z3 → mm_V M_Model_closing 0 k0 (mx_PI t K) 0 0 4 [some (.ref 0), none, some (.int z2), some (.int z3)] [] (Wm i l a b ++ t)) {i : mm_i} {l : mm_j} {a : mm_a} {b : mm_b} {z2 : Int32} {z3 : Int32} (h : wt_Model_closing_0 X K i l a b z2 z3) : mm_V M_Model_closing 0 k0 (mx_PI t K) 0 0 4 [some (.ref 0), none, some (.int z2), some (.int z3)] [] (Wm i l a b ++ t) := by
  unfold wt_Model_closing_0 at h
  refine mm_iload_n (M := M_Model_closing) d_Model_closing_4 rfl ?_
  refine mm_aload_n (M := M_Model_closing) d_Model_closing_5 rfl ?_
  refine mm_getf (M := M_Model_closing) (u := .int (i 4)) 7 4 d_Model_closing_6 fl_Model_87 xg_0 rfl ?_
  refine mm_icmp_ge (M := M_Model_closing) 52 d_Model_closing_9 (by decide) (fun c => ?_) (fun c => ?_)
  · have h := h.1 c
    refine mm_aload_n (M := M_Model_closing) d_Model_closing_52 rfl ?_
    refine mm_getf (M := M_Model_closing) (u := .int (i 4)) 7 4 d_Model_closing_53 fl_Model_87 xg_0 rfl ?_
    exact mm_retv (M := M_Model_closing) ⟨_, rfl, rfl, d_Model_closing_56⟩ ⟨_, _, _, _, _, rfl, rfl, h⟩
  · have h := h.2 c
    refine mm_aload_n (M := M_Model_closing) d_Model_closing_12 rfl ?_
    refine mm_getf (M := M_Model_closing) (u := .ref 2) 7 7 d_Model_closing_13 fl_Model_13 xg_0 rfl ?_
    refine mm_iload_n (M := M_Model_closing) d_Model_closing_16 rfl ?_
    obtain ⟨hin, h⟩ := h
    refine mm_iald (M := M_Model_closing) (f := (a 2)) d_Model_closing_17 xg_2 hin ?_
    refine mm_bipush (M := M_Model_closing) (v := 40) d_Model_closing_18 (by decide) ?_
    refine mm_icmp_ne (M := M_Model_closing) 26 d_Model_closing_20 (by decide) (fun c => ?_) (fun c => ?_)
    · have h := h.1 c
      refine mm_drop (L' := [some (.ref 0), none, some (.int z2), some (.int z3)]) ⟨rfl, ⟨rfl, ⟨rfl, trivial⟩⟩⟩ ?_
      exact vq_Model_closing_0_26 hX h
    · have h := h.2 c
      refine mm_iinc (M := M_Model_closing) (v := 1) d_Model_closing_23 rfl (by decide) (Nat.le_of_ble_eq_true rfl) ?_
      refine mm_eqL (L' := [some (.ref 0), none, some (.int (z2 + 1)), some (.int z3)]) rfl ?_
      refine mm_drop (L' := [some (.ref 0), none, some (.int (z2 + 1)), some (.int z3)]) ⟨rfl, ⟨rfl, ⟨rfl, trivial⟩⟩⟩ ?_
      exact vq_Model_closing_0_26 hX h
theorem vl_Model_closing_0 {k0 : Nat} {t : mm_H} {K : Int32 → mm_i → mm_j → mm_a → mm_b → Prop} : ∀ (n : Nat) {i : mm_i} {l : mm_j} {a : mm_a} {b : mm_b} {z2 : Int32} {z3 : Int32}, wl_Model_closing_0 K n i l a b z2 z3 → mm_V M_Model_closing 0 k0 (mx_PI t K) 0 0 4 [some (.ref 0), none, some (.int z2), some (.int z3)] [] (Wm i l a b ++ t)
  | 0, _, _, _, _, _, _, h => h.elim
  | n + 1, _, _, _, _, _, _, h => vt_Model_closing_0 (fun h => vl_Model_closing_0 n h) h
def wp_Model_closing_0 (i : mm_i) (l : mm_j) (a : mm_a) (b : mm_b) (x1 : Int32) (K : Int32 → mm_i → mm_j → mm_a → mm_b → Prop) : Prop :=
  ∃ n, wl_Model_closing_0 K n i l a b 0 x1
set_option maxRecDepth 100000 in
set_option maxHeartbeats 4000000 in
theorem ct_Model_closing_0 {i : mm_i} {l : mm_j} {a : mm_a} {b : mm_b} {t : mm_H} {x1 : Int32} {K : Int32 → mm_i → mm_j → mm_a → mm_b → Prop} (h : wp_Model_closing_0 i l a b x1 K) : mm_Ct y_Model_closing M_Model_closing 0 0 0 [.ref 0, .int x1] (Wm i l a b ++ t) (mx_PI t K) := by
  refine mm_Ct.of (by decide) rfl (fun q => absurd q (by decide)) (Nat.le_of_ble_eq_true rfl) ?_
  unfold wp_Model_closing_0 at h
  refine mm_eqL (L' := [some (.ref 0), some (.int x1), none, none]) rfl ?_
  refine mm_iconst (M := M_Model_closing) (v := 0) d_Model_closing_0 (by decide) ?_
  refine mm_istore_n (M := M_Model_closing) d_Model_closing_1 (Nat.le_of_ble_eq_true rfl) ?_
  refine mm_eqL (L' := [some (.ref 0), some (.int x1), some (.int 0), none]) rfl ?_
  refine mm_iload_n (M := M_Model_closing) d_Model_closing_2 rfl ?_
  refine mm_istore_n (M := M_Model_closing) d_Model_closing_3 (Nat.le_of_ble_eq_true rfl) ?_
  refine mm_eqL (L' := [some (.ref 0), some (.int x1), some (.int 0), some (.int x1)]) rfl ?_
  obtain ⟨n, h⟩ := h
  refine mm_drop (L' := [some (.ref 0), none, some (.int 0), some (.int x1)]) ⟨rfl, ⟨rfl, ⟨rfl, trivial⟩⟩⟩ ?_
  exact (vl_Model_closing_0 n) h
def wt_Model_behindAtom_0 (X : mm_i → mm_j → mm_a → mm_b → Int32 → Prop) (K : Int32 → mm_i → mm_j → mm_a → mm_b → Prop) (i : mm_i) (l : mm_j) (a : mm_a) (b : mm_b) (z2 : Int32) : Prop :=
  wp_Model_t_0 i l a b z2 (fun r1 i1 l1 a1 b1 => (r1 = (93 : Int32) → K (z2 + (1 : Int32)) i1 l1 a1 b1) ∧ (¬ r1 = (93 : Int32) → ((i1 4) ≤ z2 → K (z2 + (1 : Int32)) i1 l1 a1 b1) ∧ (¬ (i1 4) ≤ z2 → X i1 l1 a1 b1 (z2 + 1))))
def wl_Model_behindAtom_0 (K : Int32 → mm_i → mm_j → mm_a → mm_b → Prop) : Nat → mm_i → mm_j → mm_a → mm_b → Int32 → Prop
  | 0 => fun _ _ _ _ _ => False
  | n + 1 => fun i l a b z2 => wt_Model_behindAtom_0 (wl_Model_behindAtom_0 K n) K i l a b z2
set_option maxRecDepth 100000 in
set_option maxHeartbeats 4000000 in
theorem vt_Model_behindAtom_0 {k0 : Nat} {t : mm_H} {K : Int32 → mm_i → mm_j → mm_a → mm_b → Prop} {X : mm_i → mm_j → mm_a → mm_b → Int32 → Prop} (hX : ∀ {i l a b z2}, X i l a b z2 → mm_V M_Model_behindAtom 1 k0 (mx_PI t K) 0 0 44 [some (.ref 0), none, some (.int z2)] [] (Wm i l a b ++ t)) {i : mm_i} {l : mm_j} {a : mm_a} {b : mm_b} {z2 : Int32} (h : wt_Model_behindAtom_0 X K i l a b z2) : mm_V M_Model_behindAtom 1 k0 (mx_PI t K) 0 0 44 [some (.ref 0), none, some (.int z2)] [] (Wm i l a b ++ t) := by
  unfold wt_Model_behindAtom_0 at h
  refine mm_aload_n (M := M_Model_behindAtom) d_Model_behindAtom_44 rfl ?_
  refine mm_iload_n (M := M_Model_behindAtom) d_Model_behindAtom_45 rfl ?_
  refine mm_eqs (st2 := [.int z2].reverse ++ .ref 0 :: []) rfl ?_
  refine mm_callV (M := M_Model_behindAtom) (y := y_Model_t) (M' := M_Model_t) (d' := 0) (kc := 0) (ks := 0) (kc' := 0) (ks' := 0) (n := 1) d_Model_behindAtom_46 ok_Model_t ml_Model_102 (by decide) rfl (Nat.le_of_ble_eq_true rfl) ⟨tw_855, ts_Model_t⟩ xg_0 rfl (ct_Model_t_0 h) (fun v w h => ?_)
  obtain ⟨r1, i1, l1, a1, b1, rfl, rfl, h⟩ := h
  refine mm_eqs (st2 := [.int r1]) rfl ?_
  refine mm_bipush (M := M_Model_behindAtom) (v := 93) d_Model_behindAtom_49 (by decide) ?_
  refine mm_icmp_eq (M := M_Model_behindAtom) 68 d_Model_behindAtom_51 (by decide) (fun c => ?_) (fun c => ?_)
  · have h := h.1 c
    refine mm_iload_n (M := M_Model_behindAtom) d_Model_behindAtom_68 rfl ?_
    refine mm_iconst (M := M_Model_behindAtom) (v := 1) d_Model_behindAtom_69 (by decide) ?_
    refine mm_iadd (M := M_Model_behindAtom) d_Model_behindAtom_70 ?_
    exact mm_retv (M := M_Model_behindAtom) ⟨_, rfl, rfl, d_Model_behindAtom_71⟩ ⟨_, _, _, _, _, rfl, rfl, h⟩
  · have h := h.2 c
    refine mm_iload_n (M := M_Model_behindAtom) d_Model_behindAtom_54 rfl ?_
    refine mm_aload_n (M := M_Model_behindAtom) d_Model_behindAtom_55 rfl ?_
    refine mm_getf (M := M_Model_behindAtom) (u := .int (i1 4)) 7 4 d_Model_behindAtom_56 fl_Model_87 xg_0 rfl ?_
    refine mm_icmp_ge (M := M_Model_behindAtom) 68 d_Model_behindAtom_59 (by decide) (fun c => ?_) (fun c => ?_)
    · have h := h.1 c
      refine mm_iload_n (M := M_Model_behindAtom) d_Model_behindAtom_68 rfl ?_
      refine mm_iconst (M := M_Model_behindAtom) (v := 1) d_Model_behindAtom_69 (by decide) ?_
      refine mm_iadd (M := M_Model_behindAtom) d_Model_behindAtom_70 ?_
      exact mm_retv (M := M_Model_behindAtom) ⟨_, rfl, rfl, d_Model_behindAtom_71⟩ ⟨_, _, _, _, _, rfl, rfl, h⟩
    · have h := h.2 c
      refine mm_iinc (M := M_Model_behindAtom) (v := 1) d_Model_behindAtom_62 rfl (by decide) (Nat.le_of_ble_eq_true rfl) ?_
      refine mm_eqL (L' := [some (.ref 0), none, some (.int (z2 + 1))]) rfl ?_
      refine mm_goto (M := M_Model_behindAtom) (tgt := 44) d_Model_behindAtom_65 (by decide) ?_
      refine mm_drop (L' := [some (.ref 0), none, some (.int (z2 + 1))]) ⟨rfl, ⟨rfl, trivial⟩⟩ ?_
      exact hX h
theorem vl_Model_behindAtom_0 {k0 : Nat} {t : mm_H} {K : Int32 → mm_i → mm_j → mm_a → mm_b → Prop} : ∀ (n : Nat) {i : mm_i} {l : mm_j} {a : mm_a} {b : mm_b} {z2 : Int32}, wl_Model_behindAtom_0 K n i l a b z2 → mm_V M_Model_behindAtom 1 k0 (mx_PI t K) 0 0 44 [some (.ref 0), none, some (.int z2)] [] (Wm i l a b ++ t)
  | 0, _, _, _, _, _, h => h.elim
  | n + 1, _, _, _, _, _, h => vt_Model_behindAtom_0 (fun h => vl_Model_behindAtom_0 n h) h
def wp_Model_behindAtom_0 (i : mm_i) (l : mm_j) (a : mm_a) (b : mm_b) (x1 : Int32) (K : Int32 → mm_i → mm_j → mm_a → mm_b → Prop) : Prop :=
  wp_Model_t_0 i l a b x1 (fun r1 i1 l1 a1 b1 => (¬ r1 = (40 : Int32) → wp_Model_t_0 i1 l1 a1 b1 x1 (fun r2 i2 l2 a2 b2 => (¬ r2 = (92 : Int32) → wp_Model_t_0 i2 l2 a2 b2 x1 (fun r3 i3 l3 a3 b3 => (¬ r3 = (91 : Int32) → K (x1 + (1 : Int32)) i3 l3 a3 b3) ∧ (r3 = (91 : Int32) → ∃ n, wl_Model_behindAtom_0 K n i3 l3 a3 b3 x1))) ∧ (r2 = (92 : Int32) → K (x1 + (2 : Int32)) i2 l2 a2 b2))) ∧ (r1 = (40 : Int32) → wp_Model_closing_0 i1 l1 a1 b1 x1 (fun r4 i4 l4 a4 b4 => K (r4 + (1 : Int32)) i4 l4 a4 b4)))
set_option maxRecDepth 100000 in
set_option maxHeartbeats 4000000 in
theorem ct_Model_behindAtom_0 {i : mm_i} {l : mm_j} {a : mm_a} {b : mm_b} {t : mm_H} {x1 : Int32} {K : Int32 → mm_i → mm_j → mm_a → mm_b → Prop} (h : wp_Model_behindAtom_0 i l a b x1 K) : mm_Ct y_Model_behindAtom M_Model_behindAtom 1 0 0 [.ref 0, .int x1] (Wm i l a b ++ t) (mx_PI t K) := by
  refine mm_Ct.of (by decide) rfl (fun q => absurd q (by decide)) (Nat.le_of_ble_eq_true rfl) ?_
  unfold wp_Model_behindAtom_0 at h
  refine mm_eqL (L' := [some (.ref 0), some (.int x1), none]) rfl ?_
  refine mm_aload_n (M := M_Model_behindAtom) d_Model_behindAtom_0 rfl ?_
  refine mm_iload_n (M := M_Model_behindAtom) d_Model_behindAtom_1 rfl ?_
  refine mm_eqs (st2 := [.int x1].reverse ++ .ref 0 :: []) rfl ?_
  refine mm_callV (M := M_Model_behindAtom) (y := y_Model_t) (M' := M_Model_t) (d' := 0) (kc := 0) (ks := 0) (kc' := 0) (ks' := 0) (n := 1) d_Model_behindAtom_2 ok_Model_t ml_Model_102 (by decide) rfl (Nat.le_of_ble_eq_true rfl) ⟨tw_855, ts_Model_t⟩ xg_0 rfl (ct_Model_t_0 h) (fun v w h => ?_)
  obtain ⟨r1, i1, l1, a1, b1, rfl, rfl, h⟩ := h
  refine mm_eqs (st2 := [.int r1]) rfl ?_
  refine mm_bipush (M := M_Model_behindAtom) (v := 40) d_Model_behindAtom_5 (by decide) ?_
  refine mm_icmp_ne (M := M_Model_behindAtom) 18 d_Model_behindAtom_7 (by decide) (fun c => ?_) (fun c => ?_)
  · have h := h.1 c
    refine mm_aload_n (M := M_Model_behindAtom) d_Model_behindAtom_18 rfl ?_
    refine mm_iload_n (M := M_Model_behindAtom) d_Model_behindAtom_19 rfl ?_
    refine mm_eqs (st2 := [.int x1].reverse ++ .ref 0 :: []) rfl ?_
    refine mm_callV (M := M_Model_behindAtom) (y := y_Model_t) (M' := M_Model_t) (d' := 0) (kc := 0) (ks := 0) (kc' := 0) (ks' := 0) (n := 1) d_Model_behindAtom_20 ok_Model_t ml_Model_102 (by decide) rfl (Nat.le_of_ble_eq_true rfl) ⟨tw_855, ts_Model_t⟩ xg_0 rfl (ct_Model_t_0 h) (fun v w h => ?_)
    obtain ⟨r2, i2, l2, a2, b2, rfl, rfl, h⟩ := h
    refine mm_eqs (st2 := [.int r2]) rfl ?_
    refine mm_bipush (M := M_Model_behindAtom) (v := 92) d_Model_behindAtom_23 (by decide) ?_
    refine mm_icmp_ne (M := M_Model_behindAtom) 32 d_Model_behindAtom_25 (by decide) (fun c => ?_) (fun c => ?_)
    · have h := h.1 c
      refine mm_iload_n (M := M_Model_behindAtom) d_Model_behindAtom_32 rfl ?_
      refine mm_istore_n (M := M_Model_behindAtom) d_Model_behindAtom_33 (Nat.le_of_ble_eq_true rfl) ?_
      refine mm_eqL (L' := [some (.ref 0), some (.int x1), some (.int x1)]) rfl ?_
      refine mm_aload_n (M := M_Model_behindAtom) d_Model_behindAtom_34 rfl ?_
      refine mm_iload_n (M := M_Model_behindAtom) d_Model_behindAtom_35 rfl ?_
      refine mm_eqs (st2 := [.int x1].reverse ++ .ref 0 :: []) rfl ?_
      refine mm_callV (M := M_Model_behindAtom) (y := y_Model_t) (M' := M_Model_t) (d' := 0) (kc := 0) (ks := 0) (kc' := 0) (ks' := 0) (n := 1) d_Model_behindAtom_36 ok_Model_t ml_Model_102 (by decide) rfl (Nat.le_of_ble_eq_true rfl) ⟨tw_855, ts_Model_t⟩ xg_0 rfl (ct_Model_t_0 h) (fun v w h => ?_)
      obtain ⟨r3, i3, l3, a3, b3, rfl, rfl, h⟩ := h
      refine mm_eqs (st2 := [.int r3]) rfl ?_
      refine mm_bipush (M := M_Model_behindAtom) (v := 91) d_Model_behindAtom_39 (by decide) ?_
      refine mm_icmp_ne (M := M_Model_behindAtom) 68 d_Model_behindAtom_41 (by decide) (fun c => ?_) (fun c => ?_)
      · have h := h.1 c
        refine mm_iload_n (M := M_Model_behindAtom) d_Model_behindAtom_68 rfl ?_
        refine mm_iconst (M := M_Model_behindAtom) (v := 1) d_Model_behindAtom_69 (by decide) ?_
        refine mm_iadd (M := M_Model_behindAtom) d_Model_behindAtom_70 ?_
        exact mm_retv (M := M_Model_behindAtom) ⟨_, rfl, rfl, d_Model_behindAtom_71⟩ ⟨_, _, _, _, _, rfl, rfl, h⟩
      · have h := h.2 c
        obtain ⟨n, h⟩ := h
        refine mm_drop (L' := [some (.ref 0), none, some (.int x1)]) ⟨rfl, ⟨rfl, trivial⟩⟩ ?_
        exact (vl_Model_behindAtom_0 n) h
    · have h := h.2 c
      refine mm_iload_n (M := M_Model_behindAtom) d_Model_behindAtom_28 rfl ?_
      refine mm_iconst (M := M_Model_behindAtom) (v := 2) d_Model_behindAtom_29 (by decide) ?_
      refine mm_iadd (M := M_Model_behindAtom) d_Model_behindAtom_30 ?_
      exact mm_retv (M := M_Model_behindAtom) ⟨_, rfl, rfl, d_Model_behindAtom_31⟩ ⟨_, _, _, _, _, rfl, rfl, h⟩
  · have h := h.2 c
    refine mm_aload_n (M := M_Model_behindAtom) d_Model_behindAtom_10 rfl ?_
    refine mm_iload_n (M := M_Model_behindAtom) d_Model_behindAtom_11 rfl ?_
    refine mm_eqs (st2 := [.int x1].reverse ++ .ref 0 :: []) rfl ?_
    refine mm_callV (M := M_Model_behindAtom) (y := y_Model_closing) (M' := M_Model_closing) (d' := 0) (kc := 0) (ks := 0) (kc' := 0) (ks' := 0) (n := 1) d_Model_behindAtom_12 ok_Model_closing ml_Model_105 (by decide) rfl (Nat.le_of_ble_eq_true rfl) ⟨tw_867, ts_Model_closing⟩ xg_0 rfl (ct_Model_closing_0 h) (fun v w h => ?_)
    obtain ⟨r4, i4, l4, a4, b4, rfl, rfl, h⟩ := h
    refine mm_eqs (st2 := [.int r4]) rfl ?_
    refine mm_iconst (M := M_Model_behindAtom) (v := 1) d_Model_behindAtom_15 (by decide) ?_
    refine mm_iadd (M := M_Model_behindAtom) d_Model_behindAtom_16 ?_
    exact mm_retv (M := M_Model_behindAtom) ⟨_, rfl, rfl, d_Model_behindAtom_17⟩ ⟨_, _, _, _, _, rfl, rfl, h⟩
def wp_Model_rowEnds_0 (i : mm_i) (l : mm_j) (a : mm_a) (b : mm_b) (x1 : Int32) (K : Int32 → mm_i → mm_j → mm_a → mm_b → Prop) : Prop :=
  ((i 4) ≤ x1 → K 1 i l a b) ∧ (¬ (i 4) ≤ x1 → wp_Model_t_0 i l a b x1 (fun r1 i1 l1 a1 b1 => (r1 = (124 : Int32) → K 1 i1 l1 a1 b1) ∧ (¬ r1 = (124 : Int32) → wp_Model_t_0 i1 l1 a1 b1 x1 (fun r2 i2 l2 a2 b2 => (¬ r2 = (41 : Int32) → K 0 i2 l2 a2 b2) ∧ (r2 = (41 : Int32) → K 1 i2 l2 a2 b2)))))
set_option maxRecDepth 100000 in
set_option maxHeartbeats 4000000 in
theorem ct_Model_rowEnds_0 {i : mm_i} {l : mm_j} {a : mm_a} {b : mm_b} {t : mm_H} {x1 : Int32} {K : Int32 → mm_i → mm_j → mm_a → mm_b → Prop} (h : wp_Model_rowEnds_0 i l a b x1 K) : mm_Ct y_Model_rowEnds M_Model_rowEnds 1 0 0 [.ref 0, .int x1] (Wm i l a b ++ t) (mx_PI t K) := by
  refine mm_Ct.of (by decide) rfl (fun q => absurd q (by decide)) (Nat.le_of_ble_eq_true rfl) ?_
  unfold wp_Model_rowEnds_0 at h
  refine mm_eqL (L' := [some (.ref 0), some (.int x1)]) rfl ?_
  refine mm_iload_n (M := M_Model_rowEnds) d_Model_rowEnds_0 rfl ?_
  refine mm_aload_n (M := M_Model_rowEnds) d_Model_rowEnds_1 rfl ?_
  refine mm_getf (M := M_Model_rowEnds) (u := .int (i 4)) 7 4 d_Model_rowEnds_2 fl_Model_87 xg_0 rfl ?_
  refine mm_icmp_ge (M := M_Model_rowEnds) 28 d_Model_rowEnds_5 (by decide) (fun c => ?_) (fun c => ?_)
  · have h := h.1 c
    refine mm_iconst (M := M_Model_rowEnds) (v := 1) d_Model_rowEnds_28 (by decide) ?_
    refine mm_goto (M := M_Model_rowEnds) (tgt := 33) d_Model_rowEnds_29 (by decide) ?_
    exact mm_retv (M := M_Model_rowEnds) ⟨_, rfl, (by decide), d_Model_rowEnds_33⟩ ⟨_, _, _, _, _, rfl, rfl, h⟩
  · have h := h.2 c
    refine mm_aload_n (M := M_Model_rowEnds) d_Model_rowEnds_8 rfl ?_
    refine mm_iload_n (M := M_Model_rowEnds) d_Model_rowEnds_9 rfl ?_
    refine mm_eqs (st2 := [.int x1].reverse ++ .ref 0 :: []) rfl ?_
    refine mm_callV (M := M_Model_rowEnds) (y := y_Model_t) (M' := M_Model_t) (d' := 0) (kc := 0) (ks := 0) (kc' := 0) (ks' := 0) (n := 1) d_Model_rowEnds_10 ok_Model_t ml_Model_102 (by decide) rfl (Nat.le_of_ble_eq_true rfl) ⟨tw_855, ts_Model_t⟩ xg_0 rfl (ct_Model_t_0 h) (fun v w h => ?_)
    obtain ⟨r1, i1, l1, a1, b1, rfl, rfl, h⟩ := h
    refine mm_eqs (st2 := [.int r1]) rfl ?_
    refine mm_bipush (M := M_Model_rowEnds) (v := 124) d_Model_rowEnds_13 (by decide) ?_
    refine mm_icmp_eq (M := M_Model_rowEnds) 28 d_Model_rowEnds_15 (by decide) (fun c => ?_) (fun c => ?_)
    · have h := h.1 c
      refine mm_iconst (M := M_Model_rowEnds) (v := 1) d_Model_rowEnds_28 (by decide) ?_
      refine mm_goto (M := M_Model_rowEnds) (tgt := 33) d_Model_rowEnds_29 (by decide) ?_
      exact mm_retv (M := M_Model_rowEnds) ⟨_, rfl, (by decide), d_Model_rowEnds_33⟩ ⟨_, _, _, _, _, rfl, rfl, h⟩
    · have h := h.2 c
      refine mm_aload_n (M := M_Model_rowEnds) d_Model_rowEnds_18 rfl ?_
      refine mm_iload_n (M := M_Model_rowEnds) d_Model_rowEnds_19 rfl ?_
      refine mm_eqs (st2 := [.int x1].reverse ++ .ref 0 :: []) rfl ?_
      refine mm_callV (M := M_Model_rowEnds) (y := y_Model_t) (M' := M_Model_t) (d' := 0) (kc := 0) (ks := 0) (kc' := 0) (ks' := 0) (n := 1) d_Model_rowEnds_20 ok_Model_t ml_Model_102 (by decide) rfl (Nat.le_of_ble_eq_true rfl) ⟨tw_855, ts_Model_t⟩ xg_0 rfl (ct_Model_t_0 h) (fun v w h => ?_)
      obtain ⟨r2, i2, l2, a2, b2, rfl, rfl, h⟩ := h
      refine mm_eqs (st2 := [.int r2]) rfl ?_
      refine mm_bipush (M := M_Model_rowEnds) (v := 41) d_Model_rowEnds_23 (by decide) ?_
      refine mm_icmp_ne (M := M_Model_rowEnds) 32 d_Model_rowEnds_25 (by decide) (fun c => ?_) (fun c => ?_)
      · have h := h.1 c
        refine mm_iconst (M := M_Model_rowEnds) (v := 0) d_Model_rowEnds_32 (by decide) ?_
        exact mm_retv (M := M_Model_rowEnds) ⟨_, rfl, (by decide), d_Model_rowEnds_33⟩ ⟨_, _, _, _, _, rfl, rfl, h⟩
      · have h := h.2 c
        refine mm_iconst (M := M_Model_rowEnds) (v := 1) d_Model_rowEnds_28 (by decide) ?_
        refine mm_goto (M := M_Model_rowEnds) (tgt := 33) d_Model_rowEnds_29 (by decide) ?_
        exact mm_retv (M := M_Model_rowEnds) ⟨_, rfl, (by decide), d_Model_rowEnds_33⟩ ⟨_, _, _, _, _, rfl, rfl, h⟩
def wt_Model_nextRow_0 (X : mm_i → mm_j → mm_a → mm_b → Int32 → Prop) (K : Int32 → mm_i → mm_j → mm_a → mm_b → Prop) (i : mm_i) (l : mm_j) (a : mm_a) (b : mm_b) (z2 : Int32) : Prop :=
  wp_Model_rowEnds_0 i l a b z2 (fun r1 i1 l1 a1 b1 => (¬ r1 = 0 → wp_Model_t_0 i1 l1 a1 b1 z2 (fun r2 i2 l2 a2 b2 => (¬ r2 = (124 : Int32) → K (-1) i2 l2 a2 b2) ∧ (r2 = (124 : Int32) → K (z2 + (1 : Int32)) i2 l2 a2 b2))) ∧ (r1 = 0 → wp_Model_t_0 i1 l1 a1 b1 z2 (fun r3 i3 l3 a3 b3 => (r3 = (40 : Int32) → wp_Model_behindAtom_0 i3 l3 a3 b3 z2 (fun r4 i4 l4 a4 b4 => X i4 l4 a4 b4 r4)) ∧ (¬ r3 = (40 : Int32) → wp_Model_t_0 i3 l3 a3 b3 z2 (fun r5 i5 l5 a5 b5 => (r5 = (91 : Int32) → wp_Model_behindAtom_0 i5 l5 a5 b5 z2 (fun r6 i6 l6 a6 b6 => X i6 l6 a6 b6 r6)) ∧ (¬ r5 = (91 : Int32) → wp_Model_t_0 i5 l5 a5 b5 z2 (fun r7 i7 l7 a7 b7 => (¬ r7 = (92 : Int32) → X i7 l7 a7 b7 (z2 + (1 : Int32))) ∧ (r7 = (92 : Int32) → wp_Model_behindAtom_0 i7 l7 a7 b7 z2 (fun r8 i8 l8 a8 b8 => X i8 l8 a8 b8 r8)))))))))
def wl_Model_nextRow_0 (K : Int32 → mm_i → mm_j → mm_a → mm_b → Prop) : Nat → mm_i → mm_j → mm_a → mm_b → Int32 → Prop
  | 0 => fun _ _ _ _ _ => False
  | n + 1 => fun i l a b z2 => wt_Model_nextRow_0 (wl_Model_nextRow_0 K n) K i l a b z2
set_option maxRecDepth 100000 in
set_option maxHeartbeats 4000000 in
theorem vt_Model_nextRow_0 {k0 : Nat} {t : mm_H} {K : Int32 → mm_i → mm_j → mm_a → mm_b → Prop} {X : mm_i → mm_j → mm_a → mm_b → Int32 → Prop} (hX : ∀ {i l a b z2}, X i l a b z2 → mm_V M_Model_nextRow 2 k0 (mx_PI t K) 0 0 2 [some (.ref 0), none, some (.int z2)] [] (Wm i l a b ++ t)) {i : mm_i} {l : mm_j} {a : mm_a} {b : mm_b} {z2 : Int32} (h : wt_Model_nextRow_0 X K i l a b z2) : mm_V M_Model_nextRow 2 k0 (mx_PI t K) 0 0 2 [some (.ref 0), none, some (.int z2)] [] (Wm i l a b ++ t) := by
  unfold wt_Model_nextRow_0 at h
  refine mm_aload_n (M := M_Model_nextRow) d_Model_nextRow_2 rfl ?_
  refine mm_iload_n (M := M_Model_nextRow) d_Model_nextRow_3 rfl ?_
  refine mm_eqs (st2 := [.int z2].reverse ++ .ref 0 :: []) rfl ?_
  refine mm_callV (M := M_Model_nextRow) (y := y_Model_rowEnds) (M' := M_Model_rowEnds) (d' := 1) (kc := 0) (ks := 0) (kc' := 0) (ks' := 0) (n := 1) d_Model_nextRow_4 ok_Model_rowEnds ml_Model_108 (by decide) rfl (Nat.le_of_ble_eq_true rfl) ⟨tw_851, ts_Model_rowEnds⟩ xg_0 rfl (ct_Model_rowEnds_0 h) (fun v w h => ?_)
  obtain ⟨r1, i1, l1, a1, b1, rfl, rfl, h⟩ := h
  refine mm_eqs (st2 := [.int r1]) rfl ?_
  refine mm_if_ne (M := M_Model_nextRow) 55 d_Model_nextRow_7 (by decide) (fun c => ?_) (fun c => ?_)
  · have h := h.1 c
    refine mm_aload_n (M := M_Model_nextRow) d_Model_nextRow_55 rfl ?_
    refine mm_iload_n (M := M_Model_nextRow) d_Model_nextRow_56 rfl ?_
    refine mm_eqs (st2 := [.int z2].reverse ++ .ref 0 :: []) rfl ?_
    refine mm_callV (M := M_Model_nextRow) (y := y_Model_t) (M' := M_Model_t) (d' := 0) (kc := 0) (ks := 0) (kc' := 0) (ks' := 0) (n := 1) d_Model_nextRow_57 ok_Model_t ml_Model_102 (by decide) rfl (Nat.le_of_ble_eq_true rfl) ⟨tw_855, ts_Model_t⟩ xg_0 rfl (ct_Model_t_0 h) (fun v w h => ?_)
    obtain ⟨r2, i2, l2, a2, b2, rfl, rfl, h⟩ := h
    refine mm_eqs (st2 := [.int r2]) rfl ?_
    refine mm_bipush (M := M_Model_nextRow) (v := 124) d_Model_nextRow_60 (by decide) ?_
    refine mm_icmp_ne (M := M_Model_nextRow) 71 d_Model_nextRow_62 (by decide) (fun c => ?_) (fun c => ?_)
    · have h := h.1 c
      refine mm_iconst (M := M_Model_nextRow) (v := (-1)) d_Model_nextRow_71 (by decide) ?_
      exact mm_retv (M := M_Model_nextRow) ⟨_, rfl, rfl, d_Model_nextRow_72⟩ ⟨_, _, _, _, _, rfl, rfl, h⟩
    · have h := h.2 c
      refine mm_iload_n (M := M_Model_nextRow) d_Model_nextRow_65 rfl ?_
      refine mm_iconst (M := M_Model_nextRow) (v := 1) d_Model_nextRow_66 (by decide) ?_
      refine mm_iadd (M := M_Model_nextRow) d_Model_nextRow_67 ?_
      refine mm_goto (M := M_Model_nextRow) (tgt := 72) d_Model_nextRow_68 (by decide) ?_
      exact mm_retv (M := M_Model_nextRow) ⟨_, rfl, rfl, d_Model_nextRow_72⟩ ⟨_, _, _, _, _, rfl, rfl, h⟩
  · have h := h.2 c
    refine mm_aload_n (M := M_Model_nextRow) d_Model_nextRow_10 rfl ?_
    refine mm_iload_n (M := M_Model_nextRow) d_Model_nextRow_11 rfl ?_
    refine mm_eqs (st2 := [.int z2].reverse ++ .ref 0 :: []) rfl ?_
    refine mm_callV (M := M_Model_nextRow) (y := y_Model_t) (M' := M_Model_t) (d' := 0) (kc := 0) (ks := 0) (kc' := 0) (ks' := 0) (n := 1) d_Model_nextRow_12 ok_Model_t ml_Model_102 (by decide) rfl (Nat.le_of_ble_eq_true rfl) ⟨tw_855, ts_Model_t⟩ xg_0 rfl (ct_Model_t_0 h) (fun v w h => ?_)
    obtain ⟨r3, i3, l3, a3, b3, rfl, rfl, h⟩ := h
    refine mm_eqs (st2 := [.int r3]) rfl ?_
    refine mm_bipush (M := M_Model_nextRow) (v := 40) d_Model_nextRow_15 (by decide) ?_
    refine mm_icmp_eq (M := M_Model_nextRow) 40 d_Model_nextRow_17 (by decide) (fun c => ?_) (fun c => ?_)
    · have h := h.1 c
      refine mm_aload_n (M := M_Model_nextRow) d_Model_nextRow_40 rfl ?_
      refine mm_iload_n (M := M_Model_nextRow) d_Model_nextRow_41 rfl ?_
      refine mm_eqs (st2 := [.int z2].reverse ++ .ref 0 :: []) rfl ?_
      refine mm_callV (M := M_Model_nextRow) (y := y_Model_behindAtom) (M' := M_Model_behindAtom) (d' := 1) (kc := 0) (ks := 0) (kc' := 0) (ks' := 0) (n := 1) d_Model_nextRow_42 ok_Model_behindAtom ml_Model_111 (by decide) rfl (Nat.le_of_ble_eq_true rfl) ⟨tw_863, ts_Model_behindAtom⟩ xg_0 rfl (ct_Model_behindAtom_0 h) (fun v w h => ?_)
      obtain ⟨r4, i4, l4, a4, b4, rfl, rfl, h⟩ := h
      refine mm_eqs (st2 := [.int r4]) rfl ?_
      refine mm_goto (M := M_Model_nextRow) (tgt := 51) d_Model_nextRow_45 (by decide) ?_
      refine mm_istore_n (M := M_Model_nextRow) d_Model_nextRow_51 (Nat.le_of_ble_eq_true rfl) ?_
      refine mm_eqL (L' := [some (.ref 0), none, some (.int r4)]) rfl ?_
      refine mm_goto (M := M_Model_nextRow) (tgt := 2) d_Model_nextRow_52 (by decide) ?_
      refine mm_drop (L' := [some (.ref 0), none, some (.int r4)]) ⟨rfl, ⟨rfl, trivial⟩⟩ ?_
      exact hX h
    · have h := h.2 c
      refine mm_aload_n (M := M_Model_nextRow) d_Model_nextRow_20 rfl ?_
      refine mm_iload_n (M := M_Model_nextRow) d_Model_nextRow_21 rfl ?_
      refine mm_eqs (st2 := [.int z2].reverse ++ .ref 0 :: []) rfl ?_
      refine mm_callV (M := M_Model_nextRow) (y := y_Model_t) (M' := M_Model_t) (d' := 0) (kc := 0) (ks := 0) (kc' := 0) (ks' := 0) (n := 1) d_Model_nextRow_22 ok_Model_t ml_Model_102 (by decide) rfl (Nat.le_of_ble_eq_true rfl) ⟨tw_855, ts_Model_t⟩ xg_0 rfl (ct_Model_t_0 h) (fun v w h => ?_)
      obtain ⟨r5, i5, l5, a5, b5, rfl, rfl, h⟩ := h
      refine mm_eqs (st2 := [.int r5]) rfl ?_
      refine mm_bipush (M := M_Model_nextRow) (v := 91) d_Model_nextRow_25 (by decide) ?_
      refine mm_icmp_eq (M := M_Model_nextRow) 40 d_Model_nextRow_27 (by decide) (fun c => ?_) (fun c => ?_)
      · have h := h.1 c
        refine mm_aload_n (M := M_Model_nextRow) d_Model_nextRow_40 rfl ?_
        refine mm_iload_n (M := M_Model_nextRow) d_Model_nextRow_41 rfl ?_
        refine mm_eqs (st2 := [.int z2].reverse ++ .ref 0 :: []) rfl ?_
        refine mm_callV (M := M_Model_nextRow) (y := y_Model_behindAtom) (M' := M_Model_behindAtom) (d' := 1) (kc := 0) (ks := 0) (kc' := 0) (ks' := 0) (n := 1) d_Model_nextRow_42 ok_Model_behindAtom ml_Model_111 (by decide) rfl (Nat.le_of_ble_eq_true rfl) ⟨tw_863, ts_Model_behindAtom⟩ xg_0 rfl (ct_Model_behindAtom_0 h) (fun v w h => ?_)
        obtain ⟨r6, i6, l6, a6, b6, rfl, rfl, h⟩ := h
        refine mm_eqs (st2 := [.int r6]) rfl ?_
        refine mm_goto (M := M_Model_nextRow) (tgt := 51) d_Model_nextRow_45 (by decide) ?_
        refine mm_istore_n (M := M_Model_nextRow) d_Model_nextRow_51 (Nat.le_of_ble_eq_true rfl) ?_
        refine mm_eqL (L' := [some (.ref 0), none, some (.int r6)]) rfl ?_
        refine mm_goto (M := M_Model_nextRow) (tgt := 2) d_Model_nextRow_52 (by decide) ?_
        refine mm_drop (L' := [some (.ref 0), none, some (.int r6)]) ⟨rfl, ⟨rfl, trivial⟩⟩ ?_
        exact hX h
      · have h := h.2 c
        refine mm_aload_n (M := M_Model_nextRow) d_Model_nextRow_30 rfl ?_
        refine mm_iload_n (M := M_Model_nextRow) d_Model_nextRow_31 rfl ?_
        refine mm_eqs (st2 := [.int z2].reverse ++ .ref 0 :: []) rfl ?_
        refine mm_callV (M := M_Model_nextRow) (y := y_Model_t) (M' := M_Model_t) (d' := 0) (kc := 0) (ks := 0) (kc' := 0) (ks' := 0) (n := 1) d_Model_nextRow_32 ok_Model_t ml_Model_102 (by decide) rfl (Nat.le_of_ble_eq_true rfl) ⟨tw_855, ts_Model_t⟩ xg_0 rfl (ct_Model_t_0 h) (fun v w h => ?_)
        obtain ⟨r7, i7, l7, a7, b7, rfl, rfl, h⟩ := h
        refine mm_eqs (st2 := [.int r7]) rfl ?_
        refine mm_bipush (M := M_Model_nextRow) (v := 92) d_Model_nextRow_35 (by decide) ?_
        refine mm_icmp_ne (M := M_Model_nextRow) 48 d_Model_nextRow_37 (by decide) (fun c => ?_) (fun c => ?_)
        · have h := h.1 c
          refine mm_iload_n (M := M_Model_nextRow) d_Model_nextRow_48 rfl ?_
          refine mm_iconst (M := M_Model_nextRow) (v := 1) d_Model_nextRow_49 (by decide) ?_
          refine mm_iadd (M := M_Model_nextRow) d_Model_nextRow_50 ?_
          refine mm_istore_n (M := M_Model_nextRow) d_Model_nextRow_51 (Nat.le_of_ble_eq_true rfl) ?_
          refine mm_eqL (L' := [some (.ref 0), none, some (.int (z2 + (1 : Int32)))]) rfl ?_
          refine mm_goto (M := M_Model_nextRow) (tgt := 2) d_Model_nextRow_52 (by decide) ?_
          refine mm_drop (L' := [some (.ref 0), none, some (.int (z2 + (1 : Int32)))]) ⟨rfl, ⟨rfl, trivial⟩⟩ ?_
          exact hX h
        · have h := h.2 c
          refine mm_aload_n (M := M_Model_nextRow) d_Model_nextRow_40 rfl ?_
          refine mm_iload_n (M := M_Model_nextRow) d_Model_nextRow_41 rfl ?_
          refine mm_eqs (st2 := [.int z2].reverse ++ .ref 0 :: []) rfl ?_
          refine mm_callV (M := M_Model_nextRow) (y := y_Model_behindAtom) (M' := M_Model_behindAtom) (d' := 1) (kc := 0) (ks := 0) (kc' := 0) (ks' := 0) (n := 1) d_Model_nextRow_42 ok_Model_behindAtom ml_Model_111 (by decide) rfl (Nat.le_of_ble_eq_true rfl) ⟨tw_863, ts_Model_behindAtom⟩ xg_0 rfl (ct_Model_behindAtom_0 h) (fun v w h => ?_)
          obtain ⟨r8, i8, l8, a8, b8, rfl, rfl, h⟩ := h
          refine mm_eqs (st2 := [.int r8]) rfl ?_
          refine mm_goto (M := M_Model_nextRow) (tgt := 51) d_Model_nextRow_45 (by decide) ?_
          refine mm_istore_n (M := M_Model_nextRow) d_Model_nextRow_51 (Nat.le_of_ble_eq_true rfl) ?_
          refine mm_eqL (L' := [some (.ref 0), none, some (.int r8)]) rfl ?_
          refine mm_goto (M := M_Model_nextRow) (tgt := 2) d_Model_nextRow_52 (by decide) ?_
          refine mm_drop (L' := [some (.ref 0), none, some (.int r8)]) ⟨rfl, ⟨rfl, trivial⟩⟩ ?_
          exact hX h
theorem vl_Model_nextRow_0 {k0 : Nat} {t : mm_H} {K : Int32 → mm_i → mm_j → mm_a → mm_b → Prop} : ∀ (n : Nat) {i : mm_i} {l : mm_j} {a : mm_a} {b : mm_b} {z2 : Int32}, wl_Model_nextRow_0 K n i l a b z2 → mm_V M_Model_nextRow 2 k0 (mx_PI t K) 0 0 2 [some (.ref 0), none, some (.int z2)] [] (Wm i l a b ++ t)
  | 0, _, _, _, _, _, h => h.elim
  | n + 1, _, _, _, _, _, h => vt_Model_nextRow_0 (fun h => vl_Model_nextRow_0 n h) h
def wp_Model_nextRow_0 (i : mm_i) (l : mm_j) (a : mm_a) (b : mm_b) (x1 : Int32) (K : Int32 → mm_i → mm_j → mm_a → mm_b → Prop) : Prop :=
  ∃ n, wl_Model_nextRow_0 K n i l a b x1
set_option maxRecDepth 100000 in
set_option maxHeartbeats 4000000 in
theorem ct_Model_nextRow_0 {i : mm_i} {l : mm_j} {a : mm_a} {b : mm_b} {t : mm_H} {x1 : Int32} {K : Int32 → mm_i → mm_j → mm_a → mm_b → Prop} (h : wp_Model_nextRow_0 i l a b x1 K) : mm_Ct y_Model_nextRow M_Model_nextRow 2 0 0 [.ref 0, .int x1] (Wm i l a b ++ t) (mx_PI t K) := by
  refine mm_Ct.of (by decide) rfl (fun q => absurd q (by decide)) (Nat.le_of_ble_eq_true rfl) ?_
  unfold wp_Model_nextRow_0 at h
  refine mm_eqL (L' := [some (.ref 0), some (.int x1), none]) rfl ?_
  refine mm_iload_n (M := M_Model_nextRow) d_Model_nextRow_0 rfl ?_
  refine mm_istore_n (M := M_Model_nextRow) d_Model_nextRow_1 (Nat.le_of_ble_eq_true rfl) ?_
  refine mm_eqL (L' := [some (.ref 0), some (.int x1), some (.int x1)]) rfl ?_
  obtain ⟨n, h⟩ := h
  refine mm_drop (L' := [some (.ref 0), none, some (.int x1)]) ⟨rfl, ⟨rfl, trivial⟩⟩ ?_
  exact (vl_Model_nextRow_0 n) h
def wq_Model_choiceOf_0_41 (X : mm_i → mm_j → mm_a → mm_b → Int32 → Int32 → Prop) (K : Int32 → mm_i → mm_j → mm_a → mm_b → Prop) (i : mm_i) (l : mm_j) (a : mm_a) (b : mm_b) (z2 : Int32) (z3 : Int32) : Prop :=
  (¬ z2 = 0 → X i l a b z2 (z3 + 1)) ∧ (z2 = 0 → K (z3 + (1 : Int32)) i l a b)
set_option maxRecDepth 100000 in
set_option maxHeartbeats 4000000 in
theorem vq_Model_choiceOf_0_41 {k0 : Nat} {t : mm_H} {K : Int32 → mm_i → mm_j → mm_a → mm_b → Prop} {X : mm_i → mm_j → mm_a → mm_b → Int32 → Int32 → Prop} (hX : ∀ {i l a b z2 z3}, X i l a b z2 z3 → mm_V M_Model_choiceOf 1 k0 (mx_PI t K) 0 0 4 [some (.ref 0), none, some (.int z2), some (.int z3)] [] (Wm i l a b ++ t)) {i : mm_i} {l : mm_j} {a : mm_a} {b : mm_b} {z2 : Int32} {z3 : Int32} (h : wq_Model_choiceOf_0_41 X K i l a b z2 z3) : mm_V M_Model_choiceOf 1 k0 (mx_PI t K) 0 0 41 [some (.ref 0), none, some (.int z2), some (.int z3)] [] (Wm i l a b ++ t) := by
  unfold wq_Model_choiceOf_0_41 at h
  refine mm_iload_n (M := M_Model_choiceOf) d_Model_choiceOf_41 rfl ?_
  refine mm_if_ne (M := M_Model_choiceOf) 49 d_Model_choiceOf_42 (by decide) (fun c => ?_) (fun c => ?_)
  · have h := h.1 c
    refine mm_iinc (M := M_Model_choiceOf) (v := 1) d_Model_choiceOf_49 rfl (by decide) (Nat.le_of_ble_eq_true rfl) ?_
    refine mm_eqL (L' := [some (.ref 0), none, some (.int z2), some (.int (z3 + 1))]) rfl ?_
    refine mm_goto (M := M_Model_choiceOf) (tgt := 4) d_Model_choiceOf_52 (by decide) ?_
    refine mm_drop (L' := [some (.ref 0), none, some (.int z2), some (.int (z3 + 1))]) ⟨rfl, ⟨rfl, ⟨rfl, trivial⟩⟩⟩ ?_
    exact hX h
  · have h := h.2 c
    refine mm_iload_n (M := M_Model_choiceOf) d_Model_choiceOf_45 rfl ?_
    refine mm_iconst (M := M_Model_choiceOf) (v := 1) d_Model_choiceOf_46 (by decide) ?_
    refine mm_iadd (M := M_Model_choiceOf) d_Model_choiceOf_47 ?_
    exact mm_retv (M := M_Model_choiceOf) ⟨_, rfl, rfl, d_Model_choiceOf_48⟩ ⟨_, _, _, _, _, rfl, rfl, h⟩
def wt_Model_choiceOf_0 (X : mm_i → mm_j → mm_a → mm_b → Int32 → Int32 → Prop) (K : Int32 → mm_i → mm_j → mm_a → mm_b → Prop) (i : mm_i) (l : mm_j) (a : mm_a) (b : mm_b) (z2 : Int32) (z3 : Int32) : Prop :=
  ((i 4) ≤ z3 → K 0 i l a b) ∧ (¬ (i 4) ≤ z3 → (z2 ≤ 0 → K 0 i l a b) ∧ (¬ z2 ≤ 0 → wp_Model_t_0 i l a b z3 (fun r1 i1 l1 a1 b1 => (¬ r1 = (40 : Int32) → wq_Model_choiceOf_0_41 X K i1 l1 a1 b1 z2 z3) ∧ (r1 = (40 : Int32) → wp_Model_t_0 i1 l1 a1 b1 (z3 + (1 : Int32)) (fun r2 i2 l2 a2 b2 => (r2 = (63 : Int32) → wq_Model_choiceOf_0_41 X K i2 l2 a2 b2 z2 z3) ∧ (¬ r2 = (63 : Int32) → wq_Model_choiceOf_0_41 X K i2 l2 a2 b2 (z2 + (-1)) z3))))))
def wl_Model_choiceOf_0 (K : Int32 → mm_i → mm_j → mm_a → mm_b → Prop) : Nat → mm_i → mm_j → mm_a → mm_b → Int32 → Int32 → Prop
  | 0 => fun _ _ _ _ _ _ => False
  | n + 1 => fun i l a b z2 z3 => wt_Model_choiceOf_0 (wl_Model_choiceOf_0 K n) K i l a b z2 z3
set_option maxRecDepth 100000 in
set_option maxHeartbeats 4000000 in
theorem vt_Model_choiceOf_0 {k0 : Nat} {t : mm_H} {K : Int32 → mm_i → mm_j → mm_a → mm_b → Prop} {X : mm_i → mm_j → mm_a → mm_b → Int32 → Int32 → Prop} (hX : ∀ {i l a b z2 z3}, X i l a b z2 z3 → mm_V M_Model_choiceOf 1 k0 (mx_PI t K) 0 0 4 [some (.ref 0), none, some (.int z2), some (.int z3)] [] (Wm i l a b ++ t)) {i : mm_i} {l : mm_j} {a : mm_a} {b : mm_b} {z2 : Int32} {z3 : Int32} (h : wt_Model_choiceOf_0 X K i l a b z2 z3) : mm_V M_Model_choiceOf 1 k0 (mx_PI t K) 0 0 4 [some (.ref 0), none, some (.int z2), some (.int z3)] [] (Wm i l a b ++ t) := by
  unfold wt_Model_choiceOf_0 at h
  refine mm_iload_n (M := M_Model_choiceOf) d_Model_choiceOf_4 rfl ?_
  refine mm_aload_n (M := M_Model_choiceOf) d_Model_choiceOf_5 rfl ?_
  refine mm_getf (M := M_Model_choiceOf) (u := .int (i 4)) 7 4 d_Model_choiceOf_6 fl_Model_87 xg_0 rfl ?_
  refine mm_icmp_ge (M := M_Model_choiceOf) 55 d_Model_choiceOf_9 (by decide) (fun c => ?_) (fun c => ?_)
  · have h := h.1 c
    refine mm_iconst (M := M_Model_choiceOf) (v := 0) d_Model_choiceOf_55 (by decide) ?_
    exact mm_retv (M := M_Model_choiceOf) ⟨_, rfl, rfl, d_Model_choiceOf_56⟩ ⟨_, _, _, _, _, rfl, rfl, h⟩
  · have h := h.2 c
    refine mm_iload_n (M := M_Model_choiceOf) d_Model_choiceOf_12 rfl ?_
    refine mm_if_le (M := M_Model_choiceOf) 55 d_Model_choiceOf_13 (by decide) (fun c => ?_) (fun c => ?_)
    · have h := h.1 c
      refine mm_iconst (M := M_Model_choiceOf) (v := 0) d_Model_choiceOf_55 (by decide) ?_
      exact mm_retv (M := M_Model_choiceOf) ⟨_, rfl, rfl, d_Model_choiceOf_56⟩ ⟨_, _, _, _, _, rfl, rfl, h⟩
    · have h := h.2 c
      refine mm_aload_n (M := M_Model_choiceOf) d_Model_choiceOf_16 rfl ?_
      refine mm_iload_n (M := M_Model_choiceOf) d_Model_choiceOf_17 rfl ?_
      refine mm_eqs (st2 := [.int z3].reverse ++ .ref 0 :: []) rfl ?_
      refine mm_callV (M := M_Model_choiceOf) (y := y_Model_t) (M' := M_Model_t) (d' := 0) (kc := 0) (ks := 0) (kc' := 0) (ks' := 0) (n := 1) d_Model_choiceOf_18 ok_Model_t ml_Model_102 (by decide) rfl (Nat.le_of_ble_eq_true rfl) ⟨tw_855, ts_Model_t⟩ xg_0 rfl (ct_Model_t_0 h) (fun v w h => ?_)
      obtain ⟨r1, i1, l1, a1, b1, rfl, rfl, h⟩ := h
      refine mm_eqs (st2 := [.int r1]) rfl ?_
      refine mm_bipush (M := M_Model_choiceOf) (v := 40) d_Model_choiceOf_21 (by decide) ?_
      refine mm_icmp_ne (M := M_Model_choiceOf) 41 d_Model_choiceOf_23 (by decide) (fun c => ?_) (fun c => ?_)
      · have h := h.1 c
        refine mm_drop (L' := [some (.ref 0), none, some (.int z2), some (.int z3)]) ⟨rfl, ⟨rfl, ⟨rfl, trivial⟩⟩⟩ ?_
        exact vq_Model_choiceOf_0_41 hX h
      · have h := h.2 c
        refine mm_aload_n (M := M_Model_choiceOf) d_Model_choiceOf_26 rfl ?_
        refine mm_iload_n (M := M_Model_choiceOf) d_Model_choiceOf_27 rfl ?_
        refine mm_iconst (M := M_Model_choiceOf) (v := 1) d_Model_choiceOf_28 (by decide) ?_
        refine mm_iadd (M := M_Model_choiceOf) d_Model_choiceOf_29 ?_
        refine mm_eqs (st2 := [.int (z3 + (1 : Int32))].reverse ++ .ref 0 :: []) rfl ?_
        refine mm_callV (M := M_Model_choiceOf) (y := y_Model_t) (M' := M_Model_t) (d' := 0) (kc := 0) (ks := 0) (kc' := 0) (ks' := 0) (n := 1) d_Model_choiceOf_30 ok_Model_t ml_Model_102 (by decide) rfl (Nat.le_of_ble_eq_true rfl) ⟨tw_855, ts_Model_t⟩ xg_0 rfl (ct_Model_t_0 h) (fun v w h => ?_)
        obtain ⟨r2, i2, l2, a2, b2, rfl, rfl, h⟩ := h
        refine mm_eqs (st2 := [.int r2]) rfl ?_
        refine mm_bipush (M := M_Model_choiceOf) (v := 63) d_Model_choiceOf_33 (by decide) ?_
        refine mm_icmp_eq (M := M_Model_choiceOf) 41 d_Model_choiceOf_35 (by decide) (fun c => ?_) (fun c => ?_)
        · have h := h.1 c
          refine mm_drop (L' := [some (.ref 0), none, some (.int z2), some (.int z3)]) ⟨rfl, ⟨rfl, ⟨rfl, trivial⟩⟩⟩ ?_
          exact vq_Model_choiceOf_0_41 hX h
        · have h := h.2 c
          refine mm_iinc (M := M_Model_choiceOf) (v := (-1)) d_Model_choiceOf_38 rfl (by decide) (Nat.le_of_ble_eq_true rfl) ?_
          refine mm_eqL (L' := [some (.ref 0), none, some (.int (z2 + (-1))), some (.int z3)]) rfl ?_
          refine mm_drop (L' := [some (.ref 0), none, some (.int (z2 + (-1))), some (.int z3)]) ⟨rfl, ⟨rfl, ⟨rfl, trivial⟩⟩⟩ ?_
          exact vq_Model_choiceOf_0_41 hX h
theorem vl_Model_choiceOf_0 {k0 : Nat} {t : mm_H} {K : Int32 → mm_i → mm_j → mm_a → mm_b → Prop} : ∀ (n : Nat) {i : mm_i} {l : mm_j} {a : mm_a} {b : mm_b} {z2 : Int32} {z3 : Int32}, wl_Model_choiceOf_0 K n i l a b z2 z3 → mm_V M_Model_choiceOf 1 k0 (mx_PI t K) 0 0 4 [some (.ref 0), none, some (.int z2), some (.int z3)] [] (Wm i l a b ++ t)
  | 0, _, _, _, _, _, _, h => h.elim
  | n + 1, _, _, _, _, _, _, h => vt_Model_choiceOf_0 (fun h => vl_Model_choiceOf_0 n h) h
def wp_Model_choiceOf_0 (i : mm_i) (l : mm_j) (a : mm_a) (b : mm_b) (x1 : Int32) (K : Int32 → mm_i → mm_j → mm_a → mm_b → Prop) : Prop :=
  ∃ n, wl_Model_choiceOf_0 K n i l a b x1 0
set_option maxRecDepth 100000 in
set_option maxHeartbeats 4000000 in
theorem ct_Model_choiceOf_0 {i : mm_i} {l : mm_j} {a : mm_a} {b : mm_b} {t : mm_H} {x1 : Int32} {K : Int32 → mm_i → mm_j → mm_a → mm_b → Prop} (h : wp_Model_choiceOf_0 i l a b x1 K) : mm_Ct y_Model_choiceOf M_Model_choiceOf 1 0 0 [.ref 0, .int x1] (Wm i l a b ++ t) (mx_PI t K) := by
  refine mm_Ct.of (by decide) rfl (fun q => absurd q (by decide)) (Nat.le_of_ble_eq_true rfl) ?_
  unfold wp_Model_choiceOf_0 at h
  refine mm_eqL (L' := [some (.ref 0), some (.int x1), none, none]) rfl ?_
  refine mm_iload_n (M := M_Model_choiceOf) d_Model_choiceOf_0 rfl ?_
  refine mm_istore_n (M := M_Model_choiceOf) d_Model_choiceOf_1 (Nat.le_of_ble_eq_true rfl) ?_
  refine mm_eqL (L' := [some (.ref 0), some (.int x1), some (.int x1), none]) rfl ?_
  refine mm_iconst (M := M_Model_choiceOf) (v := 0) d_Model_choiceOf_2 (by decide) ?_
  refine mm_istore_n (M := M_Model_choiceOf) d_Model_choiceOf_3 (Nat.le_of_ble_eq_true rfl) ?_
  refine mm_eqL (L' := [some (.ref 0), some (.int x1), some (.int x1), some (.int 0)]) rfl ?_
  obtain ⟨n, h⟩ := h
  refine mm_drop (L' := [some (.ref 0), none, some (.int x1), some (.int 0)]) ⟨rfl, ⟨rfl, ⟨rfl, trivial⟩⟩⟩ ?_
  exact (vl_Model_choiceOf_0 n) h
def wq_Model_groupAt_0_34 (X : mm_i → mm_j → mm_a → mm_b → Int32 → Int32 → Int32 → Prop) (K : Int32 → mm_i → mm_j → mm_a → mm_b → Prop) (i : mm_i) (l : mm_j) (a : mm_a) (b : mm_b) (z1 : Int32) (z2 : Int32) (z3 : Int32) : Prop :=
  X i l a b z1 z2 (z3 + 1)
set_option maxRecDepth 100000 in
set_option maxHeartbeats 4000000 in
theorem vq_Model_groupAt_0_34 {k0 : Nat} {t : mm_H} {K : Int32 → mm_i → mm_j → mm_a → mm_b → Prop} {X : mm_i → mm_j → mm_a → mm_b → Int32 → Int32 → Int32 → Prop} (hX : ∀ {i l a b z1 z2 z3}, X i l a b z1 z2 z3 → mm_V M_Model_groupAt 1 k0 (mx_PI t K) 0 0 4 [some (.ref 0), some (.int z1), some (.int z2), some (.int z3)] [] (Wm i l a b ++ t)) {i : mm_i} {l : mm_j} {a : mm_a} {b : mm_b} {z1 : Int32} {z2 : Int32} {z3 : Int32} (h : wq_Model_groupAt_0_34 X K i l a b z1 z2 z3) : mm_V M_Model_groupAt 1 k0 (mx_PI t K) 0 0 34 [some (.ref 0), some (.int z1), some (.int z2), some (.int z3)] [] (Wm i l a b ++ t) := by
  unfold wq_Model_groupAt_0_34 at h
  refine mm_iinc (M := M_Model_groupAt) (v := 1) d_Model_groupAt_34 rfl (by decide) (Nat.le_of_ble_eq_true rfl) ?_
  refine mm_eqL (L' := [some (.ref 0), some (.int z1), some (.int z2), some (.int (z3 + 1))]) rfl ?_
  refine mm_goto (M := M_Model_groupAt) (tgt := 4) d_Model_groupAt_37 (by decide) ?_
  refine mm_drop (L' := [some (.ref 0), some (.int z1), some (.int z2), some (.int (z3 + 1))]) ⟨rfl, ⟨rfl, ⟨rfl, ⟨rfl, trivial⟩⟩⟩⟩ ?_
  exact hX h
def wt_Model_groupAt_0 (X : mm_i → mm_j → mm_a → mm_b → Int32 → Int32 → Int32 → Prop) (K : Int32 → mm_i → mm_j → mm_a → mm_b → Prop) (i : mm_i) (l : mm_j) (a : mm_a) (b : mm_b) (z1 : Int32) (z2 : Int32) (z3 : Int32) : Prop :=
  (z1 < z3 → K z2 i l a b) ∧ (¬ z1 < z3 → wp_Model_t_0 i l a b z3 (fun r1 i1 l1 a1 b1 => (¬ r1 = (40 : Int32) → wq_Model_groupAt_0_34 X K i1 l1 a1 b1 z1 z2 z3) ∧ (r1 = (40 : Int32) → wp_Model_t_0 i1 l1 a1 b1 (z3 + (1 : Int32)) (fun r2 i2 l2 a2 b2 => (r2 = (63 : Int32) → wq_Model_groupAt_0_34 X K i2 l2 a2 b2 z1 z2 z3) ∧ (¬ r2 = (63 : Int32) → wq_Model_groupAt_0_34 X K i2 l2 a2 b2 z1 (z2 + 1) z3)))))
def wl_Model_groupAt_0 (K : Int32 → mm_i → mm_j → mm_a → mm_b → Prop) : Nat → mm_i → mm_j → mm_a → mm_b → Int32 → Int32 → Int32 → Prop
  | 0 => fun _ _ _ _ _ _ _ => False
  | n + 1 => fun i l a b z1 z2 z3 => wt_Model_groupAt_0 (wl_Model_groupAt_0 K n) K i l a b z1 z2 z3
set_option maxRecDepth 100000 in
set_option maxHeartbeats 4000000 in
theorem vt_Model_groupAt_0 {k0 : Nat} {t : mm_H} {K : Int32 → mm_i → mm_j → mm_a → mm_b → Prop} {X : mm_i → mm_j → mm_a → mm_b → Int32 → Int32 → Int32 → Prop} (hX : ∀ {i l a b z1 z2 z3}, X i l a b z1 z2 z3 → mm_V M_Model_groupAt 1 k0 (mx_PI t K) 0 0 4 [some (.ref 0), some (.int z1), some (.int z2), some (.int z3)] [] (Wm i l a b ++ t)) {i : mm_i} {l : mm_j} {a : mm_a} {b : mm_b} {z1 : Int32} {z2 : Int32} {z3 : Int32} (h : wt_Model_groupAt_0 X K i l a b z1 z2 z3) : mm_V M_Model_groupAt 1 k0 (mx_PI t K) 0 0 4 [some (.ref 0), some (.int z1), some (.int z2), some (.int z3)] [] (Wm i l a b ++ t) := by
  unfold wt_Model_groupAt_0 at h
  refine mm_iload_n (M := M_Model_groupAt) d_Model_groupAt_4 rfl ?_
  refine mm_iload_n (M := M_Model_groupAt) d_Model_groupAt_5 rfl ?_
  refine mm_icmp_gt (M := M_Model_groupAt) 40 d_Model_groupAt_6 (by decide) (fun c => ?_) (fun c => ?_)
  · have h := h.1 c
    refine mm_iload_n (M := M_Model_groupAt) d_Model_groupAt_40 rfl ?_
    exact mm_retv (M := M_Model_groupAt) ⟨_, rfl, rfl, d_Model_groupAt_41⟩ ⟨_, _, _, _, _, rfl, rfl, h⟩
  · have h := h.2 c
    refine mm_aload_n (M := M_Model_groupAt) d_Model_groupAt_9 rfl ?_
    refine mm_iload_n (M := M_Model_groupAt) d_Model_groupAt_10 rfl ?_
    refine mm_eqs (st2 := [.int z3].reverse ++ .ref 0 :: []) rfl ?_
    refine mm_callV (M := M_Model_groupAt) (y := y_Model_t) (M' := M_Model_t) (d' := 0) (kc := 0) (ks := 0) (kc' := 0) (ks' := 0) (n := 1) d_Model_groupAt_11 ok_Model_t ml_Model_102 (by decide) rfl (Nat.le_of_ble_eq_true rfl) ⟨tw_855, ts_Model_t⟩ xg_0 rfl (ct_Model_t_0 h) (fun v w h => ?_)
    obtain ⟨r1, i1, l1, a1, b1, rfl, rfl, h⟩ := h
    refine mm_eqs (st2 := [.int r1]) rfl ?_
    refine mm_bipush (M := M_Model_groupAt) (v := 40) d_Model_groupAt_14 (by decide) ?_
    refine mm_icmp_ne (M := M_Model_groupAt) 34 d_Model_groupAt_16 (by decide) (fun c => ?_) (fun c => ?_)
    · have h := h.1 c
      refine mm_drop (L' := [some (.ref 0), some (.int z1), some (.int z2), some (.int z3)]) ⟨rfl, ⟨rfl, ⟨rfl, ⟨rfl, trivial⟩⟩⟩⟩ ?_
      exact vq_Model_groupAt_0_34 hX h
    · have h := h.2 c
      refine mm_aload_n (M := M_Model_groupAt) d_Model_groupAt_19 rfl ?_
      refine mm_iload_n (M := M_Model_groupAt) d_Model_groupAt_20 rfl ?_
      refine mm_iconst (M := M_Model_groupAt) (v := 1) d_Model_groupAt_21 (by decide) ?_
      refine mm_iadd (M := M_Model_groupAt) d_Model_groupAt_22 ?_
      refine mm_eqs (st2 := [.int (z3 + (1 : Int32))].reverse ++ .ref 0 :: []) rfl ?_
      refine mm_callV (M := M_Model_groupAt) (y := y_Model_t) (M' := M_Model_t) (d' := 0) (kc := 0) (ks := 0) (kc' := 0) (ks' := 0) (n := 1) d_Model_groupAt_23 ok_Model_t ml_Model_102 (by decide) rfl (Nat.le_of_ble_eq_true rfl) ⟨tw_855, ts_Model_t⟩ xg_0 rfl (ct_Model_t_0 h) (fun v w h => ?_)
      obtain ⟨r2, i2, l2, a2, b2, rfl, rfl, h⟩ := h
      refine mm_eqs (st2 := [.int r2]) rfl ?_
      refine mm_bipush (M := M_Model_groupAt) (v := 63) d_Model_groupAt_26 (by decide) ?_
      refine mm_icmp_eq (M := M_Model_groupAt) 34 d_Model_groupAt_28 (by decide) (fun c => ?_) (fun c => ?_)
      · have h := h.1 c
        refine mm_drop (L' := [some (.ref 0), some (.int z1), some (.int z2), some (.int z3)]) ⟨rfl, ⟨rfl, ⟨rfl, ⟨rfl, trivial⟩⟩⟩⟩ ?_
        exact vq_Model_groupAt_0_34 hX h
      · have h := h.2 c
        refine mm_iinc (M := M_Model_groupAt) (v := 1) d_Model_groupAt_31 rfl (by decide) (Nat.le_of_ble_eq_true rfl) ?_
        refine mm_eqL (L' := [some (.ref 0), some (.int z1), some (.int (z2 + 1)), some (.int z3)]) rfl ?_
        refine mm_drop (L' := [some (.ref 0), some (.int z1), some (.int (z2 + 1)), some (.int z3)]) ⟨rfl, ⟨rfl, ⟨rfl, ⟨rfl, trivial⟩⟩⟩⟩ ?_
        exact vq_Model_groupAt_0_34 hX h
theorem vl_Model_groupAt_0 {k0 : Nat} {t : mm_H} {K : Int32 → mm_i → mm_j → mm_a → mm_b → Prop} : ∀ (n : Nat) {i : mm_i} {l : mm_j} {a : mm_a} {b : mm_b} {z1 : Int32} {z2 : Int32} {z3 : Int32}, wl_Model_groupAt_0 K n i l a b z1 z2 z3 → mm_V M_Model_groupAt 1 k0 (mx_PI t K) 0 0 4 [some (.ref 0), some (.int z1), some (.int z2), some (.int z3)] [] (Wm i l a b ++ t)
  | 0, _, _, _, _, _, _, _, h => h.elim
  | n + 1, _, _, _, _, _, _, _, h => vt_Model_groupAt_0 (fun h => vl_Model_groupAt_0 n h) h
def wp_Model_groupAt_0 (i : mm_i) (l : mm_j) (a : mm_a) (b : mm_b) (x1 : Int32) (K : Int32 → mm_i → mm_j → mm_a → mm_b → Prop) : Prop :=
  ∃ n, wl_Model_groupAt_0 K n i l a b x1 0 0
set_option maxRecDepth 100000 in
set_option maxHeartbeats 4000000 in
theorem ct_Model_groupAt_0 {i : mm_i} {l : mm_j} {a : mm_a} {b : mm_b} {t : mm_H} {x1 : Int32} {K : Int32 → mm_i → mm_j → mm_a → mm_b → Prop} (h : wp_Model_groupAt_0 i l a b x1 K) : mm_Ct y_Model_groupAt M_Model_groupAt 1 0 0 [.ref 0, .int x1] (Wm i l a b ++ t) (mx_PI t K) := by
  refine mm_Ct.of (by decide) rfl (fun q => absurd q (by decide)) (Nat.le_of_ble_eq_true rfl) ?_
  unfold wp_Model_groupAt_0 at h
  refine mm_eqL (L' := [some (.ref 0), some (.int x1), none, none]) rfl ?_
  refine mm_iconst (M := M_Model_groupAt) (v := 0) d_Model_groupAt_0 (by decide) ?_
  refine mm_istore_n (M := M_Model_groupAt) d_Model_groupAt_1 (Nat.le_of_ble_eq_true rfl) ?_
  refine mm_eqL (L' := [some (.ref 0), some (.int x1), some (.int 0), none]) rfl ?_
  refine mm_iconst (M := M_Model_groupAt) (v := 0) d_Model_groupAt_2 (by decide) ?_
  refine mm_istore_n (M := M_Model_groupAt) d_Model_groupAt_3 (Nat.le_of_ble_eq_true rfl) ?_
  refine mm_eqL (L' := [some (.ref 0), some (.int x1), some (.int 0), some (.int 0)]) rfl ?_
  obtain ⟨n, h⟩ := h
  refine mm_drop (L' := [some (.ref 0), some (.int x1), some (.int 0), some (.int 0)]) ⟨rfl, ⟨rfl, ⟨rfl, ⟨rfl, trivial⟩⟩⟩⟩ ?_
  exact (vl_Model_groupAt_0 n) h
def wp_Model_push_0 (i : mm_i) (l : mm_j) (a : mm_a) (b : mm_b) (x1 : Int32) (x2 : Int32) (x3 : Int32) (x4 : Int32) (K : Int32 → mm_i → mm_j → mm_a → mm_b → Prop) : Prop :=
  vp_in ((i 16) + (1 : Int32)) 7000 ∧ (K ((i 16) + (1 : Int32)) (upd i 16 ((i 16) + (1 : Int32))) l a (mm_ub b 5 (vp_updL (b 5) ((i 16) + (1 : Int32)).toNatClampNeg ((((x1 ||| (x2 <<< ((4 : Int32) &&& 31))) ||| (x3 <<< ((10 : Int32) &&& 31))).toInt64) ||| ((x4.toInt64) <<< ((23 : Int32).toInt64 &&& 63))))))
set_option maxRecDepth 100000 in
set_option maxHeartbeats 4000000 in
theorem ct_Model_push_0 {i : mm_i} {l : mm_j} {a : mm_a} {b : mm_b} {t : mm_H} {x1 : Int32} {x2 : Int32} {x3 : Int32} {x4 : Int32} {K : Int32 → mm_i → mm_j → mm_a → mm_b → Prop} (h : wp_Model_push_0 i l a b x1 x2 x3 x4 K) : mm_Ct y_Model_push M_Model_push 0 0 0 [.ref 0, .int x1, .int x2, .int x3, .int x4] (Wm i l a b ++ t) (mx_PI t K) := by
  refine mm_Ct.of (by decide) rfl (fun q => absurd q (by decide)) (Nat.le_of_ble_eq_true rfl) ?_
  unfold wp_Model_push_0 at h
  refine mm_eqL (L' := [some (.ref 0), some (.int x1), some (.int x2), some (.int x3), some (.int x4)]) rfl ?_
  refine mm_aload_n (M := M_Model_push) d_Model_push_0 rfl ?_
  refine mm_dup (M := M_Model_push) d_Model_push_1 rfl ?_
  refine mm_getf (M := M_Model_push) (u := .int (i 16)) 7 16 d_Model_push_2 fl_Model_114 xg_0 rfl ?_
  refine mm_iconst (M := M_Model_push) (v := 1) d_Model_push_5 (by decide) ?_
  refine mm_iadd (M := M_Model_push) d_Model_push_6 ?_
  refine mm_putf (M := M_Model_push) 7 16 .int d_Model_push_7 fl_Model_114 fp_Model_114 ft_7_16 xg_0 (Nat.le_of_ble_eq_true rfl) trivial ?_
  refine mm_eqw xs_16 ?_
  refine mm_aload_n (M := M_Model_push) d_Model_push_10 rfl ?_
  refine mm_getf (M := M_Model_push) (u := .ref 5) 7 17 d_Model_push_11 fl_Model_22 xg_0 rfl ?_
  refine mm_aload_n (M := M_Model_push) d_Model_push_14 rfl ?_
  refine mm_getf (M := M_Model_push) (u := .int ((i 16) + (1 : Int32))) 7 16 d_Model_push_15 fl_Model_114 xg_0 rfl ?_
  refine mm_iload_n (M := M_Model_push) d_Model_push_18 rfl ?_
  refine mm_iload_n (M := M_Model_push) d_Model_push_19 rfl ?_
  refine mm_iconst (M := M_Model_push) (v := 4) d_Model_push_20 (by decide) ?_
  refine mm_ishl (M := M_Model_push) d_Model_push_21 ?_
  refine mm_ior (M := M_Model_push) d_Model_push_22 ?_
  refine mm_iload_n (M := M_Model_push) d_Model_push_23 rfl ?_
  refine mm_bipush (M := M_Model_push) (v := 10) d_Model_push_24 (by decide) ?_
  refine mm_ishl (M := M_Model_push) d_Model_push_26 ?_
  refine mm_ior (M := M_Model_push) d_Model_push_27 ?_
  refine mm_i2l (M := M_Model_push) d_Model_push_28 ?_
  refine mm_iload (M := M_Model_push) d_Model_push_29 rfl ?_
  refine mm_i2l (M := M_Model_push) d_Model_push_31 ?_
  refine mm_bipush (M := M_Model_push) (v := 23) d_Model_push_32 (by decide) ?_
  refine mm_lshl (M := M_Model_push) d_Model_push_34 ?_
  refine mm_lor (M := M_Model_push) d_Model_push_35 ?_
  obtain ⟨hin, h⟩ := h
  refine mm_last (M := M_Model_push) (f := (b 5)) d_Model_push_36 xg_5 hin ?_
  refine mm_eqw xa_5 ?_
  refine mm_aload_n (M := M_Model_push) d_Model_push_37 rfl ?_
  refine mm_getf (M := M_Model_push) (u := .int ((i 16) + (1 : Int32))) 7 16 d_Model_push_38 fl_Model_114 xg_0 rfl ?_
  exact mm_retv (M := M_Model_push) ⟨_, rfl, rfl, d_Model_push_41⟩ ⟨_, _, _, _, _, rfl, rfl, h⟩
def wp_Model_kindOf_0 (i : mm_i) (l : mm_j) (a : mm_a) (b : mm_b) (x1 : Int32) (K : Int32 → mm_i → mm_j → mm_a → mm_b → Prop) : Prop :=
  vp_in x1 7000 ∧ (K ((((b 5) x1.toNatClampNeg).toInt32) &&& (15 : Int32)) i l a b)
set_option maxRecDepth 100000 in
set_option maxHeartbeats 4000000 in
theorem ct_Model_kindOf_0 {i : mm_i} {l : mm_j} {a : mm_a} {b : mm_b} {t : mm_H} {x1 : Int32} {K : Int32 → mm_i → mm_j → mm_a → mm_b → Prop} (h : wp_Model_kindOf_0 i l a b x1 K) : mm_Ct y_Model_kindOf M_Model_kindOf 0 0 0 [.ref 0, .int x1] (Wm i l a b ++ t) (mx_PI t K) := by
  refine mm_Ct.of (by decide) rfl (fun q => absurd q (by decide)) (Nat.le_of_ble_eq_true rfl) ?_
  unfold wp_Model_kindOf_0 at h
  refine mm_eqL (L' := [some (.ref 0), some (.int x1)]) rfl ?_
  refine mm_aload_n (M := M_Model_kindOf) d_Model_kindOf_0 rfl ?_
  refine mm_getf (M := M_Model_kindOf) (u := .ref 5) 7 17 d_Model_kindOf_1 fl_Model_22 xg_0 rfl ?_
  refine mm_iload_n (M := M_Model_kindOf) d_Model_kindOf_4 rfl ?_
  obtain ⟨hin, h⟩ := h
  refine mm_lald (M := M_Model_kindOf) (f := (b 5)) d_Model_kindOf_5 xg_5 hin ?_
  refine mm_l2i (M := M_Model_kindOf) d_Model_kindOf_6 ?_
  refine mm_bipush (M := M_Model_kindOf) (v := 15) d_Model_kindOf_7 (by decide) ?_
  refine mm_iand (M := M_Model_kindOf) d_Model_kindOf_9 ?_
  exact mm_retv (M := M_Model_kindOf) ⟨_, rfl, rfl, d_Model_kindOf_10⟩ ⟨_, _, _, _, _, rfl, rfl, h⟩
def wp_Model_placeOf_0 (i : mm_i) (l : mm_j) (a : mm_a) (b : mm_b) (x1 : Int32) (K : Int32 → mm_i → mm_j → mm_a → mm_b → Prop) : Prop :=
  vp_in x1 7000 ∧ (K (((((b 5) x1.toNatClampNeg) >>> ((4 : Int32).toInt64 &&& 63)).toInt32) &&& (63 : Int32)) i l a b)
set_option maxRecDepth 100000 in
set_option maxHeartbeats 4000000 in
theorem ct_Model_placeOf_0 {i : mm_i} {l : mm_j} {a : mm_a} {b : mm_b} {t : mm_H} {x1 : Int32} {K : Int32 → mm_i → mm_j → mm_a → mm_b → Prop} (h : wp_Model_placeOf_0 i l a b x1 K) : mm_Ct y_Model_placeOf M_Model_placeOf 0 0 0 [.ref 0, .int x1] (Wm i l a b ++ t) (mx_PI t K) := by
  refine mm_Ct.of (by decide) rfl (fun q => absurd q (by decide)) (Nat.le_of_ble_eq_true rfl) ?_
  unfold wp_Model_placeOf_0 at h
  refine mm_eqL (L' := [some (.ref 0), some (.int x1)]) rfl ?_
  refine mm_aload_n (M := M_Model_placeOf) d_Model_placeOf_0 rfl ?_
  refine mm_getf (M := M_Model_placeOf) (u := .ref 5) 7 17 d_Model_placeOf_1 fl_Model_22 xg_0 rfl ?_
  refine mm_iload_n (M := M_Model_placeOf) d_Model_placeOf_4 rfl ?_
  obtain ⟨hin, h⟩ := h
  refine mm_lald (M := M_Model_placeOf) (f := (b 5)) d_Model_placeOf_5 xg_5 hin ?_
  refine mm_iconst (M := M_Model_placeOf) (v := 4) d_Model_placeOf_6 (by decide) ?_
  refine mm_lshr (M := M_Model_placeOf) d_Model_placeOf_7 ?_
  refine mm_l2i (M := M_Model_placeOf) d_Model_placeOf_8 ?_
  refine mm_bipush (M := M_Model_placeOf) (v := 63) d_Model_placeOf_9 (by decide) ?_
  refine mm_iand (M := M_Model_placeOf) d_Model_placeOf_11 ?_
  exact mm_retv (M := M_Model_placeOf) ⟨_, rfl, rfl, d_Model_placeOf_12⟩ ⟨_, _, _, _, _, rfl, rfl, h⟩
def wp_Model_numberOf_0 (i : mm_i) (l : mm_j) (a : mm_a) (b : mm_b) (x1 : Int32) (K : Int32 → mm_i → mm_j → mm_a → mm_b → Prop) : Prop :=
  vp_in x1 7000 ∧ (K (((((b 5) x1.toNatClampNeg) >>> ((10 : Int32).toInt64 &&& 63)).toInt32) &&& (8191 : Int32)) i l a b)
set_option maxRecDepth 100000 in
set_option maxHeartbeats 4000000 in
theorem ct_Model_numberOf_0 {i : mm_i} {l : mm_j} {a : mm_a} {b : mm_b} {t : mm_H} {x1 : Int32} {K : Int32 → mm_i → mm_j → mm_a → mm_b → Prop} (h : wp_Model_numberOf_0 i l a b x1 K) : mm_Ct y_Model_numberOf M_Model_numberOf 0 0 0 [.ref 0, .int x1] (Wm i l a b ++ t) (mx_PI t K) := by
  refine mm_Ct.of (by decide) rfl (fun q => absurd q (by decide)) (Nat.le_of_ble_eq_true rfl) ?_
  unfold wp_Model_numberOf_0 at h
  refine mm_eqL (L' := [some (.ref 0), some (.int x1)]) rfl ?_
  refine mm_aload_n (M := M_Model_numberOf) d_Model_numberOf_0 rfl ?_
  refine mm_getf (M := M_Model_numberOf) (u := .ref 5) 7 17 d_Model_numberOf_1 fl_Model_22 xg_0 rfl ?_
  refine mm_iload_n (M := M_Model_numberOf) d_Model_numberOf_4 rfl ?_
  obtain ⟨hin, h⟩ := h
  refine mm_lald (M := M_Model_numberOf) (f := (b 5)) d_Model_numberOf_5 xg_5 hin ?_
  refine mm_bipush (M := M_Model_numberOf) (v := 10) d_Model_numberOf_6 (by decide) ?_
  refine mm_lshr (M := M_Model_numberOf) d_Model_numberOf_8 ?_
  refine mm_l2i (M := M_Model_numberOf) d_Model_numberOf_9 ?_
  refine mm_sipush (M := M_Model_numberOf) (v := 8191) d_Model_numberOf_10 (by decide) ?_
  refine mm_iand (M := M_Model_numberOf) d_Model_numberOf_13 ?_
  exact mm_retv (M := M_Model_numberOf) ⟨_, rfl, rfl, d_Model_numberOf_14⟩ ⟨_, _, _, _, _, rfl, rfl, h⟩
def wp_Model_parentOf_0 (i : mm_i) (l : mm_j) (a : mm_a) (b : mm_b) (x1 : Int32) (K : Int32 → mm_i → mm_j → mm_a → mm_b → Prop) : Prop :=
  vp_in x1 7000 ∧ (K (((((b 5) x1.toNatClampNeg) >>> ((23 : Int32).toInt64 &&& 63)).toInt32) &&& (8191 : Int32)) i l a b)
set_option maxRecDepth 100000 in
set_option maxHeartbeats 4000000 in
theorem ct_Model_parentOf_0 {i : mm_i} {l : mm_j} {a : mm_a} {b : mm_b} {t : mm_H} {x1 : Int32} {K : Int32 → mm_i → mm_j → mm_a → mm_b → Prop} (h : wp_Model_parentOf_0 i l a b x1 K) : mm_Ct y_Model_parentOf M_Model_parentOf 0 0 0 [.ref 0, .int x1] (Wm i l a b ++ t) (mx_PI t K) := by
  refine mm_Ct.of (by decide) rfl (fun q => absurd q (by decide)) (Nat.le_of_ble_eq_true rfl) ?_
  unfold wp_Model_parentOf_0 at h
  refine mm_eqL (L' := [some (.ref 0), some (.int x1)]) rfl ?_
  refine mm_aload_n (M := M_Model_parentOf) d_Model_parentOf_0 rfl ?_
  refine mm_getf (M := M_Model_parentOf) (u := .ref 5) 7 17 d_Model_parentOf_1 fl_Model_22 xg_0 rfl ?_
  refine mm_iload_n (M := M_Model_parentOf) d_Model_parentOf_4 rfl ?_
  obtain ⟨hin, h⟩ := h
  refine mm_lald (M := M_Model_parentOf) (f := (b 5)) d_Model_parentOf_5 xg_5 hin ?_
  refine mm_bipush (M := M_Model_parentOf) (v := 23) d_Model_parentOf_6 (by decide) ?_
  refine mm_lshr (M := M_Model_parentOf) d_Model_parentOf_8 ?_
  refine mm_l2i (M := M_Model_parentOf) d_Model_parentOf_9 ?_
  refine mm_sipush (M := M_Model_parentOf) (v := 8191) d_Model_parentOf_10 (by decide) ?_
  refine mm_iand (M := M_Model_parentOf) d_Model_parentOf_13 ?_
  exact mm_retv (M := M_Model_parentOf) ⟨_, rfl, rfl, d_Model_parentOf_14⟩ ⟨_, _, _, _, _, rfl, rfl, h⟩
def wp_Model_pushBack_0 (i : mm_i) (l : mm_j) (a : mm_a) (b : mm_b) (x1 : Int32) (x2 : Int32) (x3 : Int32) (K : mm_i → mm_j → mm_a → mm_b → Prop) : Prop :=
  vp_in (i 19) 4000 ∧ (vp_in (i 19) 4000 ∧ (K (upd i 19 ((i 19) + (1 : Int32))) l a (mm_ub (mm_ub b 7 (vp_updL (b 7) (i 19).toNatClampNeg (((((x1 ||| (x2 <<< ((3 : Int32) &&& 31))) ||| ((i 24) <<< ((9 : Int32) &&& 31))).toInt64) ||| ((x3.toInt64) <<< ((15 : Int32).toInt64 &&& 63))) ||| (((i 16).toInt64) <<< ((28 : Int32).toInt64 &&& 63))))) 8 (vp_updL (b 8) (i 19).toNatClampNeg (l 26)))))
set_option maxRecDepth 100000 in
set_option maxHeartbeats 4000000 in
theorem ct_Model_pushBack_0 {i : mm_i} {l : mm_j} {a : mm_a} {b : mm_b} {t : mm_H} {x1 : Int32} {x2 : Int32} {x3 : Int32} {K : mm_i → mm_j → mm_a → mm_b → Prop} (h : wp_Model_pushBack_0 i l a b x1 x2 x3 K) : mm_Ct y_Model_pushBack M_Model_pushBack 0 0 0 [.ref 0, .int x1, .int x2, .int x3] (Wm i l a b ++ t) (mx_PV t K) := by
  refine mm_Ct.of (by decide) rfl (fun q => absurd q (by decide)) (Nat.le_of_ble_eq_true rfl) ?_
  unfold wp_Model_pushBack_0 at h
  refine mm_eqL (L' := [some (.ref 0), some (.int x1), some (.int x2), some (.int x3)]) rfl ?_
  refine mm_aload_n (M := M_Model_pushBack) d_Model_pushBack_0 rfl ?_
  refine mm_getf (M := M_Model_pushBack) (u := .ref 7) 7 20 d_Model_pushBack_1 fl_Model_29 xg_0 rfl ?_
  refine mm_aload_n (M := M_Model_pushBack) d_Model_pushBack_4 rfl ?_
  refine mm_getf (M := M_Model_pushBack) (u := .int (i 19)) 7 19 d_Model_pushBack_5 fl_Model_117 xg_0 rfl ?_
  refine mm_iload_n (M := M_Model_pushBack) d_Model_pushBack_8 rfl ?_
  refine mm_iload_n (M := M_Model_pushBack) d_Model_pushBack_9 rfl ?_
  refine mm_iconst (M := M_Model_pushBack) (v := 3) d_Model_pushBack_10 (by decide) ?_
  refine mm_ishl (M := M_Model_pushBack) d_Model_pushBack_11 ?_
  refine mm_ior (M := M_Model_pushBack) d_Model_pushBack_12 ?_
  refine mm_aload_n (M := M_Model_pushBack) d_Model_pushBack_13 rfl ?_
  refine mm_getf (M := M_Model_pushBack) (u := .int (i 24)) 7 24 d_Model_pushBack_14 fl_Model_120 xg_0 rfl ?_
  refine mm_bipush (M := M_Model_pushBack) (v := 9) d_Model_pushBack_17 (by decide) ?_
  refine mm_ishl (M := M_Model_pushBack) d_Model_pushBack_19 ?_
  refine mm_ior (M := M_Model_pushBack) d_Model_pushBack_20 ?_
  refine mm_i2l (M := M_Model_pushBack) d_Model_pushBack_21 ?_
  refine mm_iload_n (M := M_Model_pushBack) d_Model_pushBack_22 rfl ?_
  refine mm_i2l (M := M_Model_pushBack) d_Model_pushBack_23 ?_
  refine mm_bipush (M := M_Model_pushBack) (v := 15) d_Model_pushBack_24 (by decide) ?_
  refine mm_lshl (M := M_Model_pushBack) d_Model_pushBack_26 ?_
  refine mm_lor (M := M_Model_pushBack) d_Model_pushBack_27 ?_
  refine mm_aload_n (M := M_Model_pushBack) d_Model_pushBack_28 rfl ?_
  refine mm_getf (M := M_Model_pushBack) (u := .int (i 16)) 7 16 d_Model_pushBack_29 fl_Model_114 xg_0 rfl ?_
  refine mm_i2l (M := M_Model_pushBack) d_Model_pushBack_32 ?_
  refine mm_bipush (M := M_Model_pushBack) (v := 28) d_Model_pushBack_33 (by decide) ?_
  refine mm_lshl (M := M_Model_pushBack) d_Model_pushBack_35 ?_
  refine mm_lor (M := M_Model_pushBack) d_Model_pushBack_36 ?_
  obtain ⟨hin, h⟩ := h
  refine mm_last (M := M_Model_pushBack) (f := (b 7)) d_Model_pushBack_37 xg_7 hin ?_
  refine mm_eqw xa_7 ?_
  refine mm_aload_n (M := M_Model_pushBack) d_Model_pushBack_38 rfl ?_
  refine mm_getf (M := M_Model_pushBack) (u := .ref 8) 7 21 d_Model_pushBack_39 fl_Model_32 xg_0 rfl ?_
  refine mm_aload_n (M := M_Model_pushBack) d_Model_pushBack_42 rfl ?_
  refine mm_getf (M := M_Model_pushBack) (u := .int (i 19)) 7 19 d_Model_pushBack_43 fl_Model_117 xg_0 rfl ?_
  refine mm_aload_n (M := M_Model_pushBack) d_Model_pushBack_46 rfl ?_
  refine mm_getf (M := M_Model_pushBack) (u := .long (l 26)) 7 26 d_Model_pushBack_47 fl_Model_123 xg_0 rfl ?_
  obtain ⟨hin, h⟩ := h
  refine mm_last (M := M_Model_pushBack) (f := (b 8)) d_Model_pushBack_50 xg_8 hin ?_
  refine mm_eqw xa_8 ?_
  refine mm_aload_n (M := M_Model_pushBack) d_Model_pushBack_51 rfl ?_
  refine mm_dup (M := M_Model_pushBack) d_Model_pushBack_52 rfl ?_
  refine mm_getf (M := M_Model_pushBack) (u := .int (i 19)) 7 19 d_Model_pushBack_53 fl_Model_117 xg_0 rfl ?_
  refine mm_iconst (M := M_Model_pushBack) (v := 1) d_Model_pushBack_56 (by decide) ?_
  refine mm_iadd (M := M_Model_pushBack) d_Model_pushBack_57 ?_
  refine mm_putf (M := M_Model_pushBack) 7 19 .int d_Model_pushBack_58 fl_Model_117 fp_Model_117 ft_7_19 xg_0 (Nat.le_of_ble_eq_true rfl) trivial ?_
  refine mm_eqw xs_19 ?_
  exact mm_ret (M := M_Model_pushBack) ⟨rfl, d_Model_pushBack_61⟩ ⟨_, _, _, _, rfl, rfl, h⟩
def wp_Model_go_0 (i : mm_i) (l : mm_j) (a : mm_a) (b : mm_b) (x1 : Int32) (x2 : Int32) (x3 : Int32) (K : mm_i → mm_j → mm_a → mm_b → Prop) : Prop :=
  K (upd (upd (upd i 22 x1) 23 x2) 25 x3) l a b
set_option maxRecDepth 100000 in
set_option maxHeartbeats 4000000 in
theorem ct_Model_go_0 {i : mm_i} {l : mm_j} {a : mm_a} {b : mm_b} {t : mm_H} {x1 : Int32} {x2 : Int32} {x3 : Int32} {K : mm_i → mm_j → mm_a → mm_b → Prop} (h : wp_Model_go_0 i l a b x1 x2 x3 K) : mm_Ct y_Model_go M_Model_go 0 0 0 [.ref 0, .int x1, .int x2, .int x3] (Wm i l a b ++ t) (mx_PV t K) := by
  refine mm_Ct.of (by decide) rfl (fun q => absurd q (by decide)) (Nat.le_of_ble_eq_true rfl) ?_
  unfold wp_Model_go_0 at h
  refine mm_eqL (L' := [some (.ref 0), some (.int x1), some (.int x2), some (.int x3)]) rfl ?_
  refine mm_aload_n (M := M_Model_go) d_Model_go_0 rfl ?_
  refine mm_iload_n (M := M_Model_go) d_Model_go_1 rfl ?_
  refine mm_putf (M := M_Model_go) 7 22 .int d_Model_go_2 fl_Model_127 fp_Model_127 ft_7_22 xg_0 (Nat.le_of_ble_eq_true rfl) trivial ?_
  refine mm_eqw xs_22 ?_
  refine mm_aload_n (M := M_Model_go) d_Model_go_5 rfl ?_
  refine mm_iload_n (M := M_Model_go) d_Model_go_6 rfl ?_
  refine mm_putf (M := M_Model_go) 7 23 .int d_Model_go_7 fl_Model_130 fp_Model_130 ft_7_23 xg_0 (Nat.le_of_ble_eq_true rfl) trivial ?_
  refine mm_eqw xs_23 ?_
  refine mm_aload_n (M := M_Model_go) d_Model_go_10 rfl ?_
  refine mm_iload_n (M := M_Model_go) d_Model_go_11 rfl ?_
  refine mm_putf (M := M_Model_go) 7 25 .int d_Model_go_12 fl_Model_133 fp_Model_133 ft_7_25 xg_0 (Nat.le_of_ble_eq_true rfl) trivial ?_
  refine mm_eqw xs_25 ?_
  exact mm_ret (M := M_Model_go) ⟨rfl, d_Model_go_15⟩ ⟨_, _, _, _, rfl, rfl, h⟩
def wq_Model_calls_0_23 (X : mm_i → mm_j → mm_a → mm_b → Int32 → Int32 → Prop) (K : Int32 → mm_i → mm_j → mm_a → mm_b → Prop) (i : mm_i) (l : mm_j) (a : mm_a) (b : mm_b) (z1 : Int32) (z2 : Int32) : Prop :=
  wp_Model_parentOf_0 i l a b z2 (fun r1 i1 l1 a1 b1 => X i1 l1 a1 b1 z1 r1)
set_option maxRecDepth 100000 in
set_option maxHeartbeats 4000000 in
theorem vq_Model_calls_0_23 {k0 : Nat} {t : mm_H} {K : Int32 → mm_i → mm_j → mm_a → mm_b → Prop} {X : mm_i → mm_j → mm_a → mm_b → Int32 → Int32 → Prop} (hX : ∀ {i l a b z1 z2}, X i l a b z1 z2 → mm_V M_Model_calls 1 k0 (mx_PI t K) 0 0 7 [some (.ref 0), some (.int z1), some (.int z2)] [] (Wm i l a b ++ t)) {i : mm_i} {l : mm_j} {a : mm_a} {b : mm_b} {z1 : Int32} {z2 : Int32} (h : wq_Model_calls_0_23 X K i l a b z1 z2) : mm_V M_Model_calls 1 k0 (mx_PI t K) 0 0 23 [some (.ref 0), some (.int z1), some (.int z2)] [] (Wm i l a b ++ t) := by
  unfold wq_Model_calls_0_23 at h
  refine mm_aload_n (M := M_Model_calls) d_Model_calls_23 rfl ?_
  refine mm_iload_n (M := M_Model_calls) d_Model_calls_24 rfl ?_
  refine mm_eqs (st2 := [.int z2].reverse ++ .ref 0 :: []) rfl ?_
  refine mm_callV (M := M_Model_calls) (y := y_Model_parentOf) (M' := M_Model_parentOf) (d' := 0) (kc := 0) (ks := 0) (kc' := 0) (ks' := 0) (n := 1) d_Model_calls_25 ok_Model_parentOf ml_Model_139 (by decide) rfl (Nat.le_of_ble_eq_true rfl) ⟨tw_903, ts_Model_parentOf⟩ xg_0 rfl (ct_Model_parentOf_0 h) (fun v w h => ?_)
  obtain ⟨r1, i1, l1, a1, b1, rfl, rfl, h⟩ := h
  refine mm_eqs (st2 := [.int r1]) rfl ?_
  refine mm_istore_n (M := M_Model_calls) d_Model_calls_28 (Nat.le_of_ble_eq_true rfl) ?_
  refine mm_eqL (L' := [some (.ref 0), some (.int z1), some (.int r1)]) rfl ?_
  refine mm_goto (M := M_Model_calls) (tgt := 7) d_Model_calls_29 (by decide) ?_
  refine mm_drop (L' := [some (.ref 0), some (.int z1), some (.int r1)]) ⟨rfl, ⟨rfl, ⟨rfl, trivial⟩⟩⟩ ?_
  exact hX h
def wt_Model_calls_0 (X : mm_i → mm_j → mm_a → mm_b → Int32 → Int32 → Prop) (K : Int32 → mm_i → mm_j → mm_a → mm_b → Prop) (i : mm_i) (l : mm_j) (a : mm_a) (b : mm_b) (z1 : Int32) (z2 : Int32) : Prop :=
  (z2 ≤ 0 → K z1 i l a b) ∧ (¬ z2 ≤ 0 → wp_Model_kindOf_0 i l a b z2 (fun r1 i1 l1 a1 b1 => (¬ r1 = (3 : Int32) → wq_Model_calls_0_23 X K i1 l1 a1 b1 z1 z2) ∧ (r1 = (3 : Int32) → wq_Model_calls_0_23 X K i1 l1 a1 b1 (z1 + 1) z2)))
def wl_Model_calls_0 (K : Int32 → mm_i → mm_j → mm_a → mm_b → Prop) : Nat → mm_i → mm_j → mm_a → mm_b → Int32 → Int32 → Prop
  | 0 => fun _ _ _ _ _ _ => False
  | n + 1 => fun i l a b z1 z2 => wt_Model_calls_0 (wl_Model_calls_0 K n) K i l a b z1 z2
set_option maxRecDepth 100000 in
set_option maxHeartbeats 4000000 in
theorem vt_Model_calls_0 {k0 : Nat} {t : mm_H} {K : Int32 → mm_i → mm_j → mm_a → mm_b → Prop} {X : mm_i → mm_j → mm_a → mm_b → Int32 → Int32 → Prop} (hX : ∀ {i l a b z1 z2}, X i l a b z1 z2 → mm_V M_Model_calls 1 k0 (mx_PI t K) 0 0 7 [some (.ref 0), some (.int z1), some (.int z2)] [] (Wm i l a b ++ t)) {i : mm_i} {l : mm_j} {a : mm_a} {b : mm_b} {z1 : Int32} {z2 : Int32} (h : wt_Model_calls_0 X K i l a b z1 z2) : mm_V M_Model_calls 1 k0 (mx_PI t K) 0 0 7 [some (.ref 0), some (.int z1), some (.int z2)] [] (Wm i l a b ++ t) := by
  unfold wt_Model_calls_0 at h
  refine mm_iload_n (M := M_Model_calls) d_Model_calls_7 rfl ?_
  refine mm_if_le (M := M_Model_calls) 32 d_Model_calls_8 (by decide) (fun c => ?_) (fun c => ?_)
  · have h := h.1 c
    refine mm_iload_n (M := M_Model_calls) d_Model_calls_32 rfl ?_
    exact mm_retv (M := M_Model_calls) ⟨_, rfl, rfl, d_Model_calls_33⟩ ⟨_, _, _, _, _, rfl, rfl, h⟩
  · have h := h.2 c
    refine mm_aload_n (M := M_Model_calls) d_Model_calls_11 rfl ?_
    refine mm_iload_n (M := M_Model_calls) d_Model_calls_12 rfl ?_
    refine mm_eqs (st2 := [.int z2].reverse ++ .ref 0 :: []) rfl ?_
    refine mm_callV (M := M_Model_calls) (y := y_Model_kindOf) (M' := M_Model_kindOf) (d' := 0) (kc := 0) (ks := 0) (kc' := 0) (ks' := 0) (n := 1) d_Model_calls_13 ok_Model_kindOf ml_Model_136 (by decide) rfl (Nat.le_of_ble_eq_true rfl) ⟨tw_899, ts_Model_kindOf⟩ xg_0 rfl (ct_Model_kindOf_0 h) (fun v w h => ?_)
    obtain ⟨r1, i1, l1, a1, b1, rfl, rfl, h⟩ := h
    refine mm_eqs (st2 := [.int r1]) rfl ?_
    refine mm_iconst (M := M_Model_calls) (v := 3) d_Model_calls_16 (by decide) ?_
    refine mm_icmp_ne (M := M_Model_calls) 23 d_Model_calls_17 (by decide) (fun c => ?_) (fun c => ?_)
    · have h := h.1 c
      refine mm_drop (L' := [some (.ref 0), some (.int z1), some (.int z2)]) ⟨rfl, ⟨rfl, ⟨rfl, trivial⟩⟩⟩ ?_
      exact vq_Model_calls_0_23 hX h
    · have h := h.2 c
      refine mm_iinc (M := M_Model_calls) (v := 1) d_Model_calls_20 rfl (by decide) (Nat.le_of_ble_eq_true rfl) ?_
      refine mm_eqL (L' := [some (.ref 0), some (.int (z1 + 1)), some (.int z2)]) rfl ?_
      refine mm_drop (L' := [some (.ref 0), some (.int (z1 + 1)), some (.int z2)]) ⟨rfl, ⟨rfl, ⟨rfl, trivial⟩⟩⟩ ?_
      exact vq_Model_calls_0_23 hX h
theorem vl_Model_calls_0 {k0 : Nat} {t : mm_H} {K : Int32 → mm_i → mm_j → mm_a → mm_b → Prop} : ∀ (n : Nat) {i : mm_i} {l : mm_j} {a : mm_a} {b : mm_b} {z1 : Int32} {z2 : Int32}, wl_Model_calls_0 K n i l a b z1 z2 → mm_V M_Model_calls 1 k0 (mx_PI t K) 0 0 7 [some (.ref 0), some (.int z1), some (.int z2)] [] (Wm i l a b ++ t)
  | 0, _, _, _, _, _, _, h => h.elim
  | n + 1, _, _, _, _, _, _, h => vt_Model_calls_0 (fun h => vl_Model_calls_0 n h) h
def wp_Model_calls_0 (i : mm_i) (l : mm_j) (a : mm_a) (b : mm_b)  (K : Int32 → mm_i → mm_j → mm_a → mm_b → Prop) : Prop :=
  ∃ n, wl_Model_calls_0 K n i l a b 0 (i 25)
set_option maxRecDepth 100000 in
set_option maxHeartbeats 4000000 in
theorem ct_Model_calls_0 {i : mm_i} {l : mm_j} {a : mm_a} {b : mm_b} {t : mm_H}  {K : Int32 → mm_i → mm_j → mm_a → mm_b → Prop} (h : wp_Model_calls_0 i l a b  K) : mm_Ct y_Model_calls M_Model_calls 1 0 0 [.ref 0] (Wm i l a b ++ t) (mx_PI t K) := by
  refine mm_Ct.of (by decide) rfl (fun q => absurd q (by decide)) (Nat.le_of_ble_eq_true rfl) ?_
  unfold wp_Model_calls_0 at h
  refine mm_eqL (L' := [some (.ref 0), none, none]) rfl ?_
  refine mm_iconst (M := M_Model_calls) (v := 0) d_Model_calls_0 (by decide) ?_
  refine mm_istore_n (M := M_Model_calls) d_Model_calls_1 (Nat.le_of_ble_eq_true rfl) ?_
  refine mm_eqL (L' := [some (.ref 0), some (.int 0), none]) rfl ?_
  refine mm_aload_n (M := M_Model_calls) d_Model_calls_2 rfl ?_
  refine mm_getf (M := M_Model_calls) (u := .int (i 25)) 7 25 d_Model_calls_3 fl_Model_133 xg_0 rfl ?_
  refine mm_istore_n (M := M_Model_calls) d_Model_calls_6 (Nat.le_of_ble_eq_true rfl) ?_
  refine mm_eqL (L' := [some (.ref 0), some (.int 0), some (.int (i 25))]) rfl ?_
  obtain ⟨n, h⟩ := h
  refine mm_drop (L' := [some (.ref 0), some (.int 0), some (.int (i 25))]) ⟨rfl, ⟨rfl, ⟨rfl, trivial⟩⟩⟩ ?_
  exact (vl_Model_calls_0 n) h
def wp_Model_capture_0 (i : mm_i) (l : mm_j) (a : mm_a) (b : mm_b) (x1 : Int64) (x2 : Int32) (x3 : Int32) (K : Int32 → mm_i → mm_j → mm_a → mm_b → Prop) : Prop :=
  (¬ (((x1 >>> (((12 : Int32) * (x2 - (1 : Int32))).toInt64 &&& 63)).toInt32) &&& (4095 : Int32)) = 0 → (x3 = 0 → K (((((x1 >>> (((12 : Int32) * (x2 - (1 : Int32))).toInt64 &&& 63)).toInt32) &&& (4095 : Int32)) >>> ((6 : Int32) &&& 31)) - (1 : Int32)) i l a b) ∧ (¬ x3 = 0 → K (((((x1 >>> (((12 : Int32) * (x2 - (1 : Int32))).toInt64 &&& 63)).toInt32) &&& (4095 : Int32)) &&& (63 : Int32)) - (1 : Int32)) i l a b)) ∧ ((((x1 >>> (((12 : Int32) * (x2 - (1 : Int32))).toInt64 &&& 63)).toInt32) &&& (4095 : Int32)) = 0 → K (-6) i l a b)
set_option maxRecDepth 100000 in
set_option maxHeartbeats 4000000 in
theorem ct_Model_capture_0 {i : mm_i} {l : mm_j} {a : mm_a} {b : mm_b} {t : mm_H} {x1 : Int64} {x2 : Int32} {x3 : Int32} {K : Int32 → mm_i → mm_j → mm_a → mm_b → Prop} (h : wp_Model_capture_0 i l a b x1 x2 x3 K) : mm_Ct y_Model_capture M_Model_capture 0 0 0 [.ref 0, .long x1, .int x2, .int x3] (Wm i l a b ++ t) (mx_PI t K) := by
  refine mm_Ct.of (by decide) rfl (fun q => absurd q (by decide)) (Nat.le_of_ble_eq_true rfl) ?_
  unfold wp_Model_capture_0 at h
  refine mm_eqL (L' := [some (.ref 0), some (.long x1), none, some (.int x2), some (.int x3), none]) rfl ?_
  refine mm_lload_n (M := M_Model_capture) d_Model_capture_0 rfl ?_
  refine mm_bipush (M := M_Model_capture) (v := 12) d_Model_capture_1 (by decide) ?_
  refine mm_iload_n (M := M_Model_capture) d_Model_capture_3 rfl ?_
  refine mm_iconst (M := M_Model_capture) (v := 1) d_Model_capture_4 (by decide) ?_
  refine mm_isub (M := M_Model_capture) d_Model_capture_5 ?_
  refine mm_imul (M := M_Model_capture) d_Model_capture_6 ?_
  refine mm_lshr (M := M_Model_capture) d_Model_capture_7 ?_
  refine mm_l2i (M := M_Model_capture) d_Model_capture_8 ?_
  refine mm_sipush (M := M_Model_capture) (v := 4095) d_Model_capture_9 (by decide) ?_
  refine mm_iand (M := M_Model_capture) d_Model_capture_12 ?_
  refine mm_istore (M := M_Model_capture) d_Model_capture_13 (Nat.le_of_ble_eq_true rfl) ?_
  refine mm_eqL (L' := [some (.ref 0), some (.long x1), none, some (.int x2), some (.int x3), some (.int (((x1 >>> (((12 : Int32) * (x2 - (1 : Int32))).toInt64 &&& 63)).toInt32) &&& (4095 : Int32)))]) rfl ?_
  refine mm_iload (M := M_Model_capture) d_Model_capture_15 rfl ?_
  refine mm_if_ne (M := M_Model_capture) 25 d_Model_capture_17 (by decide) (fun c => ?_) (fun c => ?_)
  · have h := h.1 c
    refine mm_iload (M := M_Model_capture) d_Model_capture_25 rfl ?_
    refine mm_if_eq (M := M_Model_capture) 38 d_Model_capture_27 (by decide) (fun c => ?_) (fun c => ?_)
    · have h := h.1 c
      refine mm_iload (M := M_Model_capture) d_Model_capture_38 rfl ?_
      refine mm_bipush (M := M_Model_capture) (v := 6) d_Model_capture_40 (by decide) ?_
      refine mm_ishr (M := M_Model_capture) d_Model_capture_42 ?_
      refine mm_iconst (M := M_Model_capture) (v := 1) d_Model_capture_43 (by decide) ?_
      refine mm_isub (M := M_Model_capture) d_Model_capture_44 ?_
      exact mm_retv (M := M_Model_capture) ⟨_, rfl, rfl, d_Model_capture_45⟩ ⟨_, _, _, _, _, rfl, rfl, h⟩
    · have h := h.2 c
      refine mm_iload (M := M_Model_capture) d_Model_capture_30 rfl ?_
      refine mm_bipush (M := M_Model_capture) (v := 63) d_Model_capture_32 (by decide) ?_
      refine mm_iand (M := M_Model_capture) d_Model_capture_34 ?_
      refine mm_goto (M := M_Model_capture) (tgt := 43) d_Model_capture_35 (by decide) ?_
      refine mm_iconst (M := M_Model_capture) (v := 1) d_Model_capture_43 (by decide) ?_
      refine mm_isub (M := M_Model_capture) d_Model_capture_44 ?_
      exact mm_retv (M := M_Model_capture) ⟨_, rfl, rfl, d_Model_capture_45⟩ ⟨_, _, _, _, _, rfl, rfl, h⟩
  · have h := h.2 c
    refine mm_bipush (M := M_Model_capture) (v := (-6)) d_Model_capture_20 (by decide) ?_
    refine mm_goto (M := M_Model_capture) (tgt := 45) d_Model_capture_22 (by decide) ?_
    exact mm_retv (M := M_Model_capture) ⟨_, rfl, rfl, d_Model_capture_45⟩ ⟨_, _, _, _, _, rfl, rfl, h⟩
def wq_Model_inClass_0_127 (X : mm_i → mm_j → mm_a → mm_b → Int32 → Int32 → Int32 → Int32 → Prop) (K : Int32 → mm_i → mm_j → mm_a → mm_b → Prop) (i : mm_i) (l : mm_j) (a : mm_a) (b : mm_b) (z2 : Int32) (z3 : Int32) (z4 : Int32) (z5 : Int32) : Prop :=
  X i l a b z2 z3 z4 (z5 + 1)
set_option maxRecDepth 100000 in
set_option maxHeartbeats 4000000 in
theorem vq_Model_inClass_0_127 {k0 : Nat} {t : mm_H} {K : Int32 → mm_i → mm_j → mm_a → mm_b → Prop} {X : mm_i → mm_j → mm_a → mm_b → Int32 → Int32 → Int32 → Int32 → Prop} (hX : ∀ {i l a b z2 z3 z4 z5}, X i l a b z2 z3 z4 z5 → mm_V M_Model_inClass 1 k0 (mx_PI t K) 0 0 36 [some (.ref 0), none, some (.int z2), some (.int z3), some (.int z4), some (.int z5)] [] (Wm i l a b ++ t)) {i : mm_i} {l : mm_j} {a : mm_a} {b : mm_b} {z2 : Int32} {z3 : Int32} {z4 : Int32} {z5 : Int32} (h : wq_Model_inClass_0_127 X K i l a b z2 z3 z4 z5) : mm_V M_Model_inClass 1 k0 (mx_PI t K) 0 0 127 [some (.ref 0), none, some (.int z2), some (.int z3), some (.int z4), some (.int z5)] [] (Wm i l a b ++ t) := by
  unfold wq_Model_inClass_0_127 at h
  refine mm_iinc (M := M_Model_inClass) (v := 1) d_Model_inClass_127 rfl (by decide) (Nat.le_of_ble_eq_true rfl) ?_
  refine mm_eqL (L' := [some (.ref 0), none, some (.int z2), some (.int z3), some (.int z4), some (.int (z5 + 1))]) rfl ?_
  refine mm_goto (M := M_Model_inClass) (tgt := 36) d_Model_inClass_130 (by decide) ?_
  refine mm_drop (L' := [some (.ref 0), none, some (.int z2), some (.int z3), some (.int z4), some (.int (z5 + 1))]) ⟨rfl, ⟨rfl, ⟨rfl, ⟨rfl, ⟨rfl, trivial⟩⟩⟩⟩⟩ ?_
  exact hX h
def wt_Model_inClass_0 (X : mm_i → mm_j → mm_a → mm_b → Int32 → Int32 → Int32 → Int32 → Prop) (K : Int32 → mm_i → mm_j → mm_a → mm_b → Prop) (i : mm_i) (l : mm_j) (a : mm_a) (b : mm_b) (z2 : Int32) (z3 : Int32) (z4 : Int32) (z5 : Int32) : Prop :=
  wp_Model_t_0 i l a b z5 (fun r1 i1 l1 a1 b1 => (r1 = (93 : Int32) → (z4 = z3 → K 0 i1 l1 a1 b1) ∧ (¬ z4 = z3 → K 1 i1 l1 a1 b1)) ∧ (¬ r1 = (93 : Int32) → ((i1 4) ≤ z5 → (z4 = z3 → K 0 i1 l1 a1 b1) ∧ (¬ z4 = z3 → K 1 i1 l1 a1 b1)) ∧ (¬ (i1 4) ≤ z5 → wp_Model_t_0 i1 l1 a1 b1 (z5 + (1 : Int32)) (fun r2 i2 l2 a2 b2 => (¬ r2 = (45 : Int32) → wp_Model_t_0 i2 l2 a2 b2 z5 (fun r3 i3 l3 a3 b3 => (¬ z2 = r3 → wq_Model_inClass_0_127 X K i3 l3 a3 b3 z2 z3 (z4 ||| (0 : Int32)) z5) ∧ (z2 = r3 → wq_Model_inClass_0_127 X K i3 l3 a3 b3 z2 z3 (z4 ||| (1 : Int32)) z5))) ∧ (r2 = (45 : Int32) → wp_Model_t_0 i2 l2 a2 b2 z5 (fun r4 i4 l4 a4 b4 => (z2 < r4 → wq_Model_inClass_0_127 X K i4 l4 a4 b4 z2 z3 (z4 ||| (0 : Int32)) (z5 + 2)) ∧ (¬ z2 < r4 → wp_Model_t_0 i4 l4 a4 b4 (z5 + (2 : Int32)) (fun r5 i5 l5 a5 b5 => (r5 < z2 → wq_Model_inClass_0_127 X K i5 l5 a5 b5 z2 z3 (z4 ||| (0 : Int32)) (z5 + 2)) ∧ (¬ r5 < z2 → wq_Model_inClass_0_127 X K i5 l5 a5 b5 z2 z3 (z4 ||| (1 : Int32)) (z5 + 2))))))))))
def wl_Model_inClass_0 (K : Int32 → mm_i → mm_j → mm_a → mm_b → Prop) : Nat → mm_i → mm_j → mm_a → mm_b → Int32 → Int32 → Int32 → Int32 → Prop
  | 0 => fun _ _ _ _ _ _ _ _ => False
  | n + 1 => fun i l a b z2 z3 z4 z5 => wt_Model_inClass_0 (wl_Model_inClass_0 K n) K i l a b z2 z3 z4 z5
set_option maxRecDepth 100000 in
set_option maxHeartbeats 4000000 in
theorem vt_Model_inClass_0 {k0 : Nat} {t : mm_H} {K : Int32 → mm_i → mm_j → mm_a → mm_b → Prop} {X : mm_i → mm_j → mm_a → mm_b → Int32 → Int32 → Int32 → Int32 → Prop} (hX : ∀ {i l a b z2 z3 z4 z5}, X i l a b z2 z3 z4 z5 → mm_V M_Model_inClass 1 k0 (mx_PI t K) 0 0 36 [some (.ref 0), none, some (.int z2), some (.int z3), some (.int z4), some (.int z5)] [] (Wm i l a b ++ t)) {i : mm_i} {l : mm_j} {a : mm_a} {b : mm_b} {z2 : Int32} {z3 : Int32} {z4 : Int32} {z5 : Int32} (h : wt_Model_inClass_0 X K i l a b z2 z3 z4 z5) : mm_V M_Model_inClass 1 k0 (mx_PI t K) 0 0 36 [some (.ref 0), none, some (.int z2), some (.int z3), some (.int z4), some (.int z5)] [] (Wm i l a b ++ t) := by
  unfold wt_Model_inClass_0 at h
  refine mm_aload_n (M := M_Model_inClass) d_Model_inClass_36 rfl ?_
  refine mm_iload (M := M_Model_inClass) d_Model_inClass_37 rfl ?_
  refine mm_eqs (st2 := [.int z5].reverse ++ .ref 0 :: []) rfl ?_
  refine mm_callV (M := M_Model_inClass) (y := y_Model_t) (M' := M_Model_t) (d' := 0) (kc := 0) (ks := 0) (kc' := 0) (ks' := 0) (n := 1) d_Model_inClass_39 ok_Model_t ml_Model_102 (by decide) rfl (Nat.le_of_ble_eq_true rfl) ⟨tw_855, ts_Model_t⟩ xg_0 rfl (ct_Model_t_0 h) (fun v w h => ?_)
  obtain ⟨r1, i1, l1, a1, b1, rfl, rfl, h⟩ := h
  refine mm_eqs (st2 := [.int r1]) rfl ?_
  refine mm_bipush (M := M_Model_inClass) (v := 93) d_Model_inClass_42 (by decide) ?_
  refine mm_icmp_eq (M := M_Model_inClass) 133 d_Model_inClass_44 (by decide) (fun c => ?_) (fun c => ?_)
  · have h := h.1 c
    refine mm_iload (M := M_Model_inClass) d_Model_inClass_133 rfl ?_
    refine mm_iload_n (M := M_Model_inClass) d_Model_inClass_135 rfl ?_
    refine mm_icmp_eq (M := M_Model_inClass) 143 d_Model_inClass_136 (by decide) (fun c => ?_) (fun c => ?_)
    · have h := h.1 c
      refine mm_iconst (M := M_Model_inClass) (v := 0) d_Model_inClass_143 (by decide) ?_
      exact mm_retv (M := M_Model_inClass) ⟨_, rfl, (by decide), d_Model_inClass_144⟩ ⟨_, _, _, _, _, rfl, rfl, h⟩
    · have h := h.2 c
      refine mm_iconst (M := M_Model_inClass) (v := 1) d_Model_inClass_139 (by decide) ?_
      refine mm_goto (M := M_Model_inClass) (tgt := 144) d_Model_inClass_140 (by decide) ?_
      exact mm_retv (M := M_Model_inClass) ⟨_, rfl, (by decide), d_Model_inClass_144⟩ ⟨_, _, _, _, _, rfl, rfl, h⟩
  · have h := h.2 c
    refine mm_iload (M := M_Model_inClass) d_Model_inClass_47 rfl ?_
    refine mm_aload_n (M := M_Model_inClass) d_Model_inClass_49 rfl ?_
    refine mm_getf (M := M_Model_inClass) (u := .int (i1 4)) 7 4 d_Model_inClass_50 fl_Model_87 xg_0 rfl ?_
    refine mm_icmp_ge (M := M_Model_inClass) 133 d_Model_inClass_53 (by decide) (fun c => ?_) (fun c => ?_)
    · have h := h.1 c
      refine mm_iload (M := M_Model_inClass) d_Model_inClass_133 rfl ?_
      refine mm_iload_n (M := M_Model_inClass) d_Model_inClass_135 rfl ?_
      refine mm_icmp_eq (M := M_Model_inClass) 143 d_Model_inClass_136 (by decide) (fun c => ?_) (fun c => ?_)
      · have h := h.1 c
        refine mm_iconst (M := M_Model_inClass) (v := 0) d_Model_inClass_143 (by decide) ?_
        exact mm_retv (M := M_Model_inClass) ⟨_, rfl, (by decide), d_Model_inClass_144⟩ ⟨_, _, _, _, _, rfl, rfl, h⟩
      · have h := h.2 c
        refine mm_iconst (M := M_Model_inClass) (v := 1) d_Model_inClass_139 (by decide) ?_
        refine mm_goto (M := M_Model_inClass) (tgt := 144) d_Model_inClass_140 (by decide) ?_
        exact mm_retv (M := M_Model_inClass) ⟨_, rfl, (by decide), d_Model_inClass_144⟩ ⟨_, _, _, _, _, rfl, rfl, h⟩
    · have h := h.2 c
      refine mm_aload_n (M := M_Model_inClass) d_Model_inClass_56 rfl ?_
      refine mm_iload (M := M_Model_inClass) d_Model_inClass_57 rfl ?_
      refine mm_iconst (M := M_Model_inClass) (v := 1) d_Model_inClass_59 (by decide) ?_
      refine mm_iadd (M := M_Model_inClass) d_Model_inClass_60 ?_
      refine mm_eqs (st2 := [.int (z5 + (1 : Int32))].reverse ++ .ref 0 :: []) rfl ?_
      refine mm_callV (M := M_Model_inClass) (y := y_Model_t) (M' := M_Model_t) (d' := 0) (kc := 0) (ks := 0) (kc' := 0) (ks' := 0) (n := 1) d_Model_inClass_61 ok_Model_t ml_Model_102 (by decide) rfl (Nat.le_of_ble_eq_true rfl) ⟨tw_855, ts_Model_t⟩ xg_0 rfl (ct_Model_t_0 h) (fun v w h => ?_)
      obtain ⟨r2, i2, l2, a2, b2, rfl, rfl, h⟩ := h
      refine mm_eqs (st2 := [.int r2]) rfl ?_
      refine mm_bipush (M := M_Model_inClass) (v := 45) d_Model_inClass_64 (by decide) ?_
      refine mm_icmp_ne (M := M_Model_inClass) 107 d_Model_inClass_66 (by decide) (fun c => ?_) (fun c => ?_)
      · have h := h.1 c
        refine mm_iload (M := M_Model_inClass) d_Model_inClass_107 rfl ?_
        refine mm_iload_n (M := M_Model_inClass) d_Model_inClass_109 rfl ?_
        refine mm_aload_n (M := M_Model_inClass) d_Model_inClass_110 rfl ?_
        refine mm_iload (M := M_Model_inClass) d_Model_inClass_111 rfl ?_
        refine mm_eqs (st2 := [.int z5].reverse ++ .ref 0 :: [.int z2, .int z4]) rfl ?_
        refine mm_callV (M := M_Model_inClass) (y := y_Model_t) (M' := M_Model_t) (d' := 0) (kc := 0) (ks := 0) (kc' := 0) (ks' := 0) (n := 1) d_Model_inClass_113 ok_Model_t ml_Model_102 (by decide) rfl (Nat.le_of_ble_eq_true rfl) ⟨tw_855, ts_Model_t⟩ xg_0 rfl (ct_Model_t_0 h) (fun v w h => ?_)
        obtain ⟨r3, i3, l3, a3, b3, rfl, rfl, h⟩ := h
        refine mm_eqs (st2 := [.int r3, .int z2, .int z4]) rfl ?_
        refine mm_icmp_ne (M := M_Model_inClass) 123 d_Model_inClass_116 (by decide) (fun c => ?_) (fun c => ?_)
        · have h := h.1 c
          refine mm_iconst (M := M_Model_inClass) (v := 0) d_Model_inClass_123 (by decide) ?_
          refine mm_ior (M := M_Model_inClass) d_Model_inClass_124 ?_
          refine mm_istore (M := M_Model_inClass) d_Model_inClass_125 (Nat.le_of_ble_eq_true rfl) ?_
          refine mm_eqL (L' := [some (.ref 0), none, some (.int z2), some (.int z3), some (.int (z4 ||| (0 : Int32))), some (.int z5)]) rfl ?_
          refine mm_drop (L' := [some (.ref 0), none, some (.int z2), some (.int z3), some (.int (z4 ||| (0 : Int32))), some (.int z5)]) ⟨rfl, ⟨rfl, ⟨rfl, ⟨rfl, ⟨rfl, trivial⟩⟩⟩⟩⟩ ?_
          exact vq_Model_inClass_0_127 hX h
        · have h := h.2 c
          refine mm_iconst (M := M_Model_inClass) (v := 1) d_Model_inClass_119 (by decide) ?_
          refine mm_goto (M := M_Model_inClass) (tgt := 124) d_Model_inClass_120 (by decide) ?_
          refine mm_ior (M := M_Model_inClass) d_Model_inClass_124 ?_
          refine mm_istore (M := M_Model_inClass) d_Model_inClass_125 (Nat.le_of_ble_eq_true rfl) ?_
          refine mm_eqL (L' := [some (.ref 0), none, some (.int z2), some (.int z3), some (.int (z4 ||| (1 : Int32))), some (.int z5)]) rfl ?_
          refine mm_drop (L' := [some (.ref 0), none, some (.int z2), some (.int z3), some (.int (z4 ||| (1 : Int32))), some (.int z5)]) ⟨rfl, ⟨rfl, ⟨rfl, ⟨rfl, ⟨rfl, trivial⟩⟩⟩⟩⟩ ?_
          exact vq_Model_inClass_0_127 hX h
      · have h := h.2 c
        refine mm_iload (M := M_Model_inClass) d_Model_inClass_69 rfl ?_
        refine mm_iload_n (M := M_Model_inClass) d_Model_inClass_71 rfl ?_
        refine mm_aload_n (M := M_Model_inClass) d_Model_inClass_72 rfl ?_
        refine mm_iload (M := M_Model_inClass) d_Model_inClass_73 rfl ?_
        refine mm_eqs (st2 := [.int z5].reverse ++ .ref 0 :: [.int z2, .int z4]) rfl ?_
        refine mm_callV (M := M_Model_inClass) (y := y_Model_t) (M' := M_Model_t) (d' := 0) (kc := 0) (ks := 0) (kc' := 0) (ks' := 0) (n := 1) d_Model_inClass_75 ok_Model_t ml_Model_102 (by decide) rfl (Nat.le_of_ble_eq_true rfl) ⟨tw_855, ts_Model_t⟩ xg_0 rfl (ct_Model_t_0 h) (fun v w h => ?_)
        obtain ⟨r4, i4, l4, a4, b4, rfl, rfl, h⟩ := h
        refine mm_eqs (st2 := [.int r4, .int z2, .int z4]) rfl ?_
        refine mm_icmp_lt (M := M_Model_inClass) 97 d_Model_inClass_78 (by decide) (fun c => ?_) (fun c => ?_)
        · have h := h.1 c
          refine mm_iconst (M := M_Model_inClass) (v := 0) d_Model_inClass_97 (by decide) ?_
          refine mm_ior (M := M_Model_inClass) d_Model_inClass_98 ?_
          refine mm_istore (M := M_Model_inClass) d_Model_inClass_99 (Nat.le_of_ble_eq_true rfl) ?_
          refine mm_eqL (L' := [some (.ref 0), none, some (.int z2), some (.int z3), some (.int (z4 ||| (0 : Int32))), some (.int z5)]) rfl ?_
          refine mm_iinc (M := M_Model_inClass) (v := 2) d_Model_inClass_101 rfl (by decide) (Nat.le_of_ble_eq_true rfl) ?_
          refine mm_eqL (L' := [some (.ref 0), none, some (.int z2), some (.int z3), some (.int (z4 ||| (0 : Int32))), some (.int (z5 + 2))]) rfl ?_
          refine mm_goto (M := M_Model_inClass) (tgt := 127) d_Model_inClass_104 (by decide) ?_
          refine mm_drop (L' := [some (.ref 0), none, some (.int z2), some (.int z3), some (.int (z4 ||| (0 : Int32))), some (.int (z5 + 2))]) ⟨rfl, ⟨rfl, ⟨rfl, ⟨rfl, ⟨rfl, trivial⟩⟩⟩⟩⟩ ?_
          exact vq_Model_inClass_0_127 hX h
        · have h := h.2 c
          refine mm_iload_n (M := M_Model_inClass) d_Model_inClass_81 rfl ?_
          refine mm_aload_n (M := M_Model_inClass) d_Model_inClass_82 rfl ?_
          refine mm_iload (M := M_Model_inClass) d_Model_inClass_83 rfl ?_
          refine mm_iconst (M := M_Model_inClass) (v := 2) d_Model_inClass_85 (by decide) ?_
          refine mm_iadd (M := M_Model_inClass) d_Model_inClass_86 ?_
          refine mm_eqs (st2 := [.int (z5 + (2 : Int32))].reverse ++ .ref 0 :: [.int z2, .int z4]) rfl ?_
          refine mm_callV (M := M_Model_inClass) (y := y_Model_t) (M' := M_Model_t) (d' := 0) (kc := 0) (ks := 0) (kc' := 0) (ks' := 0) (n := 1) d_Model_inClass_87 ok_Model_t ml_Model_102 (by decide) rfl (Nat.le_of_ble_eq_true rfl) ⟨tw_855, ts_Model_t⟩ xg_0 rfl (ct_Model_t_0 h) (fun v w h => ?_)
          obtain ⟨r5, i5, l5, a5, b5, rfl, rfl, h⟩ := h
          refine mm_eqs (st2 := [.int r5, .int z2, .int z4]) rfl ?_
          refine mm_icmp_gt (M := M_Model_inClass) 97 d_Model_inClass_90 (by decide) (fun c => ?_) (fun c => ?_)
          · have h := h.1 c
            refine mm_iconst (M := M_Model_inClass) (v := 0) d_Model_inClass_97 (by decide) ?_
            refine mm_ior (M := M_Model_inClass) d_Model_inClass_98 ?_
            refine mm_istore (M := M_Model_inClass) d_Model_inClass_99 (Nat.le_of_ble_eq_true rfl) ?_
            refine mm_eqL (L' := [some (.ref 0), none, some (.int z2), some (.int z3), some (.int (z4 ||| (0 : Int32))), some (.int z5)]) rfl ?_
            refine mm_iinc (M := M_Model_inClass) (v := 2) d_Model_inClass_101 rfl (by decide) (Nat.le_of_ble_eq_true rfl) ?_
            refine mm_eqL (L' := [some (.ref 0), none, some (.int z2), some (.int z3), some (.int (z4 ||| (0 : Int32))), some (.int (z5 + 2))]) rfl ?_
            refine mm_goto (M := M_Model_inClass) (tgt := 127) d_Model_inClass_104 (by decide) ?_
            refine mm_drop (L' := [some (.ref 0), none, some (.int z2), some (.int z3), some (.int (z4 ||| (0 : Int32))), some (.int (z5 + 2))]) ⟨rfl, ⟨rfl, ⟨rfl, ⟨rfl, ⟨rfl, trivial⟩⟩⟩⟩⟩ ?_
            exact vq_Model_inClass_0_127 hX h
          · have h := h.2 c
            refine mm_iconst (M := M_Model_inClass) (v := 1) d_Model_inClass_93 (by decide) ?_
            refine mm_goto (M := M_Model_inClass) (tgt := 98) d_Model_inClass_94 (by decide) ?_
            refine mm_ior (M := M_Model_inClass) d_Model_inClass_98 ?_
            refine mm_istore (M := M_Model_inClass) d_Model_inClass_99 (Nat.le_of_ble_eq_true rfl) ?_
            refine mm_eqL (L' := [some (.ref 0), none, some (.int z2), some (.int z3), some (.int (z4 ||| (1 : Int32))), some (.int z5)]) rfl ?_
            refine mm_iinc (M := M_Model_inClass) (v := 2) d_Model_inClass_101 rfl (by decide) (Nat.le_of_ble_eq_true rfl) ?_
            refine mm_eqL (L' := [some (.ref 0), none, some (.int z2), some (.int z3), some (.int (z4 ||| (1 : Int32))), some (.int (z5 + 2))]) rfl ?_
            refine mm_goto (M := M_Model_inClass) (tgt := 127) d_Model_inClass_104 (by decide) ?_
            refine mm_drop (L' := [some (.ref 0), none, some (.int z2), some (.int z3), some (.int (z4 ||| (1 : Int32))), some (.int (z5 + 2))]) ⟨rfl, ⟨rfl, ⟨rfl, ⟨rfl, ⟨rfl, trivial⟩⟩⟩⟩⟩ ?_
            exact vq_Model_inClass_0_127 hX h
theorem vl_Model_inClass_0 {k0 : Nat} {t : mm_H} {K : Int32 → mm_i → mm_j → mm_a → mm_b → Prop} : ∀ (n : Nat) {i : mm_i} {l : mm_j} {a : mm_a} {b : mm_b} {z2 : Int32} {z3 : Int32} {z4 : Int32} {z5 : Int32}, wl_Model_inClass_0 K n i l a b z2 z3 z4 z5 → mm_V M_Model_inClass 1 k0 (mx_PI t K) 0 0 36 [some (.ref 0), none, some (.int z2), some (.int z3), some (.int z4), some (.int z5)] [] (Wm i l a b ++ t)
  | 0, _, _, _, _, _, _, _, _, h => h.elim
  | n + 1, _, _, _, _, _, _, _, _, h => vt_Model_inClass_0 (fun h => vl_Model_inClass_0 n h) h
def wp_Model_inClass_0 (i : mm_i) (l : mm_j) (a : mm_a) (b : mm_b) (x1 : Int32) (x2 : Int32) (K : Int32 → mm_i → mm_j → mm_a → mm_b → Prop) : Prop :=
  wp_Model_t_0 i l a b (x1 + (1 : Int32)) (fun r1 i1 l1 a1 b1 => (¬ r1 = (94 : Int32) → ∃ n, wl_Model_inClass_0 K n i1 l1 a1 b1 x2 0 0 (x1 + (1 : Int32))) ∧ (r1 = (94 : Int32) → ∃ n, wl_Model_inClass_0 K n i1 l1 a1 b1 x2 1 0 (x1 + (2 : Int32))))
set_option maxRecDepth 100000 in
set_option maxHeartbeats 4000000 in
theorem ct_Model_inClass_0 {i : mm_i} {l : mm_j} {a : mm_a} {b : mm_b} {t : mm_H} {x1 : Int32} {x2 : Int32} {K : Int32 → mm_i → mm_j → mm_a → mm_b → Prop} (h : wp_Model_inClass_0 i l a b x1 x2 K) : mm_Ct y_Model_inClass M_Model_inClass 1 0 0 [.ref 0, .int x1, .int x2] (Wm i l a b ++ t) (mx_PI t K) := by
  refine mm_Ct.of (by decide) rfl (fun q => absurd q (by decide)) (Nat.le_of_ble_eq_true rfl) ?_
  unfold wp_Model_inClass_0 at h
  refine mm_eqL (L' := [some (.ref 0), some (.int x1), some (.int x2), none, none, none]) rfl ?_
  refine mm_aload_n (M := M_Model_inClass) d_Model_inClass_0 rfl ?_
  refine mm_iload_n (M := M_Model_inClass) d_Model_inClass_1 rfl ?_
  refine mm_iconst (M := M_Model_inClass) (v := 1) d_Model_inClass_2 (by decide) ?_
  refine mm_iadd (M := M_Model_inClass) d_Model_inClass_3 ?_
  refine mm_eqs (st2 := [.int (x1 + (1 : Int32))].reverse ++ .ref 0 :: []) rfl ?_
  refine mm_callV (M := M_Model_inClass) (y := y_Model_t) (M' := M_Model_t) (d' := 0) (kc := 0) (ks := 0) (kc' := 0) (ks' := 0) (n := 1) d_Model_inClass_4 ok_Model_t ml_Model_102 (by decide) rfl (Nat.le_of_ble_eq_true rfl) ⟨tw_855, ts_Model_t⟩ xg_0 rfl (ct_Model_t_0 h) (fun v w h => ?_)
  obtain ⟨r1, i1, l1, a1, b1, rfl, rfl, h⟩ := h
  refine mm_eqs (st2 := [.int r1]) rfl ?_
  refine mm_bipush (M := M_Model_inClass) (v := 94) d_Model_inClass_7 (by decide) ?_
  refine mm_icmp_ne (M := M_Model_inClass) 16 d_Model_inClass_9 (by decide) (fun c => ?_) (fun c => ?_)
  · have h := h.1 c
    refine mm_iconst (M := M_Model_inClass) (v := 0) d_Model_inClass_16 (by decide) ?_
    refine mm_istore_n (M := M_Model_inClass) d_Model_inClass_17 (Nat.le_of_ble_eq_true rfl) ?_
    refine mm_eqL (L' := [some (.ref 0), some (.int x1), some (.int x2), some (.int 0), none, none]) rfl ?_
    refine mm_iconst (M := M_Model_inClass) (v := 0) d_Model_inClass_18 (by decide) ?_
    refine mm_istore (M := M_Model_inClass) d_Model_inClass_19 (Nat.le_of_ble_eq_true rfl) ?_
    refine mm_eqL (L' := [some (.ref 0), some (.int x1), some (.int x2), some (.int 0), some (.int 0), none]) rfl ?_
    refine mm_iload_n (M := M_Model_inClass) d_Model_inClass_21 rfl ?_
    refine mm_if_eq (M := M_Model_inClass) 31 d_Model_inClass_22 (by decide) (fun c => ?_) (fun c => absurd c (by decide))
    refine mm_iload_n (M := M_Model_inClass) d_Model_inClass_31 rfl ?_
    refine mm_iconst (M := M_Model_inClass) (v := 1) d_Model_inClass_32 (by decide) ?_
    refine mm_iadd (M := M_Model_inClass) d_Model_inClass_33 ?_
    refine mm_istore (M := M_Model_inClass) d_Model_inClass_34 (Nat.le_of_ble_eq_true rfl) ?_
    refine mm_eqL (L' := [some (.ref 0), some (.int x1), some (.int x2), some (.int 0), some (.int 0), some (.int (x1 + (1 : Int32)))]) rfl ?_
    obtain ⟨n, h⟩ := h
    refine mm_drop (L' := [some (.ref 0), none, some (.int x2), some (.int 0), some (.int 0), some (.int (x1 + (1 : Int32)))]) ⟨rfl, ⟨rfl, ⟨rfl, ⟨rfl, ⟨rfl, trivial⟩⟩⟩⟩⟩ ?_
    exact (vl_Model_inClass_0 n) h
  · have h := h.2 c
    refine mm_iconst (M := M_Model_inClass) (v := 1) d_Model_inClass_12 (by decide) ?_
    refine mm_goto (M := M_Model_inClass) (tgt := 17) d_Model_inClass_13 (by decide) ?_
    refine mm_istore_n (M := M_Model_inClass) d_Model_inClass_17 (Nat.le_of_ble_eq_true rfl) ?_
    refine mm_eqL (L' := [some (.ref 0), some (.int x1), some (.int x2), some (.int 1), none, none]) rfl ?_
    refine mm_iconst (M := M_Model_inClass) (v := 0) d_Model_inClass_18 (by decide) ?_
    refine mm_istore (M := M_Model_inClass) d_Model_inClass_19 (Nat.le_of_ble_eq_true rfl) ?_
    refine mm_eqL (L' := [some (.ref 0), some (.int x1), some (.int x2), some (.int 1), some (.int 0), none]) rfl ?_
    refine mm_iload_n (M := M_Model_inClass) d_Model_inClass_21 rfl ?_
    refine mm_if_eq (M := M_Model_inClass) 31 d_Model_inClass_22 (by decide) (fun c => absurd c (by decide)) (fun c => ?_)
    refine mm_iload_n (M := M_Model_inClass) d_Model_inClass_25 rfl ?_
    refine mm_iconst (M := M_Model_inClass) (v := 2) d_Model_inClass_26 (by decide) ?_
    refine mm_iadd (M := M_Model_inClass) d_Model_inClass_27 ?_
    refine mm_goto (M := M_Model_inClass) (tgt := 34) d_Model_inClass_28 (by decide) ?_
    refine mm_istore (M := M_Model_inClass) d_Model_inClass_34 (Nat.le_of_ble_eq_true rfl) ?_
    refine mm_eqL (L' := [some (.ref 0), some (.int x1), some (.int x2), some (.int 1), some (.int 0), some (.int (x1 + (2 : Int32)))]) rfl ?_
    obtain ⟨n, h⟩ := h
    refine mm_drop (L' := [some (.ref 0), none, some (.int x2), some (.int 1), some (.int 0), some (.int (x1 + (2 : Int32)))]) ⟨rfl, ⟨rfl, ⟨rfl, ⟨rfl, ⟨rfl, trivial⟩⟩⟩⟩⟩ ?_
    exact (vl_Model_inClass_0 n) h
def wt_Model_repeats_0 (X : mm_i → mm_j → mm_a → mm_b → Int32 → Int32 → Int32 → Prop) (K : Int32 → mm_i → mm_j → mm_a → mm_b → Prop) (i : mm_i) (l : mm_j) (a : mm_a) (b : mm_b) (z2 : Int32) (z3 : Int32) (z4 : Int32) : Prop :=
  (z3 ≤ z4 → K 1 (upd i 24 ((i 24) + z3)) l a b) ∧ (¬ z3 ≤ z4 → vp_in (z2 + z4) 40 ∧ (vp_in ((i 24) + z4) 40 ∧ ((((a 3) (z2 + z4).toNatClampNeg) = ((a 3) ((i 24) + z4).toNatClampNeg) → X i l a b z2 z3 (z4 + 1)) ∧ (¬ ((a 3) (z2 + z4).toNatClampNeg) = ((a 3) ((i 24) + z4).toNatClampNeg) → K 0 i l a b))))
def wl_Model_repeats_0 (K : Int32 → mm_i → mm_j → mm_a → mm_b → Prop) : Nat → mm_i → mm_j → mm_a → mm_b → Int32 → Int32 → Int32 → Prop
  | 0 => fun _ _ _ _ _ _ _ => False
  | n + 1 => fun i l a b z2 z3 z4 => wt_Model_repeats_0 (wl_Model_repeats_0 K n) K i l a b z2 z3 z4
set_option maxRecDepth 100000 in
set_option maxHeartbeats 4000000 in
theorem vt_Model_repeats_0 {k0 : Nat} {t : mm_H} {K : Int32 → mm_i → mm_j → mm_a → mm_b → Prop} {X : mm_i → mm_j → mm_a → mm_b → Int32 → Int32 → Int32 → Prop} (hX : ∀ {i l a b z2 z3 z4}, X i l a b z2 z3 z4 → mm_V M_Model_repeats 1 k0 (mx_PI t K) 0 0 48 [some (.ref 0), none, some (.int z2), some (.int z3), some (.int z4)] [] (Wm i l a b ++ t)) {i : mm_i} {l : mm_j} {a : mm_a} {b : mm_b} {z2 : Int32} {z3 : Int32} {z4 : Int32} (h : wt_Model_repeats_0 X K i l a b z2 z3 z4) : mm_V M_Model_repeats 1 k0 (mx_PI t K) 0 0 48 [some (.ref 0), none, some (.int z2), some (.int z3), some (.int z4)] [] (Wm i l a b ++ t) := by
  unfold wt_Model_repeats_0 at h
  refine mm_iload (M := M_Model_repeats) d_Model_repeats_48 rfl ?_
  refine mm_iload_n (M := M_Model_repeats) d_Model_repeats_50 rfl ?_
  refine mm_icmp_ge (M := M_Model_repeats) 86 d_Model_repeats_51 (by decide) (fun c => ?_) (fun c => ?_)
  · have h := h.1 c
    refine mm_aload_n (M := M_Model_repeats) d_Model_repeats_86 rfl ?_
    refine mm_dup (M := M_Model_repeats) d_Model_repeats_87 rfl ?_
    refine mm_getf (M := M_Model_repeats) (u := .int (i 24)) 7 24 d_Model_repeats_88 fl_Model_120 xg_0 rfl ?_
    refine mm_iload_n (M := M_Model_repeats) d_Model_repeats_91 rfl ?_
    refine mm_iadd (M := M_Model_repeats) d_Model_repeats_92 ?_
    refine mm_putf (M := M_Model_repeats) 7 24 .int d_Model_repeats_93 fl_Model_120 fp_Model_120 ft_7_24 xg_0 (Nat.le_of_ble_eq_true rfl) trivial ?_
    refine mm_eqw xs_24 ?_
    refine mm_iconst (M := M_Model_repeats) (v := 1) d_Model_repeats_96 (by decide) ?_
    exact mm_retv (M := M_Model_repeats) ⟨_, rfl, (by decide), d_Model_repeats_97⟩ ⟨_, _, _, _, _, rfl, rfl, h⟩
  · have h := h.2 c
    refine mm_aload_n (M := M_Model_repeats) d_Model_repeats_54 rfl ?_
    refine mm_getf (M := M_Model_repeats) (u := .ref 3) 7 9 d_Model_repeats_55 fl_Model_16 xg_0 rfl ?_
    refine mm_iload_n (M := M_Model_repeats) d_Model_repeats_58 rfl ?_
    refine mm_iload (M := M_Model_repeats) d_Model_repeats_59 rfl ?_
    refine mm_iadd (M := M_Model_repeats) d_Model_repeats_61 ?_
    obtain ⟨hin, h⟩ := h
    refine mm_iald (M := M_Model_repeats) (f := (a 3)) d_Model_repeats_62 xg_3 hin ?_
    refine mm_aload_n (M := M_Model_repeats) d_Model_repeats_63 rfl ?_
    refine mm_getf (M := M_Model_repeats) (u := .ref 3) 7 9 d_Model_repeats_64 fl_Model_16 xg_0 rfl ?_
    refine mm_aload_n (M := M_Model_repeats) d_Model_repeats_67 rfl ?_
    refine mm_getf (M := M_Model_repeats) (u := .int (i 24)) 7 24 d_Model_repeats_68 fl_Model_120 xg_0 rfl ?_
    refine mm_iload (M := M_Model_repeats) d_Model_repeats_71 rfl ?_
    refine mm_iadd (M := M_Model_repeats) d_Model_repeats_73 ?_
    obtain ⟨hin, h⟩ := h
    refine mm_iald (M := M_Model_repeats) (f := (a 3)) d_Model_repeats_74 xg_3 hin ?_
    refine mm_icmp_eq (M := M_Model_repeats) 80 d_Model_repeats_75 (by decide) (fun c => ?_) (fun c => ?_)
    · have h := h.1 c
      refine mm_iinc (M := M_Model_repeats) (v := 1) d_Model_repeats_80 rfl (by decide) (Nat.le_of_ble_eq_true rfl) ?_
      refine mm_eqL (L' := [some (.ref 0), none, some (.int z2), some (.int z3), some (.int (z4 + 1))]) rfl ?_
      refine mm_goto (M := M_Model_repeats) (tgt := 48) d_Model_repeats_83 (by decide) ?_
      refine mm_drop (L' := [some (.ref 0), none, some (.int z2), some (.int z3), some (.int (z4 + 1))]) ⟨rfl, ⟨rfl, ⟨rfl, ⟨rfl, trivial⟩⟩⟩⟩ ?_
      exact hX h
    · have h := h.2 c
      refine mm_iconst (M := M_Model_repeats) (v := 0) d_Model_repeats_78 (by decide) ?_
      exact mm_retv (M := M_Model_repeats) ⟨_, rfl, (by decide), d_Model_repeats_79⟩ ⟨_, _, _, _, _, rfl, rfl, h⟩
theorem vl_Model_repeats_0 {k0 : Nat} {t : mm_H} {K : Int32 → mm_i → mm_j → mm_a → mm_b → Prop} : ∀ (n : Nat) {i : mm_i} {l : mm_j} {a : mm_a} {b : mm_b} {z2 : Int32} {z3 : Int32} {z4 : Int32}, wl_Model_repeats_0 K n i l a b z2 z3 z4 → mm_V M_Model_repeats 1 k0 (mx_PI t K) 0 0 48 [some (.ref 0), none, some (.int z2), some (.int z3), some (.int z4)] [] (Wm i l a b ++ t)
  | 0, _, _, _, _, _, _, _, h => h.elim
  | n + 1, _, _, _, _, _, _, _, h => vt_Model_repeats_0 (fun h => vl_Model_repeats_0 n h) h
def wp_Model_repeats_0 (i : mm_i) (l : mm_j) (a : mm_a) (b : mm_b) (x1 : Int32) (K : Int32 → mm_i → mm_j → mm_a → mm_b → Prop) : Prop :=
  wp_Model_capture_0 i l a b (l 26) x1 0 (fun r1 i1 l1 a1 b1 => wp_Model_capture_0 i1 l1 a1 b1 (l1 26) x1 1 (fun r2 i2 l2 a2 b2 => (r1 = ((-6) : Int32) → K 0 i2 l2 a2 b2) ∧ (¬ r1 = ((-6) : Int32) → (((i2 24) + (r2 - r1)) ≤ (i2 8) → ∃ n, wl_Model_repeats_0 K n i2 l2 a2 b2 r1 (r2 - r1) 0) ∧ (¬ ((i2 24) + (r2 - r1)) ≤ (i2 8) → K 0 i2 l2 a2 b2))))
set_option maxRecDepth 100000 in
set_option maxHeartbeats 4000000 in
theorem ct_Model_repeats_0 {i : mm_i} {l : mm_j} {a : mm_a} {b : mm_b} {t : mm_H} {x1 : Int32} {K : Int32 → mm_i → mm_j → mm_a → mm_b → Prop} (h : wp_Model_repeats_0 i l a b x1 K) : mm_Ct y_Model_repeats M_Model_repeats 1 0 0 [.ref 0, .int x1] (Wm i l a b ++ t) (mx_PI t K) := by
  refine mm_Ct.of (by decide) rfl (fun q => absurd q (by decide)) (Nat.le_of_ble_eq_true rfl) ?_
  unfold wp_Model_repeats_0 at h
  refine mm_eqL (L' := [some (.ref 0), some (.int x1), none, none, none]) rfl ?_
  refine mm_aload_n (M := M_Model_repeats) d_Model_repeats_0 rfl ?_
  refine mm_aload_n (M := M_Model_repeats) d_Model_repeats_1 rfl ?_
  refine mm_getf (M := M_Model_repeats) (u := .long (l 26)) 7 26 d_Model_repeats_2 fl_Model_123 xg_0 rfl ?_
  refine mm_iload_n (M := M_Model_repeats) d_Model_repeats_5 rfl ?_
  refine mm_iconst (M := M_Model_repeats) (v := 0) d_Model_repeats_6 (by decide) ?_
  refine mm_eqs (st2 := [.long (l 26), .int x1, .int 0].reverse ++ .ref 0 :: []) rfl ?_
  refine mm_callV (M := M_Model_repeats) (y := y_Model_capture) (M' := M_Model_capture) (d' := 0) (kc := 0) (ks := 0) (kc' := 0) (ks' := 0) (n := 3) d_Model_repeats_7 ok_Model_capture ml_Model_142 (by decide) rfl (Nat.le_of_ble_eq_true rfl) ⟨tw_919, ts_Model_capture⟩ xg_0 rfl (ct_Model_capture_0 h) (fun v w h => ?_)
  obtain ⟨r1, i1, l1, a1, b1, rfl, rfl, h⟩ := h
  refine mm_eqs (st2 := [.int r1]) rfl ?_
  refine mm_istore_n (M := M_Model_repeats) d_Model_repeats_10 (Nat.le_of_ble_eq_true rfl) ?_
  refine mm_eqL (L' := [some (.ref 0), some (.int x1), some (.int r1), none, none]) rfl ?_
  refine mm_aload_n (M := M_Model_repeats) d_Model_repeats_11 rfl ?_
  refine mm_aload_n (M := M_Model_repeats) d_Model_repeats_12 rfl ?_
  refine mm_getf (M := M_Model_repeats) (u := .long (l1 26)) 7 26 d_Model_repeats_13 fl_Model_123 xg_0 rfl ?_
  refine mm_iload_n (M := M_Model_repeats) d_Model_repeats_16 rfl ?_
  refine mm_iconst (M := M_Model_repeats) (v := 1) d_Model_repeats_17 (by decide) ?_
  refine mm_eqs (st2 := [.long (l1 26), .int x1, .int 1].reverse ++ .ref 0 :: []) rfl ?_
  refine mm_callV (M := M_Model_repeats) (y := y_Model_capture) (M' := M_Model_capture) (d' := 0) (kc := 0) (ks := 0) (kc' := 0) (ks' := 0) (n := 3) d_Model_repeats_18 ok_Model_capture ml_Model_142 (by decide) rfl (Nat.le_of_ble_eq_true rfl) ⟨tw_919, ts_Model_capture⟩ xg_0 rfl (ct_Model_capture_0 h) (fun v w h => ?_)
  obtain ⟨r2, i2, l2, a2, b2, rfl, rfl, h⟩ := h
  refine mm_eqs (st2 := [.int r2]) rfl ?_
  refine mm_iload_n (M := M_Model_repeats) d_Model_repeats_21 rfl ?_
  refine mm_isub (M := M_Model_repeats) d_Model_repeats_22 ?_
  refine mm_istore_n (M := M_Model_repeats) d_Model_repeats_23 (Nat.le_of_ble_eq_true rfl) ?_
  refine mm_eqL (L' := [some (.ref 0), some (.int x1), some (.int r1), some (.int (r2 - r1)), none]) rfl ?_
  refine mm_iload_n (M := M_Model_repeats) d_Model_repeats_24 rfl ?_
  refine mm_bipush (M := M_Model_repeats) (v := (-6)) d_Model_repeats_25 (by decide) ?_
  refine mm_icmp_eq (M := M_Model_repeats) 43 d_Model_repeats_27 (by decide) (fun c => ?_) (fun c => ?_)
  · have h := h.1 c
    refine mm_iconst (M := M_Model_repeats) (v := 0) d_Model_repeats_43 (by decide) ?_
    exact mm_retv (M := M_Model_repeats) ⟨_, rfl, (by decide), d_Model_repeats_44⟩ ⟨_, _, _, _, _, rfl, rfl, h⟩
  · have h := h.2 c
    refine mm_aload_n (M := M_Model_repeats) d_Model_repeats_30 rfl ?_
    refine mm_getf (M := M_Model_repeats) (u := .int (i2 24)) 7 24 d_Model_repeats_31 fl_Model_120 xg_0 rfl ?_
    refine mm_iload_n (M := M_Model_repeats) d_Model_repeats_34 rfl ?_
    refine mm_iadd (M := M_Model_repeats) d_Model_repeats_35 ?_
    refine mm_aload_n (M := M_Model_repeats) d_Model_repeats_36 rfl ?_
    refine mm_getf (M := M_Model_repeats) (u := .int (i2 8)) 7 8 d_Model_repeats_37 fl_Model_99 xg_0 rfl ?_
    refine mm_icmp_le (M := M_Model_repeats) 45 d_Model_repeats_40 (by decide) (fun c => ?_) (fun c => ?_)
    · have h := h.1 c
      refine mm_iconst (M := M_Model_repeats) (v := 0) d_Model_repeats_45 (by decide) ?_
      refine mm_istore (M := M_Model_repeats) d_Model_repeats_46 (Nat.le_of_ble_eq_true rfl) ?_
      refine mm_eqL (L' := [some (.ref 0), some (.int x1), some (.int r1), some (.int (r2 - r1)), some (.int 0)]) rfl ?_
      obtain ⟨n, h⟩ := h
      refine mm_drop (L' := [some (.ref 0), none, some (.int r1), some (.int (r2 - r1)), some (.int 0)]) ⟨rfl, ⟨rfl, ⟨rfl, ⟨rfl, trivial⟩⟩⟩⟩ ?_
      exact (vl_Model_repeats_0 n) h
    · have h := h.2 c
      refine mm_iconst (M := M_Model_repeats) (v := 0) d_Model_repeats_43 (by decide) ?_
      exact mm_retv (M := M_Model_repeats) ⟨_, rfl, (by decide), d_Model_repeats_44⟩ ⟨_, _, _, _, _, rfl, rfl, h⟩
def wq_Model_takesLetter_0_70 (K : Int32 → mm_i → mm_j → mm_a → mm_b → Prop) (i : mm_i) (l : mm_j) (a : mm_a) (b : mm_b) (z3 : Int32) : Prop :=
  (z3 = 0 → (z3 = 0 ∨ z3 = 1) ∧ K z3 i l a b) ∧ (¬ z3 = 0 → (z3 = 0 ∨ z3 = 1) ∧ K z3 (upd i 24 ((i 24) + (1 : Int32))) l a b)
set_option maxRecDepth 100000 in
set_option maxHeartbeats 4000000 in
theorem vq_Model_takesLetter_0_70 {k0 : Nat} {t : mm_H} {K : Int32 → mm_i → mm_j → mm_a → mm_b → Prop} {i : mm_i} {l : mm_j} {a : mm_a} {b : mm_b} {z3 : Int32} (h : wq_Model_takesLetter_0_70 K i l a b z3) : mm_V M_Model_takesLetter 2 k0 (mx_PI t K) 0 0 70 [some (.ref 0), none, none, some (.int z3)] [] (Wm i l a b ++ t) := by
  unfold wq_Model_takesLetter_0_70 at h
  refine mm_iload_n (M := M_Model_takesLetter) d_Model_takesLetter_70 rfl ?_
  refine mm_if_eq (M := M_Model_takesLetter) 84 d_Model_takesLetter_71 (by decide) (fun c => ?_) (fun c => ?_)
  · have h := h.1 c
    refine mm_iload_n (M := M_Model_takesLetter) d_Model_takesLetter_84 rfl ?_
    obtain ⟨hb, h⟩ := h
    exact mm_retv (M := M_Model_takesLetter) ⟨_, rfl, mx_nb hb, d_Model_takesLetter_85⟩ ⟨_, _, _, _, _, rfl, rfl, h⟩
  · have h := h.2 c
    refine mm_aload_n (M := M_Model_takesLetter) d_Model_takesLetter_74 rfl ?_
    refine mm_dup (M := M_Model_takesLetter) d_Model_takesLetter_75 rfl ?_
    refine mm_getf (M := M_Model_takesLetter) (u := .int (i 24)) 7 24 d_Model_takesLetter_76 fl_Model_120 xg_0 rfl ?_
    refine mm_iconst (M := M_Model_takesLetter) (v := 1) d_Model_takesLetter_79 (by decide) ?_
    refine mm_iadd (M := M_Model_takesLetter) d_Model_takesLetter_80 ?_
    refine mm_putf (M := M_Model_takesLetter) 7 24 .int d_Model_takesLetter_81 fl_Model_120 fp_Model_120 ft_7_24 xg_0 (Nat.le_of_ble_eq_true rfl) trivial ?_
    refine mm_eqw xs_24 ?_
    refine mm_iload_n (M := M_Model_takesLetter) d_Model_takesLetter_84 rfl ?_
    obtain ⟨hb, h⟩ := h
    exact mm_retv (M := M_Model_takesLetter) ⟨_, rfl, mx_nb hb, d_Model_takesLetter_85⟩ ⟨_, _, _, _, _, rfl, rfl, h⟩
def wp_Model_takesLetter_0 (i : mm_i) (l : mm_j) (a : mm_a) (b : mm_b) (x1 : Int32) (K : Int32 → mm_i → mm_j → mm_a → mm_b → Prop) : Prop :=
  ((i 24) < (i 8) → vp_in (i 24) 40 ∧ (wp_Model_t_0 i l a b x1 (fun r1 i1 l1 a1 b1 => (r1 = (46 : Int32) → wq_Model_takesLetter_0_70 K i1 l1 a1 b1 1) ∧ (¬ r1 = (46 : Int32) → wp_Model_t_0 i1 l1 a1 b1 x1 (fun r2 i2 l2 a2 b2 => (¬ r2 = (91 : Int32) → wp_Model_t_0 i2 l2 a2 b2 x1 (fun r3 i3 l3 a3 b3 => (¬ r3 = ((a 3) (i 24).toNatClampNeg) → wq_Model_takesLetter_0_70 K i3 l3 a3 b3 0) ∧ (r3 = ((a 3) (i 24).toNatClampNeg) → wq_Model_takesLetter_0_70 K i3 l3 a3 b3 1))) ∧ (r2 = (91 : Int32) → wp_Model_inClass_0 i2 l2 a2 b2 x1 ((a 3) (i 24).toNatClampNeg) (fun r4 i4 l4 a4 b4 => (r4 = 0 → wq_Model_takesLetter_0_70 K i4 l4 a4 b4 0) ∧ (¬ r4 = 0 → wq_Model_takesLetter_0_70 K i4 l4 a4 b4 1)))))))) ∧ (¬ (i 24) < (i 8) → K 0 i l a b)
set_option maxRecDepth 100000 in
set_option maxHeartbeats 4000000 in
theorem ct_Model_takesLetter_0 {i : mm_i} {l : mm_j} {a : mm_a} {b : mm_b} {t : mm_H} {x1 : Int32} {K : Int32 → mm_i → mm_j → mm_a → mm_b → Prop} (h : wp_Model_takesLetter_0 i l a b x1 K) : mm_Ct y_Model_takesLetter M_Model_takesLetter 2 0 0 [.ref 0, .int x1] (Wm i l a b ++ t) (mx_PI t K) := by
  refine mm_Ct.of (by decide) rfl (fun q => absurd q (by decide)) (Nat.le_of_ble_eq_true rfl) ?_
  unfold wp_Model_takesLetter_0 at h
  refine mm_eqL (L' := [some (.ref 0), some (.int x1), none, none]) rfl ?_
  refine mm_aload_n (M := M_Model_takesLetter) d_Model_takesLetter_0 rfl ?_
  refine mm_getf (M := M_Model_takesLetter) (u := .int (i 24)) 7 24 d_Model_takesLetter_1 fl_Model_120 xg_0 rfl ?_
  refine mm_aload_n (M := M_Model_takesLetter) d_Model_takesLetter_4 rfl ?_
  refine mm_getf (M := M_Model_takesLetter) (u := .int (i 8)) 7 8 d_Model_takesLetter_5 fl_Model_99 xg_0 rfl ?_
  refine mm_icmp_lt (M := M_Model_takesLetter) 13 d_Model_takesLetter_8 (by decide) (fun c => ?_) (fun c => ?_)
  · have h := h.1 c
    refine mm_aload_n (M := M_Model_takesLetter) d_Model_takesLetter_13 rfl ?_
    refine mm_getf (M := M_Model_takesLetter) (u := .ref 3) 7 9 d_Model_takesLetter_14 fl_Model_16 xg_0 rfl ?_
    refine mm_aload_n (M := M_Model_takesLetter) d_Model_takesLetter_17 rfl ?_
    refine mm_getf (M := M_Model_takesLetter) (u := .int (i 24)) 7 24 d_Model_takesLetter_18 fl_Model_120 xg_0 rfl ?_
    obtain ⟨hin, h⟩ := h
    refine mm_iald (M := M_Model_takesLetter) (f := (a 3)) d_Model_takesLetter_21 xg_3 hin ?_
    refine mm_istore_n (M := M_Model_takesLetter) d_Model_takesLetter_22 (Nat.le_of_ble_eq_true rfl) ?_
    refine mm_eqL (L' := [some (.ref 0), some (.int x1), some (.int ((a 3) (i 24).toNatClampNeg)), none]) rfl ?_
    refine mm_aload_n (M := M_Model_takesLetter) d_Model_takesLetter_23 rfl ?_
    refine mm_iload_n (M := M_Model_takesLetter) d_Model_takesLetter_24 rfl ?_
    refine mm_eqs (st2 := [.int x1].reverse ++ .ref 0 :: []) rfl ?_
    refine mm_callV (M := M_Model_takesLetter) (y := y_Model_t) (M' := M_Model_t) (d' := 0) (kc := 0) (ks := 0) (kc' := 0) (ks' := 0) (n := 1) d_Model_takesLetter_25 ok_Model_t ml_Model_102 (by decide) rfl (Nat.le_of_ble_eq_true rfl) ⟨tw_855, ts_Model_t⟩ xg_0 rfl (ct_Model_t_0 h) (fun v w h => ?_)
    obtain ⟨r1, i1, l1, a1, b1, rfl, rfl, h⟩ := h
    refine mm_eqs (st2 := [.int r1]) rfl ?_
    refine mm_bipush (M := M_Model_takesLetter) (v := 46) d_Model_takesLetter_28 (by decide) ?_
    refine mm_icmp_eq (M := M_Model_takesLetter) 64 d_Model_takesLetter_30 (by decide) (fun c => ?_) (fun c => ?_)
    · have h := h.1 c
      refine mm_iconst (M := M_Model_takesLetter) (v := 1) d_Model_takesLetter_64 (by decide) ?_
      refine mm_goto (M := M_Model_takesLetter) (tgt := 69) d_Model_takesLetter_65 (by decide) ?_
      refine mm_istore_n (M := M_Model_takesLetter) d_Model_takesLetter_69 (Nat.le_of_ble_eq_true rfl) ?_
      refine mm_eqL (L' := [some (.ref 0), some (.int x1), some (.int ((a 3) (i 24).toNatClampNeg)), some (.int 1)]) rfl ?_
      refine mm_drop (L' := [some (.ref 0), none, none, some (.int 1)]) ⟨rfl, ⟨rfl, trivial⟩⟩ ?_
      exact vq_Model_takesLetter_0_70 h
    · have h := h.2 c
      refine mm_aload_n (M := M_Model_takesLetter) d_Model_takesLetter_33 rfl ?_
      refine mm_iload_n (M := M_Model_takesLetter) d_Model_takesLetter_34 rfl ?_
      refine mm_eqs (st2 := [.int x1].reverse ++ .ref 0 :: []) rfl ?_
      refine mm_callV (M := M_Model_takesLetter) (y := y_Model_t) (M' := M_Model_t) (d' := 0) (kc := 0) (ks := 0) (kc' := 0) (ks' := 0) (n := 1) d_Model_takesLetter_35 ok_Model_t ml_Model_102 (by decide) rfl (Nat.le_of_ble_eq_true rfl) ⟨tw_855, ts_Model_t⟩ xg_0 rfl (ct_Model_t_0 h) (fun v w h => ?_)
      obtain ⟨r2, i2, l2, a2, b2, rfl, rfl, h⟩ := h
      refine mm_eqs (st2 := [.int r2]) rfl ?_
      refine mm_bipush (M := M_Model_takesLetter) (v := 91) d_Model_takesLetter_38 (by decide) ?_
      refine mm_icmp_ne (M := M_Model_takesLetter) 55 d_Model_takesLetter_40 (by decide) (fun c => ?_) (fun c => ?_)
      · have h := h.1 c
        refine mm_aload_n (M := M_Model_takesLetter) d_Model_takesLetter_55 rfl ?_
        refine mm_iload_n (M := M_Model_takesLetter) d_Model_takesLetter_56 rfl ?_
        refine mm_eqs (st2 := [.int x1].reverse ++ .ref 0 :: []) rfl ?_
        refine mm_callV (M := M_Model_takesLetter) (y := y_Model_t) (M' := M_Model_t) (d' := 0) (kc := 0) (ks := 0) (kc' := 0) (ks' := 0) (n := 1) d_Model_takesLetter_57 ok_Model_t ml_Model_102 (by decide) rfl (Nat.le_of_ble_eq_true rfl) ⟨tw_855, ts_Model_t⟩ xg_0 rfl (ct_Model_t_0 h) (fun v w h => ?_)
        obtain ⟨r3, i3, l3, a3, b3, rfl, rfl, h⟩ := h
        refine mm_eqs (st2 := [.int r3]) rfl ?_
        refine mm_iload_n (M := M_Model_takesLetter) d_Model_takesLetter_60 rfl ?_
        refine mm_icmp_ne (M := M_Model_takesLetter) 68 d_Model_takesLetter_61 (by decide) (fun c => ?_) (fun c => ?_)
        · have h := h.1 c
          refine mm_iconst (M := M_Model_takesLetter) (v := 0) d_Model_takesLetter_68 (by decide) ?_
          refine mm_istore_n (M := M_Model_takesLetter) d_Model_takesLetter_69 (Nat.le_of_ble_eq_true rfl) ?_
          refine mm_eqL (L' := [some (.ref 0), some (.int x1), some (.int ((a 3) (i 24).toNatClampNeg)), some (.int 0)]) rfl ?_
          refine mm_drop (L' := [some (.ref 0), none, none, some (.int 0)]) ⟨rfl, ⟨rfl, trivial⟩⟩ ?_
          exact vq_Model_takesLetter_0_70 h
        · have h := h.2 c
          refine mm_iconst (M := M_Model_takesLetter) (v := 1) d_Model_takesLetter_64 (by decide) ?_
          refine mm_goto (M := M_Model_takesLetter) (tgt := 69) d_Model_takesLetter_65 (by decide) ?_
          refine mm_istore_n (M := M_Model_takesLetter) d_Model_takesLetter_69 (Nat.le_of_ble_eq_true rfl) ?_
          refine mm_eqL (L' := [some (.ref 0), some (.int x1), some (.int ((a 3) (i 24).toNatClampNeg)), some (.int 1)]) rfl ?_
          refine mm_drop (L' := [some (.ref 0), none, none, some (.int 1)]) ⟨rfl, ⟨rfl, trivial⟩⟩ ?_
          exact vq_Model_takesLetter_0_70 h
      · have h := h.2 c
        refine mm_aload_n (M := M_Model_takesLetter) d_Model_takesLetter_43 rfl ?_
        refine mm_iload_n (M := M_Model_takesLetter) d_Model_takesLetter_44 rfl ?_
        refine mm_iload_n (M := M_Model_takesLetter) d_Model_takesLetter_45 rfl ?_
        refine mm_eqs (st2 := [.int x1, .int ((a 3) (i 24).toNatClampNeg)].reverse ++ .ref 0 :: []) rfl ?_
        refine mm_callV (M := M_Model_takesLetter) (y := y_Model_inClass) (M' := M_Model_inClass) (d' := 1) (kc := 0) (ks := 0) (kc' := 0) (ks' := 0) (n := 2) d_Model_takesLetter_46 ok_Model_inClass ml_Model_146 (by decide) rfl (Nat.le_of_ble_eq_true rfl) ⟨tw_927, ts_Model_inClass⟩ xg_0 rfl (ct_Model_inClass_0 h) (fun v w h => ?_)
        obtain ⟨r4, i4, l4, a4, b4, rfl, rfl, h⟩ := h
        refine mm_eqs (st2 := [.int r4]) rfl ?_
        refine mm_if_eq (M := M_Model_takesLetter) 68 d_Model_takesLetter_49 (by decide) (fun c => ?_) (fun c => ?_)
        · have h := h.1 c
          refine mm_iconst (M := M_Model_takesLetter) (v := 0) d_Model_takesLetter_68 (by decide) ?_
          refine mm_istore_n (M := M_Model_takesLetter) d_Model_takesLetter_69 (Nat.le_of_ble_eq_true rfl) ?_
          refine mm_eqL (L' := [some (.ref 0), some (.int x1), some (.int ((a 3) (i 24).toNatClampNeg)), some (.int 0)]) rfl ?_
          refine mm_drop (L' := [some (.ref 0), none, none, some (.int 0)]) ⟨rfl, ⟨rfl, trivial⟩⟩ ?_
          exact vq_Model_takesLetter_0_70 h
        · have h := h.2 c
          refine mm_goto (M := M_Model_takesLetter) (tgt := 64) d_Model_takesLetter_52 (by decide) ?_
          refine mm_iconst (M := M_Model_takesLetter) (v := 1) d_Model_takesLetter_64 (by decide) ?_
          refine mm_goto (M := M_Model_takesLetter) (tgt := 69) d_Model_takesLetter_65 (by decide) ?_
          refine mm_istore_n (M := M_Model_takesLetter) d_Model_takesLetter_69 (Nat.le_of_ble_eq_true rfl) ?_
          refine mm_eqL (L' := [some (.ref 0), some (.int x1), some (.int ((a 3) (i 24).toNatClampNeg)), some (.int 1)]) rfl ?_
          refine mm_drop (L' := [some (.ref 0), none, none, some (.int 1)]) ⟨rfl, ⟨rfl, trivial⟩⟩ ?_
          exact vq_Model_takesLetter_0_70 h
  · have h := h.2 c
    refine mm_iconst (M := M_Model_takesLetter) (v := 0) d_Model_takesLetter_11 (by decide) ?_
    exact mm_retv (M := M_Model_takesLetter) ⟨_, rfl, (by decide), d_Model_takesLetter_12⟩ ⟨_, _, _, _, _, rfl, rfl, h⟩
def wp_Model_plain_0 (i : mm_i) (l : mm_j) (a : mm_a) (b : mm_b) (x1 : Int32) (K : Int32 → mm_i → mm_j → mm_a → mm_b → Prop) : Prop :=
  wp_Model_t_0 i l a b x1 (fun r1 i1 l1 a1 b1 => (¬ r1 = (94 : Int32) → wp_Model_t_0 i1 l1 a1 b1 x1 (fun r2 i2 l2 a2 b2 => (¬ r2 = (36 : Int32) → wp_Model_t_0 i2 l2 a2 b2 x1 (fun r3 i3 l3 a3 b3 => (¬ r3 = (92 : Int32) → wp_Model_takesLetter_0 i3 l3 a3 b3 x1 (fun r4 i4 l4 a4 b4 => (r4 = 0 ∨ r4 = 1) ∧ K r4 i4 l4 a4 b4)) ∧ (r3 = (92 : Int32) → wp_Model_t_0 i3 l3 a3 b3 (x1 + (1 : Int32)) (fun r5 i5 l5 a5 b5 => wp_Model_repeats_0 i5 l5 a5 b5 (r5 - (48 : Int32)) (fun r6 i6 l6 a6 b6 => (r6 = 0 ∨ r6 = 1) ∧ K r6 i6 l6 a6 b6))))) ∧ (r2 = (36 : Int32) → (¬ (i2 24) = (i2 8) → K 0 i2 l2 a2 b2) ∧ ((i2 24) = (i2 8) → K 1 i2 l2 a2 b2)))) ∧ (r1 = (94 : Int32) → (¬ (i1 24) = 0 → K 0 i1 l1 a1 b1) ∧ ((i1 24) = 0 → K 1 i1 l1 a1 b1)))
set_option maxRecDepth 100000 in
set_option maxHeartbeats 4000000 in
theorem ct_Model_plain_0 {i : mm_i} {l : mm_j} {a : mm_a} {b : mm_b} {t : mm_H} {x1 : Int32} {K : Int32 → mm_i → mm_j → mm_a → mm_b → Prop} (h : wp_Model_plain_0 i l a b x1 K) : mm_Ct y_Model_plain M_Model_plain 3 0 0 [.ref 0, .int x1] (Wm i l a b ++ t) (mx_PI t K) := by
  refine mm_Ct.of (by decide) rfl (fun q => absurd q (by decide)) (Nat.le_of_ble_eq_true rfl) ?_
  unfold wp_Model_plain_0 at h
  refine mm_eqL (L' := [some (.ref 0), some (.int x1)]) rfl ?_
  refine mm_aload_n (M := M_Model_plain) d_Model_plain_0 rfl ?_
  refine mm_iload_n (M := M_Model_plain) d_Model_plain_1 rfl ?_
  refine mm_eqs (st2 := [.int x1].reverse ++ .ref 0 :: []) rfl ?_
  refine mm_callV (M := M_Model_plain) (y := y_Model_t) (M' := M_Model_t) (d' := 0) (kc := 0) (ks := 0) (kc' := 0) (ks' := 0) (n := 1) d_Model_plain_2 ok_Model_t ml_Model_102 (by decide) rfl (Nat.le_of_ble_eq_true rfl) ⟨tw_855, ts_Model_t⟩ xg_0 rfl (ct_Model_t_0 h) (fun v w h => ?_)
  obtain ⟨r1, i1, l1, a1, b1, rfl, rfl, h⟩ := h
  refine mm_eqs (st2 := [.int r1]) rfl ?_
  refine mm_bipush (M := M_Model_plain) (v := 94) d_Model_plain_5 (by decide) ?_
  refine mm_icmp_ne (M := M_Model_plain) 23 d_Model_plain_7 (by decide) (fun c => ?_) (fun c => ?_)
  · have h := h.1 c
    refine mm_aload_n (M := M_Model_plain) d_Model_plain_23 rfl ?_
    refine mm_iload_n (M := M_Model_plain) d_Model_plain_24 rfl ?_
    refine mm_eqs (st2 := [.int x1].reverse ++ .ref 0 :: []) rfl ?_
    refine mm_callV (M := M_Model_plain) (y := y_Model_t) (M' := M_Model_t) (d' := 0) (kc := 0) (ks := 0) (kc' := 0) (ks' := 0) (n := 1) d_Model_plain_25 ok_Model_t ml_Model_102 (by decide) rfl (Nat.le_of_ble_eq_true rfl) ⟨tw_855, ts_Model_t⟩ xg_0 rfl (ct_Model_t_0 h) (fun v w h => ?_)
    obtain ⟨r2, i2, l2, a2, b2, rfl, rfl, h⟩ := h
    refine mm_eqs (st2 := [.int r2]) rfl ?_
    refine mm_bipush (M := M_Model_plain) (v := 36) d_Model_plain_28 (by decide) ?_
    refine mm_icmp_ne (M := M_Model_plain) 50 d_Model_plain_30 (by decide) (fun c => ?_) (fun c => ?_)
    · have h := h.1 c
      refine mm_aload_n (M := M_Model_plain) d_Model_plain_50 rfl ?_
      refine mm_iload_n (M := M_Model_plain) d_Model_plain_51 rfl ?_
      refine mm_eqs (st2 := [.int x1].reverse ++ .ref 0 :: []) rfl ?_
      refine mm_callV (M := M_Model_plain) (y := y_Model_t) (M' := M_Model_t) (d' := 0) (kc := 0) (ks := 0) (kc' := 0) (ks' := 0) (n := 1) d_Model_plain_52 ok_Model_t ml_Model_102 (by decide) rfl (Nat.le_of_ble_eq_true rfl) ⟨tw_855, ts_Model_t⟩ xg_0 rfl (ct_Model_t_0 h) (fun v w h => ?_)
      obtain ⟨r3, i3, l3, a3, b3, rfl, rfl, h⟩ := h
      refine mm_eqs (st2 := [.int r3]) rfl ?_
      refine mm_bipush (M := M_Model_plain) (v := 92) d_Model_plain_55 (by decide) ?_
      refine mm_icmp_ne (M := M_Model_plain) 77 d_Model_plain_57 (by decide) (fun c => ?_) (fun c => ?_)
      · have h := h.1 c
        refine mm_aload_n (M := M_Model_plain) d_Model_plain_77 rfl ?_
        refine mm_iload_n (M := M_Model_plain) d_Model_plain_78 rfl ?_
        refine mm_eqs (st2 := [.int x1].reverse ++ .ref 0 :: []) rfl ?_
        refine mm_callV (M := M_Model_plain) (y := y_Model_takesLetter) (M' := M_Model_takesLetter) (d' := 2) (kc := 0) (ks := 0) (kc' := 0) (ks' := 0) (n := 1) d_Model_plain_79 ok_Model_takesLetter ml_Model_153 (by decide) rfl (Nat.le_of_ble_eq_true rfl) ⟨tw_923, ts_Model_takesLetter⟩ xg_0 rfl (ct_Model_takesLetter_0 h) (fun v w h => ?_)
        obtain ⟨r4, i4, l4, a4, b4, rfl, rfl, h⟩ := h
        refine mm_eqs (st2 := [.int r4]) rfl ?_
        obtain ⟨hb, h⟩ := h
        exact mm_retv (M := M_Model_plain) ⟨_, rfl, mx_nb hb, d_Model_plain_82⟩ ⟨_, _, _, _, _, rfl, rfl, h⟩
      · have h := h.2 c
        refine mm_aload_n (M := M_Model_plain) d_Model_plain_60 rfl ?_
        refine mm_aload_n (M := M_Model_plain) d_Model_plain_61 rfl ?_
        refine mm_iload_n (M := M_Model_plain) d_Model_plain_62 rfl ?_
        refine mm_iconst (M := M_Model_plain) (v := 1) d_Model_plain_63 (by decide) ?_
        refine mm_iadd (M := M_Model_plain) d_Model_plain_64 ?_
        refine mm_eqs (st2 := [.int (x1 + (1 : Int32))].reverse ++ .ref 0 :: [.ref 0]) rfl ?_
        refine mm_callV (M := M_Model_plain) (y := y_Model_t) (M' := M_Model_t) (d' := 0) (kc := 0) (ks := 0) (kc' := 0) (ks' := 0) (n := 1) d_Model_plain_65 ok_Model_t ml_Model_102 (by decide) rfl (Nat.le_of_ble_eq_true rfl) ⟨tw_855, ts_Model_t⟩ xg_0 rfl (ct_Model_t_0 h) (fun v w h => ?_)
        obtain ⟨r5, i5, l5, a5, b5, rfl, rfl, h⟩ := h
        refine mm_eqs (st2 := [.int r5, .ref 0]) rfl ?_
        refine mm_bipush (M := M_Model_plain) (v := 48) d_Model_plain_68 (by decide) ?_
        refine mm_isub (M := M_Model_plain) d_Model_plain_70 ?_
        refine mm_eqs (st2 := [.int (r5 - (48 : Int32))].reverse ++ .ref 0 :: []) rfl ?_
        refine mm_callV (M := M_Model_plain) (y := y_Model_repeats) (M' := M_Model_repeats) (d' := 1) (kc := 0) (ks := 0) (kc' := 0) (ks' := 0) (n := 1) d_Model_plain_71 ok_Model_repeats ml_Model_150 (by decide) rfl (Nat.le_of_ble_eq_true rfl) ⟨tw_915, ts_Model_repeats⟩ xg_0 rfl (ct_Model_repeats_0 h) (fun v w h => ?_)
        obtain ⟨r6, i6, l6, a6, b6, rfl, rfl, h⟩ := h
        refine mm_eqs (st2 := [.int r6]) rfl ?_
        refine mm_goto (M := M_Model_plain) (tgt := 82) d_Model_plain_74 (by decide) ?_
        obtain ⟨hb, h⟩ := h
        exact mm_retv (M := M_Model_plain) ⟨_, rfl, mx_nb hb, d_Model_plain_82⟩ ⟨_, _, _, _, _, rfl, rfl, h⟩
    · have h := h.2 c
      refine mm_aload_n (M := M_Model_plain) d_Model_plain_33 rfl ?_
      refine mm_getf (M := M_Model_plain) (u := .int (i2 24)) 7 24 d_Model_plain_34 fl_Model_120 xg_0 rfl ?_
      refine mm_aload_n (M := M_Model_plain) d_Model_plain_37 rfl ?_
      refine mm_getf (M := M_Model_plain) (u := .int (i2 8)) 7 8 d_Model_plain_38 fl_Model_99 xg_0 rfl ?_
      refine mm_icmp_ne (M := M_Model_plain) 48 d_Model_plain_41 (by decide) (fun c => ?_) (fun c => ?_)
      · have h := h.1 c
        refine mm_iconst (M := M_Model_plain) (v := 0) d_Model_plain_48 (by decide) ?_
        exact mm_retv (M := M_Model_plain) ⟨_, rfl, (by decide), d_Model_plain_49⟩ ⟨_, _, _, _, _, rfl, rfl, h⟩
      · have h := h.2 c
        refine mm_iconst (M := M_Model_plain) (v := 1) d_Model_plain_44 (by decide) ?_
        refine mm_goto (M := M_Model_plain) (tgt := 49) d_Model_plain_45 (by decide) ?_
        exact mm_retv (M := M_Model_plain) ⟨_, rfl, (by decide), d_Model_plain_49⟩ ⟨_, _, _, _, _, rfl, rfl, h⟩
  · have h := h.2 c
    refine mm_aload_n (M := M_Model_plain) d_Model_plain_10 rfl ?_
    refine mm_getf (M := M_Model_plain) (u := .int (i1 24)) 7 24 d_Model_plain_11 fl_Model_120 xg_0 rfl ?_
    refine mm_if_ne (M := M_Model_plain) 21 d_Model_plain_14 (by decide) (fun c => ?_) (fun c => ?_)
    · have h := h.1 c
      refine mm_iconst (M := M_Model_plain) (v := 0) d_Model_plain_21 (by decide) ?_
      exact mm_retv (M := M_Model_plain) ⟨_, rfl, (by decide), d_Model_plain_22⟩ ⟨_, _, _, _, _, rfl, rfl, h⟩
    · have h := h.2 c
      refine mm_iconst (M := M_Model_plain) (v := 1) d_Model_plain_17 (by decide) ?_
      refine mm_goto (M := M_Model_plain) (tgt := 22) d_Model_plain_18 (by decide) ?_
      exact mm_retv (M := M_Model_plain) ⟨_, rfl, (by decide), d_Model_plain_22⟩ ⟨_, _, _, _, _, rfl, rfl, h⟩
def wq_Model_openChoice_0_24 (K : mm_i → mm_j → mm_a → mm_b → Prop) (i : mm_i) (l : mm_j) (a : mm_a) (b : mm_b) (z1 : Int32) (z2 : Int32) : Prop :=
  (¬ z2 = 0 → (¬ z2 = (58 : Int32) → (¬ z2 = (62 : Int32) → (¬ z2 = (61 : Int32) → (¬ z2 = (33 : Int32) → wp_Model_calls_0 i l a b (fun r1 i1 l1 a1 b1 => (r1 < (12 : Int32) → vp_in (i1 10) 301 ∧ (wp_Model_choiceOf_0 i1 l1 a1 (mm_ub b1 6 (vp_updL (b1 6) (i1 10).toNatClampNeg (l1 26))) (z2 - (48 : Int32)) (fun r2 i2 l2 a2 b2 => wp_Model_push_0 i2 l2 a2 b2 3 0 (i2 10) (i2 25) (fun r3 i3 l3 a3 b3 => wp_Model_go_0 i3 l3 a3 b3 1 r2 r3 (fun i4 l4 a4 b4 => K i4 l4 a4 b4))))) ∧ (¬ r1 < (12 : Int32) → wp_Model_go_0 i1 l1 a1 b1 6 0 (i1 25) (fun i5 l5 a5 b5 => K i5 l5 a5 b5)))) ∧ (z2 = (33 : Int32) → wp_Model_push_0 i l a b 9 0 (i 19) (i 25) (fun r6 i6 l6 a6 b6 => wp_Model_pushBack_0 i6 l6 a6 b6 5 0 (i6 25) (fun i7 l7 a7 b7 => wp_Model_go_0 i7 l7 a7 b7 1 (z1 + (3 : Int32)) r6 (fun i8 l8 a8 b8 => K i8 l8 a8 b8))))) ∧ (z2 = (61 : Int32) → wp_Model_push_0 i l a b 8 (i 24) (i 19) (i 25) (fun r9 i9 l9 a9 b9 => wp_Model_go_0 i9 l9 a9 b9 1 (z1 + (3 : Int32)) r9 (fun i10 l10 a10 b10 => K i10 l10 a10 b10)))) ∧ (z2 = (62 : Int32) → wp_Model_push_0 i l a b 7 0 (i 19) (i 25) (fun r11 i11 l11 a11 b11 => wp_Model_go_0 i11 l11 a11 b11 1 (z1 + (3 : Int32)) r11 (fun i12 l12 a12 b12 => K i12 l12 a12 b12)))) ∧ (z2 = (58 : Int32) → wp_Model_go_0 i l a b 1 (z1 + (3 : Int32)) (i 25) (fun i13 l13 a13 b13 => K i13 l13 a13 b13))) ∧ (z2 = 0 → wp_Model_groupAt_0 i l a b z1 (fun r14 i14 l14 a14 b14 => wp_Model_push_0 i14 l14 a14 b14 2 r14 (i14 24) (i14 25) (fun r15 i15 l15 a15 b15 => wp_Model_go_0 i15 l15 a15 b15 1 (z1 + (1 : Int32)) r15 (fun i16 l16 a16 b16 => K i16 l16 a16 b16))))
set_option maxRecDepth 100000 in
set_option maxHeartbeats 4000000 in
theorem vq_Model_openChoice_0_24 {k0 : Nat} {t : mm_H} {K : mm_i → mm_j → mm_a → mm_b → Prop} {i : mm_i} {l : mm_j} {a : mm_a} {b : mm_b} {z1 : Int32} {z2 : Int32} (h : wq_Model_openChoice_0_24 K i l a b z1 z2) : mm_V M_Model_openChoice 2 k0 (mx_PV t K) 0 0 24 [some (.ref 0), some (.int z1), some (.int z2), none] [] (Wm i l a b ++ t) := by
  unfold wq_Model_openChoice_0_24 at h
  refine mm_iload_n (M := M_Model_openChoice) d_Model_openChoice_24 rfl ?_
  refine mm_if_ne (M := M_Model_openChoice) 57 d_Model_openChoice_25 (by decide) (fun c => ?_) (fun c => ?_)
  · have h := h.1 c
    refine mm_iload_n (M := M_Model_openChoice) d_Model_openChoice_57 rfl ?_
    refine mm_bipush (M := M_Model_openChoice) (v := 58) d_Model_openChoice_58 (by decide) ?_
    refine mm_icmp_ne (M := M_Model_openChoice) 78 d_Model_openChoice_60 (by decide) (fun c => ?_) (fun c => ?_)
    · have h := h.1 c
      refine mm_iload_n (M := M_Model_openChoice) d_Model_openChoice_78 rfl ?_
      refine mm_bipush (M := M_Model_openChoice) (v := 62) d_Model_openChoice_79 (by decide) ?_
      refine mm_icmp_ne (M := M_Model_openChoice) 110 d_Model_openChoice_81 (by decide) (fun c => ?_) (fun c => ?_)
      · have h := h.1 c
        refine mm_iload_n (M := M_Model_openChoice) d_Model_openChoice_110 rfl ?_
        refine mm_bipush (M := M_Model_openChoice) (v := 61) d_Model_openChoice_111 (by decide) ?_
        refine mm_icmp_ne (M := M_Model_openChoice) 145 d_Model_openChoice_113 (by decide) (fun c => ?_) (fun c => ?_)
        · have h := h.1 c
          refine mm_iload_n (M := M_Model_openChoice) d_Model_openChoice_145 rfl ?_
          refine mm_bipush (M := M_Model_openChoice) (v := 33) d_Model_openChoice_146 (by decide) ?_
          refine mm_icmp_ne (M := M_Model_openChoice) 189 d_Model_openChoice_148 (by decide) (fun c => ?_) (fun c => ?_)
          · have h := h.1 c
            refine mm_aload_n (M := M_Model_openChoice) d_Model_openChoice_189 rfl ?_
            refine mm_eqs (st2 := [].reverse ++ .ref 0 :: []) rfl ?_
            refine mm_callV (M := M_Model_openChoice) (y := y_Model_calls) (M' := M_Model_calls) (d' := 1) (kc := 0) (ks := 0) (kc' := 0) (ks' := 0) (n := 0) d_Model_openChoice_190 ok_Model_calls ml_Model_170 (by decide) rfl (Nat.le_of_ble_eq_true rfl) ⟨tw_895, ts_Model_calls⟩ xg_0 rfl (ct_Model_calls_0 h) (fun v w h => ?_)
            obtain ⟨r1, i1, l1, a1, b1, rfl, rfl, h⟩ := h
            refine mm_eqs (st2 := [.int r1]) rfl ?_
            refine mm_bipush (M := M_Model_openChoice) (v := 12) d_Model_openChoice_193 (by decide) ?_
            refine mm_icmp_lt (M := M_Model_openChoice) 212 d_Model_openChoice_195 (by decide) (fun c => ?_) (fun c => ?_)
            · have h := h.1 c
              refine mm_aload_n (M := M_Model_openChoice) d_Model_openChoice_212 rfl ?_
              refine mm_getf (M := M_Model_openChoice) (u := .ref 6) 7 18 d_Model_openChoice_213 fl_Model_26 xg_0 rfl ?_
              refine mm_aload_n (M := M_Model_openChoice) d_Model_openChoice_216 rfl ?_
              refine mm_getf (M := M_Model_openChoice) (u := .int (i1 10)) 7 10 d_Model_openChoice_217 fl_Model_173 xg_0 rfl ?_
              refine mm_aload_n (M := M_Model_openChoice) d_Model_openChoice_220 rfl ?_
              refine mm_getf (M := M_Model_openChoice) (u := .long (l1 26)) 7 26 d_Model_openChoice_221 fl_Model_123 xg_0 rfl ?_
              obtain ⟨hin, h⟩ := h
              refine mm_last (M := M_Model_openChoice) (f := (b1 6)) d_Model_openChoice_224 xg_6 hin ?_
              refine mm_eqw xa_6 ?_
              refine mm_aload_n (M := M_Model_openChoice) d_Model_openChoice_225 rfl ?_
              refine mm_iconst (M := M_Model_openChoice) (v := 1) d_Model_openChoice_226 (by decide) ?_
              refine mm_aload_n (M := M_Model_openChoice) d_Model_openChoice_227 rfl ?_
              refine mm_iload_n (M := M_Model_openChoice) d_Model_openChoice_228 rfl ?_
              refine mm_bipush (M := M_Model_openChoice) (v := 48) d_Model_openChoice_229 (by decide) ?_
              refine mm_isub (M := M_Model_openChoice) d_Model_openChoice_231 ?_
              refine mm_eqs (st2 := [.int (z2 - (48 : Int32))].reverse ++ .ref 0 :: [.int 1, .ref 0]) rfl ?_
              refine mm_callV (M := M_Model_openChoice) (y := y_Model_choiceOf) (M' := M_Model_choiceOf) (d' := 1) (kc := 0) (ks := 0) (kc' := 0) (ks' := 0) (n := 1) d_Model_openChoice_232 ok_Model_choiceOf ml_Model_176 (by decide) rfl (Nat.le_of_ble_eq_true rfl) ⟨tw_907, ts_Model_choiceOf⟩ xg_0 rfl (ct_Model_choiceOf_0 h) (fun v w h => ?_)
              obtain ⟨r2, i2, l2, a2, b2, rfl, rfl, h⟩ := h
              refine mm_eqs (st2 := [.int r2, .int 1, .ref 0]) rfl ?_
              refine mm_aload_n (M := M_Model_openChoice) d_Model_openChoice_235 rfl ?_
              refine mm_iconst (M := M_Model_openChoice) (v := 3) d_Model_openChoice_236 (by decide) ?_
              refine mm_iconst (M := M_Model_openChoice) (v := 0) d_Model_openChoice_237 (by decide) ?_
              refine mm_aload_n (M := M_Model_openChoice) d_Model_openChoice_238 rfl ?_
              refine mm_getf (M := M_Model_openChoice) (u := .int (i2 10)) 7 10 d_Model_openChoice_239 fl_Model_173 xg_0 rfl ?_
              refine mm_aload_n (M := M_Model_openChoice) d_Model_openChoice_242 rfl ?_
              refine mm_getf (M := M_Model_openChoice) (u := .int (i2 25)) 7 25 d_Model_openChoice_243 fl_Model_133 xg_0 rfl ?_
              refine mm_eqs (st2 := [.int 3, .int 0, .int (i2 10), .int (i2 25)].reverse ++ .ref 0 :: [.int r2, .int 1, .ref 0]) rfl ?_
              refine mm_callV (M := M_Model_openChoice) (y := y_Model_push) (M' := M_Model_push) (d' := 0) (kc := 0) (ks := 0) (kc' := 0) (ks' := 0) (n := 4) d_Model_openChoice_246 ok_Model_push ml_Model_159 (by decide) rfl (Nat.le_of_ble_eq_true rfl) ⟨tw_871, ts_Model_push⟩ xg_0 rfl (ct_Model_push_0 h) (fun v w h => ?_)
              obtain ⟨r3, i3, l3, a3, b3, rfl, rfl, h⟩ := h
              refine mm_eqs (st2 := [.int r3, .int r2, .int 1, .ref 0]) rfl ?_
              refine mm_eqs (st2 := [.int 1, .int r2, .int r3].reverse ++ .ref 0 :: []) rfl ?_
              refine mm_callV (M := M_Model_openChoice) (y := y_Model_go) (M' := M_Model_go) (d' := 0) (kc := 0) (ks := 0) (kc' := 0) (ks' := 0) (n := 3) d_Model_openChoice_249 ok_Model_go ml_Model_163 (by decide) rfl (Nat.le_of_ble_eq_true rfl) ⟨tw_842, ts_Model_go⟩ xg_0 rfl (ct_Model_go_0 h) (fun v w h => ?_)
              obtain ⟨i4, l4, a4, b4, rfl, rfl, h⟩ := h
              refine mm_eqs (st2 := []) rfl ?_
              exact mm_ret (M := M_Model_openChoice) ⟨rfl, d_Model_openChoice_252⟩ ⟨_, _, _, _, rfl, rfl, h⟩
            · have h := h.2 c
              refine mm_aload_n (M := M_Model_openChoice) d_Model_openChoice_198 rfl ?_
              refine mm_bipush (M := M_Model_openChoice) (v := 6) d_Model_openChoice_199 (by decide) ?_
              refine mm_iconst (M := M_Model_openChoice) (v := 0) d_Model_openChoice_201 (by decide) ?_
              refine mm_aload_n (M := M_Model_openChoice) d_Model_openChoice_202 rfl ?_
              refine mm_getf (M := M_Model_openChoice) (u := .int (i1 25)) 7 25 d_Model_openChoice_203 fl_Model_133 xg_0 rfl ?_
              refine mm_eqs (st2 := [.int 6, .int 0, .int (i1 25)].reverse ++ .ref 0 :: []) rfl ?_
              refine mm_callV (M := M_Model_openChoice) (y := y_Model_go) (M' := M_Model_go) (d' := 0) (kc := 0) (ks := 0) (kc' := 0) (ks' := 0) (n := 3) d_Model_openChoice_206 ok_Model_go ml_Model_163 (by decide) rfl (Nat.le_of_ble_eq_true rfl) ⟨tw_842, ts_Model_go⟩ xg_0 rfl (ct_Model_go_0 h) (fun v w h => ?_)
              obtain ⟨i5, l5, a5, b5, rfl, rfl, h⟩ := h
              refine mm_eqs (st2 := []) rfl ?_
              refine mm_goto (M := M_Model_openChoice) (tgt := 252) d_Model_openChoice_209 (by decide) ?_
              exact mm_ret (M := M_Model_openChoice) ⟨rfl, d_Model_openChoice_252⟩ ⟨_, _, _, _, rfl, rfl, h⟩
          · have h := h.2 c
            refine mm_aload_n (M := M_Model_openChoice) d_Model_openChoice_151 rfl ?_
            refine mm_bipush (M := M_Model_openChoice) (v := 9) d_Model_openChoice_152 (by decide) ?_
            refine mm_iconst (M := M_Model_openChoice) (v := 0) d_Model_openChoice_154 (by decide) ?_
            refine mm_aload_n (M := M_Model_openChoice) d_Model_openChoice_155 rfl ?_
            refine mm_getf (M := M_Model_openChoice) (u := .int (i 19)) 7 19 d_Model_openChoice_156 fl_Model_117 xg_0 rfl ?_
            refine mm_aload_n (M := M_Model_openChoice) d_Model_openChoice_159 rfl ?_
            refine mm_getf (M := M_Model_openChoice) (u := .int (i 25)) 7 25 d_Model_openChoice_160 fl_Model_133 xg_0 rfl ?_
            refine mm_eqs (st2 := [.int 9, .int 0, .int (i 19), .int (i 25)].reverse ++ .ref 0 :: []) rfl ?_
            refine mm_callV (M := M_Model_openChoice) (y := y_Model_push) (M' := M_Model_push) (d' := 0) (kc := 0) (ks := 0) (kc' := 0) (ks' := 0) (n := 4) d_Model_openChoice_163 ok_Model_push ml_Model_159 (by decide) rfl (Nat.le_of_ble_eq_true rfl) ⟨tw_871, ts_Model_push⟩ xg_0 rfl (ct_Model_push_0 h) (fun v w h => ?_)
            obtain ⟨r6, i6, l6, a6, b6, rfl, rfl, h⟩ := h
            refine mm_eqs (st2 := [.int r6]) rfl ?_
            refine mm_istore_n (M := M_Model_openChoice) d_Model_openChoice_166 (Nat.le_of_ble_eq_true rfl) ?_
            refine mm_eqL (L' := [some (.ref 0), some (.int z1), some (.int z2), some (.int r6)]) rfl ?_
            refine mm_aload_n (M := M_Model_openChoice) d_Model_openChoice_167 rfl ?_
            refine mm_iconst (M := M_Model_openChoice) (v := 5) d_Model_openChoice_168 (by decide) ?_
            refine mm_iconst (M := M_Model_openChoice) (v := 0) d_Model_openChoice_169 (by decide) ?_
            refine mm_aload_n (M := M_Model_openChoice) d_Model_openChoice_170 rfl ?_
            refine mm_getf (M := M_Model_openChoice) (u := .int (i6 25)) 7 25 d_Model_openChoice_171 fl_Model_133 xg_0 rfl ?_
            refine mm_eqs (st2 := [.int 5, .int 0, .int (i6 25)].reverse ++ .ref 0 :: []) rfl ?_
            refine mm_callV (M := M_Model_openChoice) (y := y_Model_pushBack) (M' := M_Model_pushBack) (d' := 0) (kc := 0) (ks := 0) (kc' := 0) (ks' := 0) (n := 3) d_Model_openChoice_174 ok_Model_pushBack ml_Model_167 (by decide) rfl (Nat.le_of_ble_eq_true rfl) ⟨tw_875, ts_Model_pushBack⟩ xg_0 rfl (ct_Model_pushBack_0 h) (fun v w h => ?_)
            obtain ⟨i7, l7, a7, b7, rfl, rfl, h⟩ := h
            refine mm_eqs (st2 := []) rfl ?_
            refine mm_aload_n (M := M_Model_openChoice) d_Model_openChoice_177 rfl ?_
            refine mm_iconst (M := M_Model_openChoice) (v := 1) d_Model_openChoice_178 (by decide) ?_
            refine mm_iload_n (M := M_Model_openChoice) d_Model_openChoice_179 rfl ?_
            refine mm_iconst (M := M_Model_openChoice) (v := 3) d_Model_openChoice_180 (by decide) ?_
            refine mm_iadd (M := M_Model_openChoice) d_Model_openChoice_181 ?_
            refine mm_iload_n (M := M_Model_openChoice) d_Model_openChoice_182 rfl ?_
            refine mm_eqs (st2 := [.int 1, .int (z1 + (3 : Int32)), .int r6].reverse ++ .ref 0 :: []) rfl ?_
            refine mm_callV (M := M_Model_openChoice) (y := y_Model_go) (M' := M_Model_go) (d' := 0) (kc := 0) (ks := 0) (kc' := 0) (ks' := 0) (n := 3) d_Model_openChoice_183 ok_Model_go ml_Model_163 (by decide) rfl (Nat.le_of_ble_eq_true rfl) ⟨tw_842, ts_Model_go⟩ xg_0 rfl (ct_Model_go_0 h) (fun v w h => ?_)
            obtain ⟨i8, l8, a8, b8, rfl, rfl, h⟩ := h
            refine mm_eqs (st2 := []) rfl ?_
            refine mm_goto (M := M_Model_openChoice) (tgt := 252) d_Model_openChoice_186 (by decide) ?_
            exact mm_ret (M := M_Model_openChoice) ⟨rfl, d_Model_openChoice_252⟩ ⟨_, _, _, _, rfl, rfl, h⟩
        · have h := h.2 c
          refine mm_aload_n (M := M_Model_openChoice) d_Model_openChoice_116 rfl ?_
          refine mm_iconst (M := M_Model_openChoice) (v := 1) d_Model_openChoice_117 (by decide) ?_
          refine mm_iload_n (M := M_Model_openChoice) d_Model_openChoice_118 rfl ?_
          refine mm_iconst (M := M_Model_openChoice) (v := 3) d_Model_openChoice_119 (by decide) ?_
          refine mm_iadd (M := M_Model_openChoice) d_Model_openChoice_120 ?_
          refine mm_aload_n (M := M_Model_openChoice) d_Model_openChoice_121 rfl ?_
          refine mm_bipush (M := M_Model_openChoice) (v := 8) d_Model_openChoice_122 (by decide) ?_
          refine mm_aload_n (M := M_Model_openChoice) d_Model_openChoice_124 rfl ?_
          refine mm_getf (M := M_Model_openChoice) (u := .int (i 24)) 7 24 d_Model_openChoice_125 fl_Model_120 xg_0 rfl ?_
          refine mm_aload_n (M := M_Model_openChoice) d_Model_openChoice_128 rfl ?_
          refine mm_getf (M := M_Model_openChoice) (u := .int (i 19)) 7 19 d_Model_openChoice_129 fl_Model_117 xg_0 rfl ?_
          refine mm_aload_n (M := M_Model_openChoice) d_Model_openChoice_132 rfl ?_
          refine mm_getf (M := M_Model_openChoice) (u := .int (i 25)) 7 25 d_Model_openChoice_133 fl_Model_133 xg_0 rfl ?_
          refine mm_eqs (st2 := [.int 8, .int (i 24), .int (i 19), .int (i 25)].reverse ++ .ref 0 :: [.int (z1 + (3 : Int32)), .int 1, .ref 0]) rfl ?_
          refine mm_callV (M := M_Model_openChoice) (y := y_Model_push) (M' := M_Model_push) (d' := 0) (kc := 0) (ks := 0) (kc' := 0) (ks' := 0) (n := 4) d_Model_openChoice_136 ok_Model_push ml_Model_159 (by decide) rfl (Nat.le_of_ble_eq_true rfl) ⟨tw_871, ts_Model_push⟩ xg_0 rfl (ct_Model_push_0 h) (fun v w h => ?_)
          obtain ⟨r9, i9, l9, a9, b9, rfl, rfl, h⟩ := h
          refine mm_eqs (st2 := [.int r9, .int (z1 + (3 : Int32)), .int 1, .ref 0]) rfl ?_
          refine mm_eqs (st2 := [.int 1, .int (z1 + (3 : Int32)), .int r9].reverse ++ .ref 0 :: []) rfl ?_
          refine mm_callV (M := M_Model_openChoice) (y := y_Model_go) (M' := M_Model_go) (d' := 0) (kc := 0) (ks := 0) (kc' := 0) (ks' := 0) (n := 3) d_Model_openChoice_139 ok_Model_go ml_Model_163 (by decide) rfl (Nat.le_of_ble_eq_true rfl) ⟨tw_842, ts_Model_go⟩ xg_0 rfl (ct_Model_go_0 h) (fun v w h => ?_)
          obtain ⟨i10, l10, a10, b10, rfl, rfl, h⟩ := h
          refine mm_eqs (st2 := []) rfl ?_
          refine mm_goto (M := M_Model_openChoice) (tgt := 252) d_Model_openChoice_142 (by decide) ?_
          exact mm_ret (M := M_Model_openChoice) ⟨rfl, d_Model_openChoice_252⟩ ⟨_, _, _, _, rfl, rfl, h⟩
      · have h := h.2 c
        refine mm_aload_n (M := M_Model_openChoice) d_Model_openChoice_84 rfl ?_
        refine mm_iconst (M := M_Model_openChoice) (v := 1) d_Model_openChoice_85 (by decide) ?_
        refine mm_iload_n (M := M_Model_openChoice) d_Model_openChoice_86 rfl ?_
        refine mm_iconst (M := M_Model_openChoice) (v := 3) d_Model_openChoice_87 (by decide) ?_
        refine mm_iadd (M := M_Model_openChoice) d_Model_openChoice_88 ?_
        refine mm_aload_n (M := M_Model_openChoice) d_Model_openChoice_89 rfl ?_
        refine mm_bipush (M := M_Model_openChoice) (v := 7) d_Model_openChoice_90 (by decide) ?_
        refine mm_iconst (M := M_Model_openChoice) (v := 0) d_Model_openChoice_92 (by decide) ?_
        refine mm_aload_n (M := M_Model_openChoice) d_Model_openChoice_93 rfl ?_
        refine mm_getf (M := M_Model_openChoice) (u := .int (i 19)) 7 19 d_Model_openChoice_94 fl_Model_117 xg_0 rfl ?_
        refine mm_aload_n (M := M_Model_openChoice) d_Model_openChoice_97 rfl ?_
        refine mm_getf (M := M_Model_openChoice) (u := .int (i 25)) 7 25 d_Model_openChoice_98 fl_Model_133 xg_0 rfl ?_
        refine mm_eqs (st2 := [.int 7, .int 0, .int (i 19), .int (i 25)].reverse ++ .ref 0 :: [.int (z1 + (3 : Int32)), .int 1, .ref 0]) rfl ?_
        refine mm_callV (M := M_Model_openChoice) (y := y_Model_push) (M' := M_Model_push) (d' := 0) (kc := 0) (ks := 0) (kc' := 0) (ks' := 0) (n := 4) d_Model_openChoice_101 ok_Model_push ml_Model_159 (by decide) rfl (Nat.le_of_ble_eq_true rfl) ⟨tw_871, ts_Model_push⟩ xg_0 rfl (ct_Model_push_0 h) (fun v w h => ?_)
        obtain ⟨r11, i11, l11, a11, b11, rfl, rfl, h⟩ := h
        refine mm_eqs (st2 := [.int r11, .int (z1 + (3 : Int32)), .int 1, .ref 0]) rfl ?_
        refine mm_eqs (st2 := [.int 1, .int (z1 + (3 : Int32)), .int r11].reverse ++ .ref 0 :: []) rfl ?_
        refine mm_callV (M := M_Model_openChoice) (y := y_Model_go) (M' := M_Model_go) (d' := 0) (kc := 0) (ks := 0) (kc' := 0) (ks' := 0) (n := 3) d_Model_openChoice_104 ok_Model_go ml_Model_163 (by decide) rfl (Nat.le_of_ble_eq_true rfl) ⟨tw_842, ts_Model_go⟩ xg_0 rfl (ct_Model_go_0 h) (fun v w h => ?_)
        obtain ⟨i12, l12, a12, b12, rfl, rfl, h⟩ := h
        refine mm_eqs (st2 := []) rfl ?_
        refine mm_goto (M := M_Model_openChoice) (tgt := 252) d_Model_openChoice_107 (by decide) ?_
        exact mm_ret (M := M_Model_openChoice) ⟨rfl, d_Model_openChoice_252⟩ ⟨_, _, _, _, rfl, rfl, h⟩
    · have h := h.2 c
      refine mm_aload_n (M := M_Model_openChoice) d_Model_openChoice_63 rfl ?_
      refine mm_iconst (M := M_Model_openChoice) (v := 1) d_Model_openChoice_64 (by decide) ?_
      refine mm_iload_n (M := M_Model_openChoice) d_Model_openChoice_65 rfl ?_
      refine mm_iconst (M := M_Model_openChoice) (v := 3) d_Model_openChoice_66 (by decide) ?_
      refine mm_iadd (M := M_Model_openChoice) d_Model_openChoice_67 ?_
      refine mm_aload_n (M := M_Model_openChoice) d_Model_openChoice_68 rfl ?_
      refine mm_getf (M := M_Model_openChoice) (u := .int (i 25)) 7 25 d_Model_openChoice_69 fl_Model_133 xg_0 rfl ?_
      refine mm_eqs (st2 := [.int 1, .int (z1 + (3 : Int32)), .int (i 25)].reverse ++ .ref 0 :: []) rfl ?_
      refine mm_callV (M := M_Model_openChoice) (y := y_Model_go) (M' := M_Model_go) (d' := 0) (kc := 0) (ks := 0) (kc' := 0) (ks' := 0) (n := 3) d_Model_openChoice_72 ok_Model_go ml_Model_163 (by decide) rfl (Nat.le_of_ble_eq_true rfl) ⟨tw_842, ts_Model_go⟩ xg_0 rfl (ct_Model_go_0 h) (fun v w h => ?_)
      obtain ⟨i13, l13, a13, b13, rfl, rfl, h⟩ := h
      refine mm_eqs (st2 := []) rfl ?_
      refine mm_goto (M := M_Model_openChoice) (tgt := 252) d_Model_openChoice_75 (by decide) ?_
      exact mm_ret (M := M_Model_openChoice) ⟨rfl, d_Model_openChoice_252⟩ ⟨_, _, _, _, rfl, rfl, h⟩
  · have h := h.2 c
    refine mm_aload_n (M := M_Model_openChoice) d_Model_openChoice_28 rfl ?_
    refine mm_iconst (M := M_Model_openChoice) (v := 1) d_Model_openChoice_29 (by decide) ?_
    refine mm_iload_n (M := M_Model_openChoice) d_Model_openChoice_30 rfl ?_
    refine mm_iconst (M := M_Model_openChoice) (v := 1) d_Model_openChoice_31 (by decide) ?_
    refine mm_iadd (M := M_Model_openChoice) d_Model_openChoice_32 ?_
    refine mm_aload_n (M := M_Model_openChoice) d_Model_openChoice_33 rfl ?_
    refine mm_iconst (M := M_Model_openChoice) (v := 2) d_Model_openChoice_34 (by decide) ?_
    refine mm_aload_n (M := M_Model_openChoice) d_Model_openChoice_35 rfl ?_
    refine mm_iload_n (M := M_Model_openChoice) d_Model_openChoice_36 rfl ?_
    refine mm_eqs (st2 := [.int z1].reverse ++ .ref 0 :: [.int 2, .ref 0, .int (z1 + (1 : Int32)), .int 1, .ref 0]) rfl ?_
    refine mm_callV (M := M_Model_openChoice) (y := y_Model_groupAt) (M' := M_Model_groupAt) (d' := 1) (kc := 0) (ks := 0) (kc' := 0) (ks' := 0) (n := 1) d_Model_openChoice_37 ok_Model_groupAt ml_Model_156 (by decide) rfl (Nat.le_of_ble_eq_true rfl) ⟨tw_891, ts_Model_groupAt⟩ xg_0 rfl (ct_Model_groupAt_0 h) (fun v w h => ?_)
    obtain ⟨r14, i14, l14, a14, b14, rfl, rfl, h⟩ := h
    refine mm_eqs (st2 := [.int r14, .int 2, .ref 0, .int (z1 + (1 : Int32)), .int 1, .ref 0]) rfl ?_
    refine mm_aload_n (M := M_Model_openChoice) d_Model_openChoice_40 rfl ?_
    refine mm_getf (M := M_Model_openChoice) (u := .int (i14 24)) 7 24 d_Model_openChoice_41 fl_Model_120 xg_0 rfl ?_
    refine mm_aload_n (M := M_Model_openChoice) d_Model_openChoice_44 rfl ?_
    refine mm_getf (M := M_Model_openChoice) (u := .int (i14 25)) 7 25 d_Model_openChoice_45 fl_Model_133 xg_0 rfl ?_
    refine mm_eqs (st2 := [.int 2, .int r14, .int (i14 24), .int (i14 25)].reverse ++ .ref 0 :: [.int (z1 + (1 : Int32)), .int 1, .ref 0]) rfl ?_
    refine mm_callV (M := M_Model_openChoice) (y := y_Model_push) (M' := M_Model_push) (d' := 0) (kc := 0) (ks := 0) (kc' := 0) (ks' := 0) (n := 4) d_Model_openChoice_48 ok_Model_push ml_Model_159 (by decide) rfl (Nat.le_of_ble_eq_true rfl) ⟨tw_871, ts_Model_push⟩ xg_0 rfl (ct_Model_push_0 h) (fun v w h => ?_)
    obtain ⟨r15, i15, l15, a15, b15, rfl, rfl, h⟩ := h
    refine mm_eqs (st2 := [.int r15, .int (z1 + (1 : Int32)), .int 1, .ref 0]) rfl ?_
    refine mm_eqs (st2 := [.int 1, .int (z1 + (1 : Int32)), .int r15].reverse ++ .ref 0 :: []) rfl ?_
    refine mm_callV (M := M_Model_openChoice) (y := y_Model_go) (M' := M_Model_go) (d' := 0) (kc := 0) (ks := 0) (kc' := 0) (ks' := 0) (n := 3) d_Model_openChoice_51 ok_Model_go ml_Model_163 (by decide) rfl (Nat.le_of_ble_eq_true rfl) ⟨tw_842, ts_Model_go⟩ xg_0 rfl (ct_Model_go_0 h) (fun v w h => ?_)
    obtain ⟨i16, l16, a16, b16, rfl, rfl, h⟩ := h
    refine mm_eqs (st2 := []) rfl ?_
    refine mm_goto (M := M_Model_openChoice) (tgt := 252) d_Model_openChoice_54 (by decide) ?_
    exact mm_ret (M := M_Model_openChoice) ⟨rfl, d_Model_openChoice_252⟩ ⟨_, _, _, _, rfl, rfl, h⟩
def wp_Model_openChoice_0 (i : mm_i) (l : mm_j) (a : mm_a) (b : mm_b) (x1 : Int32) (K : mm_i → mm_j → mm_a → mm_b → Prop) : Prop :=
  wp_Model_t_0 i l a b (x1 + (1 : Int32)) (fun r1 i1 l1 a1 b1 => (¬ r1 = (63 : Int32) → wq_Model_openChoice_0_24 K i1 l1 a1 b1 x1 0) ∧ (r1 = (63 : Int32) → wp_Model_t_0 i1 l1 a1 b1 (x1 + (2 : Int32)) (fun r2 i2 l2 a2 b2 => wq_Model_openChoice_0_24 K i2 l2 a2 b2 x1 r2)))
set_option maxRecDepth 100000 in
set_option maxHeartbeats 4000000 in
theorem ct_Model_openChoice_0 {i : mm_i} {l : mm_j} {a : mm_a} {b : mm_b} {t : mm_H} {x1 : Int32} {K : mm_i → mm_j → mm_a → mm_b → Prop} (h : wp_Model_openChoice_0 i l a b x1 K) : mm_Ct y_Model_openChoice M_Model_openChoice 2 0 0 [.ref 0, .int x1] (Wm i l a b ++ t) (mx_PV t K) := by
  refine mm_Ct.of (by decide) rfl (fun q => absurd q (by decide)) (Nat.le_of_ble_eq_true rfl) ?_
  unfold wp_Model_openChoice_0 at h
  refine mm_eqL (L' := [some (.ref 0), some (.int x1), none, none]) rfl ?_
  refine mm_aload_n (M := M_Model_openChoice) d_Model_openChoice_0 rfl ?_
  refine mm_iload_n (M := M_Model_openChoice) d_Model_openChoice_1 rfl ?_
  refine mm_iconst (M := M_Model_openChoice) (v := 1) d_Model_openChoice_2 (by decide) ?_
  refine mm_iadd (M := M_Model_openChoice) d_Model_openChoice_3 ?_
  refine mm_eqs (st2 := [.int (x1 + (1 : Int32))].reverse ++ .ref 0 :: []) rfl ?_
  refine mm_callV (M := M_Model_openChoice) (y := y_Model_t) (M' := M_Model_t) (d' := 0) (kc := 0) (ks := 0) (kc' := 0) (ks' := 0) (n := 1) d_Model_openChoice_4 ok_Model_t ml_Model_102 (by decide) rfl (Nat.le_of_ble_eq_true rfl) ⟨tw_855, ts_Model_t⟩ xg_0 rfl (ct_Model_t_0 h) (fun v w h => ?_)
  obtain ⟨r1, i1, l1, a1, b1, rfl, rfl, h⟩ := h
  refine mm_eqs (st2 := [.int r1]) rfl ?_
  refine mm_bipush (M := M_Model_openChoice) (v := 63) d_Model_openChoice_7 (by decide) ?_
  refine mm_icmp_ne (M := M_Model_openChoice) 22 d_Model_openChoice_9 (by decide) (fun c => ?_) (fun c => ?_)
  · have h := h.1 c
    refine mm_iconst (M := M_Model_openChoice) (v := 0) d_Model_openChoice_22 (by decide) ?_
    refine mm_istore_n (M := M_Model_openChoice) d_Model_openChoice_23 (Nat.le_of_ble_eq_true rfl) ?_
    refine mm_eqL (L' := [some (.ref 0), some (.int x1), some (.int 0), none]) rfl ?_
    refine mm_drop (L' := [some (.ref 0), some (.int x1), some (.int 0), none]) ⟨rfl, ⟨rfl, ⟨rfl, trivial⟩⟩⟩ ?_
    exact vq_Model_openChoice_0_24 h
  · have h := h.2 c
    refine mm_aload_n (M := M_Model_openChoice) d_Model_openChoice_12 rfl ?_
    refine mm_iload_n (M := M_Model_openChoice) d_Model_openChoice_13 rfl ?_
    refine mm_iconst (M := M_Model_openChoice) (v := 2) d_Model_openChoice_14 (by decide) ?_
    refine mm_iadd (M := M_Model_openChoice) d_Model_openChoice_15 ?_
    refine mm_eqs (st2 := [.int (x1 + (2 : Int32))].reverse ++ .ref 0 :: []) rfl ?_
    refine mm_callV (M := M_Model_openChoice) (y := y_Model_t) (M' := M_Model_t) (d' := 0) (kc := 0) (ks := 0) (kc' := 0) (ks' := 0) (n := 1) d_Model_openChoice_16 ok_Model_t ml_Model_102 (by decide) rfl (Nat.le_of_ble_eq_true rfl) ⟨tw_855, ts_Model_t⟩ xg_0 rfl (ct_Model_t_0 h) (fun v w h => ?_)
    obtain ⟨r2, i2, l2, a2, b2, rfl, rfl, h⟩ := h
    refine mm_eqs (st2 := [.int r2]) rfl ?_
    refine mm_goto (M := M_Model_openChoice) (tgt := 23) d_Model_openChoice_19 (by decide) ?_
    refine mm_istore_n (M := M_Model_openChoice) d_Model_openChoice_23 (Nat.le_of_ble_eq_true rfl) ?_
    refine mm_eqL (L' := [some (.ref 0), some (.int x1), some (.int r2), none]) rfl ?_
    refine mm_drop (L' := [some (.ref 0), some (.int x1), some (.int r2), none]) ⟨rfl, ⟨rfl, ⟨rfl, trivial⟩⟩⟩ ?_
    exact vq_Model_openChoice_0_24 h
def wq_Model_item_0_324 (K : mm_i → mm_j → mm_a → mm_b → Prop) (i : mm_i) (l : mm_j) (a : mm_a) (b : mm_b) (z1 : Int32) (z6 : Int32) (z8 : Int32) : Prop :=
  (¬ z6 = (63 : Int32) → wp_Model_go_0 i l a b 2 z1 z8 (fun i1 l1 a1 b1 => K i1 l1 a1 b1)) ∧ (z6 = (63 : Int32) → wp_Model_go_0 i l a b 5 z1 z8 (fun i2 l2 a2 b2 => K i2 l2 a2 b2))
set_option maxRecDepth 100000 in
set_option maxHeartbeats 4000000 in
theorem vq_Model_item_0_324 {k0 : Nat} {t : mm_H} {K : mm_i → mm_j → mm_a → mm_b → Prop} {i : mm_i} {l : mm_j} {a : mm_a} {b : mm_b} {z1 : Int32} {z6 : Int32} {z8 : Int32} (h : wq_Model_item_0_324 K i l a b z1 z6 z8) : mm_V M_Model_item 2 k0 (mx_PV t K) 0 0 324 [some (.ref 0), some (.int z1), none, none, none, none, some (.int z6), none, some (.int z8)] [] (Wm i l a b ++ t) := by
  unfold wq_Model_item_0_324 at h
  refine mm_aload_n (M := M_Model_item) d_Model_item_324 rfl ?_
  refine mm_iload (M := M_Model_item) d_Model_item_325 rfl ?_
  refine mm_bipush (M := M_Model_item) (v := 63) d_Model_item_327 (by decide) ?_
  refine mm_icmp_ne (M := M_Model_item) 336 d_Model_item_329 (by decide) (fun c => ?_) (fun c => ?_)
  · have h := h.1 c
    refine mm_iconst (M := M_Model_item) (v := 2) d_Model_item_336 (by decide) ?_
    refine mm_iload_n (M := M_Model_item) d_Model_item_337 rfl ?_
    refine mm_iload (M := M_Model_item) d_Model_item_338 rfl ?_
    refine mm_eqs (st2 := [.int 2, .int z1, .int z8].reverse ++ .ref 0 :: []) rfl ?_
    refine mm_callV (M := M_Model_item) (y := y_Model_go) (M' := M_Model_go) (d' := 0) (kc := 0) (ks := 0) (kc' := 0) (ks' := 0) (n := 3) d_Model_item_340 ok_Model_go ml_Model_163 (by decide) rfl (Nat.le_of_ble_eq_true rfl) ⟨tw_842, ts_Model_go⟩ xg_0 rfl (ct_Model_go_0 h) (fun v w h => ?_)
    obtain ⟨i1, l1, a1, b1, rfl, rfl, h⟩ := h
    refine mm_eqs (st2 := []) rfl ?_
    exact mm_ret (M := M_Model_item) ⟨rfl, d_Model_item_343⟩ ⟨_, _, _, _, rfl, rfl, h⟩
  · have h := h.2 c
    refine mm_iconst (M := M_Model_item) (v := 5) d_Model_item_332 (by decide) ?_
    refine mm_goto (M := M_Model_item) (tgt := 337) d_Model_item_333 (by decide) ?_
    refine mm_iload_n (M := M_Model_item) d_Model_item_337 rfl ?_
    refine mm_iload (M := M_Model_item) d_Model_item_338 rfl ?_
    refine mm_eqs (st2 := [.int 5, .int z1, .int z8].reverse ++ .ref 0 :: []) rfl ?_
    refine mm_callV (M := M_Model_item) (y := y_Model_go) (M' := M_Model_go) (d' := 0) (kc := 0) (ks := 0) (kc' := 0) (ks' := 0) (n := 3) d_Model_item_340 ok_Model_go ml_Model_163 (by decide) rfl (Nat.le_of_ble_eq_true rfl) ⟨tw_842, ts_Model_go⟩ xg_0 rfl (ct_Model_go_0 h) (fun v w h => ?_)
    obtain ⟨i2, l2, a2, b2, rfl, rfl, h⟩ := h
    refine mm_eqs (st2 := []) rfl ?_
    exact mm_ret (M := M_Model_item) ⟨rfl, d_Model_item_343⟩ ⟨_, _, _, _, rfl, rfl, h⟩
def wq_Model_item_0_190 (K : mm_i → mm_j → mm_a → mm_b → Prop) (i : mm_i) (l : mm_j) (a : mm_a) (b : mm_b) (z1 : Int32) (z2 : Int32) (z3 : Int32) (z4 : Int32) (z6 : Int32) (z8 : Int32) : Prop :=
  (¬ z4 = 0 → (¬ z3 = (42 : Int32) → (¬ z3 = (43 : Int32) → (¬ z3 = (123 : Int32) → (¬ z6 = (63 : Int32) → wp_Model_pushBack_0 i l a b 5 z1 z8 (fun i1 l1 a1 b1 => wq_Model_item_0_324 K i1 l1 a1 b1 z1 z6 z8)) ∧ (z6 = (63 : Int32) → wp_Model_pushBack_0 i l a b 2 z1 z8 (fun i2 l2 a2 b2 => wq_Model_item_0_324 K i2 l2 a2 b2 z1 z6 z8))) ∧ (z3 = (123 : Int32) → wp_Model_t_0 i l a b (z2 + (1 : Int32)) (fun r3 i3 l3 a3 b3 => wp_Model_push_0 i3 l3 a3 b3 6 z1 (r3 - (49 : Int32)) z8 (fun r4 i4 l4 a4 b4 => wp_Model_go_0 i4 l4 a4 b4 2 z1 r4 (fun i5 l5 a5 b5 => K i5 l5 a5 b5))))) ∧ (z3 = (43 : Int32) → (¬ z6 = (63 : Int32) → wp_Model_push_0 i l a b 10 z1 0 z8 (fun r6 i6 l6 a6 b6 => wp_Model_go_0 i6 l6 a6 b6 2 z1 r6 (fun i7 l7 a7 b7 => K i7 l7 a7 b7))) ∧ (z6 = (63 : Int32) → wp_Model_push_0 i l a b 11 z1 0 z8 (fun r8 i8 l8 a8 b8 => wp_Model_go_0 i8 l8 a8 b8 2 z1 r8 (fun i9 l9 a9 b9 => K i9 l9 a9 b9))))) ∧ (z3 = (42 : Int32) → (¬ z6 = (63 : Int32) → wp_Model_go_0 i l a b 3 z1 z8 (fun i10 l10 a10 b10 => K i10 l10 a10 b10)) ∧ (z6 = (63 : Int32) → wp_Model_go_0 i l a b 4 z1 z8 (fun i11 l11 a11 b11 => K i11 l11 a11 b11)))) ∧ (z4 = 0 → wp_Model_go_0 i l a b 2 z1 z8 (fun i12 l12 a12 b12 => K i12 l12 a12 b12))
set_option maxRecDepth 100000 in
set_option maxHeartbeats 4000000 in
theorem vq_Model_item_0_190 {k0 : Nat} {t : mm_H} {K : mm_i → mm_j → mm_a → mm_b → Prop} {i : mm_i} {l : mm_j} {a : mm_a} {b : mm_b} {z1 : Int32} {z2 : Int32} {z3 : Int32} {z4 : Int32} {z6 : Int32} {z8 : Int32} (h : wq_Model_item_0_190 K i l a b z1 z2 z3 z4 z6 z8) : mm_V M_Model_item 2 k0 (mx_PV t K) 0 0 190 [some (.ref 0), some (.int z1), some (.int z2), some (.int z3), some (.int z4), none, some (.int z6), none, some (.int z8)] [] (Wm i l a b ++ t) := by
  unfold wq_Model_item_0_190 at h
  refine mm_iload (M := M_Model_item) d_Model_item_190 rfl ?_
  refine mm_if_ne (M := M_Model_item) 206 d_Model_item_192 (by decide) (fun c => ?_) (fun c => ?_)
  · have h := h.1 c
    refine mm_iload_n (M := M_Model_item) d_Model_item_206 rfl ?_
    refine mm_bipush (M := M_Model_item) (v := 42) d_Model_item_207 (by decide) ?_
    refine mm_icmp_ne (M := M_Model_item) 234 d_Model_item_209 (by decide) (fun c => ?_) (fun c => ?_)
    · have h := h.1 c
      refine mm_iload_n (M := M_Model_item) d_Model_item_234 rfl ?_
      refine mm_bipush (M := M_Model_item) (v := 43) d_Model_item_235 (by decide) ?_
      refine mm_icmp_ne (M := M_Model_item) 271 d_Model_item_237 (by decide) (fun c => ?_) (fun c => ?_)
      · have h := h.1 c
        refine mm_iload_n (M := M_Model_item) d_Model_item_271 rfl ?_
        refine mm_bipush (M := M_Model_item) (v := 123) d_Model_item_272 (by decide) ?_
        refine mm_icmp_ne (M := M_Model_item) 305 d_Model_item_274 (by decide) (fun c => ?_) (fun c => ?_)
        · have h := h.1 c
          refine mm_aload_n (M := M_Model_item) d_Model_item_305 rfl ?_
          refine mm_iload (M := M_Model_item) d_Model_item_306 rfl ?_
          refine mm_bipush (M := M_Model_item) (v := 63) d_Model_item_308 (by decide) ?_
          refine mm_icmp_ne (M := M_Model_item) 317 d_Model_item_310 (by decide) (fun c => ?_) (fun c => ?_)
          · have h := h.1 c
            refine mm_iconst (M := M_Model_item) (v := 5) d_Model_item_317 (by decide) ?_
            refine mm_iload_n (M := M_Model_item) d_Model_item_318 rfl ?_
            refine mm_iload (M := M_Model_item) d_Model_item_319 rfl ?_
            refine mm_eqs (st2 := [.int 5, .int z1, .int z8].reverse ++ .ref 0 :: []) rfl ?_
            refine mm_callV (M := M_Model_item) (y := y_Model_pushBack) (M' := M_Model_pushBack) (d' := 0) (kc := 0) (ks := 0) (kc' := 0) (ks' := 0) (n := 3) d_Model_item_321 ok_Model_pushBack ml_Model_167 (by decide) rfl (Nat.le_of_ble_eq_true rfl) ⟨tw_875, ts_Model_pushBack⟩ xg_0 rfl (ct_Model_pushBack_0 h) (fun v w h => ?_)
            obtain ⟨i1, l1, a1, b1, rfl, rfl, h⟩ := h
            refine mm_eqs (st2 := []) rfl ?_
            refine mm_drop (L' := [some (.ref 0), some (.int z1), none, none, none, none, some (.int z6), none, some (.int z8)]) ⟨rfl, ⟨rfl, ⟨rfl, ⟨rfl, trivial⟩⟩⟩⟩ ?_
            exact vq_Model_item_0_324 h
          · have h := h.2 c
            refine mm_iconst (M := M_Model_item) (v := 2) d_Model_item_313 (by decide) ?_
            refine mm_goto (M := M_Model_item) (tgt := 318) d_Model_item_314 (by decide) ?_
            refine mm_iload_n (M := M_Model_item) d_Model_item_318 rfl ?_
            refine mm_iload (M := M_Model_item) d_Model_item_319 rfl ?_
            refine mm_eqs (st2 := [.int 2, .int z1, .int z8].reverse ++ .ref 0 :: []) rfl ?_
            refine mm_callV (M := M_Model_item) (y := y_Model_pushBack) (M' := M_Model_pushBack) (d' := 0) (kc := 0) (ks := 0) (kc' := 0) (ks' := 0) (n := 3) d_Model_item_321 ok_Model_pushBack ml_Model_167 (by decide) rfl (Nat.le_of_ble_eq_true rfl) ⟨tw_875, ts_Model_pushBack⟩ xg_0 rfl (ct_Model_pushBack_0 h) (fun v w h => ?_)
            obtain ⟨i2, l2, a2, b2, rfl, rfl, h⟩ := h
            refine mm_eqs (st2 := []) rfl ?_
            refine mm_drop (L' := [some (.ref 0), some (.int z1), none, none, none, none, some (.int z6), none, some (.int z8)]) ⟨rfl, ⟨rfl, ⟨rfl, ⟨rfl, trivial⟩⟩⟩⟩ ?_
            exact vq_Model_item_0_324 h
        · have h := h.2 c
          refine mm_aload_n (M := M_Model_item) d_Model_item_277 rfl ?_
          refine mm_iconst (M := M_Model_item) (v := 2) d_Model_item_278 (by decide) ?_
          refine mm_iload_n (M := M_Model_item) d_Model_item_279 rfl ?_
          refine mm_aload_n (M := M_Model_item) d_Model_item_280 rfl ?_
          refine mm_bipush (M := M_Model_item) (v := 6) d_Model_item_281 (by decide) ?_
          refine mm_iload_n (M := M_Model_item) d_Model_item_283 rfl ?_
          refine mm_aload_n (M := M_Model_item) d_Model_item_284 rfl ?_
          refine mm_iload_n (M := M_Model_item) d_Model_item_285 rfl ?_
          refine mm_iconst (M := M_Model_item) (v := 1) d_Model_item_286 (by decide) ?_
          refine mm_iadd (M := M_Model_item) d_Model_item_287 ?_
          refine mm_eqs (st2 := [.int (z2 + (1 : Int32))].reverse ++ .ref 0 :: [.int z1, .int 6, .ref 0, .int z1, .int 2, .ref 0]) rfl ?_
          refine mm_callV (M := M_Model_item) (y := y_Model_t) (M' := M_Model_t) (d' := 0) (kc := 0) (ks := 0) (kc' := 0) (ks' := 0) (n := 1) d_Model_item_288 ok_Model_t ml_Model_102 (by decide) rfl (Nat.le_of_ble_eq_true rfl) ⟨tw_855, ts_Model_t⟩ xg_0 rfl (ct_Model_t_0 h) (fun v w h => ?_)
          obtain ⟨r3, i3, l3, a3, b3, rfl, rfl, h⟩ := h
          refine mm_eqs (st2 := [.int r3, .int z1, .int 6, .ref 0, .int z1, .int 2, .ref 0]) rfl ?_
          refine mm_bipush (M := M_Model_item) (v := 49) d_Model_item_291 (by decide) ?_
          refine mm_isub (M := M_Model_item) d_Model_item_293 ?_
          refine mm_iload (M := M_Model_item) d_Model_item_294 rfl ?_
          refine mm_eqs (st2 := [.int 6, .int z1, .int (r3 - (49 : Int32)), .int z8].reverse ++ .ref 0 :: [.int z1, .int 2, .ref 0]) rfl ?_
          refine mm_callV (M := M_Model_item) (y := y_Model_push) (M' := M_Model_push) (d' := 0) (kc := 0) (ks := 0) (kc' := 0) (ks' := 0) (n := 4) d_Model_item_296 ok_Model_push ml_Model_159 (by decide) rfl (Nat.le_of_ble_eq_true rfl) ⟨tw_871, ts_Model_push⟩ xg_0 rfl (ct_Model_push_0 h) (fun v w h => ?_)
          obtain ⟨r4, i4, l4, a4, b4, rfl, rfl, h⟩ := h
          refine mm_eqs (st2 := [.int r4, .int z1, .int 2, .ref 0]) rfl ?_
          refine mm_eqs (st2 := [.int 2, .int z1, .int r4].reverse ++ .ref 0 :: []) rfl ?_
          refine mm_callV (M := M_Model_item) (y := y_Model_go) (M' := M_Model_go) (d' := 0) (kc := 0) (ks := 0) (kc' := 0) (ks' := 0) (n := 3) d_Model_item_299 ok_Model_go ml_Model_163 (by decide) rfl (Nat.le_of_ble_eq_true rfl) ⟨tw_842, ts_Model_go⟩ xg_0 rfl (ct_Model_go_0 h) (fun v w h => ?_)
          obtain ⟨i5, l5, a5, b5, rfl, rfl, h⟩ := h
          refine mm_eqs (st2 := []) rfl ?_
          refine mm_goto (M := M_Model_item) (tgt := 343) d_Model_item_302 (by decide) ?_
          exact mm_ret (M := M_Model_item) ⟨rfl, d_Model_item_343⟩ ⟨_, _, _, _, rfl, rfl, h⟩
      · have h := h.2 c
        refine mm_aload_n (M := M_Model_item) d_Model_item_240 rfl ?_
        refine mm_iconst (M := M_Model_item) (v := 2) d_Model_item_241 (by decide) ?_
        refine mm_iload_n (M := M_Model_item) d_Model_item_242 rfl ?_
        refine mm_aload_n (M := M_Model_item) d_Model_item_243 rfl ?_
        refine mm_iload (M := M_Model_item) d_Model_item_244 rfl ?_
        refine mm_bipush (M := M_Model_item) (v := 63) d_Model_item_246 (by decide) ?_
        refine mm_icmp_ne (M := M_Model_item) 256 d_Model_item_248 (by decide) (fun c => ?_) (fun c => ?_)
        · have h := h.1 c
          refine mm_bipush (M := M_Model_item) (v := 10) d_Model_item_256 (by decide) ?_
          refine mm_iload_n (M := M_Model_item) d_Model_item_258 rfl ?_
          refine mm_iconst (M := M_Model_item) (v := 0) d_Model_item_259 (by decide) ?_
          refine mm_iload (M := M_Model_item) d_Model_item_260 rfl ?_
          refine mm_eqs (st2 := [.int 10, .int z1, .int 0, .int z8].reverse ++ .ref 0 :: [.int z1, .int 2, .ref 0]) rfl ?_
          refine mm_callV (M := M_Model_item) (y := y_Model_push) (M' := M_Model_push) (d' := 0) (kc := 0) (ks := 0) (kc' := 0) (ks' := 0) (n := 4) d_Model_item_262 ok_Model_push ml_Model_159 (by decide) rfl (Nat.le_of_ble_eq_true rfl) ⟨tw_871, ts_Model_push⟩ xg_0 rfl (ct_Model_push_0 h) (fun v w h => ?_)
          obtain ⟨r6, i6, l6, a6, b6, rfl, rfl, h⟩ := h
          refine mm_eqs (st2 := [.int r6, .int z1, .int 2, .ref 0]) rfl ?_
          refine mm_eqs (st2 := [.int 2, .int z1, .int r6].reverse ++ .ref 0 :: []) rfl ?_
          refine mm_callV (M := M_Model_item) (y := y_Model_go) (M' := M_Model_go) (d' := 0) (kc := 0) (ks := 0) (kc' := 0) (ks' := 0) (n := 3) d_Model_item_265 ok_Model_go ml_Model_163 (by decide) rfl (Nat.le_of_ble_eq_true rfl) ⟨tw_842, ts_Model_go⟩ xg_0 rfl (ct_Model_go_0 h) (fun v w h => ?_)
          obtain ⟨i7, l7, a7, b7, rfl, rfl, h⟩ := h
          refine mm_eqs (st2 := []) rfl ?_
          refine mm_goto (M := M_Model_item) (tgt := 343) d_Model_item_268 (by decide) ?_
          exact mm_ret (M := M_Model_item) ⟨rfl, d_Model_item_343⟩ ⟨_, _, _, _, rfl, rfl, h⟩
        · have h := h.2 c
          refine mm_bipush (M := M_Model_item) (v := 11) d_Model_item_251 (by decide) ?_
          refine mm_goto (M := M_Model_item) (tgt := 258) d_Model_item_253 (by decide) ?_
          refine mm_iload_n (M := M_Model_item) d_Model_item_258 rfl ?_
          refine mm_iconst (M := M_Model_item) (v := 0) d_Model_item_259 (by decide) ?_
          refine mm_iload (M := M_Model_item) d_Model_item_260 rfl ?_
          refine mm_eqs (st2 := [.int 11, .int z1, .int 0, .int z8].reverse ++ .ref 0 :: [.int z1, .int 2, .ref 0]) rfl ?_
          refine mm_callV (M := M_Model_item) (y := y_Model_push) (M' := M_Model_push) (d' := 0) (kc := 0) (ks := 0) (kc' := 0) (ks' := 0) (n := 4) d_Model_item_262 ok_Model_push ml_Model_159 (by decide) rfl (Nat.le_of_ble_eq_true rfl) ⟨tw_871, ts_Model_push⟩ xg_0 rfl (ct_Model_push_0 h) (fun v w h => ?_)
          obtain ⟨r8, i8, l8, a8, b8, rfl, rfl, h⟩ := h
          refine mm_eqs (st2 := [.int r8, .int z1, .int 2, .ref 0]) rfl ?_
          refine mm_eqs (st2 := [.int 2, .int z1, .int r8].reverse ++ .ref 0 :: []) rfl ?_
          refine mm_callV (M := M_Model_item) (y := y_Model_go) (M' := M_Model_go) (d' := 0) (kc := 0) (ks := 0) (kc' := 0) (ks' := 0) (n := 3) d_Model_item_265 ok_Model_go ml_Model_163 (by decide) rfl (Nat.le_of_ble_eq_true rfl) ⟨tw_842, ts_Model_go⟩ xg_0 rfl (ct_Model_go_0 h) (fun v w h => ?_)
          obtain ⟨i9, l9, a9, b9, rfl, rfl, h⟩ := h
          refine mm_eqs (st2 := []) rfl ?_
          refine mm_goto (M := M_Model_item) (tgt := 343) d_Model_item_268 (by decide) ?_
          exact mm_ret (M := M_Model_item) ⟨rfl, d_Model_item_343⟩ ⟨_, _, _, _, rfl, rfl, h⟩
    · have h := h.2 c
      refine mm_aload_n (M := M_Model_item) d_Model_item_212 rfl ?_
      refine mm_iload (M := M_Model_item) d_Model_item_213 rfl ?_
      refine mm_bipush (M := M_Model_item) (v := 63) d_Model_item_215 (by decide) ?_
      refine mm_icmp_ne (M := M_Model_item) 224 d_Model_item_217 (by decide) (fun c => ?_) (fun c => ?_)
      · have h := h.1 c
        refine mm_iconst (M := M_Model_item) (v := 3) d_Model_item_224 (by decide) ?_
        refine mm_iload_n (M := M_Model_item) d_Model_item_225 rfl ?_
        refine mm_iload (M := M_Model_item) d_Model_item_226 rfl ?_
        refine mm_eqs (st2 := [.int 3, .int z1, .int z8].reverse ++ .ref 0 :: []) rfl ?_
        refine mm_callV (M := M_Model_item) (y := y_Model_go) (M' := M_Model_go) (d' := 0) (kc := 0) (ks := 0) (kc' := 0) (ks' := 0) (n := 3) d_Model_item_228 ok_Model_go ml_Model_163 (by decide) rfl (Nat.le_of_ble_eq_true rfl) ⟨tw_842, ts_Model_go⟩ xg_0 rfl (ct_Model_go_0 h) (fun v w h => ?_)
        obtain ⟨i10, l10, a10, b10, rfl, rfl, h⟩ := h
        refine mm_eqs (st2 := []) rfl ?_
        refine mm_goto (M := M_Model_item) (tgt := 343) d_Model_item_231 (by decide) ?_
        exact mm_ret (M := M_Model_item) ⟨rfl, d_Model_item_343⟩ ⟨_, _, _, _, rfl, rfl, h⟩
      · have h := h.2 c
        refine mm_iconst (M := M_Model_item) (v := 4) d_Model_item_220 (by decide) ?_
        refine mm_goto (M := M_Model_item) (tgt := 225) d_Model_item_221 (by decide) ?_
        refine mm_iload_n (M := M_Model_item) d_Model_item_225 rfl ?_
        refine mm_iload (M := M_Model_item) d_Model_item_226 rfl ?_
        refine mm_eqs (st2 := [.int 4, .int z1, .int z8].reverse ++ .ref 0 :: []) rfl ?_
        refine mm_callV (M := M_Model_item) (y := y_Model_go) (M' := M_Model_go) (d' := 0) (kc := 0) (ks := 0) (kc' := 0) (ks' := 0) (n := 3) d_Model_item_228 ok_Model_go ml_Model_163 (by decide) rfl (Nat.le_of_ble_eq_true rfl) ⟨tw_842, ts_Model_go⟩ xg_0 rfl (ct_Model_go_0 h) (fun v w h => ?_)
        obtain ⟨i11, l11, a11, b11, rfl, rfl, h⟩ := h
        refine mm_eqs (st2 := []) rfl ?_
        refine mm_goto (M := M_Model_item) (tgt := 343) d_Model_item_231 (by decide) ?_
        exact mm_ret (M := M_Model_item) ⟨rfl, d_Model_item_343⟩ ⟨_, _, _, _, rfl, rfl, h⟩
  · have h := h.2 c
    refine mm_aload_n (M := M_Model_item) d_Model_item_195 rfl ?_
    refine mm_iconst (M := M_Model_item) (v := 2) d_Model_item_196 (by decide) ?_
    refine mm_iload_n (M := M_Model_item) d_Model_item_197 rfl ?_
    refine mm_iload (M := M_Model_item) d_Model_item_198 rfl ?_
    refine mm_eqs (st2 := [.int 2, .int z1, .int z8].reverse ++ .ref 0 :: []) rfl ?_
    refine mm_callV (M := M_Model_item) (y := y_Model_go) (M' := M_Model_go) (d' := 0) (kc := 0) (ks := 0) (kc' := 0) (ks' := 0) (n := 3) d_Model_item_200 ok_Model_go ml_Model_163 (by decide) rfl (Nat.le_of_ble_eq_true rfl) ⟨tw_842, ts_Model_go⟩ xg_0 rfl (ct_Model_go_0 h) (fun v w h => ?_)
    obtain ⟨i12, l12, a12, b12, rfl, rfl, h⟩ := h
    refine mm_eqs (st2 := []) rfl ?_
    refine mm_goto (M := M_Model_item) (tgt := 343) d_Model_item_203 (by decide) ?_
    exact mm_ret (M := M_Model_item) ⟨rfl, d_Model_item_343⟩ ⟨_, _, _, _, rfl, rfl, h⟩
def wq_Model_item_0_154 (K : mm_i → mm_j → mm_a → mm_b → Prop) (i : mm_i) (l : mm_j) (a : mm_a) (b : mm_b) (z1 : Int32) (z2 : Int32) (z3 : Int32) (z4 : Int32) (z6 : Int32) (z7 : Int32) : Prop :=
  wp_Model_push_0 i l a b 1 z7 0 (i 25) (fun r1 i1 l1 a1 b1 => (¬ z6 = (43 : Int32) → wq_Model_item_0_190 K i1 l1 a1 b1 z1 z2 z3 z4 z6 r1) ∧ (z6 = (43 : Int32) → wp_Model_push_0 i1 l1 a1 b1 7 0 (i1 19) r1 (fun r2 i2 l2 a2 b2 => wq_Model_item_0_190 K i2 l2 a2 b2 z1 z2 z3 z4 z6 r2)))
set_option maxRecDepth 100000 in
set_option maxHeartbeats 4000000 in
theorem vq_Model_item_0_154 {k0 : Nat} {t : mm_H} {K : mm_i → mm_j → mm_a → mm_b → Prop} {i : mm_i} {l : mm_j} {a : mm_a} {b : mm_b} {z1 : Int32} {z2 : Int32} {z3 : Int32} {z4 : Int32} {z6 : Int32} {z7 : Int32} (h : wq_Model_item_0_154 K i l a b z1 z2 z3 z4 z6 z7) : mm_V M_Model_item 2 k0 (mx_PV t K) 0 0 154 [some (.ref 0), some (.int z1), some (.int z2), some (.int z3), some (.int z4), none, some (.int z6), some (.int z7), none] [] (Wm i l a b ++ t) := by
  unfold wq_Model_item_0_154 at h
  refine mm_aload_n (M := M_Model_item) d_Model_item_154 rfl ?_
  refine mm_iconst (M := M_Model_item) (v := 1) d_Model_item_155 (by decide) ?_
  refine mm_iload (M := M_Model_item) d_Model_item_156 rfl ?_
  refine mm_iconst (M := M_Model_item) (v := 0) d_Model_item_158 (by decide) ?_
  refine mm_aload_n (M := M_Model_item) d_Model_item_159 rfl ?_
  refine mm_getf (M := M_Model_item) (u := .int (i 25)) 7 25 d_Model_item_160 fl_Model_133 xg_0 rfl ?_
  refine mm_eqs (st2 := [.int 1, .int z7, .int 0, .int (i 25)].reverse ++ .ref 0 :: []) rfl ?_
  refine mm_callV (M := M_Model_item) (y := y_Model_push) (M' := M_Model_push) (d' := 0) (kc := 0) (ks := 0) (kc' := 0) (ks' := 0) (n := 4) d_Model_item_163 ok_Model_push ml_Model_159 (by decide) rfl (Nat.le_of_ble_eq_true rfl) ⟨tw_871, ts_Model_push⟩ xg_0 rfl (ct_Model_push_0 h) (fun v w h => ?_)
  obtain ⟨r1, i1, l1, a1, b1, rfl, rfl, h⟩ := h
  refine mm_eqs (st2 := [.int r1]) rfl ?_
  refine mm_istore (M := M_Model_item) d_Model_item_166 (Nat.le_of_ble_eq_true rfl) ?_
  refine mm_eqL (L' := [some (.ref 0), some (.int z1), some (.int z2), some (.int z3), some (.int z4), none, some (.int z6), some (.int z7), some (.int r1)]) rfl ?_
  refine mm_iload (M := M_Model_item) d_Model_item_168 rfl ?_
  refine mm_bipush (M := M_Model_item) (v := 43) d_Model_item_170 (by decide) ?_
  refine mm_icmp_ne (M := M_Model_item) 190 d_Model_item_172 (by decide) (fun c => ?_) (fun c => ?_)
  · have h := h.1 c
    refine mm_drop (L' := [some (.ref 0), some (.int z1), some (.int z2), some (.int z3), some (.int z4), none, some (.int z6), none, some (.int r1)]) ⟨rfl, ⟨rfl, ⟨rfl, ⟨rfl, ⟨rfl, ⟨rfl, ⟨rfl, trivial⟩⟩⟩⟩⟩⟩⟩ ?_
    exact vq_Model_item_0_190 h
  · have h := h.2 c
    refine mm_aload_n (M := M_Model_item) d_Model_item_175 rfl ?_
    refine mm_bipush (M := M_Model_item) (v := 7) d_Model_item_176 (by decide) ?_
    refine mm_iconst (M := M_Model_item) (v := 0) d_Model_item_178 (by decide) ?_
    refine mm_aload_n (M := M_Model_item) d_Model_item_179 rfl ?_
    refine mm_getf (M := M_Model_item) (u := .int (i1 19)) 7 19 d_Model_item_180 fl_Model_117 xg_0 rfl ?_
    refine mm_iload (M := M_Model_item) d_Model_item_183 rfl ?_
    refine mm_eqs (st2 := [.int 7, .int 0, .int (i1 19), .int r1].reverse ++ .ref 0 :: []) rfl ?_
    refine mm_callV (M := M_Model_item) (y := y_Model_push) (M' := M_Model_push) (d' := 0) (kc := 0) (ks := 0) (kc' := 0) (ks' := 0) (n := 4) d_Model_item_185 ok_Model_push ml_Model_159 (by decide) rfl (Nat.le_of_ble_eq_true rfl) ⟨tw_871, ts_Model_push⟩ xg_0 rfl (ct_Model_push_0 h) (fun v w h => ?_)
    obtain ⟨r2, i2, l2, a2, b2, rfl, rfl, h⟩ := h
    refine mm_eqs (st2 := [.int r2]) rfl ?_
    refine mm_istore (M := M_Model_item) d_Model_item_188 (Nat.le_of_ble_eq_true rfl) ?_
    refine mm_eqL (L' := [some (.ref 0), some (.int z1), some (.int z2), some (.int z3), some (.int z4), none, some (.int z6), some (.int z7), some (.int r2)]) rfl ?_
    refine mm_drop (L' := [some (.ref 0), some (.int z1), some (.int z2), some (.int z3), some (.int z4), none, some (.int z6), none, some (.int r2)]) ⟨rfl, ⟨rfl, ⟨rfl, ⟨rfl, ⟨rfl, ⟨rfl, ⟨rfl, trivial⟩⟩⟩⟩⟩⟩⟩ ?_
    exact vq_Model_item_0_190 h
def wq_Model_item_0_124 (K : mm_i → mm_j → mm_a → mm_b → Prop) (i : mm_i) (l : mm_j) (a : mm_a) (b : mm_b) (z1 : Int32) (z2 : Int32) (z3 : Int32) (z4 : Int32) (z6 : Int32) (z7 : Int32) : Prop :=
  (¬ z3 = (123 : Int32) → wq_Model_item_0_154 K i l a b z1 z2 z3 z4 z6 z7) ∧ (z3 = (123 : Int32) → wp_Model_t_0 i l a b (z2 + (1 : Int32)) (fun r1 i1 l1 a1 b1 => (¬ r1 = (48 : Int32) → wq_Model_item_0_154 K i1 l1 a1 b1 z1 z2 z3 z4 z6 z7) ∧ (r1 = (48 : Int32) → wp_Model_go_0 i1 l1 a1 b1 0 z7 (i1 25) (fun i2 l2 a2 b2 => K i2 l2 a2 b2))))
set_option maxRecDepth 100000 in
set_option maxHeartbeats 4000000 in
theorem vq_Model_item_0_124 {k0 : Nat} {t : mm_H} {K : mm_i → mm_j → mm_a → mm_b → Prop} {i : mm_i} {l : mm_j} {a : mm_a} {b : mm_b} {z1 : Int32} {z2 : Int32} {z3 : Int32} {z4 : Int32} {z6 : Int32} {z7 : Int32} (h : wq_Model_item_0_124 K i l a b z1 z2 z3 z4 z6 z7) : mm_V M_Model_item 2 k0 (mx_PV t K) 0 0 124 [some (.ref 0), some (.int z1), some (.int z2), some (.int z3), some (.int z4), none, some (.int z6), some (.int z7), none] [] (Wm i l a b ++ t) := by
  unfold wq_Model_item_0_124 at h
  refine mm_iload_n (M := M_Model_item) d_Model_item_124 rfl ?_
  refine mm_bipush (M := M_Model_item) (v := 123) d_Model_item_125 (by decide) ?_
  refine mm_icmp_ne (M := M_Model_item) 154 d_Model_item_127 (by decide) (fun c => ?_) (fun c => ?_)
  · have h := h.1 c
    refine mm_drop (L' := [some (.ref 0), some (.int z1), some (.int z2), some (.int z3), some (.int z4), none, some (.int z6), some (.int z7), none]) ⟨rfl, ⟨rfl, ⟨rfl, ⟨rfl, ⟨rfl, ⟨rfl, ⟨rfl, trivial⟩⟩⟩⟩⟩⟩⟩ ?_
    exact vq_Model_item_0_154 h
  · have h := h.2 c
    refine mm_aload_n (M := M_Model_item) d_Model_item_130 rfl ?_
    refine mm_iload_n (M := M_Model_item) d_Model_item_131 rfl ?_
    refine mm_iconst (M := M_Model_item) (v := 1) d_Model_item_132 (by decide) ?_
    refine mm_iadd (M := M_Model_item) d_Model_item_133 ?_
    refine mm_eqs (st2 := [.int (z2 + (1 : Int32))].reverse ++ .ref 0 :: []) rfl ?_
    refine mm_callV (M := M_Model_item) (y := y_Model_t) (M' := M_Model_t) (d' := 0) (kc := 0) (ks := 0) (kc' := 0) (ks' := 0) (n := 1) d_Model_item_134 ok_Model_t ml_Model_102 (by decide) rfl (Nat.le_of_ble_eq_true rfl) ⟨tw_855, ts_Model_t⟩ xg_0 rfl (ct_Model_t_0 h) (fun v w h => ?_)
    obtain ⟨r1, i1, l1, a1, b1, rfl, rfl, h⟩ := h
    refine mm_eqs (st2 := [.int r1]) rfl ?_
    refine mm_bipush (M := M_Model_item) (v := 48) d_Model_item_137 (by decide) ?_
    refine mm_icmp_ne (M := M_Model_item) 154 d_Model_item_139 (by decide) (fun c => ?_) (fun c => ?_)
    · have h := h.1 c
      refine mm_drop (L' := [some (.ref 0), some (.int z1), some (.int z2), some (.int z3), some (.int z4), none, some (.int z6), some (.int z7), none]) ⟨rfl, ⟨rfl, ⟨rfl, ⟨rfl, ⟨rfl, ⟨rfl, ⟨rfl, trivial⟩⟩⟩⟩⟩⟩⟩ ?_
      exact vq_Model_item_0_154 h
    · have h := h.2 c
      refine mm_aload_n (M := M_Model_item) d_Model_item_142 rfl ?_
      refine mm_iconst (M := M_Model_item) (v := 0) d_Model_item_143 (by decide) ?_
      refine mm_iload (M := M_Model_item) d_Model_item_144 rfl ?_
      refine mm_aload_n (M := M_Model_item) d_Model_item_146 rfl ?_
      refine mm_getf (M := M_Model_item) (u := .int (i1 25)) 7 25 d_Model_item_147 fl_Model_133 xg_0 rfl ?_
      refine mm_eqs (st2 := [.int 0, .int z7, .int (i1 25)].reverse ++ .ref 0 :: []) rfl ?_
      refine mm_callV (M := M_Model_item) (y := y_Model_go) (M' := M_Model_go) (d' := 0) (kc := 0) (ks := 0) (kc' := 0) (ks' := 0) (n := 3) d_Model_item_150 ok_Model_go ml_Model_163 (by decide) rfl (Nat.le_of_ble_eq_true rfl) ⟨tw_842, ts_Model_go⟩ xg_0 rfl (ct_Model_go_0 h) (fun v w h => ?_)
      obtain ⟨i2, l2, a2, b2, rfl, rfl, h⟩ := h
      refine mm_eqs (st2 := []) rfl ?_
      exact mm_ret (M := M_Model_item) ⟨rfl, d_Model_item_153⟩ ⟨_, _, _, _, rfl, rfl, h⟩
def wq_Model_item_0_99 (K : mm_i → mm_j → mm_a → mm_b → Prop) (i : mm_i) (l : mm_j) (a : mm_a) (b : mm_b) (z1 : Int32) (z2 : Int32) (z3 : Int32) (z4 : Int32) (z5 : Int32) (z6 : Int32) : Prop :=
  (¬ z4 = 0 → (¬ z6 = 0 → wq_Model_item_0_124 K i l a b z1 z2 z3 z4 z6 (z5 + (1 : Int32))) ∧ (z6 = 0 → wq_Model_item_0_124 K i l a b z1 z2 z3 z4 z6 z5)) ∧ (z4 = 0 → wq_Model_item_0_124 K i l a b z1 z2 z3 z4 z6 z2)
set_option maxRecDepth 100000 in
set_option maxHeartbeats 4000000 in
theorem vq_Model_item_0_99 {k0 : Nat} {t : mm_H} {K : mm_i → mm_j → mm_a → mm_b → Prop} {i : mm_i} {l : mm_j} {a : mm_a} {b : mm_b} {z1 : Int32} {z2 : Int32} {z3 : Int32} {z4 : Int32} {z5 : Int32} {z6 : Int32} (h : wq_Model_item_0_99 K i l a b z1 z2 z3 z4 z5 z6) : mm_V M_Model_item 2 k0 (mx_PV t K) 0 0 99 [some (.ref 0), some (.int z1), some (.int z2), some (.int z3), some (.int z4), some (.int z5), some (.int z6), none, none] [] (Wm i l a b ++ t) := by
  unfold wq_Model_item_0_99 at h
  refine mm_iload (M := M_Model_item) d_Model_item_99 rfl ?_
  refine mm_if_ne (M := M_Model_item) 108 d_Model_item_101 (by decide) (fun c => ?_) (fun c => ?_)
  · have h := h.1 c
    refine mm_iload (M := M_Model_item) d_Model_item_108 rfl ?_
    refine mm_if_ne (M := M_Model_item) 118 d_Model_item_110 (by decide) (fun c => ?_) (fun c => ?_)
    · have h := h.1 c
      refine mm_iload (M := M_Model_item) d_Model_item_118 rfl ?_
      refine mm_iconst (M := M_Model_item) (v := 1) d_Model_item_120 (by decide) ?_
      refine mm_iadd (M := M_Model_item) d_Model_item_121 ?_
      refine mm_istore (M := M_Model_item) d_Model_item_122 (Nat.le_of_ble_eq_true rfl) ?_
      refine mm_eqL (L' := [some (.ref 0), some (.int z1), some (.int z2), some (.int z3), some (.int z4), some (.int z5), some (.int z6), some (.int (z5 + (1 : Int32))), none]) rfl ?_
      refine mm_drop (L' := [some (.ref 0), some (.int z1), some (.int z2), some (.int z3), some (.int z4), none, some (.int z6), some (.int (z5 + (1 : Int32))), none]) ⟨rfl, ⟨rfl, ⟨rfl, ⟨rfl, ⟨rfl, ⟨rfl, ⟨rfl, trivial⟩⟩⟩⟩⟩⟩⟩ ?_
      exact vq_Model_item_0_124 h
    · have h := h.2 c
      refine mm_iload (M := M_Model_item) d_Model_item_113 rfl ?_
      refine mm_goto (M := M_Model_item) (tgt := 122) d_Model_item_115 (by decide) ?_
      refine mm_istore (M := M_Model_item) d_Model_item_122 (Nat.le_of_ble_eq_true rfl) ?_
      refine mm_eqL (L' := [some (.ref 0), some (.int z1), some (.int z2), some (.int z3), some (.int z4), some (.int z5), some (.int z6), some (.int z5), none]) rfl ?_
      refine mm_drop (L' := [some (.ref 0), some (.int z1), some (.int z2), some (.int z3), some (.int z4), none, some (.int z6), some (.int z5), none]) ⟨rfl, ⟨rfl, ⟨rfl, ⟨rfl, ⟨rfl, ⟨rfl, ⟨rfl, trivial⟩⟩⟩⟩⟩⟩⟩ ?_
      exact vq_Model_item_0_124 h
  · have h := h.2 c
    refine mm_iload_n (M := M_Model_item) d_Model_item_104 rfl ?_
    refine mm_goto (M := M_Model_item) (tgt := 122) d_Model_item_105 (by decide) ?_
    refine mm_istore (M := M_Model_item) d_Model_item_122 (Nat.le_of_ble_eq_true rfl) ?_
    refine mm_eqL (L' := [some (.ref 0), some (.int z1), some (.int z2), some (.int z3), some (.int z4), some (.int z5), some (.int z6), some (.int z2), none]) rfl ?_
    refine mm_drop (L' := [some (.ref 0), some (.int z1), some (.int z2), some (.int z3), some (.int z4), none, some (.int z6), some (.int z2), none]) ⟨rfl, ⟨rfl, ⟨rfl, ⟨rfl, ⟨rfl, ⟨rfl, ⟨rfl, trivial⟩⟩⟩⟩⟩⟩⟩ ?_
    exact vq_Model_item_0_124 h
def wq_Model_item_0_60 (K : mm_i → mm_j → mm_a → mm_b → Prop) (i : mm_i) (l : mm_j) (a : mm_a) (b : mm_b) (z1 : Int32) (z2 : Int32) (z3 : Int32) (z4 : Int32) (z5 : Int32) : Prop :=
  (z4 = 0 → wq_Model_item_0_99 K i l a b z1 z2 z3 z4 z5 0) ∧ (¬ z4 = 0 → wp_Model_t_0 i l a b z5 (fun r1 i1 l1 a1 b1 => (r1 = (63 : Int32) → wp_Model_t_0 i1 l1 a1 b1 z5 (fun r2 i2 l2 a2 b2 => wq_Model_item_0_99 K i2 l2 a2 b2 z1 z2 z3 z4 z5 r2)) ∧ (¬ r1 = (63 : Int32) → wp_Model_t_0 i1 l1 a1 b1 z5 (fun r3 i3 l3 a3 b3 => (¬ r3 = (43 : Int32) → wq_Model_item_0_99 K i3 l3 a3 b3 z1 z2 z3 z4 z5 0) ∧ (r3 = (43 : Int32) → wp_Model_t_0 i3 l3 a3 b3 z5 (fun r4 i4 l4 a4 b4 => wq_Model_item_0_99 K i4 l4 a4 b4 z1 z2 z3 z4 z5 r4))))))
set_option maxRecDepth 100000 in
set_option maxHeartbeats 4000000 in
theorem vq_Model_item_0_60 {k0 : Nat} {t : mm_H} {K : mm_i → mm_j → mm_a → mm_b → Prop} {i : mm_i} {l : mm_j} {a : mm_a} {b : mm_b} {z1 : Int32} {z2 : Int32} {z3 : Int32} {z4 : Int32} {z5 : Int32} (h : wq_Model_item_0_60 K i l a b z1 z2 z3 z4 z5) : mm_V M_Model_item 2 k0 (mx_PV t K) 0 0 60 [some (.ref 0), some (.int z1), some (.int z2), some (.int z3), some (.int z4), some (.int z5), none, none, none] [] (Wm i l a b ++ t) := by
  unfold wq_Model_item_0_60 at h
  refine mm_iload (M := M_Model_item) d_Model_item_60 rfl ?_
  refine mm_if_eq (M := M_Model_item) 96 d_Model_item_62 (by decide) (fun c => ?_) (fun c => ?_)
  · have h := h.1 c
    refine mm_iconst (M := M_Model_item) (v := 0) d_Model_item_96 (by decide) ?_
    refine mm_istore (M := M_Model_item) d_Model_item_97 (Nat.le_of_ble_eq_true rfl) ?_
    refine mm_eqL (L' := [some (.ref 0), some (.int z1), some (.int z2), some (.int z3), some (.int z4), some (.int z5), some (.int 0), none, none]) rfl ?_
    refine mm_drop (L' := [some (.ref 0), some (.int z1), some (.int z2), some (.int z3), some (.int z4), some (.int z5), some (.int 0), none, none]) ⟨rfl, ⟨rfl, ⟨rfl, ⟨rfl, ⟨rfl, ⟨rfl, ⟨rfl, trivial⟩⟩⟩⟩⟩⟩⟩ ?_
    exact vq_Model_item_0_99 h
  · have h := h.2 c
    refine mm_aload_n (M := M_Model_item) d_Model_item_65 rfl ?_
    refine mm_iload (M := M_Model_item) d_Model_item_66 rfl ?_
    refine mm_eqs (st2 := [.int z5].reverse ++ .ref 0 :: []) rfl ?_
    refine mm_callV (M := M_Model_item) (y := y_Model_t) (M' := M_Model_t) (d' := 0) (kc := 0) (ks := 0) (kc' := 0) (ks' := 0) (n := 1) d_Model_item_68 ok_Model_t ml_Model_102 (by decide) rfl (Nat.le_of_ble_eq_true rfl) ⟨tw_855, ts_Model_t⟩ xg_0 rfl (ct_Model_t_0 h) (fun v w h => ?_)
    obtain ⟨r1, i1, l1, a1, b1, rfl, rfl, h⟩ := h
    refine mm_eqs (st2 := [.int r1]) rfl ?_
    refine mm_bipush (M := M_Model_item) (v := 63) d_Model_item_71 (by decide) ?_
    refine mm_icmp_eq (M := M_Model_item) 87 d_Model_item_73 (by decide) (fun c => ?_) (fun c => ?_)
    · have h := h.1 c
      refine mm_aload_n (M := M_Model_item) d_Model_item_87 rfl ?_
      refine mm_iload (M := M_Model_item) d_Model_item_88 rfl ?_
      refine mm_eqs (st2 := [.int z5].reverse ++ .ref 0 :: []) rfl ?_
      refine mm_callV (M := M_Model_item) (y := y_Model_t) (M' := M_Model_t) (d' := 0) (kc := 0) (ks := 0) (kc' := 0) (ks' := 0) (n := 1) d_Model_item_90 ok_Model_t ml_Model_102 (by decide) rfl (Nat.le_of_ble_eq_true rfl) ⟨tw_855, ts_Model_t⟩ xg_0 rfl (ct_Model_t_0 h) (fun v w h => ?_)
      obtain ⟨r2, i2, l2, a2, b2, rfl, rfl, h⟩ := h
      refine mm_eqs (st2 := [.int r2]) rfl ?_
      refine mm_goto (M := M_Model_item) (tgt := 97) d_Model_item_93 (by decide) ?_
      refine mm_istore (M := M_Model_item) d_Model_item_97 (Nat.le_of_ble_eq_true rfl) ?_
      refine mm_eqL (L' := [some (.ref 0), some (.int z1), some (.int z2), some (.int z3), some (.int z4), some (.int z5), some (.int r2), none, none]) rfl ?_
      refine mm_drop (L' := [some (.ref 0), some (.int z1), some (.int z2), some (.int z3), some (.int z4), some (.int z5), some (.int r2), none, none]) ⟨rfl, ⟨rfl, ⟨rfl, ⟨rfl, ⟨rfl, ⟨rfl, ⟨rfl, trivial⟩⟩⟩⟩⟩⟩⟩ ?_
      exact vq_Model_item_0_99 h
    · have h := h.2 c
      refine mm_aload_n (M := M_Model_item) d_Model_item_76 rfl ?_
      refine mm_iload (M := M_Model_item) d_Model_item_77 rfl ?_
      refine mm_eqs (st2 := [.int z5].reverse ++ .ref 0 :: []) rfl ?_
      refine mm_callV (M := M_Model_item) (y := y_Model_t) (M' := M_Model_t) (d' := 0) (kc := 0) (ks := 0) (kc' := 0) (ks' := 0) (n := 1) d_Model_item_79 ok_Model_t ml_Model_102 (by decide) rfl (Nat.le_of_ble_eq_true rfl) ⟨tw_855, ts_Model_t⟩ xg_0 rfl (ct_Model_t_0 h) (fun v w h => ?_)
      obtain ⟨r3, i3, l3, a3, b3, rfl, rfl, h⟩ := h
      refine mm_eqs (st2 := [.int r3]) rfl ?_
      refine mm_bipush (M := M_Model_item) (v := 43) d_Model_item_82 (by decide) ?_
      refine mm_icmp_ne (M := M_Model_item) 96 d_Model_item_84 (by decide) (fun c => ?_) (fun c => ?_)
      · have h := h.1 c
        refine mm_iconst (M := M_Model_item) (v := 0) d_Model_item_96 (by decide) ?_
        refine mm_istore (M := M_Model_item) d_Model_item_97 (Nat.le_of_ble_eq_true rfl) ?_
        refine mm_eqL (L' := [some (.ref 0), some (.int z1), some (.int z2), some (.int z3), some (.int z4), some (.int z5), some (.int 0), none, none]) rfl ?_
        refine mm_drop (L' := [some (.ref 0), some (.int z1), some (.int z2), some (.int z3), some (.int z4), some (.int z5), some (.int 0), none, none]) ⟨rfl, ⟨rfl, ⟨rfl, ⟨rfl, ⟨rfl, ⟨rfl, ⟨rfl, trivial⟩⟩⟩⟩⟩⟩⟩ ?_
        exact vq_Model_item_0_99 h
      · have h := h.2 c
        refine mm_aload_n (M := M_Model_item) d_Model_item_87 rfl ?_
        refine mm_iload (M := M_Model_item) d_Model_item_88 rfl ?_
        refine mm_eqs (st2 := [.int z5].reverse ++ .ref 0 :: []) rfl ?_
        refine mm_callV (M := M_Model_item) (y := y_Model_t) (M' := M_Model_t) (d' := 0) (kc := 0) (ks := 0) (kc' := 0) (ks' := 0) (n := 1) d_Model_item_90 ok_Model_t ml_Model_102 (by decide) rfl (Nat.le_of_ble_eq_true rfl) ⟨tw_855, ts_Model_t⟩ xg_0 rfl (ct_Model_t_0 h) (fun v w h => ?_)
        obtain ⟨r4, i4, l4, a4, b4, rfl, rfl, h⟩ := h
        refine mm_eqs (st2 := [.int r4]) rfl ?_
        refine mm_goto (M := M_Model_item) (tgt := 97) d_Model_item_93 (by decide) ?_
        refine mm_istore (M := M_Model_item) d_Model_item_97 (Nat.le_of_ble_eq_true rfl) ?_
        refine mm_eqL (L' := [some (.ref 0), some (.int z1), some (.int z2), some (.int z3), some (.int z4), some (.int z5), some (.int r4), none, none]) rfl ?_
        refine mm_drop (L' := [some (.ref 0), some (.int z1), some (.int z2), some (.int z3), some (.int z4), some (.int z5), some (.int r4), none, none]) ⟨rfl, ⟨rfl, ⟨rfl, ⟨rfl, ⟨rfl, ⟨rfl, ⟨rfl, trivial⟩⟩⟩⟩⟩⟩⟩ ?_
        exact vq_Model_item_0_99 h
def wq_Model_item_0_43 (K : mm_i → mm_j → mm_a → mm_b → Prop) (i : mm_i) (l : mm_j) (a : mm_a) (b : mm_b) (z1 : Int32) (z2 : Int32) (z3 : Int32) (z4 : Int32) : Prop :=
  (¬ z3 = (123 : Int32) → wq_Model_item_0_60 K i l a b z1 z2 z3 z4 (z2 + (1 : Int32))) ∧ (z3 = (123 : Int32) → wq_Model_item_0_60 K i l a b z1 z2 z3 z4 (z2 + (3 : Int32)))
set_option maxRecDepth 100000 in
set_option maxHeartbeats 4000000 in
theorem vq_Model_item_0_43 {k0 : Nat} {t : mm_H} {K : mm_i → mm_j → mm_a → mm_b → Prop} {i : mm_i} {l : mm_j} {a : mm_a} {b : mm_b} {z1 : Int32} {z2 : Int32} {z3 : Int32} {z4 : Int32} (h : wq_Model_item_0_43 K i l a b z1 z2 z3 z4) : mm_V M_Model_item 2 k0 (mx_PV t K) 0 0 43 [some (.ref 0), some (.int z1), some (.int z2), some (.int z3), some (.int z4), none, none, none, none] [] (Wm i l a b ++ t) := by
  unfold wq_Model_item_0_43 at h
  refine mm_iload_n (M := M_Model_item) d_Model_item_43 rfl ?_
  refine mm_bipush (M := M_Model_item) (v := 123) d_Model_item_44 (by decide) ?_
  refine mm_icmp_ne (M := M_Model_item) 55 d_Model_item_46 (by decide) (fun c => ?_) (fun c => ?_)
  · have h := h.1 c
    refine mm_iload_n (M := M_Model_item) d_Model_item_55 rfl ?_
    refine mm_iconst (M := M_Model_item) (v := 1) d_Model_item_56 (by decide) ?_
    refine mm_iadd (M := M_Model_item) d_Model_item_57 ?_
    refine mm_istore (M := M_Model_item) d_Model_item_58 (Nat.le_of_ble_eq_true rfl) ?_
    refine mm_eqL (L' := [some (.ref 0), some (.int z1), some (.int z2), some (.int z3), some (.int z4), some (.int (z2 + (1 : Int32))), none, none, none]) rfl ?_
    refine mm_drop (L' := [some (.ref 0), some (.int z1), some (.int z2), some (.int z3), some (.int z4), some (.int (z2 + (1 : Int32))), none, none, none]) ⟨rfl, ⟨rfl, ⟨rfl, ⟨rfl, ⟨rfl, ⟨rfl, trivial⟩⟩⟩⟩⟩⟩ ?_
    exact vq_Model_item_0_60 h
  · have h := h.2 c
    refine mm_iload_n (M := M_Model_item) d_Model_item_49 rfl ?_
    refine mm_iconst (M := M_Model_item) (v := 3) d_Model_item_50 (by decide) ?_
    refine mm_iadd (M := M_Model_item) d_Model_item_51 ?_
    refine mm_goto (M := M_Model_item) (tgt := 58) d_Model_item_52 (by decide) ?_
    refine mm_istore (M := M_Model_item) d_Model_item_58 (Nat.le_of_ble_eq_true rfl) ?_
    refine mm_eqL (L' := [some (.ref 0), some (.int z1), some (.int z2), some (.int z3), some (.int z4), some (.int (z2 + (3 : Int32))), none, none, none]) rfl ?_
    refine mm_drop (L' := [some (.ref 0), some (.int z1), some (.int z2), some (.int z3), some (.int z4), some (.int (z2 + (3 : Int32))), none, none, none]) ⟨rfl, ⟨rfl, ⟨rfl, ⟨rfl, ⟨rfl, ⟨rfl, trivial⟩⟩⟩⟩⟩⟩ ?_
    exact vq_Model_item_0_60 h
def wp_Model_item_0 (i : mm_i) (l : mm_j) (a : mm_a) (b : mm_b) (x1 : Int32) (K : mm_i → mm_j → mm_a → mm_b → Prop) : Prop :=
  wp_Model_behindAtom_0 i l a b x1 (fun r1 i1 l1 a1 b1 => wp_Model_t_0 i1 l1 a1 b1 r1 (fun r2 i2 l2 a2 b2 => (r2 = (42 : Int32) → wq_Model_item_0_43 K i2 l2 a2 b2 x1 r1 r2 1) ∧ (¬ r2 = (42 : Int32) → (r2 = (43 : Int32) → wq_Model_item_0_43 K i2 l2 a2 b2 x1 r1 r2 1) ∧ (¬ r2 = (43 : Int32) → (r2 = (63 : Int32) → wq_Model_item_0_43 K i2 l2 a2 b2 x1 r1 r2 1) ∧ (¬ r2 = (63 : Int32) → (¬ r2 = (123 : Int32) → wq_Model_item_0_43 K i2 l2 a2 b2 x1 r1 r2 0) ∧ (r2 = (123 : Int32) → wq_Model_item_0_43 K i2 l2 a2 b2 x1 r1 r2 1))))))
set_option maxRecDepth 100000 in
set_option maxHeartbeats 4000000 in
theorem ct_Model_item_0 {i : mm_i} {l : mm_j} {a : mm_a} {b : mm_b} {t : mm_H} {x1 : Int32} {K : mm_i → mm_j → mm_a → mm_b → Prop} (h : wp_Model_item_0 i l a b x1 K) : mm_Ct y_Model_item M_Model_item 2 0 0 [.ref 0, .int x1] (Wm i l a b ++ t) (mx_PV t K) := by
  refine mm_Ct.of (by decide) rfl (fun q => absurd q (by decide)) (Nat.le_of_ble_eq_true rfl) ?_
  unfold wp_Model_item_0 at h
  refine mm_eqL (L' := [some (.ref 0), some (.int x1), none, none, none, none, none, none, none]) rfl ?_
  refine mm_aload_n (M := M_Model_item) d_Model_item_0 rfl ?_
  refine mm_iload_n (M := M_Model_item) d_Model_item_1 rfl ?_
  refine mm_eqs (st2 := [.int x1].reverse ++ .ref 0 :: []) rfl ?_
  refine mm_callV (M := M_Model_item) (y := y_Model_behindAtom) (M' := M_Model_behindAtom) (d' := 1) (kc := 0) (ks := 0) (kc' := 0) (ks' := 0) (n := 1) d_Model_item_2 ok_Model_behindAtom ml_Model_111 (by decide) rfl (Nat.le_of_ble_eq_true rfl) ⟨tw_863, ts_Model_behindAtom⟩ xg_0 rfl (ct_Model_behindAtom_0 h) (fun v w h => ?_)
  obtain ⟨r1, i1, l1, a1, b1, rfl, rfl, h⟩ := h
  refine mm_eqs (st2 := [.int r1]) rfl ?_
  refine mm_istore_n (M := M_Model_item) d_Model_item_5 (Nat.le_of_ble_eq_true rfl) ?_
  refine mm_eqL (L' := [some (.ref 0), some (.int x1), some (.int r1), none, none, none, none, none, none]) rfl ?_
  refine mm_aload_n (M := M_Model_item) d_Model_item_6 rfl ?_
  refine mm_iload_n (M := M_Model_item) d_Model_item_7 rfl ?_
  refine mm_eqs (st2 := [.int r1].reverse ++ .ref 0 :: []) rfl ?_
  refine mm_callV (M := M_Model_item) (y := y_Model_t) (M' := M_Model_t) (d' := 0) (kc := 0) (ks := 0) (kc' := 0) (ks' := 0) (n := 1) d_Model_item_8 ok_Model_t ml_Model_102 (by decide) rfl (Nat.le_of_ble_eq_true rfl) ⟨tw_855, ts_Model_t⟩ xg_0 rfl (ct_Model_t_0 h) (fun v w h => ?_)
  obtain ⟨r2, i2, l2, a2, b2, rfl, rfl, h⟩ := h
  refine mm_eqs (st2 := [.int r2]) rfl ?_
  refine mm_istore_n (M := M_Model_item) d_Model_item_11 (Nat.le_of_ble_eq_true rfl) ?_
  refine mm_eqL (L' := [some (.ref 0), some (.int x1), some (.int r1), some (.int r2), none, none, none, none, none]) rfl ?_
  refine mm_iload_n (M := M_Model_item) d_Model_item_12 rfl ?_
  refine mm_bipush (M := M_Model_item) (v := 42) d_Model_item_13 (by decide) ?_
  refine mm_icmp_eq (M := M_Model_item) 36 d_Model_item_15 (by decide) (fun c => ?_) (fun c => ?_)
  · have h := h.1 c
    refine mm_iconst (M := M_Model_item) (v := 1) d_Model_item_36 (by decide) ?_
    refine mm_goto (M := M_Model_item) (tgt := 41) d_Model_item_37 (by decide) ?_
    refine mm_istore (M := M_Model_item) d_Model_item_41 (Nat.le_of_ble_eq_true rfl) ?_
    refine mm_eqL (L' := [some (.ref 0), some (.int x1), some (.int r1), some (.int r2), some (.int 1), none, none, none, none]) rfl ?_
    refine mm_drop (L' := [some (.ref 0), some (.int x1), some (.int r1), some (.int r2), some (.int 1), none, none, none, none]) ⟨rfl, ⟨rfl, ⟨rfl, ⟨rfl, ⟨rfl, trivial⟩⟩⟩⟩⟩ ?_
    exact vq_Model_item_0_43 h
  · have h := h.2 c
    refine mm_iload_n (M := M_Model_item) d_Model_item_18 rfl ?_
    refine mm_bipush (M := M_Model_item) (v := 43) d_Model_item_19 (by decide) ?_
    refine mm_icmp_eq (M := M_Model_item) 36 d_Model_item_21 (by decide) (fun c => ?_) (fun c => ?_)
    · have h := h.1 c
      refine mm_iconst (M := M_Model_item) (v := 1) d_Model_item_36 (by decide) ?_
      refine mm_goto (M := M_Model_item) (tgt := 41) d_Model_item_37 (by decide) ?_
      refine mm_istore (M := M_Model_item) d_Model_item_41 (Nat.le_of_ble_eq_true rfl) ?_
      refine mm_eqL (L' := [some (.ref 0), some (.int x1), some (.int r1), some (.int r2), some (.int 1), none, none, none, none]) rfl ?_
      refine mm_drop (L' := [some (.ref 0), some (.int x1), some (.int r1), some (.int r2), some (.int 1), none, none, none, none]) ⟨rfl, ⟨rfl, ⟨rfl, ⟨rfl, ⟨rfl, trivial⟩⟩⟩⟩⟩ ?_
      exact vq_Model_item_0_43 h
    · have h := h.2 c
      refine mm_iload_n (M := M_Model_item) d_Model_item_24 rfl ?_
      refine mm_bipush (M := M_Model_item) (v := 63) d_Model_item_25 (by decide) ?_
      refine mm_icmp_eq (M := M_Model_item) 36 d_Model_item_27 (by decide) (fun c => ?_) (fun c => ?_)
      · have h := h.1 c
        refine mm_iconst (M := M_Model_item) (v := 1) d_Model_item_36 (by decide) ?_
        refine mm_goto (M := M_Model_item) (tgt := 41) d_Model_item_37 (by decide) ?_
        refine mm_istore (M := M_Model_item) d_Model_item_41 (Nat.le_of_ble_eq_true rfl) ?_
        refine mm_eqL (L' := [some (.ref 0), some (.int x1), some (.int r1), some (.int r2), some (.int 1), none, none, none, none]) rfl ?_
        refine mm_drop (L' := [some (.ref 0), some (.int x1), some (.int r1), some (.int r2), some (.int 1), none, none, none, none]) ⟨rfl, ⟨rfl, ⟨rfl, ⟨rfl, ⟨rfl, trivial⟩⟩⟩⟩⟩ ?_
        exact vq_Model_item_0_43 h
      · have h := h.2 c
        refine mm_iload_n (M := M_Model_item) d_Model_item_30 rfl ?_
        refine mm_bipush (M := M_Model_item) (v := 123) d_Model_item_31 (by decide) ?_
        refine mm_icmp_ne (M := M_Model_item) 40 d_Model_item_33 (by decide) (fun c => ?_) (fun c => ?_)
        · have h := h.1 c
          refine mm_iconst (M := M_Model_item) (v := 0) d_Model_item_40 (by decide) ?_
          refine mm_istore (M := M_Model_item) d_Model_item_41 (Nat.le_of_ble_eq_true rfl) ?_
          refine mm_eqL (L' := [some (.ref 0), some (.int x1), some (.int r1), some (.int r2), some (.int 0), none, none, none, none]) rfl ?_
          refine mm_drop (L' := [some (.ref 0), some (.int x1), some (.int r1), some (.int r2), some (.int 0), none, none, none, none]) ⟨rfl, ⟨rfl, ⟨rfl, ⟨rfl, ⟨rfl, trivial⟩⟩⟩⟩⟩ ?_
          exact vq_Model_item_0_43 h
        · have h := h.2 c
          refine mm_iconst (M := M_Model_item) (v := 1) d_Model_item_36 (by decide) ?_
          refine mm_goto (M := M_Model_item) (tgt := 41) d_Model_item_37 (by decide) ?_
          refine mm_istore (M := M_Model_item) d_Model_item_41 (Nat.le_of_ble_eq_true rfl) ?_
          refine mm_eqL (L' := [some (.ref 0), some (.int x1), some (.int r1), some (.int r2), some (.int 1), none, none, none, none]) rfl ?_
          refine mm_drop (L' := [some (.ref 0), some (.int x1), some (.int r1), some (.int r2), some (.int 1), none, none, none, none]) ⟨rfl, ⟨rfl, ⟨rfl, ⟨rfl, ⟨rfl, trivial⟩⟩⟩⟩⟩ ?_
          exact vq_Model_item_0_43 h
def wq_Model_star_0_55 (K : mm_i → mm_j → mm_a → mm_b → Prop) (i : mm_i) (l : mm_j) (a : mm_a) (b : mm_b) (z1 : Int32) (z2 : Int32) : Prop :=
  (z1 = 0 → (z1 = 0 → wp_Model_go_0 i l a b 2 (i 23) z2 (fun i1 l1 a1 b1 => K i1 l1 a1 b1)) ∧ (¬ z1 = 0 → wp_Model_go_0 i l a b 2 (i 23) (i 25) (fun i2 l2 a2 b2 => K i2 l2 a2 b2))) ∧ (¬ z1 = 0 → (z1 = 0 → wp_Model_go_0 i l a b 5 (i 23) z2 (fun i3 l3 a3 b3 => K i3 l3 a3 b3)) ∧ (¬ z1 = 0 → wp_Model_go_0 i l a b 5 (i 23) (i 25) (fun i4 l4 a4 b4 => K i4 l4 a4 b4)))
set_option maxRecDepth 100000 in
set_option maxHeartbeats 4000000 in
theorem vq_Model_star_0_55 {k0 : Nat} {t : mm_H} {K : mm_i → mm_j → mm_a → mm_b → Prop} {i : mm_i} {l : mm_j} {a : mm_a} {b : mm_b} {z1 : Int32} {z2 : Int32} (h : wq_Model_star_0_55 K i l a b z1 z2) : mm_V M_Model_star 1 k0 (mx_PV t K) 0 0 55 [some (.ref 0), some (.int z1), some (.int z2)] [] (Wm i l a b ++ t) := by
  unfold wq_Model_star_0_55 at h
  refine mm_aload_n (M := M_Model_star) d_Model_star_55 rfl ?_
  refine mm_iload_n (M := M_Model_star) d_Model_star_56 rfl ?_
  refine mm_if_eq (M := M_Model_star) 64 d_Model_star_57 (by decide) (fun c => ?_) (fun c => ?_)
  · have h := h.1 c
    refine mm_iconst (M := M_Model_star) (v := 2) d_Model_star_64 (by decide) ?_
    refine mm_aload_n (M := M_Model_star) d_Model_star_65 rfl ?_
    refine mm_getf (M := M_Model_star) (u := .int (i 23)) 7 23 d_Model_star_66 fl_Model_130 xg_0 rfl ?_
    refine mm_iload_n (M := M_Model_star) d_Model_star_69 rfl ?_
    refine mm_if_eq (M := M_Model_star) 80 d_Model_star_70 (by decide) (fun c => ?_) (fun c => ?_)
    · have h := h.1 c
      refine mm_iload_n (M := M_Model_star) d_Model_star_80 rfl ?_
      refine mm_eqs (st2 := [.int 2, .int (i 23), .int z2].reverse ++ .ref 0 :: []) rfl ?_
      refine mm_callV (M := M_Model_star) (y := y_Model_go) (M' := M_Model_go) (d' := 0) (kc := 0) (ks := 0) (kc' := 0) (ks' := 0) (n := 3) d_Model_star_81 ok_Model_go ml_Model_163 (by decide) rfl (Nat.le_of_ble_eq_true rfl) ⟨tw_842, ts_Model_go⟩ xg_0 rfl (ct_Model_go_0 h) (fun v w h => ?_)
      obtain ⟨i1, l1, a1, b1, rfl, rfl, h⟩ := h
      refine mm_eqs (st2 := []) rfl ?_
      exact mm_ret (M := M_Model_star) ⟨rfl, d_Model_star_84⟩ ⟨_, _, _, _, rfl, rfl, h⟩
    · have h := h.2 c
      refine mm_aload_n (M := M_Model_star) d_Model_star_73 rfl ?_
      refine mm_getf (M := M_Model_star) (u := .int (i 25)) 7 25 d_Model_star_74 fl_Model_133 xg_0 rfl ?_
      refine mm_goto (M := M_Model_star) (tgt := 81) d_Model_star_77 (by decide) ?_
      refine mm_eqs (st2 := [.int 2, .int (i 23), .int (i 25)].reverse ++ .ref 0 :: []) rfl ?_
      refine mm_callV (M := M_Model_star) (y := y_Model_go) (M' := M_Model_go) (d' := 0) (kc := 0) (ks := 0) (kc' := 0) (ks' := 0) (n := 3) d_Model_star_81 ok_Model_go ml_Model_163 (by decide) rfl (Nat.le_of_ble_eq_true rfl) ⟨tw_842, ts_Model_go⟩ xg_0 rfl (ct_Model_go_0 h) (fun v w h => ?_)
      obtain ⟨i2, l2, a2, b2, rfl, rfl, h⟩ := h
      refine mm_eqs (st2 := []) rfl ?_
      exact mm_ret (M := M_Model_star) ⟨rfl, d_Model_star_84⟩ ⟨_, _, _, _, rfl, rfl, h⟩
  · have h := h.2 c
    refine mm_iconst (M := M_Model_star) (v := 5) d_Model_star_60 (by decide) ?_
    refine mm_goto (M := M_Model_star) (tgt := 65) d_Model_star_61 (by decide) ?_
    refine mm_aload_n (M := M_Model_star) d_Model_star_65 rfl ?_
    refine mm_getf (M := M_Model_star) (u := .int (i 23)) 7 23 d_Model_star_66 fl_Model_130 xg_0 rfl ?_
    refine mm_iload_n (M := M_Model_star) d_Model_star_69 rfl ?_
    refine mm_if_eq (M := M_Model_star) 80 d_Model_star_70 (by decide) (fun c => ?_) (fun c => ?_)
    · have h := h.1 c
      refine mm_iload_n (M := M_Model_star) d_Model_star_80 rfl ?_
      refine mm_eqs (st2 := [.int 5, .int (i 23), .int z2].reverse ++ .ref 0 :: []) rfl ?_
      refine mm_callV (M := M_Model_star) (y := y_Model_go) (M' := M_Model_go) (d' := 0) (kc := 0) (ks := 0) (kc' := 0) (ks' := 0) (n := 3) d_Model_star_81 ok_Model_go ml_Model_163 (by decide) rfl (Nat.le_of_ble_eq_true rfl) ⟨tw_842, ts_Model_go⟩ xg_0 rfl (ct_Model_go_0 h) (fun v w h => ?_)
      obtain ⟨i3, l3, a3, b3, rfl, rfl, h⟩ := h
      refine mm_eqs (st2 := []) rfl ?_
      exact mm_ret (M := M_Model_star) ⟨rfl, d_Model_star_84⟩ ⟨_, _, _, _, rfl, rfl, h⟩
    · have h := h.2 c
      refine mm_aload_n (M := M_Model_star) d_Model_star_73 rfl ?_
      refine mm_getf (M := M_Model_star) (u := .int (i 25)) 7 25 d_Model_star_74 fl_Model_133 xg_0 rfl ?_
      refine mm_goto (M := M_Model_star) (tgt := 81) d_Model_star_77 (by decide) ?_
      refine mm_eqs (st2 := [.int 5, .int (i 23), .int (i 25)].reverse ++ .ref 0 :: []) rfl ?_
      refine mm_callV (M := M_Model_star) (y := y_Model_go) (M' := M_Model_go) (d' := 0) (kc := 0) (ks := 0) (kc' := 0) (ks' := 0) (n := 3) d_Model_star_81 ok_Model_go ml_Model_163 (by decide) rfl (Nat.le_of_ble_eq_true rfl) ⟨tw_842, ts_Model_go⟩ xg_0 rfl (ct_Model_go_0 h) (fun v w h => ?_)
      obtain ⟨i4, l4, a4, b4, rfl, rfl, h⟩ := h
      refine mm_eqs (st2 := []) rfl ?_
      exact mm_ret (M := M_Model_star) ⟨rfl, d_Model_star_84⟩ ⟨_, _, _, _, rfl, rfl, h⟩
def wq_Model_star_0_26 (K : mm_i → mm_j → mm_a → mm_b → Prop) (i : mm_i) (l : mm_j) (a : mm_a) (b : mm_b) (z1 : Int32) (z2 : Int32) : Prop :=
  (z1 = 0 → (z1 = 0 → wp_Model_pushBack_0 i l a b 5 (i 23) (i 25) (fun i1 l1 a1 b1 => wq_Model_star_0_55 K i1 l1 a1 b1 z1 z2)) ∧ (¬ z1 = 0 → wp_Model_pushBack_0 i l a b 5 (i 23) z2 (fun i2 l2 a2 b2 => wq_Model_star_0_55 K i2 l2 a2 b2 z1 z2))) ∧ (¬ z1 = 0 → (z1 = 0 → wp_Model_pushBack_0 i l a b 2 (i 23) (i 25) (fun i3 l3 a3 b3 => wq_Model_star_0_55 K i3 l3 a3 b3 z1 z2)) ∧ (¬ z1 = 0 → wp_Model_pushBack_0 i l a b 2 (i 23) z2 (fun i4 l4 a4 b4 => wq_Model_star_0_55 K i4 l4 a4 b4 z1 z2)))
set_option maxRecDepth 100000 in
set_option maxHeartbeats 4000000 in
theorem vq_Model_star_0_26 {k0 : Nat} {t : mm_H} {K : mm_i → mm_j → mm_a → mm_b → Prop} {i : mm_i} {l : mm_j} {a : mm_a} {b : mm_b} {z1 : Int32} {z2 : Int32} (h : wq_Model_star_0_26 K i l a b z1 z2) : mm_V M_Model_star 1 k0 (mx_PV t K) 0 0 26 [some (.ref 0), some (.int z1), some (.int z2)] [] (Wm i l a b ++ t) := by
  unfold wq_Model_star_0_26 at h
  refine mm_aload_n (M := M_Model_star) d_Model_star_26 rfl ?_
  refine mm_iload_n (M := M_Model_star) d_Model_star_27 rfl ?_
  refine mm_if_eq (M := M_Model_star) 35 d_Model_star_28 (by decide) (fun c => ?_) (fun c => ?_)
  · have h := h.1 c
    refine mm_iconst (M := M_Model_star) (v := 5) d_Model_star_35 (by decide) ?_
    refine mm_aload_n (M := M_Model_star) d_Model_star_36 rfl ?_
    refine mm_getf (M := M_Model_star) (u := .int (i 23)) 7 23 d_Model_star_37 fl_Model_130 xg_0 rfl ?_
    refine mm_iload_n (M := M_Model_star) d_Model_star_40 rfl ?_
    refine mm_if_eq (M := M_Model_star) 48 d_Model_star_41 (by decide) (fun c => ?_) (fun c => ?_)
    · have h := h.1 c
      refine mm_aload_n (M := M_Model_star) d_Model_star_48 rfl ?_
      refine mm_getf (M := M_Model_star) (u := .int (i 25)) 7 25 d_Model_star_49 fl_Model_133 xg_0 rfl ?_
      refine mm_eqs (st2 := [.int 5, .int (i 23), .int (i 25)].reverse ++ .ref 0 :: []) rfl ?_
      refine mm_callV (M := M_Model_star) (y := y_Model_pushBack) (M' := M_Model_pushBack) (d' := 0) (kc := 0) (ks := 0) (kc' := 0) (ks' := 0) (n := 3) d_Model_star_52 ok_Model_pushBack ml_Model_167 (by decide) rfl (Nat.le_of_ble_eq_true rfl) ⟨tw_875, ts_Model_pushBack⟩ xg_0 rfl (ct_Model_pushBack_0 h) (fun v w h => ?_)
      obtain ⟨i1, l1, a1, b1, rfl, rfl, h⟩ := h
      refine mm_eqs (st2 := []) rfl ?_
      refine mm_drop (L' := [some (.ref 0), some (.int z1), some (.int z2)]) ⟨rfl, ⟨rfl, ⟨rfl, trivial⟩⟩⟩ ?_
      exact vq_Model_star_0_55 h
    · have h := h.2 c
      refine mm_iload_n (M := M_Model_star) d_Model_star_44 rfl ?_
      refine mm_goto (M := M_Model_star) (tgt := 52) d_Model_star_45 (by decide) ?_
      refine mm_eqs (st2 := [.int 5, .int (i 23), .int z2].reverse ++ .ref 0 :: []) rfl ?_
      refine mm_callV (M := M_Model_star) (y := y_Model_pushBack) (M' := M_Model_pushBack) (d' := 0) (kc := 0) (ks := 0) (kc' := 0) (ks' := 0) (n := 3) d_Model_star_52 ok_Model_pushBack ml_Model_167 (by decide) rfl (Nat.le_of_ble_eq_true rfl) ⟨tw_875, ts_Model_pushBack⟩ xg_0 rfl (ct_Model_pushBack_0 h) (fun v w h => ?_)
      obtain ⟨i2, l2, a2, b2, rfl, rfl, h⟩ := h
      refine mm_eqs (st2 := []) rfl ?_
      refine mm_drop (L' := [some (.ref 0), some (.int z1), some (.int z2)]) ⟨rfl, ⟨rfl, ⟨rfl, trivial⟩⟩⟩ ?_
      exact vq_Model_star_0_55 h
  · have h := h.2 c
    refine mm_iconst (M := M_Model_star) (v := 2) d_Model_star_31 (by decide) ?_
    refine mm_goto (M := M_Model_star) (tgt := 36) d_Model_star_32 (by decide) ?_
    refine mm_aload_n (M := M_Model_star) d_Model_star_36 rfl ?_
    refine mm_getf (M := M_Model_star) (u := .int (i 23)) 7 23 d_Model_star_37 fl_Model_130 xg_0 rfl ?_
    refine mm_iload_n (M := M_Model_star) d_Model_star_40 rfl ?_
    refine mm_if_eq (M := M_Model_star) 48 d_Model_star_41 (by decide) (fun c => ?_) (fun c => ?_)
    · have h := h.1 c
      refine mm_aload_n (M := M_Model_star) d_Model_star_48 rfl ?_
      refine mm_getf (M := M_Model_star) (u := .int (i 25)) 7 25 d_Model_star_49 fl_Model_133 xg_0 rfl ?_
      refine mm_eqs (st2 := [.int 2, .int (i 23), .int (i 25)].reverse ++ .ref 0 :: []) rfl ?_
      refine mm_callV (M := M_Model_star) (y := y_Model_pushBack) (M' := M_Model_pushBack) (d' := 0) (kc := 0) (ks := 0) (kc' := 0) (ks' := 0) (n := 3) d_Model_star_52 ok_Model_pushBack ml_Model_167 (by decide) rfl (Nat.le_of_ble_eq_true rfl) ⟨tw_875, ts_Model_pushBack⟩ xg_0 rfl (ct_Model_pushBack_0 h) (fun v w h => ?_)
      obtain ⟨i3, l3, a3, b3, rfl, rfl, h⟩ := h
      refine mm_eqs (st2 := []) rfl ?_
      refine mm_drop (L' := [some (.ref 0), some (.int z1), some (.int z2)]) ⟨rfl, ⟨rfl, ⟨rfl, trivial⟩⟩⟩ ?_
      exact vq_Model_star_0_55 h
    · have h := h.2 c
      refine mm_iload_n (M := M_Model_star) d_Model_star_44 rfl ?_
      refine mm_goto (M := M_Model_star) (tgt := 52) d_Model_star_45 (by decide) ?_
      refine mm_eqs (st2 := [.int 2, .int (i 23), .int z2].reverse ++ .ref 0 :: []) rfl ?_
      refine mm_callV (M := M_Model_star) (y := y_Model_pushBack) (M' := M_Model_pushBack) (d' := 0) (kc := 0) (ks := 0) (kc' := 0) (ks' := 0) (n := 3) d_Model_star_52 ok_Model_pushBack ml_Model_167 (by decide) rfl (Nat.le_of_ble_eq_true rfl) ⟨tw_875, ts_Model_pushBack⟩ xg_0 rfl (ct_Model_pushBack_0 h) (fun v w h => ?_)
      obtain ⟨i4, l4, a4, b4, rfl, rfl, h⟩ := h
      refine mm_eqs (st2 := []) rfl ?_
      refine mm_drop (L' := [some (.ref 0), some (.int z1), some (.int z2)]) ⟨rfl, ⟨rfl, ⟨rfl, trivial⟩⟩⟩ ?_
      exact vq_Model_star_0_55 h
def wp_Model_star_0 (i : mm_i) (l : mm_j) (a : mm_a) (b : mm_b) (x1 : Int32) (K : mm_i → mm_j → mm_a → mm_b → Prop) : Prop :=
  (x1 = 0 → wp_Model_push_0 i l a b 4 (i 23) (i 24) (i 25) (fun r1 i1 l1 a1 b1 => wq_Model_star_0_26 K i1 l1 a1 b1 x1 r1)) ∧ (¬ x1 = 0 → wp_Model_push_0 i l a b 5 (i 23) (i 24) (i 25) (fun r2 i2 l2 a2 b2 => wq_Model_star_0_26 K i2 l2 a2 b2 x1 r2))
set_option maxRecDepth 100000 in
set_option maxHeartbeats 4000000 in
theorem ct_Model_star_0 {i : mm_i} {l : mm_j} {a : mm_a} {b : mm_b} {t : mm_H} {x1 : Int32} {K : mm_i → mm_j → mm_a → mm_b → Prop} (h : wp_Model_star_0 i l a b x1 K) : mm_Ct y_Model_star M_Model_star 1 0 0 [.ref 0, .int x1] (Wm i l a b ++ t) (mx_PV t K) := by
  refine mm_Ct.of (by decide) rfl (fun q => absurd q (by decide)) (Nat.le_of_ble_eq_true rfl) ?_
  unfold wp_Model_star_0 at h
  refine mm_eqL (L' := [some (.ref 0), some (.int x1), none]) rfl ?_
  refine mm_aload_n (M := M_Model_star) d_Model_star_0 rfl ?_
  refine mm_iload_n (M := M_Model_star) d_Model_star_1 rfl ?_
  refine mm_if_eq (M := M_Model_star) 9 d_Model_star_2 (by decide) (fun c => ?_) (fun c => ?_)
  · have h := h.1 c
    refine mm_iconst (M := M_Model_star) (v := 4) d_Model_star_9 (by decide) ?_
    refine mm_aload_n (M := M_Model_star) d_Model_star_10 rfl ?_
    refine mm_getf (M := M_Model_star) (u := .int (i 23)) 7 23 d_Model_star_11 fl_Model_130 xg_0 rfl ?_
    refine mm_aload_n (M := M_Model_star) d_Model_star_14 rfl ?_
    refine mm_getf (M := M_Model_star) (u := .int (i 24)) 7 24 d_Model_star_15 fl_Model_120 xg_0 rfl ?_
    refine mm_aload_n (M := M_Model_star) d_Model_star_18 rfl ?_
    refine mm_getf (M := M_Model_star) (u := .int (i 25)) 7 25 d_Model_star_19 fl_Model_133 xg_0 rfl ?_
    refine mm_eqs (st2 := [.int 4, .int (i 23), .int (i 24), .int (i 25)].reverse ++ .ref 0 :: []) rfl ?_
    refine mm_callV (M := M_Model_star) (y := y_Model_push) (M' := M_Model_push) (d' := 0) (kc := 0) (ks := 0) (kc' := 0) (ks' := 0) (n := 4) d_Model_star_22 ok_Model_push ml_Model_159 (by decide) rfl (Nat.le_of_ble_eq_true rfl) ⟨tw_871, ts_Model_push⟩ xg_0 rfl (ct_Model_push_0 h) (fun v w h => ?_)
    obtain ⟨r1, i1, l1, a1, b1, rfl, rfl, h⟩ := h
    refine mm_eqs (st2 := [.int r1]) rfl ?_
    refine mm_istore_n (M := M_Model_star) d_Model_star_25 (Nat.le_of_ble_eq_true rfl) ?_
    refine mm_eqL (L' := [some (.ref 0), some (.int x1), some (.int r1)]) rfl ?_
    refine mm_drop (L' := [some (.ref 0), some (.int x1), some (.int r1)]) ⟨rfl, ⟨rfl, ⟨rfl, trivial⟩⟩⟩ ?_
    exact vq_Model_star_0_26 h
  · have h := h.2 c
    refine mm_iconst (M := M_Model_star) (v := 5) d_Model_star_5 (by decide) ?_
    refine mm_goto (M := M_Model_star) (tgt := 10) d_Model_star_6 (by decide) ?_
    refine mm_aload_n (M := M_Model_star) d_Model_star_10 rfl ?_
    refine mm_getf (M := M_Model_star) (u := .int (i 23)) 7 23 d_Model_star_11 fl_Model_130 xg_0 rfl ?_
    refine mm_aload_n (M := M_Model_star) d_Model_star_14 rfl ?_
    refine mm_getf (M := M_Model_star) (u := .int (i 24)) 7 24 d_Model_star_15 fl_Model_120 xg_0 rfl ?_
    refine mm_aload_n (M := M_Model_star) d_Model_star_18 rfl ?_
    refine mm_getf (M := M_Model_star) (u := .int (i 25)) 7 25 d_Model_star_19 fl_Model_133 xg_0 rfl ?_
    refine mm_eqs (st2 := [.int 5, .int (i 23), .int (i 24), .int (i 25)].reverse ++ .ref 0 :: []) rfl ?_
    refine mm_callV (M := M_Model_star) (y := y_Model_push) (M' := M_Model_push) (d' := 0) (kc := 0) (ks := 0) (kc' := 0) (ks' := 0) (n := 4) d_Model_star_22 ok_Model_push ml_Model_159 (by decide) rfl (Nat.le_of_ble_eq_true rfl) ⟨tw_871, ts_Model_push⟩ xg_0 rfl (ct_Model_push_0 h) (fun v w h => ?_)
    obtain ⟨r2, i2, l2, a2, b2, rfl, rfl, h⟩ := h
    refine mm_eqs (st2 := [.int r2]) rfl ?_
    refine mm_istore_n (M := M_Model_star) d_Model_star_25 (Nat.le_of_ble_eq_true rfl) ?_
    refine mm_eqL (L' := [some (.ref 0), some (.int x1), some (.int r2)]) rfl ?_
    refine mm_drop (L' := [some (.ref 0), some (.int x1), some (.int r2)]) ⟨rfl, ⟨rfl, ⟨rfl, trivial⟩⟩⟩ ?_
    exact vq_Model_star_0_26 h
def wp_Model_atom_0 (i : mm_i) (l : mm_j) (a : mm_a) (b : mm_b)  (K : mm_i → mm_j → mm_a → mm_b → Prop) : Prop :=
  wp_Model_t_0 (upd i 10 ((i 10) + (1 : Int32))) l a b (i 23) (fun r1 i1 l1 a1 b1 => (¬ r1 = (40 : Int32) → wp_Model_plain_0 i1 l1 a1 b1 (i1 23) (fun r2 i2 l2 a2 b2 => (r2 = 0 → wp_Model_go_0 i2 l2 a2 b2 6 0 (i2 25) (fun i3 l3 a3 b3 => K i3 l3 a3 b3)) ∧ (¬ r2 = 0 → wp_Model_go_0 i2 l2 a2 b2 5 0 (i2 25) (fun i4 l4 a4 b4 => K i4 l4 a4 b4)))) ∧ (r1 = (40 : Int32) → wp_Model_openChoice_0 i1 l1 a1 b1 (i1 23) (fun i5 l5 a5 b5 => K i5 l5 a5 b5)))
set_option maxRecDepth 100000 in
set_option maxHeartbeats 4000000 in
theorem ct_Model_atom_0 {i : mm_i} {l : mm_j} {a : mm_a} {b : mm_b} {t : mm_H}  {K : mm_i → mm_j → mm_a → mm_b → Prop} (h : wp_Model_atom_0 i l a b  K) : mm_Ct y_Model_atom M_Model_atom 4 0 0 [.ref 0] (Wm i l a b ++ t) (mx_PV t K) := by
  refine mm_Ct.of (by decide) rfl (fun q => absurd q (by decide)) (Nat.le_of_ble_eq_true rfl) ?_
  unfold wp_Model_atom_0 at h
  refine mm_eqL (L' := [some (.ref 0)]) rfl ?_
  refine mm_aload_n (M := M_Model_atom) d_Model_atom_0 rfl ?_
  refine mm_dup (M := M_Model_atom) d_Model_atom_1 rfl ?_
  refine mm_getf (M := M_Model_atom) (u := .int (i 10)) 7 10 d_Model_atom_2 fl_Model_173 xg_0 rfl ?_
  refine mm_iconst (M := M_Model_atom) (v := 1) d_Model_atom_5 (by decide) ?_
  refine mm_iadd (M := M_Model_atom) d_Model_atom_6 ?_
  refine mm_putf (M := M_Model_atom) 7 10 .int d_Model_atom_7 fl_Model_173 fp_Model_173 ft_7_10 xg_0 (Nat.le_of_ble_eq_true rfl) trivial ?_
  refine mm_eqw xs_10 ?_
  refine mm_aload_n (M := M_Model_atom) d_Model_atom_10 rfl ?_
  refine mm_aload_n (M := M_Model_atom) d_Model_atom_11 rfl ?_
  refine mm_getf (M := M_Model_atom) (u := .int (i 23)) 7 23 d_Model_atom_12 fl_Model_130 xg_0 rfl ?_
  refine mm_eqs (st2 := [.int (i 23)].reverse ++ .ref 0 :: []) rfl ?_
  refine mm_callV (M := M_Model_atom) (y := y_Model_t) (M' := M_Model_t) (d' := 0) (kc := 0) (ks := 0) (kc' := 0) (ks' := 0) (n := 1) d_Model_atom_15 ok_Model_t ml_Model_102 (by decide) rfl (Nat.le_of_ble_eq_true rfl) ⟨tw_855, ts_Model_t⟩ xg_0 rfl (ct_Model_t_0 h) (fun v w h => ?_)
  obtain ⟨r1, i1, l1, a1, b1, rfl, rfl, h⟩ := h
  refine mm_eqs (st2 := [.int r1]) rfl ?_
  refine mm_bipush (M := M_Model_atom) (v := 40) d_Model_atom_18 (by decide) ?_
  refine mm_icmp_ne (M := M_Model_atom) 34 d_Model_atom_20 (by decide) (fun c => ?_) (fun c => ?_)
  · have h := h.1 c
    refine mm_aload_n (M := M_Model_atom) d_Model_atom_34 rfl ?_
    refine mm_aload_n (M := M_Model_atom) d_Model_atom_35 rfl ?_
    refine mm_aload_n (M := M_Model_atom) d_Model_atom_36 rfl ?_
    refine mm_getf (M := M_Model_atom) (u := .int (i1 23)) 7 23 d_Model_atom_37 fl_Model_130 xg_0 rfl ?_
    refine mm_eqs (st2 := [.int (i1 23)].reverse ++ .ref 0 :: [.ref 0]) rfl ?_
    refine mm_callV (M := M_Model_atom) (y := y_Model_plain) (M' := M_Model_plain) (d' := 3) (kc := 0) (ks := 0) (kc' := 0) (ks' := 0) (n := 1) d_Model_atom_40 ok_Model_plain ml_Model_183 (by decide) rfl (Nat.le_of_ble_eq_true rfl) ⟨tw_911, ts_Model_plain⟩ xg_0 rfl (ct_Model_plain_0 h) (fun v w h => ?_)
    obtain ⟨r2, i2, l2, a2, b2, rfl, rfl, h⟩ := h
    refine mm_eqs (st2 := [.int r2, .ref 0]) rfl ?_
    refine mm_if_eq (M := M_Model_atom) 50 d_Model_atom_43 (by decide) (fun c => ?_) (fun c => ?_)
    · have h := h.1 c
      refine mm_bipush (M := M_Model_atom) (v := 6) d_Model_atom_50 (by decide) ?_
      refine mm_iconst (M := M_Model_atom) (v := 0) d_Model_atom_52 (by decide) ?_
      refine mm_aload_n (M := M_Model_atom) d_Model_atom_53 rfl ?_
      refine mm_getf (M := M_Model_atom) (u := .int (i2 25)) 7 25 d_Model_atom_54 fl_Model_133 xg_0 rfl ?_
      refine mm_eqs (st2 := [.int 6, .int 0, .int (i2 25)].reverse ++ .ref 0 :: []) rfl ?_
      refine mm_callV (M := M_Model_atom) (y := y_Model_go) (M' := M_Model_go) (d' := 0) (kc := 0) (ks := 0) (kc' := 0) (ks' := 0) (n := 3) d_Model_atom_57 ok_Model_go ml_Model_163 (by decide) rfl (Nat.le_of_ble_eq_true rfl) ⟨tw_842, ts_Model_go⟩ xg_0 rfl (ct_Model_go_0 h) (fun v w h => ?_)
      obtain ⟨i3, l3, a3, b3, rfl, rfl, h⟩ := h
      refine mm_eqs (st2 := []) rfl ?_
      exact mm_ret (M := M_Model_atom) ⟨rfl, d_Model_atom_60⟩ ⟨_, _, _, _, rfl, rfl, h⟩
    · have h := h.2 c
      refine mm_iconst (M := M_Model_atom) (v := 5) d_Model_atom_46 (by decide) ?_
      refine mm_goto (M := M_Model_atom) (tgt := 52) d_Model_atom_47 (by decide) ?_
      refine mm_iconst (M := M_Model_atom) (v := 0) d_Model_atom_52 (by decide) ?_
      refine mm_aload_n (M := M_Model_atom) d_Model_atom_53 rfl ?_
      refine mm_getf (M := M_Model_atom) (u := .int (i2 25)) 7 25 d_Model_atom_54 fl_Model_133 xg_0 rfl ?_
      refine mm_eqs (st2 := [.int 5, .int 0, .int (i2 25)].reverse ++ .ref 0 :: []) rfl ?_
      refine mm_callV (M := M_Model_atom) (y := y_Model_go) (M' := M_Model_go) (d' := 0) (kc := 0) (ks := 0) (kc' := 0) (ks' := 0) (n := 3) d_Model_atom_57 ok_Model_go ml_Model_163 (by decide) rfl (Nat.le_of_ble_eq_true rfl) ⟨tw_842, ts_Model_go⟩ xg_0 rfl (ct_Model_go_0 h) (fun v w h => ?_)
      obtain ⟨i4, l4, a4, b4, rfl, rfl, h⟩ := h
      refine mm_eqs (st2 := []) rfl ?_
      exact mm_ret (M := M_Model_atom) ⟨rfl, d_Model_atom_60⟩ ⟨_, _, _, _, rfl, rfl, h⟩
  · have h := h.2 c
    refine mm_aload_n (M := M_Model_atom) d_Model_atom_23 rfl ?_
    refine mm_aload_n (M := M_Model_atom) d_Model_atom_24 rfl ?_
    refine mm_getf (M := M_Model_atom) (u := .int (i1 23)) 7 23 d_Model_atom_25 fl_Model_130 xg_0 rfl ?_
    refine mm_eqs (st2 := [.int (i1 23)].reverse ++ .ref 0 :: []) rfl ?_
    refine mm_callV (M := M_Model_atom) (y := y_Model_openChoice) (M' := M_Model_openChoice) (d' := 2) (kc := 0) (ks := 0) (kc' := 0) (ks' := 0) (n := 1) d_Model_atom_28 ok_Model_openChoice ml_Model_179 (by decide) rfl (Nat.le_of_ble_eq_true rfl) ⟨tw_887, ts_Model_openChoice⟩ xg_0 rfl (ct_Model_openChoice_0 h) (fun v w h => ?_)
    obtain ⟨i5, l5, a5, b5, rfl, rfl, h⟩ := h
    refine mm_eqs (st2 := []) rfl ?_
    refine mm_goto (M := M_Model_atom) (tgt := 60) d_Model_atom_31 (by decide) ?_
    exact mm_ret (M := M_Model_atom) ⟨rfl, d_Model_atom_60⟩ ⟨_, _, _, _, rfl, rfl, h⟩
def wp_Model_carryOn_0 (i : mm_i) (l : mm_j) (a : mm_a) (b : mm_b)  (K : mm_i → mm_j → mm_a → mm_b → Prop) : Prop :=
  wp_Model_parentOf_0 i l a b (i 25) (fun r1 i1 l1 a1 b1 => wp_Model_placeOf_0 i1 l1 a1 b1 (i 25) (fun r2 i2 l2 a2 b2 => wp_Model_numberOf_0 i2 l2 a2 b2 (i 25) (fun r3 i3 l3 a3 b3 => wp_Model_kindOf_0 i3 l3 a3 b3 (i 25) (fun r4 i4 l4 a4 b4 => (r4 = 1 → wp_Model_go_0 i4 l4 a4 b4 0 r2 r1 (fun i5 l5 a5 b5 => K i5 l5 a5 b5)) ∧ (¬ r4 = 1 → (r4 = 2 → wp_Model_go_0 i4 (vp_updL l4 26 (((l4 26) &&& (((4095 : Int64) <<< (((12 : Int32) * (r2 - (1 : Int32))).toInt64 &&& 63)) ^^^ ((-1) : Int64))) ||| ((((((64 : Int32) * (r3 + (1 : Int32))) + (i4 24)) + (1 : Int32)).toInt64) <<< (((12 : Int32) * (r2 - (1 : Int32))).toInt64 &&& 63)))) a4 b4 5 0 r1 (fun i6 l6 a6 b6 => K i6 l6 a6 b6)) ∧ (¬ r4 = 2 → (r4 = 3 → vp_in r3 301 ∧ (wp_Model_go_0 i4 (vp_updL l4 26 ((b4 6) r3.toNatClampNeg)) a4 b4 5 0 r1 (fun i7 l7 a7 b7 => K i7 l7 a7 b7))) ∧ (¬ r4 = 3 → (r4 = 4 → (¬ r3 = (i4 24) → wp_Model_kindOf_0 i4 l4 a4 b4 (i 25) (fun r8 i8 l8 a8 b8 => wp_Model_go_0 i8 l8 a8 b8 (r8 - (1 : Int32)) r2 r1 (fun i9 l9 a9 b9 => K i9 l9 a9 b9))) ∧ (r3 = (i4 24) → wp_Model_go_0 i4 l4 a4 b4 5 r2 r1 (fun i10 l10 a10 b10 => K i10 l10 a10 b10))) ∧ (¬ r4 = 4 → (r4 = 5 → (¬ r3 = (i4 24) → wp_Model_kindOf_0 i4 l4 a4 b4 (i 25) (fun r11 i11 l11 a11 b11 => wp_Model_go_0 i11 l11 a11 b11 (r11 - (1 : Int32)) r2 r1 (fun i12 l12 a12 b12 => K i12 l12 a12 b12))) ∧ (r3 = (i4 24) → wp_Model_go_0 i4 l4 a4 b4 5 r2 r1 (fun i13 l13 a13 b13 => K i13 l13 a13 b13))) ∧ (¬ r4 = 5 → (r4 = 6 → (¬ r3 = 0 → (¬ r3 = 0 → wp_Model_push_0 i4 l4 a4 b4 6 r2 (r3 - (1 : Int32)) r1 (fun r14 i14 l14 a14 b14 => wp_Model_go_0 i14 l14 a14 b14 2 r2 r14 (fun i15 l15 a15 b15 => K i15 l15 a15 b15))) ∧ (r3 = 0 → wp_Model_go_0 i4 l4 a4 b4 2 r2 r1 (fun i16 l16 a16 b16 => K i16 l16 a16 b16))) ∧ (r3 = 0 → (¬ r3 = 0 → wp_Model_push_0 i4 l4 a4 b4 6 r2 (r3 - (1 : Int32)) r1 (fun r17 i17 l17 a17 b17 => wp_Model_go_0 i17 l17 a17 b17 5 r2 r17 (fun i18 l18 a18 b18 => K i18 l18 a18 b18))) ∧ (r3 = 0 → wp_Model_go_0 i4 l4 a4 b4 5 r2 r1 (fun i19 l19 a19 b19 => K i19 l19 a19 b19)))) ∧ (¬ r4 = 6 → (r4 = 7 → wp_Model_kindOf_0 (upd i4 19 r3) l4 a4 b4 (i 25) (fun r20 i20 l20 a20 b20 => (¬ r20 = (8 : Int32) → wp_Model_go_0 i20 l20 a20 b20 5 0 r1 (fun i21 l21 a21 b21 => K i21 l21 a21 b21)) ∧ (r20 = (8 : Int32) → wp_Model_go_0 (upd i20 24 r2) l20 a20 b20 5 0 r1 (fun i22 l22 a22 b22 => K i22 l22 a22 b22)))) ∧ (¬ r4 = 7 → (r4 = 8 → wp_Model_kindOf_0 (upd i4 19 r3) l4 a4 b4 (i 25) (fun r23 i23 l23 a23 b23 => (¬ r23 = (8 : Int32) → wp_Model_go_0 i23 l23 a23 b23 5 0 r1 (fun i24 l24 a24 b24 => K i24 l24 a24 b24)) ∧ (r23 = (8 : Int32) → wp_Model_go_0 (upd i23 24 r2) l23 a23 b23 5 0 r1 (fun i25 l25 a25 b25 => K i25 l25 a25 b25)))) ∧ (¬ r4 = 8 → (r4 = 9 → wp_Model_go_0 (upd i4 19 r3) l4 a4 b4 6 0 r1 (fun i26 l26 a26 b26 => K i26 l26 a26 b26)) ∧ (¬ r4 = 9 → wp_Model_kindOf_0 i4 l4 a4 b4 (i 25) (fun r27 i27 l27 a27 b27 => wp_Model_go_0 i27 l27 a27 b27 (r27 - (7 : Int32)) r2 r1 (fun i28 l28 a28 b28 => K i28 l28 a28 b28)))))))))))))))
set_option maxRecDepth 100000 in
set_option maxHeartbeats 4000000 in
theorem ct_Model_carryOn_0 {i : mm_i} {l : mm_j} {a : mm_a} {b : mm_b} {t : mm_H}  {K : mm_i → mm_j → mm_a → mm_b → Prop} (h : wp_Model_carryOn_0 i l a b  K) : mm_Ct y_Model_carryOn M_Model_carryOn 1 0 0 [.ref 0] (Wm i l a b ++ t) (mx_PV t K) := by
  refine mm_Ct.of (by decide) rfl (fun q => absurd q (by decide)) (Nat.le_of_ble_eq_true rfl) ?_
  unfold wp_Model_carryOn_0 at h
  refine mm_eqL (L' := [some (.ref 0), none, none, none, none, none]) rfl ?_
  refine mm_aload_n (M := M_Model_carryOn) d_Model_carryOn_0 rfl ?_
  refine mm_getf (M := M_Model_carryOn) (u := .int (i 25)) 7 25 d_Model_carryOn_1 fl_Model_133 xg_0 rfl ?_
  refine mm_istore_n (M := M_Model_carryOn) d_Model_carryOn_4 (Nat.le_of_ble_eq_true rfl) ?_
  refine mm_eqL (L' := [some (.ref 0), some (.int (i 25)), none, none, none, none]) rfl ?_
  refine mm_aload_n (M := M_Model_carryOn) d_Model_carryOn_5 rfl ?_
  refine mm_iload_n (M := M_Model_carryOn) d_Model_carryOn_6 rfl ?_
  refine mm_eqs (st2 := [.int (i 25)].reverse ++ .ref 0 :: []) rfl ?_
  refine mm_callV (M := M_Model_carryOn) (y := y_Model_parentOf) (M' := M_Model_parentOf) (d' := 0) (kc := 0) (ks := 0) (kc' := 0) (ks' := 0) (n := 1) d_Model_carryOn_7 ok_Model_parentOf ml_Model_139 (by decide) rfl (Nat.le_of_ble_eq_true rfl) ⟨tw_903, ts_Model_parentOf⟩ xg_0 rfl (ct_Model_parentOf_0 h) (fun v w h => ?_)
  obtain ⟨r1, i1, l1, a1, b1, rfl, rfl, h⟩ := h
  refine mm_eqs (st2 := [.int r1]) rfl ?_
  refine mm_istore_n (M := M_Model_carryOn) d_Model_carryOn_10 (Nat.le_of_ble_eq_true rfl) ?_
  refine mm_eqL (L' := [some (.ref 0), some (.int (i 25)), some (.int r1), none, none, none]) rfl ?_
  refine mm_aload_n (M := M_Model_carryOn) d_Model_carryOn_11 rfl ?_
  refine mm_iload_n (M := M_Model_carryOn) d_Model_carryOn_12 rfl ?_
  refine mm_eqs (st2 := [.int (i 25)].reverse ++ .ref 0 :: []) rfl ?_
  refine mm_callV (M := M_Model_carryOn) (y := y_Model_placeOf) (M' := M_Model_placeOf) (d' := 0) (kc := 0) (ks := 0) (kc' := 0) (ks' := 0) (n := 1) d_Model_carryOn_13 ok_Model_placeOf ml_Model_186 (by decide) rfl (Nat.le_of_ble_eq_true rfl) ⟨tw_939, ts_Model_placeOf⟩ xg_0 rfl (ct_Model_placeOf_0 h) (fun v w h => ?_)
  obtain ⟨r2, i2, l2, a2, b2, rfl, rfl, h⟩ := h
  refine mm_eqs (st2 := [.int r2]) rfl ?_
  refine mm_istore_n (M := M_Model_carryOn) d_Model_carryOn_16 (Nat.le_of_ble_eq_true rfl) ?_
  refine mm_eqL (L' := [some (.ref 0), some (.int (i 25)), some (.int r1), some (.int r2), none, none]) rfl ?_
  refine mm_aload_n (M := M_Model_carryOn) d_Model_carryOn_17 rfl ?_
  refine mm_iload_n (M := M_Model_carryOn) d_Model_carryOn_18 rfl ?_
  refine mm_eqs (st2 := [.int (i 25)].reverse ++ .ref 0 :: []) rfl ?_
  refine mm_callV (M := M_Model_carryOn) (y := y_Model_numberOf) (M' := M_Model_numberOf) (d' := 0) (kc := 0) (ks := 0) (kc' := 0) (ks' := 0) (n := 1) d_Model_carryOn_19 ok_Model_numberOf ml_Model_189 (by decide) rfl (Nat.le_of_ble_eq_true rfl) ⟨tw_943, ts_Model_numberOf⟩ xg_0 rfl (ct_Model_numberOf_0 h) (fun v w h => ?_)
  obtain ⟨r3, i3, l3, a3, b3, rfl, rfl, h⟩ := h
  refine mm_eqs (st2 := [.int r3]) rfl ?_
  refine mm_istore (M := M_Model_carryOn) d_Model_carryOn_22 (Nat.le_of_ble_eq_true rfl) ?_
  refine mm_eqL (L' := [some (.ref 0), some (.int (i 25)), some (.int r1), some (.int r2), some (.int r3), none]) rfl ?_
  refine mm_aload_n (M := M_Model_carryOn) d_Model_carryOn_24 rfl ?_
  refine mm_iload_n (M := M_Model_carryOn) d_Model_carryOn_25 rfl ?_
  refine mm_eqs (st2 := [.int (i 25)].reverse ++ .ref 0 :: []) rfl ?_
  refine mm_callV (M := M_Model_carryOn) (y := y_Model_kindOf) (M' := M_Model_kindOf) (d' := 0) (kc := 0) (ks := 0) (kc' := 0) (ks' := 0) (n := 1) d_Model_carryOn_26 ok_Model_kindOf ml_Model_136 (by decide) rfl (Nat.le_of_ble_eq_true rfl) ⟨tw_899, ts_Model_kindOf⟩ xg_0 rfl (ct_Model_kindOf_0 h) (fun v w h => ?_)
  obtain ⟨r4, i4, l4, a4, b4, rfl, rfl, h⟩ := h
  refine mm_eqs (st2 := [.int r4]) rfl ?_
  refine mm_table (M := M_Model_carryOn) [(1, 80), (2, 90), (3, 146), (4, 167), (5, 167), (6, 196), (7, 235), (8, 235), (9, 266)] 283 d_Model_carryOn_29 (by decide) (by decide +kernel) (by decide +kernel) (by decide) ⟨fun c0 => ?_, fun c0 => ⟨fun c1 => ?_, fun c1 => ⟨fun c2 => ?_, fun c2 => ⟨fun c3 => ?_, fun c3 => ⟨fun c4 => ?_, fun c4 => ⟨fun c5 => ?_, fun c5 => ⟨fun c6 => ?_, fun c6 => ⟨fun c7 => ?_, fun c7 => ⟨fun c8 => ?_, fun c8 => ?_⟩⟩⟩⟩⟩⟩⟩⟩⟩
  · have h := h.1 c0
    refine mm_aload_n (M := M_Model_carryOn) d_Model_carryOn_80 rfl ?_
    refine mm_iconst (M := M_Model_carryOn) (v := 0) d_Model_carryOn_81 (by decide) ?_
    refine mm_iload_n (M := M_Model_carryOn) d_Model_carryOn_82 rfl ?_
    refine mm_iload_n (M := M_Model_carryOn) d_Model_carryOn_83 rfl ?_
    refine mm_eqs (st2 := [.int 0, .int r2, .int r1].reverse ++ .ref 0 :: []) rfl ?_
    refine mm_callV (M := M_Model_carryOn) (y := y_Model_go) (M' := M_Model_go) (d' := 0) (kc := 0) (ks := 0) (kc' := 0) (ks' := 0) (n := 3) d_Model_carryOn_84 ok_Model_go ml_Model_163 (by decide) rfl (Nat.le_of_ble_eq_true rfl) ⟨tw_842, ts_Model_go⟩ xg_0 rfl (ct_Model_go_0 h) (fun v w h => ?_)
    obtain ⟨i5, l5, a5, b5, rfl, rfl, h⟩ := h
    refine mm_eqs (st2 := []) rfl ?_
    refine mm_goto (M := M_Model_carryOn) (tgt := 297) d_Model_carryOn_87 (by decide) ?_
    exact mm_ret (M := M_Model_carryOn) ⟨rfl, d_Model_carryOn_297⟩ ⟨_, _, _, _, rfl, rfl, h⟩
  · have h := (h.2 c0).1 c1
    refine mm_bipush (M := M_Model_carryOn) (v := 12) d_Model_carryOn_90 (by decide) ?_
    refine mm_iload_n (M := M_Model_carryOn) d_Model_carryOn_92 rfl ?_
    refine mm_iconst (M := M_Model_carryOn) (v := 1) d_Model_carryOn_93 (by decide) ?_
    refine mm_isub (M := M_Model_carryOn) d_Model_carryOn_94 ?_
    refine mm_imul (M := M_Model_carryOn) d_Model_carryOn_95 ?_
    refine mm_istore (M := M_Model_carryOn) d_Model_carryOn_96 (Nat.le_of_ble_eq_true rfl) ?_
    refine mm_eqL (L' := [some (.ref 0), some (.int (i 25)), some (.int r1), some (.int r2), some (.int r3), some (.int ((12 : Int32) * (r2 - (1 : Int32))))]) rfl ?_
    refine mm_aload_n (M := M_Model_carryOn) d_Model_carryOn_98 rfl ?_
    refine mm_aload_n (M := M_Model_carryOn) d_Model_carryOn_99 rfl ?_
    refine mm_getf (M := M_Model_carryOn) (u := .long (l4 26)) 7 26 d_Model_carryOn_100 fl_Model_123 xg_0 rfl ?_
    refine mm_ldc2 (M := M_Model_carryOn) (v := 4095) d_Model_carryOn_103 tw_945 ?_
    refine mm_iload (M := M_Model_carryOn) d_Model_carryOn_106 rfl ?_
    refine mm_lshl (M := M_Model_carryOn) d_Model_carryOn_108 ?_
    refine mm_ldc2 (M := M_Model_carryOn) (v := (-1)) d_Model_carryOn_109 tw_946 ?_
    refine mm_lxor (M := M_Model_carryOn) d_Model_carryOn_112 ?_
    refine mm_land (M := M_Model_carryOn) d_Model_carryOn_113 ?_
    refine mm_bipush (M := M_Model_carryOn) (v := 64) d_Model_carryOn_114 (by decide) ?_
    refine mm_iload (M := M_Model_carryOn) d_Model_carryOn_116 rfl ?_
    refine mm_iconst (M := M_Model_carryOn) (v := 1) d_Model_carryOn_118 (by decide) ?_
    refine mm_iadd (M := M_Model_carryOn) d_Model_carryOn_119 ?_
    refine mm_imul (M := M_Model_carryOn) d_Model_carryOn_120 ?_
    refine mm_aload_n (M := M_Model_carryOn) d_Model_carryOn_121 rfl ?_
    refine mm_getf (M := M_Model_carryOn) (u := .int (i4 24)) 7 24 d_Model_carryOn_122 fl_Model_120 xg_0 rfl ?_
    refine mm_iadd (M := M_Model_carryOn) d_Model_carryOn_125 ?_
    refine mm_iconst (M := M_Model_carryOn) (v := 1) d_Model_carryOn_126 (by decide) ?_
    refine mm_iadd (M := M_Model_carryOn) d_Model_carryOn_127 ?_
    refine mm_i2l (M := M_Model_carryOn) d_Model_carryOn_128 ?_
    refine mm_iload (M := M_Model_carryOn) d_Model_carryOn_129 rfl ?_
    refine mm_lshl (M := M_Model_carryOn) d_Model_carryOn_131 ?_
    refine mm_lor (M := M_Model_carryOn) d_Model_carryOn_132 ?_
    refine mm_putf (M := M_Model_carryOn) 7 26 .long d_Model_carryOn_133 fl_Model_123 fp_Model_123 ft_7_26 xg_0 (Nat.le_of_ble_eq_true rfl) trivial ?_
    refine mm_eqw xs_26 ?_
    refine mm_aload_n (M := M_Model_carryOn) d_Model_carryOn_136 rfl ?_
    refine mm_iconst (M := M_Model_carryOn) (v := 5) d_Model_carryOn_137 (by decide) ?_
    refine mm_iconst (M := M_Model_carryOn) (v := 0) d_Model_carryOn_138 (by decide) ?_
    refine mm_iload_n (M := M_Model_carryOn) d_Model_carryOn_139 rfl ?_
    refine mm_eqs (st2 := [.int 5, .int 0, .int r1].reverse ++ .ref 0 :: []) rfl ?_
    refine mm_callV (M := M_Model_carryOn) (y := y_Model_go) (M' := M_Model_go) (d' := 0) (kc := 0) (ks := 0) (kc' := 0) (ks' := 0) (n := 3) d_Model_carryOn_140 ok_Model_go ml_Model_163 (by decide) rfl (Nat.le_of_ble_eq_true rfl) ⟨tw_842, ts_Model_go⟩ xg_0 rfl (ct_Model_go_0 h) (fun v w h => ?_)
    obtain ⟨i6, l6, a6, b6, rfl, rfl, h⟩ := h
    refine mm_eqs (st2 := []) rfl ?_
    refine mm_goto (M := M_Model_carryOn) (tgt := 297) d_Model_carryOn_143 (by decide) ?_
    exact mm_ret (M := M_Model_carryOn) ⟨rfl, d_Model_carryOn_297⟩ ⟨_, _, _, _, rfl, rfl, h⟩
  · have h := ((h.2 c0).2 c1).1 c2
    refine mm_aload_n (M := M_Model_carryOn) d_Model_carryOn_146 rfl ?_
    refine mm_aload_n (M := M_Model_carryOn) d_Model_carryOn_147 rfl ?_
    refine mm_getf (M := M_Model_carryOn) (u := .ref 6) 7 18 d_Model_carryOn_148 fl_Model_26 xg_0 rfl ?_
    refine mm_iload (M := M_Model_carryOn) d_Model_carryOn_151 rfl ?_
    obtain ⟨hin, h⟩ := h
    refine mm_lald (M := M_Model_carryOn) (f := (b4 6)) d_Model_carryOn_153 xg_6 hin ?_
    refine mm_putf (M := M_Model_carryOn) 7 26 .long d_Model_carryOn_154 fl_Model_123 fp_Model_123 ft_7_26 xg_0 (Nat.le_of_ble_eq_true rfl) trivial ?_
    refine mm_eqw xs_26 ?_
    refine mm_aload_n (M := M_Model_carryOn) d_Model_carryOn_157 rfl ?_
    refine mm_iconst (M := M_Model_carryOn) (v := 5) d_Model_carryOn_158 (by decide) ?_
    refine mm_iconst (M := M_Model_carryOn) (v := 0) d_Model_carryOn_159 (by decide) ?_
    refine mm_iload_n (M := M_Model_carryOn) d_Model_carryOn_160 rfl ?_
    refine mm_eqs (st2 := [.int 5, .int 0, .int r1].reverse ++ .ref 0 :: []) rfl ?_
    refine mm_callV (M := M_Model_carryOn) (y := y_Model_go) (M' := M_Model_go) (d' := 0) (kc := 0) (ks := 0) (kc' := 0) (ks' := 0) (n := 3) d_Model_carryOn_161 ok_Model_go ml_Model_163 (by decide) rfl (Nat.le_of_ble_eq_true rfl) ⟨tw_842, ts_Model_go⟩ xg_0 rfl (ct_Model_go_0 h) (fun v w h => ?_)
    obtain ⟨i7, l7, a7, b7, rfl, rfl, h⟩ := h
    refine mm_eqs (st2 := []) rfl ?_
    refine mm_goto (M := M_Model_carryOn) (tgt := 297) d_Model_carryOn_164 (by decide) ?_
    exact mm_ret (M := M_Model_carryOn) ⟨rfl, d_Model_carryOn_297⟩ ⟨_, _, _, _, rfl, rfl, h⟩
  · have h := (((h.2 c0).2 c1).2 c2).1 c3
    refine mm_aload_n (M := M_Model_carryOn) d_Model_carryOn_167 rfl ?_
    refine mm_iload (M := M_Model_carryOn) d_Model_carryOn_168 rfl ?_
    refine mm_aload_n (M := M_Model_carryOn) d_Model_carryOn_170 rfl ?_
    refine mm_getf (M := M_Model_carryOn) (u := .int (i4 24)) 7 24 d_Model_carryOn_171 fl_Model_120 xg_0 rfl ?_
    refine mm_icmp_ne (M := M_Model_carryOn) 181 d_Model_carryOn_174 (by decide) (fun c => ?_) (fun c => ?_)
    · have h := h.1 c
      refine mm_aload_n (M := M_Model_carryOn) d_Model_carryOn_181 rfl ?_
      refine mm_iload_n (M := M_Model_carryOn) d_Model_carryOn_182 rfl ?_
      refine mm_eqs (st2 := [.int (i 25)].reverse ++ .ref 0 :: [.ref 0]) rfl ?_
      refine mm_callV (M := M_Model_carryOn) (y := y_Model_kindOf) (M' := M_Model_kindOf) (d' := 0) (kc := 0) (ks := 0) (kc' := 0) (ks' := 0) (n := 1) d_Model_carryOn_183 ok_Model_kindOf ml_Model_136 (by decide) rfl (Nat.le_of_ble_eq_true rfl) ⟨tw_899, ts_Model_kindOf⟩ xg_0 rfl (ct_Model_kindOf_0 h) (fun v w h => ?_)
      obtain ⟨r8, i8, l8, a8, b8, rfl, rfl, h⟩ := h
      refine mm_eqs (st2 := [.int r8, .ref 0]) rfl ?_
      refine mm_iconst (M := M_Model_carryOn) (v := 1) d_Model_carryOn_186 (by decide) ?_
      refine mm_isub (M := M_Model_carryOn) d_Model_carryOn_187 ?_
      refine mm_iload_n (M := M_Model_carryOn) d_Model_carryOn_188 rfl ?_
      refine mm_iload_n (M := M_Model_carryOn) d_Model_carryOn_189 rfl ?_
      refine mm_eqs (st2 := [.int (r8 - (1 : Int32)), .int r2, .int r1].reverse ++ .ref 0 :: []) rfl ?_
      refine mm_callV (M := M_Model_carryOn) (y := y_Model_go) (M' := M_Model_go) (d' := 0) (kc := 0) (ks := 0) (kc' := 0) (ks' := 0) (n := 3) d_Model_carryOn_190 ok_Model_go ml_Model_163 (by decide) rfl (Nat.le_of_ble_eq_true rfl) ⟨tw_842, ts_Model_go⟩ xg_0 rfl (ct_Model_go_0 h) (fun v w h => ?_)
      obtain ⟨i9, l9, a9, b9, rfl, rfl, h⟩ := h
      refine mm_eqs (st2 := []) rfl ?_
      refine mm_goto (M := M_Model_carryOn) (tgt := 297) d_Model_carryOn_193 (by decide) ?_
      exact mm_ret (M := M_Model_carryOn) ⟨rfl, d_Model_carryOn_297⟩ ⟨_, _, _, _, rfl, rfl, h⟩
    · have h := h.2 c
      refine mm_iconst (M := M_Model_carryOn) (v := 5) d_Model_carryOn_177 (by decide) ?_
      refine mm_goto (M := M_Model_carryOn) (tgt := 188) d_Model_carryOn_178 (by decide) ?_
      refine mm_iload_n (M := M_Model_carryOn) d_Model_carryOn_188 rfl ?_
      refine mm_iload_n (M := M_Model_carryOn) d_Model_carryOn_189 rfl ?_
      refine mm_eqs (st2 := [.int 5, .int r2, .int r1].reverse ++ .ref 0 :: []) rfl ?_
      refine mm_callV (M := M_Model_carryOn) (y := y_Model_go) (M' := M_Model_go) (d' := 0) (kc := 0) (ks := 0) (kc' := 0) (ks' := 0) (n := 3) d_Model_carryOn_190 ok_Model_go ml_Model_163 (by decide) rfl (Nat.le_of_ble_eq_true rfl) ⟨tw_842, ts_Model_go⟩ xg_0 rfl (ct_Model_go_0 h) (fun v w h => ?_)
      obtain ⟨i10, l10, a10, b10, rfl, rfl, h⟩ := h
      refine mm_eqs (st2 := []) rfl ?_
      refine mm_goto (M := M_Model_carryOn) (tgt := 297) d_Model_carryOn_193 (by decide) ?_
      exact mm_ret (M := M_Model_carryOn) ⟨rfl, d_Model_carryOn_297⟩ ⟨_, _, _, _, rfl, rfl, h⟩
  · have h := ((((h.2 c0).2 c1).2 c2).2 c3).1 c4
    refine mm_aload_n (M := M_Model_carryOn) d_Model_carryOn_167 rfl ?_
    refine mm_iload (M := M_Model_carryOn) d_Model_carryOn_168 rfl ?_
    refine mm_aload_n (M := M_Model_carryOn) d_Model_carryOn_170 rfl ?_
    refine mm_getf (M := M_Model_carryOn) (u := .int (i4 24)) 7 24 d_Model_carryOn_171 fl_Model_120 xg_0 rfl ?_
    refine mm_icmp_ne (M := M_Model_carryOn) 181 d_Model_carryOn_174 (by decide) (fun c => ?_) (fun c => ?_)
    · have h := h.1 c
      refine mm_aload_n (M := M_Model_carryOn) d_Model_carryOn_181 rfl ?_
      refine mm_iload_n (M := M_Model_carryOn) d_Model_carryOn_182 rfl ?_
      refine mm_eqs (st2 := [.int (i 25)].reverse ++ .ref 0 :: [.ref 0]) rfl ?_
      refine mm_callV (M := M_Model_carryOn) (y := y_Model_kindOf) (M' := M_Model_kindOf) (d' := 0) (kc := 0) (ks := 0) (kc' := 0) (ks' := 0) (n := 1) d_Model_carryOn_183 ok_Model_kindOf ml_Model_136 (by decide) rfl (Nat.le_of_ble_eq_true rfl) ⟨tw_899, ts_Model_kindOf⟩ xg_0 rfl (ct_Model_kindOf_0 h) (fun v w h => ?_)
      obtain ⟨r11, i11, l11, a11, b11, rfl, rfl, h⟩ := h
      refine mm_eqs (st2 := [.int r11, .ref 0]) rfl ?_
      refine mm_iconst (M := M_Model_carryOn) (v := 1) d_Model_carryOn_186 (by decide) ?_
      refine mm_isub (M := M_Model_carryOn) d_Model_carryOn_187 ?_
      refine mm_iload_n (M := M_Model_carryOn) d_Model_carryOn_188 rfl ?_
      refine mm_iload_n (M := M_Model_carryOn) d_Model_carryOn_189 rfl ?_
      refine mm_eqs (st2 := [.int (r11 - (1 : Int32)), .int r2, .int r1].reverse ++ .ref 0 :: []) rfl ?_
      refine mm_callV (M := M_Model_carryOn) (y := y_Model_go) (M' := M_Model_go) (d' := 0) (kc := 0) (ks := 0) (kc' := 0) (ks' := 0) (n := 3) d_Model_carryOn_190 ok_Model_go ml_Model_163 (by decide) rfl (Nat.le_of_ble_eq_true rfl) ⟨tw_842, ts_Model_go⟩ xg_0 rfl (ct_Model_go_0 h) (fun v w h => ?_)
      obtain ⟨i12, l12, a12, b12, rfl, rfl, h⟩ := h
      refine mm_eqs (st2 := []) rfl ?_
      refine mm_goto (M := M_Model_carryOn) (tgt := 297) d_Model_carryOn_193 (by decide) ?_
      exact mm_ret (M := M_Model_carryOn) ⟨rfl, d_Model_carryOn_297⟩ ⟨_, _, _, _, rfl, rfl, h⟩
    · have h := h.2 c
      refine mm_iconst (M := M_Model_carryOn) (v := 5) d_Model_carryOn_177 (by decide) ?_
      refine mm_goto (M := M_Model_carryOn) (tgt := 188) d_Model_carryOn_178 (by decide) ?_
      refine mm_iload_n (M := M_Model_carryOn) d_Model_carryOn_188 rfl ?_
      refine mm_iload_n (M := M_Model_carryOn) d_Model_carryOn_189 rfl ?_
      refine mm_eqs (st2 := [.int 5, .int r2, .int r1].reverse ++ .ref 0 :: []) rfl ?_
      refine mm_callV (M := M_Model_carryOn) (y := y_Model_go) (M' := M_Model_go) (d' := 0) (kc := 0) (ks := 0) (kc' := 0) (ks' := 0) (n := 3) d_Model_carryOn_190 ok_Model_go ml_Model_163 (by decide) rfl (Nat.le_of_ble_eq_true rfl) ⟨tw_842, ts_Model_go⟩ xg_0 rfl (ct_Model_go_0 h) (fun v w h => ?_)
      obtain ⟨i13, l13, a13, b13, rfl, rfl, h⟩ := h
      refine mm_eqs (st2 := []) rfl ?_
      refine mm_goto (M := M_Model_carryOn) (tgt := 297) d_Model_carryOn_193 (by decide) ?_
      exact mm_ret (M := M_Model_carryOn) ⟨rfl, d_Model_carryOn_297⟩ ⟨_, _, _, _, rfl, rfl, h⟩
  · have h := (((((h.2 c0).2 c1).2 c2).2 c3).2 c4).1 c5
    refine mm_aload_n (M := M_Model_carryOn) d_Model_carryOn_196 rfl ?_
    refine mm_iload (M := M_Model_carryOn) d_Model_carryOn_197 rfl ?_
    refine mm_if_ne (M := M_Model_carryOn) 206 d_Model_carryOn_199 (by decide) (fun c => ?_) (fun c => ?_)
    · have h := h.1 c
      refine mm_iconst (M := M_Model_carryOn) (v := 2) d_Model_carryOn_206 (by decide) ?_
      refine mm_iload_n (M := M_Model_carryOn) d_Model_carryOn_207 rfl ?_
      refine mm_iload (M := M_Model_carryOn) d_Model_carryOn_208 rfl ?_
      refine mm_if_ne (M := M_Model_carryOn) 217 d_Model_carryOn_210 (by decide) (fun c => ?_) (fun c => ?_)
      · have h := h.1 c
        refine mm_aload_n (M := M_Model_carryOn) d_Model_carryOn_217 rfl ?_
        refine mm_bipush (M := M_Model_carryOn) (v := 6) d_Model_carryOn_218 (by decide) ?_
        refine mm_iload_n (M := M_Model_carryOn) d_Model_carryOn_220 rfl ?_
        refine mm_iload (M := M_Model_carryOn) d_Model_carryOn_221 rfl ?_
        refine mm_iconst (M := M_Model_carryOn) (v := 1) d_Model_carryOn_223 (by decide) ?_
        refine mm_isub (M := M_Model_carryOn) d_Model_carryOn_224 ?_
        refine mm_iload_n (M := M_Model_carryOn) d_Model_carryOn_225 rfl ?_
        refine mm_eqs (st2 := [.int 6, .int r2, .int (r3 - (1 : Int32)), .int r1].reverse ++ .ref 0 :: [.int r2, .int 2, .ref 0]) rfl ?_
        refine mm_callV (M := M_Model_carryOn) (y := y_Model_push) (M' := M_Model_push) (d' := 0) (kc := 0) (ks := 0) (kc' := 0) (ks' := 0) (n := 4) d_Model_carryOn_226 ok_Model_push ml_Model_159 (by decide) rfl (Nat.le_of_ble_eq_true rfl) ⟨tw_871, ts_Model_push⟩ xg_0 rfl (ct_Model_push_0 h) (fun v w h => ?_)
        obtain ⟨r14, i14, l14, a14, b14, rfl, rfl, h⟩ := h
        refine mm_eqs (st2 := [.int r14, .int r2, .int 2, .ref 0]) rfl ?_
        refine mm_eqs (st2 := [.int 2, .int r2, .int r14].reverse ++ .ref 0 :: []) rfl ?_
        refine mm_callV (M := M_Model_carryOn) (y := y_Model_go) (M' := M_Model_go) (d' := 0) (kc := 0) (ks := 0) (kc' := 0) (ks' := 0) (n := 3) d_Model_carryOn_229 ok_Model_go ml_Model_163 (by decide) rfl (Nat.le_of_ble_eq_true rfl) ⟨tw_842, ts_Model_go⟩ xg_0 rfl (ct_Model_go_0 h) (fun v w h => ?_)
        obtain ⟨i15, l15, a15, b15, rfl, rfl, h⟩ := h
        refine mm_eqs (st2 := []) rfl ?_
        refine mm_goto (M := M_Model_carryOn) (tgt := 297) d_Model_carryOn_232 (by decide) ?_
        exact mm_ret (M := M_Model_carryOn) ⟨rfl, d_Model_carryOn_297⟩ ⟨_, _, _, _, rfl, rfl, h⟩
      · have h := h.2 c
        refine mm_iload_n (M := M_Model_carryOn) d_Model_carryOn_213 rfl ?_
        refine mm_goto (M := M_Model_carryOn) (tgt := 229) d_Model_carryOn_214 (by decide) ?_
        refine mm_eqs (st2 := [.int 2, .int r2, .int r1].reverse ++ .ref 0 :: []) rfl ?_
        refine mm_callV (M := M_Model_carryOn) (y := y_Model_go) (M' := M_Model_go) (d' := 0) (kc := 0) (ks := 0) (kc' := 0) (ks' := 0) (n := 3) d_Model_carryOn_229 ok_Model_go ml_Model_163 (by decide) rfl (Nat.le_of_ble_eq_true rfl) ⟨tw_842, ts_Model_go⟩ xg_0 rfl (ct_Model_go_0 h) (fun v w h => ?_)
        obtain ⟨i16, l16, a16, b16, rfl, rfl, h⟩ := h
        refine mm_eqs (st2 := []) rfl ?_
        refine mm_goto (M := M_Model_carryOn) (tgt := 297) d_Model_carryOn_232 (by decide) ?_
        exact mm_ret (M := M_Model_carryOn) ⟨rfl, d_Model_carryOn_297⟩ ⟨_, _, _, _, rfl, rfl, h⟩
    · have h := h.2 c
      refine mm_iconst (M := M_Model_carryOn) (v := 5) d_Model_carryOn_202 (by decide) ?_
      refine mm_goto (M := M_Model_carryOn) (tgt := 207) d_Model_carryOn_203 (by decide) ?_
      refine mm_iload_n (M := M_Model_carryOn) d_Model_carryOn_207 rfl ?_
      refine mm_iload (M := M_Model_carryOn) d_Model_carryOn_208 rfl ?_
      refine mm_if_ne (M := M_Model_carryOn) 217 d_Model_carryOn_210 (by decide) (fun c => ?_) (fun c => ?_)
      · have h := h.1 c
        refine mm_aload_n (M := M_Model_carryOn) d_Model_carryOn_217 rfl ?_
        refine mm_bipush (M := M_Model_carryOn) (v := 6) d_Model_carryOn_218 (by decide) ?_
        refine mm_iload_n (M := M_Model_carryOn) d_Model_carryOn_220 rfl ?_
        refine mm_iload (M := M_Model_carryOn) d_Model_carryOn_221 rfl ?_
        refine mm_iconst (M := M_Model_carryOn) (v := 1) d_Model_carryOn_223 (by decide) ?_
        refine mm_isub (M := M_Model_carryOn) d_Model_carryOn_224 ?_
        refine mm_iload_n (M := M_Model_carryOn) d_Model_carryOn_225 rfl ?_
        refine mm_eqs (st2 := [.int 6, .int r2, .int (r3 - (1 : Int32)), .int r1].reverse ++ .ref 0 :: [.int r2, .int 5, .ref 0]) rfl ?_
        refine mm_callV (M := M_Model_carryOn) (y := y_Model_push) (M' := M_Model_push) (d' := 0) (kc := 0) (ks := 0) (kc' := 0) (ks' := 0) (n := 4) d_Model_carryOn_226 ok_Model_push ml_Model_159 (by decide) rfl (Nat.le_of_ble_eq_true rfl) ⟨tw_871, ts_Model_push⟩ xg_0 rfl (ct_Model_push_0 h) (fun v w h => ?_)
        obtain ⟨r17, i17, l17, a17, b17, rfl, rfl, h⟩ := h
        refine mm_eqs (st2 := [.int r17, .int r2, .int 5, .ref 0]) rfl ?_
        refine mm_eqs (st2 := [.int 5, .int r2, .int r17].reverse ++ .ref 0 :: []) rfl ?_
        refine mm_callV (M := M_Model_carryOn) (y := y_Model_go) (M' := M_Model_go) (d' := 0) (kc := 0) (ks := 0) (kc' := 0) (ks' := 0) (n := 3) d_Model_carryOn_229 ok_Model_go ml_Model_163 (by decide) rfl (Nat.le_of_ble_eq_true rfl) ⟨tw_842, ts_Model_go⟩ xg_0 rfl (ct_Model_go_0 h) (fun v w h => ?_)
        obtain ⟨i18, l18, a18, b18, rfl, rfl, h⟩ := h
        refine mm_eqs (st2 := []) rfl ?_
        refine mm_goto (M := M_Model_carryOn) (tgt := 297) d_Model_carryOn_232 (by decide) ?_
        exact mm_ret (M := M_Model_carryOn) ⟨rfl, d_Model_carryOn_297⟩ ⟨_, _, _, _, rfl, rfl, h⟩
      · have h := h.2 c
        refine mm_iload_n (M := M_Model_carryOn) d_Model_carryOn_213 rfl ?_
        refine mm_goto (M := M_Model_carryOn) (tgt := 229) d_Model_carryOn_214 (by decide) ?_
        refine mm_eqs (st2 := [.int 5, .int r2, .int r1].reverse ++ .ref 0 :: []) rfl ?_
        refine mm_callV (M := M_Model_carryOn) (y := y_Model_go) (M' := M_Model_go) (d' := 0) (kc := 0) (ks := 0) (kc' := 0) (ks' := 0) (n := 3) d_Model_carryOn_229 ok_Model_go ml_Model_163 (by decide) rfl (Nat.le_of_ble_eq_true rfl) ⟨tw_842, ts_Model_go⟩ xg_0 rfl (ct_Model_go_0 h) (fun v w h => ?_)
        obtain ⟨i19, l19, a19, b19, rfl, rfl, h⟩ := h
        refine mm_eqs (st2 := []) rfl ?_
        refine mm_goto (M := M_Model_carryOn) (tgt := 297) d_Model_carryOn_232 (by decide) ?_
        exact mm_ret (M := M_Model_carryOn) ⟨rfl, d_Model_carryOn_297⟩ ⟨_, _, _, _, rfl, rfl, h⟩
  · have h := ((((((h.2 c0).2 c1).2 c2).2 c3).2 c4).2 c5).1 c6
    refine mm_aload_n (M := M_Model_carryOn) d_Model_carryOn_235 rfl ?_
    refine mm_iload (M := M_Model_carryOn) d_Model_carryOn_236 rfl ?_
    refine mm_putf (M := M_Model_carryOn) 7 19 .int d_Model_carryOn_238 fl_Model_117 fp_Model_117 ft_7_19 xg_0 (Nat.le_of_ble_eq_true rfl) trivial ?_
    refine mm_eqw xs_19 ?_
    refine mm_aload_n (M := M_Model_carryOn) d_Model_carryOn_241 rfl ?_
    refine mm_iload_n (M := M_Model_carryOn) d_Model_carryOn_242 rfl ?_
    refine mm_eqs (st2 := [.int (i 25)].reverse ++ .ref 0 :: []) rfl ?_
    refine mm_callV (M := M_Model_carryOn) (y := y_Model_kindOf) (M' := M_Model_kindOf) (d' := 0) (kc := 0) (ks := 0) (kc' := 0) (ks' := 0) (n := 1) d_Model_carryOn_243 ok_Model_kindOf ml_Model_136 (by decide) rfl (Nat.le_of_ble_eq_true rfl) ⟨tw_899, ts_Model_kindOf⟩ xg_0 rfl (ct_Model_kindOf_0 h) (fun v w h => ?_)
    obtain ⟨r20, i20, l20, a20, b20, rfl, rfl, h⟩ := h
    refine mm_eqs (st2 := [.int r20]) rfl ?_
    refine mm_bipush (M := M_Model_carryOn) (v := 8) d_Model_carryOn_246 (by decide) ?_
    refine mm_icmp_ne (M := M_Model_carryOn) 256 d_Model_carryOn_248 (by decide) (fun c => ?_) (fun c => ?_)
    · have h := h.1 c
      refine mm_aload_n (M := M_Model_carryOn) d_Model_carryOn_256 rfl ?_
      refine mm_iconst (M := M_Model_carryOn) (v := 5) d_Model_carryOn_257 (by decide) ?_
      refine mm_iconst (M := M_Model_carryOn) (v := 0) d_Model_carryOn_258 (by decide) ?_
      refine mm_iload_n (M := M_Model_carryOn) d_Model_carryOn_259 rfl ?_
      refine mm_eqs (st2 := [.int 5, .int 0, .int r1].reverse ++ .ref 0 :: []) rfl ?_
      refine mm_callV (M := M_Model_carryOn) (y := y_Model_go) (M' := M_Model_go) (d' := 0) (kc := 0) (ks := 0) (kc' := 0) (ks' := 0) (n := 3) d_Model_carryOn_260 ok_Model_go ml_Model_163 (by decide) rfl (Nat.le_of_ble_eq_true rfl) ⟨tw_842, ts_Model_go⟩ xg_0 rfl (ct_Model_go_0 h) (fun v w h => ?_)
      obtain ⟨i21, l21, a21, b21, rfl, rfl, h⟩ := h
      refine mm_eqs (st2 := []) rfl ?_
      refine mm_goto (M := M_Model_carryOn) (tgt := 297) d_Model_carryOn_263 (by decide) ?_
      exact mm_ret (M := M_Model_carryOn) ⟨rfl, d_Model_carryOn_297⟩ ⟨_, _, _, _, rfl, rfl, h⟩
    · have h := h.2 c
      refine mm_aload_n (M := M_Model_carryOn) d_Model_carryOn_251 rfl ?_
      refine mm_iload_n (M := M_Model_carryOn) d_Model_carryOn_252 rfl ?_
      refine mm_putf (M := M_Model_carryOn) 7 24 .int d_Model_carryOn_253 fl_Model_120 fp_Model_120 ft_7_24 xg_0 (Nat.le_of_ble_eq_true rfl) trivial ?_
      refine mm_eqw xs_24 ?_
      refine mm_aload_n (M := M_Model_carryOn) d_Model_carryOn_256 rfl ?_
      refine mm_iconst (M := M_Model_carryOn) (v := 5) d_Model_carryOn_257 (by decide) ?_
      refine mm_iconst (M := M_Model_carryOn) (v := 0) d_Model_carryOn_258 (by decide) ?_
      refine mm_iload_n (M := M_Model_carryOn) d_Model_carryOn_259 rfl ?_
      refine mm_eqs (st2 := [.int 5, .int 0, .int r1].reverse ++ .ref 0 :: []) rfl ?_
      refine mm_callV (M := M_Model_carryOn) (y := y_Model_go) (M' := M_Model_go) (d' := 0) (kc := 0) (ks := 0) (kc' := 0) (ks' := 0) (n := 3) d_Model_carryOn_260 ok_Model_go ml_Model_163 (by decide) rfl (Nat.le_of_ble_eq_true rfl) ⟨tw_842, ts_Model_go⟩ xg_0 rfl (ct_Model_go_0 h) (fun v w h => ?_)
      obtain ⟨i22, l22, a22, b22, rfl, rfl, h⟩ := h
      refine mm_eqs (st2 := []) rfl ?_
      refine mm_goto (M := M_Model_carryOn) (tgt := 297) d_Model_carryOn_263 (by decide) ?_
      exact mm_ret (M := M_Model_carryOn) ⟨rfl, d_Model_carryOn_297⟩ ⟨_, _, _, _, rfl, rfl, h⟩
  · have h := (((((((h.2 c0).2 c1).2 c2).2 c3).2 c4).2 c5).2 c6).1 c7
    refine mm_aload_n (M := M_Model_carryOn) d_Model_carryOn_235 rfl ?_
    refine mm_iload (M := M_Model_carryOn) d_Model_carryOn_236 rfl ?_
    refine mm_putf (M := M_Model_carryOn) 7 19 .int d_Model_carryOn_238 fl_Model_117 fp_Model_117 ft_7_19 xg_0 (Nat.le_of_ble_eq_true rfl) trivial ?_
    refine mm_eqw xs_19 ?_
    refine mm_aload_n (M := M_Model_carryOn) d_Model_carryOn_241 rfl ?_
    refine mm_iload_n (M := M_Model_carryOn) d_Model_carryOn_242 rfl ?_
    refine mm_eqs (st2 := [.int (i 25)].reverse ++ .ref 0 :: []) rfl ?_
    refine mm_callV (M := M_Model_carryOn) (y := y_Model_kindOf) (M' := M_Model_kindOf) (d' := 0) (kc := 0) (ks := 0) (kc' := 0) (ks' := 0) (n := 1) d_Model_carryOn_243 ok_Model_kindOf ml_Model_136 (by decide) rfl (Nat.le_of_ble_eq_true rfl) ⟨tw_899, ts_Model_kindOf⟩ xg_0 rfl (ct_Model_kindOf_0 h) (fun v w h => ?_)
    obtain ⟨r23, i23, l23, a23, b23, rfl, rfl, h⟩ := h
    refine mm_eqs (st2 := [.int r23]) rfl ?_
    refine mm_bipush (M := M_Model_carryOn) (v := 8) d_Model_carryOn_246 (by decide) ?_
    refine mm_icmp_ne (M := M_Model_carryOn) 256 d_Model_carryOn_248 (by decide) (fun c => ?_) (fun c => ?_)
    · have h := h.1 c
      refine mm_aload_n (M := M_Model_carryOn) d_Model_carryOn_256 rfl ?_
      refine mm_iconst (M := M_Model_carryOn) (v := 5) d_Model_carryOn_257 (by decide) ?_
      refine mm_iconst (M := M_Model_carryOn) (v := 0) d_Model_carryOn_258 (by decide) ?_
      refine mm_iload_n (M := M_Model_carryOn) d_Model_carryOn_259 rfl ?_
      refine mm_eqs (st2 := [.int 5, .int 0, .int r1].reverse ++ .ref 0 :: []) rfl ?_
      refine mm_callV (M := M_Model_carryOn) (y := y_Model_go) (M' := M_Model_go) (d' := 0) (kc := 0) (ks := 0) (kc' := 0) (ks' := 0) (n := 3) d_Model_carryOn_260 ok_Model_go ml_Model_163 (by decide) rfl (Nat.le_of_ble_eq_true rfl) ⟨tw_842, ts_Model_go⟩ xg_0 rfl (ct_Model_go_0 h) (fun v w h => ?_)
      obtain ⟨i24, l24, a24, b24, rfl, rfl, h⟩ := h
      refine mm_eqs (st2 := []) rfl ?_
      refine mm_goto (M := M_Model_carryOn) (tgt := 297) d_Model_carryOn_263 (by decide) ?_
      exact mm_ret (M := M_Model_carryOn) ⟨rfl, d_Model_carryOn_297⟩ ⟨_, _, _, _, rfl, rfl, h⟩
    · have h := h.2 c
      refine mm_aload_n (M := M_Model_carryOn) d_Model_carryOn_251 rfl ?_
      refine mm_iload_n (M := M_Model_carryOn) d_Model_carryOn_252 rfl ?_
      refine mm_putf (M := M_Model_carryOn) 7 24 .int d_Model_carryOn_253 fl_Model_120 fp_Model_120 ft_7_24 xg_0 (Nat.le_of_ble_eq_true rfl) trivial ?_
      refine mm_eqw xs_24 ?_
      refine mm_aload_n (M := M_Model_carryOn) d_Model_carryOn_256 rfl ?_
      refine mm_iconst (M := M_Model_carryOn) (v := 5) d_Model_carryOn_257 (by decide) ?_
      refine mm_iconst (M := M_Model_carryOn) (v := 0) d_Model_carryOn_258 (by decide) ?_
      refine mm_iload_n (M := M_Model_carryOn) d_Model_carryOn_259 rfl ?_
      refine mm_eqs (st2 := [.int 5, .int 0, .int r1].reverse ++ .ref 0 :: []) rfl ?_
      refine mm_callV (M := M_Model_carryOn) (y := y_Model_go) (M' := M_Model_go) (d' := 0) (kc := 0) (ks := 0) (kc' := 0) (ks' := 0) (n := 3) d_Model_carryOn_260 ok_Model_go ml_Model_163 (by decide) rfl (Nat.le_of_ble_eq_true rfl) ⟨tw_842, ts_Model_go⟩ xg_0 rfl (ct_Model_go_0 h) (fun v w h => ?_)
      obtain ⟨i25, l25, a25, b25, rfl, rfl, h⟩ := h
      refine mm_eqs (st2 := []) rfl ?_
      refine mm_goto (M := M_Model_carryOn) (tgt := 297) d_Model_carryOn_263 (by decide) ?_
      exact mm_ret (M := M_Model_carryOn) ⟨rfl, d_Model_carryOn_297⟩ ⟨_, _, _, _, rfl, rfl, h⟩
  · have h := ((((((((h.2 c0).2 c1).2 c2).2 c3).2 c4).2 c5).2 c6).2 c7).1 c8
    refine mm_aload_n (M := M_Model_carryOn) d_Model_carryOn_266 rfl ?_
    refine mm_iload (M := M_Model_carryOn) d_Model_carryOn_267 rfl ?_
    refine mm_putf (M := M_Model_carryOn) 7 19 .int d_Model_carryOn_269 fl_Model_117 fp_Model_117 ft_7_19 xg_0 (Nat.le_of_ble_eq_true rfl) trivial ?_
    refine mm_eqw xs_19 ?_
    refine mm_aload_n (M := M_Model_carryOn) d_Model_carryOn_272 rfl ?_
    refine mm_bipush (M := M_Model_carryOn) (v := 6) d_Model_carryOn_273 (by decide) ?_
    refine mm_iconst (M := M_Model_carryOn) (v := 0) d_Model_carryOn_275 (by decide) ?_
    refine mm_iload_n (M := M_Model_carryOn) d_Model_carryOn_276 rfl ?_
    refine mm_eqs (st2 := [.int 6, .int 0, .int r1].reverse ++ .ref 0 :: []) rfl ?_
    refine mm_callV (M := M_Model_carryOn) (y := y_Model_go) (M' := M_Model_go) (d' := 0) (kc := 0) (ks := 0) (kc' := 0) (ks' := 0) (n := 3) d_Model_carryOn_277 ok_Model_go ml_Model_163 (by decide) rfl (Nat.le_of_ble_eq_true rfl) ⟨tw_842, ts_Model_go⟩ xg_0 rfl (ct_Model_go_0 h) (fun v w h => ?_)
    obtain ⟨i26, l26, a26, b26, rfl, rfl, h⟩ := h
    refine mm_eqs (st2 := []) rfl ?_
    refine mm_goto (M := M_Model_carryOn) (tgt := 297) d_Model_carryOn_280 (by decide) ?_
    exact mm_ret (M := M_Model_carryOn) ⟨rfl, d_Model_carryOn_297⟩ ⟨_, _, _, _, rfl, rfl, h⟩
  · have h := (((((((((h.2 c0).2 c1).2 c2).2 c3).2 c4).2 c5).2 c6).2 c7).2 c8)
    refine mm_aload_n (M := M_Model_carryOn) d_Model_carryOn_283 rfl ?_
    refine mm_aload_n (M := M_Model_carryOn) d_Model_carryOn_284 rfl ?_
    refine mm_iload_n (M := M_Model_carryOn) d_Model_carryOn_285 rfl ?_
    refine mm_eqs (st2 := [.int (i 25)].reverse ++ .ref 0 :: [.ref 0]) rfl ?_
    refine mm_callV (M := M_Model_carryOn) (y := y_Model_kindOf) (M' := M_Model_kindOf) (d' := 0) (kc := 0) (ks := 0) (kc' := 0) (ks' := 0) (n := 1) d_Model_carryOn_286 ok_Model_kindOf ml_Model_136 (by decide) rfl (Nat.le_of_ble_eq_true rfl) ⟨tw_899, ts_Model_kindOf⟩ xg_0 rfl (ct_Model_kindOf_0 h) (fun v w h => ?_)
    obtain ⟨r27, i27, l27, a27, b27, rfl, rfl, h⟩ := h
    refine mm_eqs (st2 := [.int r27, .ref 0]) rfl ?_
    refine mm_bipush (M := M_Model_carryOn) (v := 7) d_Model_carryOn_289 (by decide) ?_
    refine mm_isub (M := M_Model_carryOn) d_Model_carryOn_291 ?_
    refine mm_iload_n (M := M_Model_carryOn) d_Model_carryOn_292 rfl ?_
    refine mm_iload_n (M := M_Model_carryOn) d_Model_carryOn_293 rfl ?_
    refine mm_eqs (st2 := [.int (r27 - (7 : Int32)), .int r2, .int r1].reverse ++ .ref 0 :: []) rfl ?_
    refine mm_callV (M := M_Model_carryOn) (y := y_Model_go) (M' := M_Model_go) (d' := 0) (kc := 0) (ks := 0) (kc' := 0) (ks' := 0) (n := 3) d_Model_carryOn_294 ok_Model_go ml_Model_163 (by decide) rfl (Nat.le_of_ble_eq_true rfl) ⟨tw_842, ts_Model_go⟩ xg_0 rfl (ct_Model_go_0 h) (fun v w h => ?_)
    obtain ⟨i28, l28, a28, b28, rfl, rfl, h⟩ := h
    refine mm_eqs (st2 := []) rfl ?_
    exact mm_ret (M := M_Model_carryOn) ⟨rfl, d_Model_carryOn_297⟩ ⟨_, _, _, _, rfl, rfl, h⟩
def wp_Model_retreat_0 (i : mm_i) (l : mm_j) (a : mm_a) (b : mm_b)  (K : Int32 → mm_i → mm_j → mm_a → mm_b → Prop) : Prop :=
  (¬ (i 19) = 0 → vp_in ((i 19) - (1 : Int32)) 4000 ∧ (vp_in ((i 19) - (1 : Int32)) 4000 ∧ (wp_Model_go_0 (upd (upd i 19 ((i 19) - (1 : Int32))) 24 (((((b 7) ((i 19) - (1 : Int32)).toNatClampNeg) >>> ((9 : Int32).toInt64 &&& 63)).toInt32) &&& (63 : Int32))) (vp_updL l 26 ((b 8) ((i 19) - (1 : Int32)).toNatClampNeg)) a b ((((b 7) ((i 19) - (1 : Int32)).toNatClampNeg).toInt32) &&& (7 : Int32)) (((((b 7) ((i 19) - (1 : Int32)).toNatClampNeg) >>> ((3 : Int32).toInt64 &&& 63)).toInt32) &&& (63 : Int32)) (((((b 7) ((i 19) - (1 : Int32)).toNatClampNeg) >>> ((15 : Int32).toInt64 &&& 63)).toInt32) &&& (8191 : Int32)) (fun i1 l1 a1 b1 => K 1 (upd i1 16 (((((b 7) ((i 19) - (1 : Int32)).toNatClampNeg) >>> ((28 : Int32).toInt64 &&& 63)).toInt32) &&& (8191 : Int32))) l1 a1 b1)))) ∧ ((i 19) = 0 → K 0 i l a b)
set_option maxRecDepth 100000 in
set_option maxHeartbeats 4000000 in
theorem ct_Model_retreat_0 {i : mm_i} {l : mm_j} {a : mm_a} {b : mm_b} {t : mm_H}  {K : Int32 → mm_i → mm_j → mm_a → mm_b → Prop} (h : wp_Model_retreat_0 i l a b  K) : mm_Ct y_Model_retreat M_Model_retreat 1 0 0 [.ref 0] (Wm i l a b ++ t) (mx_PI t K) := by
  refine mm_Ct.of (by decide) rfl (fun q => absurd q (by decide)) (Nat.le_of_ble_eq_true rfl) ?_
  unfold wp_Model_retreat_0 at h
  refine mm_eqL (L' := [some (.ref 0), none, none]) rfl ?_
  refine mm_aload_n (M := M_Model_retreat) d_Model_retreat_0 rfl ?_
  refine mm_getf (M := M_Model_retreat) (u := .int (i 19)) 7 19 d_Model_retreat_1 fl_Model_117 xg_0 rfl ?_
  refine mm_if_ne (M := M_Model_retreat) 9 d_Model_retreat_4 (by decide) (fun c => ?_) (fun c => ?_)
  · have h := h.1 c
    refine mm_aload_n (M := M_Model_retreat) d_Model_retreat_9 rfl ?_
    refine mm_dup (M := M_Model_retreat) d_Model_retreat_10 rfl ?_
    refine mm_getf (M := M_Model_retreat) (u := .int (i 19)) 7 19 d_Model_retreat_11 fl_Model_117 xg_0 rfl ?_
    refine mm_iconst (M := M_Model_retreat) (v := 1) d_Model_retreat_14 (by decide) ?_
    refine mm_isub (M := M_Model_retreat) d_Model_retreat_15 ?_
    refine mm_putf (M := M_Model_retreat) 7 19 .int d_Model_retreat_16 fl_Model_117 fp_Model_117 ft_7_19 xg_0 (Nat.le_of_ble_eq_true rfl) trivial ?_
    refine mm_eqw xs_19 ?_
    refine mm_aload_n (M := M_Model_retreat) d_Model_retreat_19 rfl ?_
    refine mm_getf (M := M_Model_retreat) (u := .ref 7) 7 20 d_Model_retreat_20 fl_Model_29 xg_0 rfl ?_
    refine mm_aload_n (M := M_Model_retreat) d_Model_retreat_23 rfl ?_
    refine mm_getf (M := M_Model_retreat) (u := .int ((i 19) - (1 : Int32))) 7 19 d_Model_retreat_24 fl_Model_117 xg_0 rfl ?_
    obtain ⟨hin, h⟩ := h
    refine mm_lald (M := M_Model_retreat) (f := (b 7)) d_Model_retreat_27 xg_7 hin ?_
    refine mm_lstore_n (M := M_Model_retreat) d_Model_retreat_28 (Nat.le_of_ble_eq_true rfl) ?_
    refine mm_eqL (L' := [some (.ref 0), some (.long ((b 7) ((i 19) - (1 : Int32)).toNatClampNeg)), none]) rfl ?_
    refine mm_aload_n (M := M_Model_retreat) d_Model_retreat_29 rfl ?_
    refine mm_lload_n (M := M_Model_retreat) d_Model_retreat_30 rfl ?_
    refine mm_bipush (M := M_Model_retreat) (v := 9) d_Model_retreat_31 (by decide) ?_
    refine mm_lshr (M := M_Model_retreat) d_Model_retreat_33 ?_
    refine mm_l2i (M := M_Model_retreat) d_Model_retreat_34 ?_
    refine mm_bipush (M := M_Model_retreat) (v := 63) d_Model_retreat_35 (by decide) ?_
    refine mm_iand (M := M_Model_retreat) d_Model_retreat_37 ?_
    refine mm_putf (M := M_Model_retreat) 7 24 .int d_Model_retreat_38 fl_Model_120 fp_Model_120 ft_7_24 xg_0 (Nat.le_of_ble_eq_true rfl) trivial ?_
    refine mm_eqw xs_24 ?_
    refine mm_aload_n (M := M_Model_retreat) d_Model_retreat_41 rfl ?_
    refine mm_aload_n (M := M_Model_retreat) d_Model_retreat_42 rfl ?_
    refine mm_getf (M := M_Model_retreat) (u := .ref 8) 7 21 d_Model_retreat_43 fl_Model_32 xg_0 rfl ?_
    refine mm_aload_n (M := M_Model_retreat) d_Model_retreat_46 rfl ?_
    refine mm_getf (M := M_Model_retreat) (u := .int ((i 19) - (1 : Int32))) 7 19 d_Model_retreat_47 fl_Model_117 xg_0 rfl ?_
    obtain ⟨hin, h⟩ := h
    refine mm_lald (M := M_Model_retreat) (f := (b 8)) d_Model_retreat_50 xg_8 hin ?_
    refine mm_putf (M := M_Model_retreat) 7 26 .long d_Model_retreat_51 fl_Model_123 fp_Model_123 ft_7_26 xg_0 (Nat.le_of_ble_eq_true rfl) trivial ?_
    refine mm_eqw xs_26 ?_
    refine mm_aload_n (M := M_Model_retreat) d_Model_retreat_54 rfl ?_
    refine mm_lload_n (M := M_Model_retreat) d_Model_retreat_55 rfl ?_
    refine mm_l2i (M := M_Model_retreat) d_Model_retreat_56 ?_
    refine mm_bipush (M := M_Model_retreat) (v := 7) d_Model_retreat_57 (by decide) ?_
    refine mm_iand (M := M_Model_retreat) d_Model_retreat_59 ?_
    refine mm_lload_n (M := M_Model_retreat) d_Model_retreat_60 rfl ?_
    refine mm_iconst (M := M_Model_retreat) (v := 3) d_Model_retreat_61 (by decide) ?_
    refine mm_lshr (M := M_Model_retreat) d_Model_retreat_62 ?_
    refine mm_l2i (M := M_Model_retreat) d_Model_retreat_63 ?_
    refine mm_bipush (M := M_Model_retreat) (v := 63) d_Model_retreat_64 (by decide) ?_
    refine mm_iand (M := M_Model_retreat) d_Model_retreat_66 ?_
    refine mm_lload_n (M := M_Model_retreat) d_Model_retreat_67 rfl ?_
    refine mm_bipush (M := M_Model_retreat) (v := 15) d_Model_retreat_68 (by decide) ?_
    refine mm_lshr (M := M_Model_retreat) d_Model_retreat_70 ?_
    refine mm_l2i (M := M_Model_retreat) d_Model_retreat_71 ?_
    refine mm_sipush (M := M_Model_retreat) (v := 8191) d_Model_retreat_72 (by decide) ?_
    refine mm_iand (M := M_Model_retreat) d_Model_retreat_75 ?_
    refine mm_eqs (st2 := [.int ((((b 7) ((i 19) - (1 : Int32)).toNatClampNeg).toInt32) &&& (7 : Int32)), .int (((((b 7) ((i 19) - (1 : Int32)).toNatClampNeg) >>> ((3 : Int32).toInt64 &&& 63)).toInt32) &&& (63 : Int32)), .int (((((b 7) ((i 19) - (1 : Int32)).toNatClampNeg) >>> ((15 : Int32).toInt64 &&& 63)).toInt32) &&& (8191 : Int32))].reverse ++ .ref 0 :: []) rfl ?_
    refine mm_callV (M := M_Model_retreat) (y := y_Model_go) (M' := M_Model_go) (d' := 0) (kc := 0) (ks := 0) (kc' := 0) (ks' := 0) (n := 3) d_Model_retreat_76 ok_Model_go ml_Model_163 (by decide) rfl (Nat.le_of_ble_eq_true rfl) ⟨tw_842, ts_Model_go⟩ xg_0 rfl (ct_Model_go_0 h) (fun v w h => ?_)
    obtain ⟨i1, l1, a1, b1, rfl, rfl, h⟩ := h
    refine mm_eqs (st2 := []) rfl ?_
    refine mm_aload_n (M := M_Model_retreat) d_Model_retreat_79 rfl ?_
    refine mm_lload_n (M := M_Model_retreat) d_Model_retreat_80 rfl ?_
    refine mm_bipush (M := M_Model_retreat) (v := 28) d_Model_retreat_81 (by decide) ?_
    refine mm_lshr (M := M_Model_retreat) d_Model_retreat_83 ?_
    refine mm_l2i (M := M_Model_retreat) d_Model_retreat_84 ?_
    refine mm_sipush (M := M_Model_retreat) (v := 8191) d_Model_retreat_85 (by decide) ?_
    refine mm_iand (M := M_Model_retreat) d_Model_retreat_88 ?_
    refine mm_putf (M := M_Model_retreat) 7 16 .int d_Model_retreat_89 fl_Model_114 fp_Model_114 ft_7_16 xg_0 (Nat.le_of_ble_eq_true rfl) trivial ?_
    refine mm_eqw xs_16 ?_
    refine mm_iconst (M := M_Model_retreat) (v := 1) d_Model_retreat_92 (by decide) ?_
    exact mm_retv (M := M_Model_retreat) ⟨_, rfl, (by decide), d_Model_retreat_93⟩ ⟨_, _, _, _, _, rfl, rfl, h⟩
  · have h := h.2 c
    refine mm_iconst (M := M_Model_retreat) (v := 0) d_Model_retreat_7 (by decide) ?_
    exact mm_retv (M := M_Model_retreat) ⟨_, rfl, (by decide), d_Model_retreat_8⟩ ⟨_, _, _, _, _, rfl, rfl, h⟩
