/-- one turn of the loop of Matcher.standsHere: X says what must hold at its head again -/
def wt_Matcher_standsHere_19 (n1 n2 : Nat) (X : mm_i → mm_j → mm_a → mm_b → Int32 → Int32 → Int32 → Prop) (i : mm_i) (l : mm_j) (a : mm_a) (b : mm_b) (z1 : Int32) (z2 : Int32) (z3 : Int32) (K : Int32 → mm_i → mm_j → mm_a → mm_b → Prop) : Prop :=
  (z2 ≤ z3 → K 1 i l a b) ∧ (¬ z2 ≤ z3 → vp_in (z1 + z3) 40 ∧ (vp_in ((i 312) + z3) 40 ∧ ((((a 21) (z1 + z3).toNatClampNeg) = ((a 21) ((i 312) + z3).toNatClampNeg) → X i l a b z1 z2 (z3 + 1)) ∧ (¬ ((a 21) (z1 + z3).toNatClampNeg) = ((a 21) ((i 312) + z3).toNatClampNeg) → K 0 i l a b))))
def wl_Matcher_standsHere_19 (n1 n2 : Nat) (K : Int32 → mm_i → mm_j → mm_a → mm_b → Prop) : Nat → mm_i → mm_j → mm_a → mm_b → Int32 → Int32 → Int32 → Prop
  | 0 => fun _ _ _ _ _ _ _ => False
  | n + 1 => fun i l a b z1 z2 z3 => wt_Matcher_standsHere_19 n1 n2 (wl_Matcher_standsHere_19 n1 n2 K n) i l a b z1 z2 z3 K
def wp_Matcher_standsHere_19 (n1 n2 : Nat) (i : mm_i) (l : mm_j) (a : mm_a) (b : mm_b) (x1 : Int32) (x2 : Int32) (K : Int32 → mm_i → mm_j → mm_a → mm_b → Prop) : Prop :=
  (((i 312) + x2) ≤ (i 321) → ∃ n, wl_Matcher_standsHere_19 n1 n2 K n i l a b x1 x2 0) ∧ (¬ ((i 312) + x2) ≤ (i 321) → K 0 i l a b)
set_option maxRecDepth 100000 in
set_option maxHeartbeats 4000000 in
theorem vt_Matcher_standsHere_19 {n1 n2 k0 : Nat} {t : mm_H} {K : Int32 → mm_i → mm_j → mm_a → mm_b → Prop} {X : mm_i → mm_j → mm_a → mm_b → Int32 → Int32 → Int32 → Prop} (hX : ∀ {i l a b z1 z2 z3}, X i l a b z1 z2 z3 → mm_V M_Matcher_standsHere 0 k0 (mm_PI n1 n2 t K) 0 0 20 [some (.ref 19), some (.int z1), some (.int z2), some (.int z3)] [] (Wd 4 22 n1 n2 i l a b ++ t)) {i : mm_i} {l : mm_j} {a : mm_a} {b : mm_b} {z1 : Int32} {z2 : Int32} {z3 : Int32} (h : wt_Matcher_standsHere_19 n1 n2 X i l a b z1 z2 z3 K) : mm_V M_Matcher_standsHere 0 k0 (mm_PI n1 n2 t K) 0 0 20 [some (.ref 19), some (.int z1), some (.int z2), some (.int z3)] [] (Wd 4 22 n1 n2 i l a b ++ t) := by
  unfold wt_Matcher_standsHere_19 at h
  refine mm_iload_n (M := M_Matcher_standsHere) d_Matcher_standsHere_20 rfl ?_
  refine mm_iload_n (M := M_Matcher_standsHere) d_Matcher_standsHere_21 rfl ?_
  refine mm_icmp_ge (M := M_Matcher_standsHere) 61 d_Matcher_standsHere_22 (by decide) (fun c => ?_) (fun c => ?_)
  · have h := h.1 c
    refine mm_iconst (M := M_Matcher_standsHere) (v := 1) d_Matcher_standsHere_61 (by decide) ?_
    exact mm_retv (M := M_Matcher_standsHere) ⟨_, rfl, (by decide), d_Matcher_standsHere_62⟩ ⟨_, _, _, _, _, rfl, rfl, h⟩
  · have h := h.2 c
    refine mm_aload_n (M := M_Matcher_standsHere) d_Matcher_standsHere_25 rfl ?_
    refine mm_getf (M := M_Matcher_standsHere) (u := .ref 20) 5 0 d_Matcher_standsHere_26 fl_Matcher_14 wg_19 rfl ?_
    refine mm_getf (M := M_Matcher_standsHere) (u := .ref 21) 0 0 d_Matcher_standsHere_29 fl_Matcher_181 wg_20 rfl ?_
    refine mm_iload_n (M := M_Matcher_standsHere) d_Matcher_standsHere_32 rfl ?_
    refine mm_iload_n (M := M_Matcher_standsHere) d_Matcher_standsHere_33 rfl ?_
    refine mm_iadd (M := M_Matcher_standsHere) d_Matcher_standsHere_34 ?_
    obtain ⟨hin, h⟩ := h
    refine mm_iald (M := M_Matcher_standsHere) (f := (a 21)) d_Matcher_standsHere_35 wg_21 hin ?_
    refine mm_aload_n (M := M_Matcher_standsHere) d_Matcher_standsHere_36 rfl ?_
    refine mm_getf (M := M_Matcher_standsHere) (u := .ref 20) 5 0 d_Matcher_standsHere_37 fl_Matcher_14 wg_19 rfl ?_
    refine mm_getf (M := M_Matcher_standsHere) (u := .ref 21) 0 0 d_Matcher_standsHere_40 fl_Matcher_181 wg_20 rfl ?_
    refine mm_aload_n (M := M_Matcher_standsHere) d_Matcher_standsHere_43 rfl ?_
    refine mm_getf (M := M_Matcher_standsHere) (u := .int (i 312)) 5 8 d_Matcher_standsHere_44 fl_Matcher_37 wg_19 rfl ?_
    refine mm_iload_n (M := M_Matcher_standsHere) d_Matcher_standsHere_47 rfl ?_
    refine mm_iadd (M := M_Matcher_standsHere) d_Matcher_standsHere_48 ?_
    obtain ⟨hin, h⟩ := h
    refine mm_iald (M := M_Matcher_standsHere) (f := (a 21)) d_Matcher_standsHere_49 wg_21 hin ?_
    refine mm_icmp_eq (M := M_Matcher_standsHere) 55 d_Matcher_standsHere_50 (by decide) (fun c => ?_) (fun c => ?_)
    · have h := h.1 c
      refine mm_iinc (M := M_Matcher_standsHere) (v := 1) d_Matcher_standsHere_55 rfl (by decide) (Nat.le_of_ble_eq_true rfl) ?_
      refine mm_eqL (L' := [some (.ref 19), some (.int z1), some (.int z2), some (.int (z3 + 1))]) rfl ?_
      refine mm_goto (M := M_Matcher_standsHere) (tgt := 20) d_Matcher_standsHere_58 (by decide) ?_
      refine mm_drop (L' := [some (.ref 19), some (.int z1), some (.int z2), some (.int (z3 + 1))]) ⟨rfl, ⟨rfl, ⟨rfl, ⟨rfl, trivial⟩⟩⟩⟩ ?_
      exact hX h
    · have h := h.2 c
      refine mm_iconst (M := M_Matcher_standsHere) (v := 0) d_Matcher_standsHere_53 (by decide) ?_
      exact mm_retv (M := M_Matcher_standsHere) ⟨_, rfl, (by decide), d_Matcher_standsHere_54⟩ ⟨_, _, _, _, _, rfl, rfl, h⟩
theorem vl_Matcher_standsHere_19 {n1 n2 k0 : Nat} {t : mm_H} {K : Int32 → mm_i → mm_j → mm_a → mm_b → Prop} : ∀ (n : Nat) {i : mm_i} {l : mm_j} {a : mm_a} {b : mm_b} {z1 : Int32} {z2 : Int32} {z3 : Int32}, wl_Matcher_standsHere_19 n1 n2 K n i l a b z1 z2 z3 → mm_V M_Matcher_standsHere 0 k0 (mm_PI n1 n2 t K) 0 0 20 [some (.ref 19), some (.int z1), some (.int z2), some (.int z3)] [] (Wd 4 22 n1 n2 i l a b ++ t)
  | 0, _, _, _, _, _, _, _, h => h.elim
  | n + 1, _, _, _, _, _, _, _, h => vt_Matcher_standsHere_19 (fun h => vl_Matcher_standsHere_19 n h) h
set_option maxRecDepth 100000 in
set_option maxHeartbeats 4000000 in
theorem ct_Matcher_standsHere_19 {n1 n2 : Nat} {i : mm_i} {l : mm_j} {a : mm_a} {b : mm_b} {t : mm_H} {x1 : Int32} {x2 : Int32} {K : Int32 → mm_i → mm_j → mm_a → mm_b → Prop} (h : wp_Matcher_standsHere_19 n1 n2 i l a b x1 x2 K) : mm_Ct y_Matcher_standsHere M_Matcher_standsHere 0 0 0 [.ref 19, .int x1, .int x2] (Wd 4 22 n1 n2 i l a b ++ t) (mm_PI n1 n2 t K) := by
  refine mm_Ct.of (by decide) rfl (fun q => absurd q (by decide)) (Nat.le_of_ble_eq_true rfl) ?_
  unfold wp_Matcher_standsHere_19 at h
  refine mm_eqL (L' := [some (.ref 19), some (.int x1), some (.int x2), none]) rfl ?_
  refine mm_aload_n (M := M_Matcher_standsHere) d_Matcher_standsHere_0 rfl ?_
  refine mm_getf (M := M_Matcher_standsHere) (u := .int (i 312)) 5 8 d_Matcher_standsHere_1 fl_Matcher_37 wg_19 rfl ?_
  refine mm_iload_n (M := M_Matcher_standsHere) d_Matcher_standsHere_4 rfl ?_
  refine mm_iadd (M := M_Matcher_standsHere) d_Matcher_standsHere_5 ?_
  refine mm_aload_n (M := M_Matcher_standsHere) d_Matcher_standsHere_6 rfl ?_
  refine mm_getf (M := M_Matcher_standsHere) (u := .ref 20) 5 0 d_Matcher_standsHere_7 fl_Matcher_14 wg_19 rfl ?_
  refine mm_getf (M := M_Matcher_standsHere) (u := .int (i 321)) 0 1 d_Matcher_standsHere_10 fl_Matcher_64 wg_20 rfl ?_
  refine mm_icmp_le (M := M_Matcher_standsHere) 18 d_Matcher_standsHere_13 (by decide) (fun c => ?_) (fun c => ?_)
  · have h := h.1 c
    refine mm_iconst (M := M_Matcher_standsHere) (v := 0) d_Matcher_standsHere_18 (by decide) ?_
    refine mm_istore_n (M := M_Matcher_standsHere) d_Matcher_standsHere_19 (Nat.le_of_ble_eq_true rfl) ?_
    refine mm_eqL (L' := [some (.ref 19), some (.int x1), some (.int x2), some (.int 0)]) rfl ?_
    obtain ⟨n, h⟩ := h
    refine mm_drop (L' := [some (.ref 19), some (.int x1), some (.int x2), some (.int 0)]) ⟨rfl, ⟨rfl, ⟨rfl, ⟨rfl, trivial⟩⟩⟩⟩ ?_
    exact (vl_Matcher_standsHere_19 n) h
  · have h := h.2 c
    refine mm_iconst (M := M_Matcher_standsHere) (v := 0) d_Matcher_standsHere_16 (by decide) ?_
    exact mm_retv (M := M_Matcher_standsHere) ⟨_, rfl, (by decide), d_Matcher_standsHere_17⟩ ⟨_, _, _, _, _, rfl, rfl, h⟩
def wp_Matcher_askSame_19 (n1 n2 : Nat) (i : mm_i) (l : mm_j) (a : mm_a) (b : mm_b) (x1 : Int32) (K : mm_i → mm_j → mm_a → mm_b → Prop) : Prop :=
  wp_Captures_from n1 n2 i l a b (l 313) x1 (fun r1 i1 l1 a1 b1 => wp_Captures_to n1 n2 i1 l1 a1 b1 (l1 313) x1 (fun r2 i2 l2 a2 b2 => (r1 = ((-6) : Int32) → K (upd i2 309 7) l2 a2 b2) ∧ (¬ r1 = ((-6) : Int32) → wp_Matcher_standsHere_19 n1 n2 i2 l2 a2 b2 r1 (r2 - r1) (fun r3 i3 l3 a3 b3 => (r3 = 0 → K (upd i3 309 7) l3 a3 b3) ∧ (¬ r3 = 0 → K (upd (upd i3 312 ((i3 312) + (r2 - r1))) 309 4) l3 a3 b3)))))
set_option maxRecDepth 100000 in
set_option maxHeartbeats 4000000 in
theorem ct_Matcher_askSame_19 {n1 n2 : Nat} {i : mm_i} {l : mm_j} {a : mm_a} {b : mm_b} {t : mm_H} {x1 : Int32} {K : mm_i → mm_j → mm_a → mm_b → Prop} (h : wp_Matcher_askSame_19 n1 n2 i l a b x1 K) : mm_Ct y_Matcher_askSame M_Matcher_askSame 1 0 0 [.ref 19, .int x1] (Wd 4 22 n1 n2 i l a b ++ t) (mm_PV n1 n2 t K) := by
  refine mm_Ct.of (by decide) rfl (fun q => absurd q (by decide)) (Nat.le_of_ble_eq_true rfl) ?_
  unfold wp_Matcher_askSame_19 at h
  refine mm_eqL (L' := [some (.ref 19), some (.int x1), none, none]) rfl ?_
  refine mm_aload_n (M := M_Matcher_askSame) d_Matcher_askSame_0 rfl ?_
  refine mm_getf (M := M_Matcher_askSame) (u := .long (l 313)) 5 9 d_Matcher_askSame_1 fl_Matcher_40 wg_19 rfl ?_
  refine mm_iload_n (M := M_Matcher_askSame) d_Matcher_askSame_4 rfl ?_
  refine mm_eqs (st2 := [.long (l 313), .int x1].reverse ++ []) rfl ?_
  refine mm_callS (M := M_Matcher_askSame) (y := y_Captures_from) (M' := M_Captures_from) (d' := 0) (kc := 0) (ks := 0) (kc' := 0) (ks' := 0) (n := 2) d_Matcher_askSame_5 ok_Captures_from ml_Matcher_184 (by decide) rfl (Nat.le_of_ble_eq_true rfl) tw_600 (ct_Captures_from h) (fun v w h => ?_)
  obtain ⟨r1, i1, l1, a1, b1, rfl, rfl, h⟩ := h
  refine mm_eqs (st2 := [.int r1]) rfl ?_
  refine mm_istore_n (M := M_Matcher_askSame) d_Matcher_askSame_8 (Nat.le_of_ble_eq_true rfl) ?_
  refine mm_eqL (L' := [some (.ref 19), some (.int x1), some (.int r1), none]) rfl ?_
  refine mm_aload_n (M := M_Matcher_askSame) d_Matcher_askSame_9 rfl ?_
  refine mm_getf (M := M_Matcher_askSame) (u := .long (l1 313)) 5 9 d_Matcher_askSame_10 fl_Matcher_40 wg_19 rfl ?_
  refine mm_iload_n (M := M_Matcher_askSame) d_Matcher_askSame_13 rfl ?_
  refine mm_eqs (st2 := [.long (l1 313), .int x1].reverse ++ []) rfl ?_
  refine mm_callS (M := M_Matcher_askSame) (y := y_Captures_to) (M' := M_Captures_to) (d' := 0) (kc := 0) (ks := 0) (kc' := 0) (ks' := 0) (n := 2) d_Matcher_askSame_14 ok_Captures_to ml_Matcher_190 (by decide) rfl (Nat.le_of_ble_eq_true rfl) tw_603 (ct_Captures_to h) (fun v w h => ?_)
  obtain ⟨r2, i2, l2, a2, b2, rfl, rfl, h⟩ := h
  refine mm_eqs (st2 := [.int r2]) rfl ?_
  refine mm_iload_n (M := M_Matcher_askSame) d_Matcher_askSame_17 rfl ?_
  refine mm_isub (M := M_Matcher_askSame) d_Matcher_askSame_18 ?_
  refine mm_istore_n (M := M_Matcher_askSame) d_Matcher_askSame_19 (Nat.le_of_ble_eq_true rfl) ?_
  refine mm_eqL (L' := [some (.ref 19), some (.int x1), some (.int r1), some (.int (r2 - r1))]) rfl ?_
  refine mm_iload_n (M := M_Matcher_askSame) d_Matcher_askSame_20 rfl ?_
  refine mm_bipush (M := M_Matcher_askSame) (v := (-6)) d_Matcher_askSame_21 (by decide) ?_
  refine mm_icmp_eq (M := M_Matcher_askSame) 53 d_Matcher_askSame_23 (by decide) (fun c => ?_) (fun c => ?_)
  · have h := h.1 c
    refine mm_aload_n (M := M_Matcher_askSame) d_Matcher_askSame_53 rfl ?_
    refine mm_bipush (M := M_Matcher_askSame) (v := 7) d_Matcher_askSame_54 (by decide) ?_
    refine mm_putf (M := M_Matcher_askSame) 5 5 .int d_Matcher_askSame_56 fl_Matcher_27 fp_Matcher_27 ft_5_5 wg_19 (Nat.le_of_ble_eq_true rfl) trivial ?_
    refine mm_eqw ws_309 ?_
    exact mm_ret (M := M_Matcher_askSame) ⟨rfl, d_Matcher_askSame_59⟩ ⟨_, _, _, _, rfl, rfl, h⟩
  · have h := h.2 c
    refine mm_aload_n (M := M_Matcher_askSame) d_Matcher_askSame_26 rfl ?_
    refine mm_iload_n (M := M_Matcher_askSame) d_Matcher_askSame_27 rfl ?_
    refine mm_iload_n (M := M_Matcher_askSame) d_Matcher_askSame_28 rfl ?_
    refine mm_eqs (st2 := [.int r1, .int (r2 - r1)].reverse ++ .ref 19 :: []) rfl ?_
    refine mm_callV (M := M_Matcher_askSame) (y := y_Matcher_standsHere) (M' := M_Matcher_standsHere) (d' := 0) (kc := 0) (ks := 0) (kc' := 0) (ks' := 0) (n := 2) d_Matcher_askSame_29 ok_Matcher_standsHere ml_Matcher_193 (by decide) rfl (Nat.le_of_ble_eq_true rfl) ⟨tw_607, ts_Matcher_standsHere⟩ wg_19 rfl (ct_Matcher_standsHere_19 h) (fun v w h => ?_)
    obtain ⟨r3, i3, l3, a3, b3, rfl, rfl, h⟩ := h
    refine mm_eqs (st2 := [.int r3]) rfl ?_
    refine mm_if_eq (M := M_Matcher_askSame) 53 d_Matcher_askSame_32 (by decide) (fun c => ?_) (fun c => ?_)
    · have h := h.1 c
      refine mm_aload_n (M := M_Matcher_askSame) d_Matcher_askSame_53 rfl ?_
      refine mm_bipush (M := M_Matcher_askSame) (v := 7) d_Matcher_askSame_54 (by decide) ?_
      refine mm_putf (M := M_Matcher_askSame) 5 5 .int d_Matcher_askSame_56 fl_Matcher_27 fp_Matcher_27 ft_5_5 wg_19 (Nat.le_of_ble_eq_true rfl) trivial ?_
      refine mm_eqw ws_309 ?_
      exact mm_ret (M := M_Matcher_askSame) ⟨rfl, d_Matcher_askSame_59⟩ ⟨_, _, _, _, rfl, rfl, h⟩
    · have h := h.2 c
      refine mm_aload_n (M := M_Matcher_askSame) d_Matcher_askSame_35 rfl ?_
      refine mm_dup (M := M_Matcher_askSame) d_Matcher_askSame_36 rfl ?_
      refine mm_getf (M := M_Matcher_askSame) (u := .int (i3 312)) 5 8 d_Matcher_askSame_37 fl_Matcher_37 wg_19 rfl ?_
      refine mm_iload_n (M := M_Matcher_askSame) d_Matcher_askSame_40 rfl ?_
      refine mm_iadd (M := M_Matcher_askSame) d_Matcher_askSame_41 ?_
      refine mm_putf (M := M_Matcher_askSame) 5 8 .int d_Matcher_askSame_42 fl_Matcher_37 fp_Matcher_37 ft_5_8 wg_19 (Nat.le_of_ble_eq_true rfl) trivial ?_
      refine mm_eqw ws_312 ?_
      refine mm_aload_n (M := M_Matcher_askSame) d_Matcher_askSame_45 rfl ?_
      refine mm_iconst (M := M_Matcher_askSame) (v := 4) d_Matcher_askSame_46 (by decide) ?_
      refine mm_putf (M := M_Matcher_askSame) 5 5 .int d_Matcher_askSame_47 fl_Matcher_27 fp_Matcher_27 ft_5_5 wg_19 (Nat.le_of_ble_eq_true rfl) trivial ?_
      refine mm_eqw ws_309 ?_
      refine mm_goto (M := M_Matcher_askSame) (tgt := 59) d_Matcher_askSame_50 (by decide) ?_
      exact mm_ret (M := M_Matcher_askSame) ⟨rfl, d_Matcher_askSame_59⟩ ⟨_, _, _, _, rfl, rfl, h⟩
def wp_Matcher_ask_19 (n1 n2 : Nat) (i : mm_i) (l : mm_j) (a : mm_a) (b : mm_b) (x1 : Int32) (K : mm_i → mm_j → mm_a → mm_b → Prop) : Prop :=
  ((i 314) < (i 306) → vp_in x1 32 ∧ ((((a 23) x1.toNatClampNeg) = 0 → wp_Matcher_askLetter_19 n1 n2 (upd i 314 ((i 314) + (1 : Int32))) l a b x1 (fun i1 l1 a1 b1 => K i1 l1 a1 b1)) ∧ (¬ ((a 23) x1.toNatClampNeg) = 0 → (((a 23) x1.toNatClampNeg) = 1 → (¬ (i 312) = 0 → K (upd (upd i 314 ((i 314) + (1 : Int32))) 309 7) l a b) ∧ ((i 312) = 0 → K (upd (upd i 314 ((i 314) + (1 : Int32))) 309 4) l a b)) ∧ (¬ ((a 23) x1.toNatClampNeg) = 1 → (((a 23) x1.toNatClampNeg) = 2 → (¬ (i 312) = (i 321) → K (upd (upd i 314 ((i 314) + (1 : Int32))) 309 7) l a b) ∧ ((i 312) = (i 321) → K (upd (upd i 314 ((i 314) + (1 : Int32))) 309 4) l a b)) ∧ (¬ ((a 23) x1.toNatClampNeg) = 2 → (((a 23) x1.toNatClampNeg) = 3 → vp_in x1 32 ∧ (wp_Matcher_askSame_19 n1 n2 (upd i 314 ((i 314) + (1 : Int32))) l a b ((a 24) x1.toNatClampNeg) (fun i2 l2 a2 b2 => K i2 l2 a2 b2))) ∧ (¬ ((a 23) x1.toNatClampNeg) = 3 → (((a 23) x1.toNatClampNeg) = 4 → wp_Matcher_askCall_19 n1 n2 (upd i 314 ((i 314) + (1 : Int32))) l a b x1 (fun i3 l3 a3 b3 => K i3 l3 a3 b3)) ∧ (¬ ((a 23) x1.toNatClampNeg) = 4 → wp_Matcher_askBody_19 n1 n2 (upd i 314 ((i 314) + (1 : Int32))) l a b x1 (fun i4 l4 a4 b4 => K i4 l4 a4 b4)))))))) ∧ (¬ (i 314) < (i 306) → K (upd i 309 10) l a b)
set_option maxRecDepth 100000 in
set_option maxHeartbeats 4000000 in
theorem ct_Matcher_ask_19 {n1 n2 : Nat} {i : mm_i} {l : mm_j} {a : mm_a} {b : mm_b} {t : mm_H} {x1 : Int32} {K : mm_i → mm_j → mm_a → mm_b → Prop} (h : wp_Matcher_ask_19 n1 n2 i l a b x1 K) : mm_Ct y_Matcher_ask M_Matcher_ask 2 0 0 [.ref 19, .int x1] (Wd 4 22 n1 n2 i l a b ++ t) (mm_PV n1 n2 t K) := by
  refine mm_Ct.of (by decide) rfl (fun q => absurd q (by decide)) (Nat.le_of_ble_eq_true rfl) ?_
  unfold wp_Matcher_ask_19 at h
  refine mm_eqL (L' := [some (.ref 19), some (.int x1)]) rfl ?_
  refine mm_aload_n (M := M_Matcher_ask) d_Matcher_ask_0 rfl ?_
  refine mm_getf (M := M_Matcher_ask) (u := .int (i 314)) 5 10 d_Matcher_ask_1 fl_Matcher_44 wg_19 rfl ?_
  refine mm_aload_n (M := M_Matcher_ask) d_Matcher_ask_4 rfl ?_
  refine mm_getf (M := M_Matcher_ask) (u := .int (i 306)) 5 2 d_Matcher_ask_5 fl_Matcher_47 wg_19 rfl ?_
  refine mm_icmp_lt (M := M_Matcher_ask) 18 d_Matcher_ask_8 (by decide) (fun c => ?_) (fun c => ?_)
  · have h := h.1 c
    refine mm_aload_n (M := M_Matcher_ask) d_Matcher_ask_18 rfl ?_
    refine mm_dup (M := M_Matcher_ask) d_Matcher_ask_19 rfl ?_
    refine mm_getf (M := M_Matcher_ask) (u := .int (i 314)) 5 10 d_Matcher_ask_20 fl_Matcher_44 wg_19 rfl ?_
    refine mm_iconst (M := M_Matcher_ask) (v := 1) d_Matcher_ask_23 (by decide) ?_
    refine mm_iadd (M := M_Matcher_ask) d_Matcher_ask_24 ?_
    refine mm_putf (M := M_Matcher_ask) 5 10 .int d_Matcher_ask_25 fl_Matcher_44 fp_Matcher_44 ft_5_10 wg_19 (Nat.le_of_ble_eq_true rfl) trivial ?_
    refine mm_eqw ws_314 ?_
    refine mm_aload_n (M := M_Matcher_ask) d_Matcher_ask_28 rfl ?_
    refine mm_getf (M := M_Matcher_ask) (u := .ref 22) 5 1 d_Matcher_ask_29 fl_Matcher_23 wg_19 rfl ?_
    refine mm_getf (M := M_Matcher_ask) (u := .ref 23) 1 0 d_Matcher_ask_32 fl_Matcher_163 wg_22 rfl ?_
    refine mm_iload_n (M := M_Matcher_ask) d_Matcher_ask_35 rfl ?_
    obtain ⟨hin, h⟩ := h
    refine mm_iald (M := M_Matcher_ask) (f := (a 23)) d_Matcher_ask_36 wg_23 hin ?_
    refine mm_table (M := M_Matcher_ask) [(0, 72), (1, 80), (2, 100), (3, 127), (4, 143)] 151 d_Matcher_ask_37 (by decide) (by decide +kernel) (by decide +kernel) (by decide) ⟨fun c0 => ?_, fun c0 => ⟨fun c1 => ?_, fun c1 => ⟨fun c2 => ?_, fun c2 => ⟨fun c3 => ?_, fun c3 => ⟨fun c4 => ?_, fun c4 => ?_⟩⟩⟩⟩⟩
    · have h := h.1 c0
      refine mm_aload_n (M := M_Matcher_ask) d_Matcher_ask_72 rfl ?_
      refine mm_iload_n (M := M_Matcher_ask) d_Matcher_ask_73 rfl ?_
      refine mm_eqs (st2 := [.int x1].reverse ++ .ref 19 :: []) rfl ?_
      refine mm_callV (M := M_Matcher_ask) (y := y_Matcher_askLetter) (M' := M_Matcher_askLetter) (d' := 0) (kc := 0) (ks := 0) (kc' := 0) (ks' := 0) (n := 1) d_Matcher_ask_74 ok_Matcher_askLetter ml_Matcher_166 (by decide) rfl (Nat.le_of_ble_eq_true rfl) ⟨tw_593, ts_Matcher_askLetter⟩ wg_19 rfl (ct_Matcher_askLetter_19 h) (fun v w h => ?_)
      obtain ⟨i1, l1, a1, b1, rfl, rfl, h⟩ := h
      refine mm_eqs (st2 := []) rfl ?_
      refine mm_goto (M := M_Matcher_ask) (tgt := 156) d_Matcher_ask_77 (by decide) ?_
      exact mm_ret (M := M_Matcher_ask) ⟨rfl, d_Matcher_ask_156⟩ ⟨_, _, _, _, rfl, rfl, h⟩
    · have h := (h.2 c0).1 c1
      refine mm_aload_n (M := M_Matcher_ask) d_Matcher_ask_80 rfl ?_
      refine mm_aload_n (M := M_Matcher_ask) d_Matcher_ask_81 rfl ?_
      refine mm_getf (M := M_Matcher_ask) (u := .int (i 312)) 5 8 d_Matcher_ask_82 fl_Matcher_37 wg_19 rfl ?_
      refine mm_if_ne (M := M_Matcher_ask) 92 d_Matcher_ask_85 (by decide) (fun c => ?_) (fun c => ?_)
      · have h := h.1 c
        refine mm_bipush (M := M_Matcher_ask) (v := 7) d_Matcher_ask_92 (by decide) ?_
        refine mm_putf (M := M_Matcher_ask) 5 5 .int d_Matcher_ask_94 fl_Matcher_27 fp_Matcher_27 ft_5_5 wg_19 (Nat.le_of_ble_eq_true rfl) trivial ?_
        refine mm_eqw ws_309 ?_
        refine mm_goto (M := M_Matcher_ask) (tgt := 156) d_Matcher_ask_97 (by decide) ?_
        exact mm_ret (M := M_Matcher_ask) ⟨rfl, d_Matcher_ask_156⟩ ⟨_, _, _, _, rfl, rfl, h⟩
      · have h := h.2 c
        refine mm_iconst (M := M_Matcher_ask) (v := 4) d_Matcher_ask_88 (by decide) ?_
        refine mm_goto (M := M_Matcher_ask) (tgt := 94) d_Matcher_ask_89 (by decide) ?_
        refine mm_putf (M := M_Matcher_ask) 5 5 .int d_Matcher_ask_94 fl_Matcher_27 fp_Matcher_27 ft_5_5 wg_19 (Nat.le_of_ble_eq_true rfl) trivial ?_
        refine mm_eqw ws_309 ?_
        refine mm_goto (M := M_Matcher_ask) (tgt := 156) d_Matcher_ask_97 (by decide) ?_
        exact mm_ret (M := M_Matcher_ask) ⟨rfl, d_Matcher_ask_156⟩ ⟨_, _, _, _, rfl, rfl, h⟩
    · have h := ((h.2 c0).2 c1).1 c2
      refine mm_aload_n (M := M_Matcher_ask) d_Matcher_ask_100 rfl ?_
      refine mm_aload_n (M := M_Matcher_ask) d_Matcher_ask_101 rfl ?_
      refine mm_getf (M := M_Matcher_ask) (u := .int (i 312)) 5 8 d_Matcher_ask_102 fl_Matcher_37 wg_19 rfl ?_
      refine mm_aload_n (M := M_Matcher_ask) d_Matcher_ask_105 rfl ?_
      refine mm_getf (M := M_Matcher_ask) (u := .ref 20) 5 0 d_Matcher_ask_106 fl_Matcher_14 wg_19 rfl ?_
      refine mm_getf (M := M_Matcher_ask) (u := .int (i 321)) 0 1 d_Matcher_ask_109 fl_Matcher_64 wg_20 rfl ?_
      refine mm_icmp_ne (M := M_Matcher_ask) 119 d_Matcher_ask_112 (by decide) (fun c => ?_) (fun c => ?_)
      · have h := h.1 c
        refine mm_bipush (M := M_Matcher_ask) (v := 7) d_Matcher_ask_119 (by decide) ?_
        refine mm_putf (M := M_Matcher_ask) 5 5 .int d_Matcher_ask_121 fl_Matcher_27 fp_Matcher_27 ft_5_5 wg_19 (Nat.le_of_ble_eq_true rfl) trivial ?_
        refine mm_eqw ws_309 ?_
        refine mm_goto (M := M_Matcher_ask) (tgt := 156) d_Matcher_ask_124 (by decide) ?_
        exact mm_ret (M := M_Matcher_ask) ⟨rfl, d_Matcher_ask_156⟩ ⟨_, _, _, _, rfl, rfl, h⟩
      · have h := h.2 c
        refine mm_iconst (M := M_Matcher_ask) (v := 4) d_Matcher_ask_115 (by decide) ?_
        refine mm_goto (M := M_Matcher_ask) (tgt := 121) d_Matcher_ask_116 (by decide) ?_
        refine mm_putf (M := M_Matcher_ask) 5 5 .int d_Matcher_ask_121 fl_Matcher_27 fp_Matcher_27 ft_5_5 wg_19 (Nat.le_of_ble_eq_true rfl) trivial ?_
        refine mm_eqw ws_309 ?_
        refine mm_goto (M := M_Matcher_ask) (tgt := 156) d_Matcher_ask_124 (by decide) ?_
        exact mm_ret (M := M_Matcher_ask) ⟨rfl, d_Matcher_ask_156⟩ ⟨_, _, _, _, rfl, rfl, h⟩
    · have h := (((h.2 c0).2 c1).2 c2).1 c3
      refine mm_aload_n (M := M_Matcher_ask) d_Matcher_ask_127 rfl ?_
      refine mm_aload_n (M := M_Matcher_ask) d_Matcher_ask_128 rfl ?_
      refine mm_getf (M := M_Matcher_ask) (u := .ref 22) 5 1 d_Matcher_ask_129 fl_Matcher_23 wg_19 rfl ?_
      refine mm_getf (M := M_Matcher_ask) (u := .ref 24) 1 1 d_Matcher_ask_132 fl_Matcher_169 wg_22 rfl ?_
      refine mm_iload_n (M := M_Matcher_ask) d_Matcher_ask_135 rfl ?_
      obtain ⟨hin, h⟩ := h
      refine mm_iald (M := M_Matcher_ask) (f := (a 24)) d_Matcher_ask_136 wg_24 hin ?_
      refine mm_eqs (st2 := [.int ((a 24) x1.toNatClampNeg)].reverse ++ .ref 19 :: []) rfl ?_
      refine mm_callV (M := M_Matcher_ask) (y := y_Matcher_askSame) (M' := M_Matcher_askSame) (d' := 1) (kc := 0) (ks := 0) (kc' := 0) (ks' := 0) (n := 1) d_Matcher_ask_137 ok_Matcher_askSame ml_Matcher_172 (by decide) rfl (Nat.le_of_ble_eq_true rfl) ⟨tw_597, ts_Matcher_askSame⟩ wg_19 rfl (ct_Matcher_askSame_19 h) (fun v w h => ?_)
      obtain ⟨i2, l2, a2, b2, rfl, rfl, h⟩ := h
      refine mm_eqs (st2 := []) rfl ?_
      refine mm_goto (M := M_Matcher_ask) (tgt := 156) d_Matcher_ask_140 (by decide) ?_
      exact mm_ret (M := M_Matcher_ask) ⟨rfl, d_Matcher_ask_156⟩ ⟨_, _, _, _, rfl, rfl, h⟩
    · have h := ((((h.2 c0).2 c1).2 c2).2 c3).1 c4
      refine mm_aload_n (M := M_Matcher_ask) d_Matcher_ask_143 rfl ?_
      refine mm_iload_n (M := M_Matcher_ask) d_Matcher_ask_144 rfl ?_
      refine mm_eqs (st2 := [.int x1].reverse ++ .ref 19 :: []) rfl ?_
      refine mm_callV (M := M_Matcher_ask) (y := y_Matcher_askCall) (M' := M_Matcher_askCall) (d' := 1) (kc := 0) (ks := 0) (kc' := 0) (ks' := 0) (n := 1) d_Matcher_ask_145 ok_Matcher_askCall ml_Matcher_175 (by decide) rfl (Nat.le_of_ble_eq_true rfl) ⟨tw_611, ts_Matcher_askCall⟩ wg_19 rfl (ct_Matcher_askCall_19 h) (fun v w h => ?_)
      obtain ⟨i3, l3, a3, b3, rfl, rfl, h⟩ := h
      refine mm_eqs (st2 := []) rfl ?_
      refine mm_goto (M := M_Matcher_ask) (tgt := 156) d_Matcher_ask_148 (by decide) ?_
      exact mm_ret (M := M_Matcher_ask) ⟨rfl, d_Matcher_ask_156⟩ ⟨_, _, _, _, rfl, rfl, h⟩
    · have h := (((((h.2 c0).2 c1).2 c2).2 c3).2 c4)
      refine mm_aload_n (M := M_Matcher_ask) d_Matcher_ask_151 rfl ?_
      refine mm_iload_n (M := M_Matcher_ask) d_Matcher_ask_152 rfl ?_
      refine mm_eqs (st2 := [.int x1].reverse ++ .ref 19 :: []) rfl ?_
      refine mm_callV (M := M_Matcher_ask) (y := y_Matcher_askBody) (M' := M_Matcher_askBody) (d' := 1) (kc := 0) (ks := 0) (kc' := 0) (ks' := 0) (n := 1) d_Matcher_ask_153 ok_Matcher_askBody ml_Matcher_178 (by decide) rfl (Nat.le_of_ble_eq_true rfl) ⟨tw_615, ts_Matcher_askBody⟩ wg_19 rfl (ct_Matcher_askBody_19 h) (fun v w h => ?_)
      obtain ⟨i4, l4, a4, b4, rfl, rfl, h⟩ := h
      refine mm_eqs (st2 := []) rfl ?_
      exact mm_ret (M := M_Matcher_ask) ⟨rfl, d_Matcher_ask_156⟩ ⟨_, _, _, _, rfl, rfl, h⟩
  · have h := h.2 c
    refine mm_aload_n (M := M_Matcher_ask) d_Matcher_ask_11 rfl ?_
    refine mm_bipush (M := M_Matcher_ask) (v := 10) d_Matcher_ask_12 (by decide) ?_
    refine mm_putf (M := M_Matcher_ask) 5 5 .int d_Matcher_ask_14 fl_Matcher_27 fp_Matcher_27 ft_5_5 wg_19 (Nat.le_of_ble_eq_true rfl) trivial ?_
    refine mm_eqw ws_309 ?_
    exact mm_ret (M := M_Matcher_ask) ⟨rfl, d_Matcher_ask_17⟩ ⟨_, _, _, _, rfl, rfl, h⟩
def wp_Matcher_takeTurn_19 (n1 n2 : Nat) (i : mm_i) (l : mm_j) (a : mm_a) (b : mm_b)  (K : mm_i → mm_j → mm_a → mm_b → Prop) : Prop :=
  ((i 309) = 0 → wp_Matcher_enterRow_19 n1 n2 i l a b (i 310) (fun i1 l1 a1 b1 => K i1 l1 a1 b1)) ∧ (¬ (i 309) = 0 → ((i 309) = 1 → wp_Matcher_enterItem_19 n1 n2 i l a b (i 310) (fun i2 l2 a2 b2 => K i2 l2 a2 b2)) ∧ (¬ (i 309) = 1 → ((i 309) = 2 → wp_Matcher_tryAtom_19 n1 n2 i l a b (i 310) (fun i3 l3 a3 b3 => K i3 l3 a3 b3)) ∧ (¬ (i 309) = 2 → ((i 309) = 3 → wp_Matcher_ask_19 n1 n2 i l a b (i 310) (fun i4 l4 a4 b4 => K i4 l4 a4 b4)) ∧ (¬ (i 309) = 3 → ((i 309) = 4 → wp_Matcher_goAfterAtom_19 n1 n2 i l a b (i 310) (fun i5 l5 a5 b5 => K i5 l5 a5 b5)) ∧ (¬ (i 309) = 4 → ((i 309) = 5 → wp_Matcher_goAfterItem_19 n1 n2 i l a b (i 310) (fun i6 l6 a6 b6 => K i6 l6 a6 b6)) ∧ (¬ (i 309) = 5 → ((i 309) = 6 → wp_Matcher_resume_19 n1 n2 i l a b (i 311) (fun i7 l7 a7 b7 => K i7 l7 a7 b7)) ∧ (¬ (i 309) = 6 → wp_Matcher_takeChoice_19 n1 n2 i l a b (fun i8 l8 a8 b8 => K i8 l8 a8 b8))))))))
set_option maxRecDepth 100000 in
set_option maxHeartbeats 4000000 in
theorem ct_Matcher_takeTurn_19 {n1 n2 : Nat} {i : mm_i} {l : mm_j} {a : mm_a} {b : mm_b} {t : mm_H}  {K : mm_i → mm_j → mm_a → mm_b → Prop} (h : wp_Matcher_takeTurn_19 n1 n2 i l a b  K) : mm_Ct y_Matcher_takeTurn M_Matcher_takeTurn 3 0 0 [.ref 19] (Wd 4 22 n1 n2 i l a b ++ t) (mm_PV n1 n2 t K) := by
  refine mm_Ct.of (by decide) rfl (fun q => absurd q (by decide)) (Nat.le_of_ble_eq_true rfl) ?_
  unfold wp_Matcher_takeTurn_19 at h
  refine mm_eqL (L' := [some (.ref 19)]) rfl ?_
  refine mm_aload_n (M := M_Matcher_takeTurn) d_Matcher_takeTurn_0 rfl ?_
  refine mm_getf (M := M_Matcher_takeTurn) (u := .int (i 309)) 5 5 d_Matcher_takeTurn_1 fl_Matcher_27 wg_19 rfl ?_
  refine mm_table (M := M_Matcher_takeTurn) [(0, 48), (1, 59), (2, 70), (3, 81), (4, 92), (5, 103), (6, 114)] 125 d_Matcher_takeTurn_4 (by decide) (by decide +kernel) (by decide +kernel) (by decide) ⟨fun c0 => ?_, fun c0 => ⟨fun c1 => ?_, fun c1 => ⟨fun c2 => ?_, fun c2 => ⟨fun c3 => ?_, fun c3 => ⟨fun c4 => ?_, fun c4 => ⟨fun c5 => ?_, fun c5 => ⟨fun c6 => ?_, fun c6 => ?_⟩⟩⟩⟩⟩⟩⟩
  · have h := h.1 c0
    refine mm_aload_n (M := M_Matcher_takeTurn) d_Matcher_takeTurn_48 rfl ?_
    refine mm_aload_n (M := M_Matcher_takeTurn) d_Matcher_takeTurn_49 rfl ?_
    refine mm_getf (M := M_Matcher_takeTurn) (u := .int (i 310)) 5 6 d_Matcher_takeTurn_50 fl_Matcher_31 wg_19 rfl ?_
    refine mm_eqs (st2 := [.int (i 310)].reverse ++ .ref 19 :: []) rfl ?_
    refine mm_callV (M := M_Matcher_takeTurn) (y := y_Matcher_enterRow) (M' := M_Matcher_enterRow) (d' := 1) (kc := 0) (ks := 0) (kc' := 0) (ks' := 0) (n := 1) d_Matcher_takeTurn_53 ok_Matcher_enterRow ml_Matcher_97 (by decide) rfl (Nat.le_of_ble_eq_true rfl) ⟨tw_565, ts_Matcher_enterRow⟩ wg_19 rfl (ct_Matcher_enterRow_19 h) (fun v w h => ?_)
    obtain ⟨i1, l1, a1, b1, rfl, rfl, h⟩ := h
    refine mm_eqs (st2 := []) rfl ?_
    refine mm_goto (M := M_Matcher_takeTurn) (tgt := 129) d_Matcher_takeTurn_56 (by decide) ?_
    exact mm_ret (M := M_Matcher_takeTurn) ⟨rfl, d_Matcher_takeTurn_129⟩ ⟨_, _, _, _, rfl, rfl, h⟩
  · have h := (h.2 c0).1 c1
    refine mm_aload_n (M := M_Matcher_takeTurn) d_Matcher_takeTurn_59 rfl ?_
    refine mm_aload_n (M := M_Matcher_takeTurn) d_Matcher_takeTurn_60 rfl ?_
    refine mm_getf (M := M_Matcher_takeTurn) (u := .int (i 310)) 5 6 d_Matcher_takeTurn_61 fl_Matcher_31 wg_19 rfl ?_
    refine mm_eqs (st2 := [.int (i 310)].reverse ++ .ref 19 :: []) rfl ?_
    refine mm_callV (M := M_Matcher_takeTurn) (y := y_Matcher_enterItem) (M' := M_Matcher_enterItem) (d' := 2) (kc := 0) (ks := 0) (kc' := 0) (ks' := 0) (n := 1) d_Matcher_takeTurn_64 ok_Matcher_enterItem ml_Matcher_100 (by decide) rfl (Nat.le_of_ble_eq_true rfl) ⟨tw_573, ts_Matcher_enterItem⟩ wg_19 rfl (ct_Matcher_enterItem_19 h) (fun v w h => ?_)
    obtain ⟨i2, l2, a2, b2, rfl, rfl, h⟩ := h
    refine mm_eqs (st2 := []) rfl ?_
    refine mm_goto (M := M_Matcher_takeTurn) (tgt := 129) d_Matcher_takeTurn_67 (by decide) ?_
    exact mm_ret (M := M_Matcher_takeTurn) ⟨rfl, d_Matcher_takeTurn_129⟩ ⟨_, _, _, _, rfl, rfl, h⟩
  · have h := ((h.2 c0).2 c1).1 c2
    refine mm_aload_n (M := M_Matcher_takeTurn) d_Matcher_takeTurn_70 rfl ?_
    refine mm_aload_n (M := M_Matcher_takeTurn) d_Matcher_takeTurn_71 rfl ?_
    refine mm_getf (M := M_Matcher_takeTurn) (u := .int (i 310)) 5 6 d_Matcher_takeTurn_72 fl_Matcher_31 wg_19 rfl ?_
    refine mm_eqs (st2 := [.int (i 310)].reverse ++ .ref 19 :: []) rfl ?_
    refine mm_callV (M := M_Matcher_takeTurn) (y := y_Matcher_tryAtom) (M' := M_Matcher_tryAtom) (d' := 1) (kc := 0) (ks := 0) (kc' := 0) (ks' := 0) (n := 1) d_Matcher_takeTurn_75 ok_Matcher_tryAtom ml_Matcher_103 (by decide) rfl (Nat.le_of_ble_eq_true rfl) ⟨tw_585, ts_Matcher_tryAtom⟩ wg_19 rfl (ct_Matcher_tryAtom_19 h) (fun v w h => ?_)
    obtain ⟨i3, l3, a3, b3, rfl, rfl, h⟩ := h
    refine mm_eqs (st2 := []) rfl ?_
    refine mm_goto (M := M_Matcher_takeTurn) (tgt := 129) d_Matcher_takeTurn_78 (by decide) ?_
    exact mm_ret (M := M_Matcher_takeTurn) ⟨rfl, d_Matcher_takeTurn_129⟩ ⟨_, _, _, _, rfl, rfl, h⟩
  · have h := (((h.2 c0).2 c1).2 c2).1 c3
    refine mm_aload_n (M := M_Matcher_takeTurn) d_Matcher_takeTurn_81 rfl ?_
    refine mm_aload_n (M := M_Matcher_takeTurn) d_Matcher_takeTurn_82 rfl ?_
    refine mm_getf (M := M_Matcher_takeTurn) (u := .int (i 310)) 5 6 d_Matcher_takeTurn_83 fl_Matcher_31 wg_19 rfl ?_
    refine mm_eqs (st2 := [.int (i 310)].reverse ++ .ref 19 :: []) rfl ?_
    refine mm_callV (M := M_Matcher_takeTurn) (y := y_Matcher_ask) (M' := M_Matcher_ask) (d' := 2) (kc := 0) (ks := 0) (kc' := 0) (ks' := 0) (n := 1) d_Matcher_takeTurn_86 ok_Matcher_ask ml_Matcher_106 (by decide) rfl (Nat.le_of_ble_eq_true rfl) ⟨tw_589, ts_Matcher_ask⟩ wg_19 rfl (ct_Matcher_ask_19 h) (fun v w h => ?_)
    obtain ⟨i4, l4, a4, b4, rfl, rfl, h⟩ := h
    refine mm_eqs (st2 := []) rfl ?_
    refine mm_goto (M := M_Matcher_takeTurn) (tgt := 129) d_Matcher_takeTurn_89 (by decide) ?_
    exact mm_ret (M := M_Matcher_takeTurn) ⟨rfl, d_Matcher_takeTurn_129⟩ ⟨_, _, _, _, rfl, rfl, h⟩
  · have h := ((((h.2 c0).2 c1).2 c2).2 c3).1 c4
    refine mm_aload_n (M := M_Matcher_takeTurn) d_Matcher_takeTurn_92 rfl ?_
    refine mm_aload_n (M := M_Matcher_takeTurn) d_Matcher_takeTurn_93 rfl ?_
    refine mm_getf (M := M_Matcher_takeTurn) (u := .int (i 310)) 5 6 d_Matcher_takeTurn_94 fl_Matcher_31 wg_19 rfl ?_
    refine mm_eqs (st2 := [.int (i 310)].reverse ++ .ref 19 :: []) rfl ?_
    refine mm_callV (M := M_Matcher_takeTurn) (y := y_Matcher_goAfterAtom) (M' := M_Matcher_goAfterAtom) (d' := 2) (kc := 0) (ks := 0) (kc' := 0) (ks' := 0) (n := 1) d_Matcher_takeTurn_97 ok_Matcher_goAfterAtom ml_Matcher_109 (by decide) rfl (Nat.le_of_ble_eq_true rfl) ⟨tw_619, ts_Matcher_goAfterAtom⟩ wg_19 rfl (ct_Matcher_goAfterAtom_19 h) (fun v w h => ?_)
    obtain ⟨i5, l5, a5, b5, rfl, rfl, h⟩ := h
    refine mm_eqs (st2 := []) rfl ?_
    refine mm_goto (M := M_Matcher_takeTurn) (tgt := 129) d_Matcher_takeTurn_100 (by decide) ?_
    exact mm_ret (M := M_Matcher_takeTurn) ⟨rfl, d_Matcher_takeTurn_129⟩ ⟨_, _, _, _, rfl, rfl, h⟩
  · have h := (((((h.2 c0).2 c1).2 c2).2 c3).2 c4).1 c5
    refine mm_aload_n (M := M_Matcher_takeTurn) d_Matcher_takeTurn_103 rfl ?_
    refine mm_aload_n (M := M_Matcher_takeTurn) d_Matcher_takeTurn_104 rfl ?_
    refine mm_getf (M := M_Matcher_takeTurn) (u := .int (i 310)) 5 6 d_Matcher_takeTurn_105 fl_Matcher_31 wg_19 rfl ?_
    refine mm_eqs (st2 := [.int (i 310)].reverse ++ .ref 19 :: []) rfl ?_
    refine mm_callV (M := M_Matcher_takeTurn) (y := y_Matcher_goAfterItem) (M' := M_Matcher_goAfterItem) (d' := 1) (kc := 0) (ks := 0) (kc' := 0) (ks' := 0) (n := 1) d_Matcher_takeTurn_108 ok_Matcher_goAfterItem ml_Matcher_112 (by decide) rfl (Nat.le_of_ble_eq_true rfl) ⟨tw_623, ts_Matcher_goAfterItem⟩ wg_19 rfl (ct_Matcher_goAfterItem_19 h) (fun v w h => ?_)
    obtain ⟨i6, l6, a6, b6, rfl, rfl, h⟩ := h
    refine mm_eqs (st2 := []) rfl ?_
    refine mm_goto (M := M_Matcher_takeTurn) (tgt := 129) d_Matcher_takeTurn_111 (by decide) ?_
    exact mm_ret (M := M_Matcher_takeTurn) ⟨rfl, d_Matcher_takeTurn_129⟩ ⟨_, _, _, _, rfl, rfl, h⟩
  · have h := ((((((h.2 c0).2 c1).2 c2).2 c3).2 c4).2 c5).1 c6
    refine mm_aload_n (M := M_Matcher_takeTurn) d_Matcher_takeTurn_114 rfl ?_
    refine mm_aload_n (M := M_Matcher_takeTurn) d_Matcher_takeTurn_115 rfl ?_
    refine mm_getf (M := M_Matcher_takeTurn) (u := .int (i 311)) 5 7 d_Matcher_takeTurn_116 fl_Matcher_34 wg_19 rfl ?_
    refine mm_eqs (st2 := [.int (i 311)].reverse ++ .ref 19 :: []) rfl ?_
    refine mm_callV (M := M_Matcher_takeTurn) (y := y_Matcher_resume) (M' := M_Matcher_resume) (d' := 2) (kc := 0) (ks := 0) (kc' := 0) (ks' := 0) (n := 1) d_Matcher_takeTurn_119 ok_Matcher_resume ml_Matcher_115 (by decide) rfl (Nat.le_of_ble_eq_true rfl) ⟨tw_627, ts_Matcher_resume⟩ wg_19 rfl (ct_Matcher_resume_19 h) (fun v w h => ?_)
    obtain ⟨i7, l7, a7, b7, rfl, rfl, h⟩ := h
    refine mm_eqs (st2 := []) rfl ?_
    refine mm_goto (M := M_Matcher_takeTurn) (tgt := 129) d_Matcher_takeTurn_122 (by decide) ?_
    exact mm_ret (M := M_Matcher_takeTurn) ⟨rfl, d_Matcher_takeTurn_129⟩ ⟨_, _, _, _, rfl, rfl, h⟩
  · have h := (((((((h.2 c0).2 c1).2 c2).2 c3).2 c4).2 c5).2 c6)
    refine mm_aload_n (M := M_Matcher_takeTurn) d_Matcher_takeTurn_125 rfl ?_
    refine mm_eqs (st2 := [].reverse ++ .ref 19 :: []) rfl ?_
    refine mm_callV (M := M_Matcher_takeTurn) (y := y_Matcher_takeChoice) (M' := M_Matcher_takeChoice) (d' := 1) (kc := 0) (ks := 0) (kc' := 0) (ks' := 0) (n := 0) d_Matcher_takeTurn_126 ok_Matcher_takeChoice ml_Matcher_118 (by decide) rfl (Nat.le_of_ble_eq_true rfl) ⟨tw_644, ts_Matcher_takeChoice⟩ wg_19 rfl (ct_Matcher_takeChoice_19 h) (fun v w h => ?_)
    obtain ⟨i8, l8, a8, b8, rfl, rfl, h⟩ := h
    refine mm_eqs (st2 := []) rfl ?_
    exact mm_ret (M := M_Matcher_takeTurn) ⟨rfl, d_Matcher_takeTurn_129⟩ ⟨_, _, _, _, rfl, rfl, h⟩
