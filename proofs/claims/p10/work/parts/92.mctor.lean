/-! the reference's constructor -/
def clM (x : Int32) : Int32 := if 20 ≤ x then (if x ≤ 300 then x else 300) else 20
set_option maxRecDepth 100000 in
set_option maxHeartbeats 4000000 in
theorem ci_Model {x1 : Int32} : mm_Ct y_Model_init M_Model_init 1 ((((((((0 + 1) + 1) + 1) + 1) + 1) + 1) + 1) + 1) ((((((((0 + 4000) + 4000) + 301) + 7000) + 8) + 40) + 32) + 32) [.ref 0, .int x1] [.inr (7, [.int 0, .int 0, .null, .int 0, .int 0, .int 0, .int 0, .null, .int 0, .null, .int 0, .int 0, .int 0, .int 0, .long 0, .null, .int 0, .null, .null, .int 0, .null, .null, .int 0, .int 0, .int 0, .int 0, .long 0])] (fun v w => v = none ∧ ∃ L : Int32, w = Wm (upd (fun _ => 0) 0 L) (fun _ => 0) (fun _ _ => 0) (fun _ _ => 0) ∧ L = clM x1) := by
  refine mm_Ct.of (by decide) rfl (fun _ => rfl) (Nat.le_of_ble_eq_true rfl) ?_
  refine mm_eqL (L' := [some (.ref 0), some (.int x1)]) rfl ?_
  refine mm_aload_n (M := M_Model_init) d_Model_init_0 rfl ?_
  refine mm_obj (M := M_Model_init) d_Model_init_1 tw_684 tw_22 tw_23 (Nat.le_of_ble_eq_true rfl) (by decide) ?_
  refine mm_aload_n (M := M_Model_init) d_Model_init_4 rfl ?_
  refine mm_bipush (M := M_Model_init) (v := 32) d_Model_init_5 (by decide) ?_
  refine mm_newi (M := M_Model_init) (kc := (((((((0 + 1) + 1) + 1) + 1) + 1) + 1) + 1)) (ks := (((((((0 + 4000) + 4000) + 301) + 7000) + 8) + 40) + 32)) 32 d_Model_init_7 tw_47 (by decide) (by decide) (by decide) ?_
  refine mm_eqw (w' := [.inr (7, [.int 0, .int 0, .null, .int 0, .int 0, .int 0, .int 0, .null, .int 0, .null, .int 0, .int 0, .int 0, .int 0, .long 0, .null, .int 0, .null, .null, .int 0, .null, .null, .int 0, .int 0, .int 0, .int 0, .long 0]), .inl (.int, (32, .inl (fun _ => 0)))]) rfl ?_
  refine mm_eqs (st2 := [.ref 1, .ref 0]) rfl ?_
  refine mm_putf (M := M_Model_init) 7 2 (.array .int) d_Model_init_9 fl_Model_7 fp_Model_7 ft_7_2 rfl (Nat.le_of_ble_eq_true rfl) trivial ?_
  refine mm_eqw (w' := [.inr (7, [.int 0, .int 0, .ref 1, .int 0, .int 0, .int 0, .int 0, .null, .int 0, .null, .int 0, .int 0, .int 0, .int 0, .long 0, .null, .int 0, .null, .null, .int 0, .null, .null, .int 0, .int 0, .int 0, .int 0, .long 0]), .inl (.int, (32, .inl (fun _ => 0)))]) rfl ?_
  refine mm_aload_n (M := M_Model_init) d_Model_init_12 rfl ?_
  refine mm_bipush (M := M_Model_init) (v := 32) d_Model_init_13 (by decide) ?_
  refine mm_newi (M := M_Model_init) (kc := ((((((0 + 1) + 1) + 1) + 1) + 1) + 1)) (ks := ((((((0 + 4000) + 4000) + 301) + 7000) + 8) + 40)) 32 d_Model_init_15 tw_47 (by decide) (by decide) (by decide) ?_
  refine mm_eqw (w' := [.inr (7, [.int 0, .int 0, .ref 1, .int 0, .int 0, .int 0, .int 0, .null, .int 0, .null, .int 0, .int 0, .int 0, .int 0, .long 0, .null, .int 0, .null, .null, .int 0, .null, .null, .int 0, .int 0, .int 0, .int 0, .long 0]), .inl (.int, (32, .inl (fun _ => 0))), .inl (.int, (32, .inl (fun _ => 0)))]) rfl ?_
  refine mm_eqs (st2 := [.ref 2, .ref 0]) rfl ?_
  refine mm_putf (M := M_Model_init) 7 7 (.array .int) d_Model_init_17 fl_Model_13 fp_Model_13 ft_7_7 rfl (Nat.le_of_ble_eq_true rfl) trivial ?_
  refine mm_eqw (w' := [.inr (7, [.int 0, .int 0, .ref 1, .int 0, .int 0, .int 0, .int 0, .ref 2, .int 0, .null, .int 0, .int 0, .int 0, .int 0, .long 0, .null, .int 0, .null, .null, .int 0, .null, .null, .int 0, .int 0, .int 0, .int 0, .long 0]), .inl (.int, (32, .inl (fun _ => 0))), .inl (.int, (32, .inl (fun _ => 0)))]) rfl ?_
  refine mm_aload_n (M := M_Model_init) d_Model_init_20 rfl ?_
  refine mm_bipush (M := M_Model_init) (v := 40) d_Model_init_21 (by decide) ?_
  refine mm_newi (M := M_Model_init) (kc := (((((0 + 1) + 1) + 1) + 1) + 1)) (ks := (((((0 + 4000) + 4000) + 301) + 7000) + 8)) 40 d_Model_init_23 tw_47 (by decide) (by decide) (by decide) ?_
  refine mm_eqw (w' := [.inr (7, [.int 0, .int 0, .ref 1, .int 0, .int 0, .int 0, .int 0, .ref 2, .int 0, .null, .int 0, .int 0, .int 0, .int 0, .long 0, .null, .int 0, .null, .null, .int 0, .null, .null, .int 0, .int 0, .int 0, .int 0, .long 0]), .inl (.int, (32, .inl (fun _ => 0))), .inl (.int, (32, .inl (fun _ => 0))), .inl (.int, (40, .inl (fun _ => 0)))]) rfl ?_
  refine mm_eqs (st2 := [.ref 3, .ref 0]) rfl ?_
  refine mm_putf (M := M_Model_init) 7 9 (.array .int) d_Model_init_25 fl_Model_16 fp_Model_16 ft_7_9 rfl (Nat.le_of_ble_eq_true rfl) trivial ?_
  refine mm_eqw (w' := [.inr (7, [.int 0, .int 0, .ref 1, .int 0, .int 0, .int 0, .int 0, .ref 2, .int 0, .ref 3, .int 0, .int 0, .int 0, .int 0, .long 0, .null, .int 0, .null, .null, .int 0, .null, .null, .int 0, .int 0, .int 0, .int 0, .long 0]), .inl (.int, (32, .inl (fun _ => 0))), .inl (.int, (32, .inl (fun _ => 0))), .inl (.int, (40, .inl (fun _ => 0)))]) rfl ?_
  refine mm_aload_n (M := M_Model_init) d_Model_init_28 rfl ?_
  refine mm_bipush (M := M_Model_init) (v := 8) d_Model_init_29 (by decide) ?_
  refine mm_newi (M := M_Model_init) (kc := ((((0 + 1) + 1) + 1) + 1)) (ks := ((((0 + 4000) + 4000) + 301) + 7000)) 8 d_Model_init_31 tw_47 (by decide) (by decide) (by decide) ?_
  refine mm_eqw (w' := [.inr (7, [.int 0, .int 0, .ref 1, .int 0, .int 0, .int 0, .int 0, .ref 2, .int 0, .ref 3, .int 0, .int 0, .int 0, .int 0, .long 0, .null, .int 0, .null, .null, .int 0, .null, .null, .int 0, .int 0, .int 0, .int 0, .long 0]), .inl (.int, (32, .inl (fun _ => 0))), .inl (.int, (32, .inl (fun _ => 0))), .inl (.int, (40, .inl (fun _ => 0))), .inl (.int, (8, .inl (fun _ => 0)))]) rfl ?_
  refine mm_eqs (st2 := [.ref 4, .ref 0]) rfl ?_
  refine mm_putf (M := M_Model_init) 7 15 (.array .int) d_Model_init_33 fl_Model_19 fp_Model_19 ft_7_15 rfl (Nat.le_of_ble_eq_true rfl) trivial ?_
  refine mm_eqw (w' := [.inr (7, [.int 0, .int 0, .ref 1, .int 0, .int 0, .int 0, .int 0, .ref 2, .int 0, .ref 3, .int 0, .int 0, .int 0, .int 0, .long 0, .ref 4, .int 0, .null, .null, .int 0, .null, .null, .int 0, .int 0, .int 0, .int 0, .long 0]), .inl (.int, (32, .inl (fun _ => 0))), .inl (.int, (32, .inl (fun _ => 0))), .inl (.int, (40, .inl (fun _ => 0))), .inl (.int, (8, .inl (fun _ => 0)))]) rfl ?_
  refine mm_aload_n (M := M_Model_init) d_Model_init_36 rfl ?_
  refine mm_sipush (M := M_Model_init) (v := 7000) d_Model_init_37 (by decide) ?_
  refine mm_newl (M := M_Model_init) (kc := (((0 + 1) + 1) + 1)) (ks := (((0 + 4000) + 4000) + 301)) 7000 d_Model_init_40 tw_209 (by decide) (by decide) (by decide) ?_
  refine mm_eqw (w' := [.inr (7, [.int 0, .int 0, .ref 1, .int 0, .int 0, .int 0, .int 0, .ref 2, .int 0, .ref 3, .int 0, .int 0, .int 0, .int 0, .long 0, .ref 4, .int 0, .null, .null, .int 0, .null, .null, .int 0, .int 0, .int 0, .int 0, .long 0]), .inl (.int, (32, .inl (fun _ => 0))), .inl (.int, (32, .inl (fun _ => 0))), .inl (.int, (40, .inl (fun _ => 0))), .inl (.int, (8, .inl (fun _ => 0))), .inl (.long, (7000, .inr (.inl (fun _ => 0))))]) rfl ?_
  refine mm_eqs (st2 := [.ref 5, .ref 0]) rfl ?_
  refine mm_putf (M := M_Model_init) 7 17 (.array .long) d_Model_init_42 fl_Model_22 fp_Model_22 ft_7_17 rfl (Nat.le_of_ble_eq_true rfl) trivial ?_
  refine mm_eqw (w' := [.inr (7, [.int 0, .int 0, .ref 1, .int 0, .int 0, .int 0, .int 0, .ref 2, .int 0, .ref 3, .int 0, .int 0, .int 0, .int 0, .long 0, .ref 4, .int 0, .ref 5, .null, .int 0, .null, .null, .int 0, .int 0, .int 0, .int 0, .long 0]), .inl (.int, (32, .inl (fun _ => 0))), .inl (.int, (32, .inl (fun _ => 0))), .inl (.int, (40, .inl (fun _ => 0))), .inl (.int, (8, .inl (fun _ => 0))), .inl (.long, (7000, .inr (.inl (fun _ => 0))))]) rfl ?_
  refine mm_aload_n (M := M_Model_init) d_Model_init_45 rfl ?_
  refine mm_sipush (M := M_Model_init) (v := 301) d_Model_init_46 (by decide) ?_
  refine mm_newl (M := M_Model_init) (kc := ((0 + 1) + 1)) (ks := ((0 + 4000) + 4000)) 301 d_Model_init_49 tw_209 (by decide) (by decide) (by decide) ?_
  refine mm_eqw (w' := [.inr (7, [.int 0, .int 0, .ref 1, .int 0, .int 0, .int 0, .int 0, .ref 2, .int 0, .ref 3, .int 0, .int 0, .int 0, .int 0, .long 0, .ref 4, .int 0, .ref 5, .null, .int 0, .null, .null, .int 0, .int 0, .int 0, .int 0, .long 0]), .inl (.int, (32, .inl (fun _ => 0))), .inl (.int, (32, .inl (fun _ => 0))), .inl (.int, (40, .inl (fun _ => 0))), .inl (.int, (8, .inl (fun _ => 0))), .inl (.long, (7000, .inr (.inl (fun _ => 0)))), .inl (.long, (301, .inr (.inl (fun _ => 0))))]) rfl ?_
  refine mm_eqs (st2 := [.ref 6, .ref 0]) rfl ?_
  refine mm_putf (M := M_Model_init) 7 18 (.array .long) d_Model_init_51 fl_Model_26 fp_Model_26 ft_7_18 rfl (Nat.le_of_ble_eq_true rfl) trivial ?_
  refine mm_eqw (w' := [.inr (7, [.int 0, .int 0, .ref 1, .int 0, .int 0, .int 0, .int 0, .ref 2, .int 0, .ref 3, .int 0, .int 0, .int 0, .int 0, .long 0, .ref 4, .int 0, .ref 5, .ref 6, .int 0, .null, .null, .int 0, .int 0, .int 0, .int 0, .long 0]), .inl (.int, (32, .inl (fun _ => 0))), .inl (.int, (32, .inl (fun _ => 0))), .inl (.int, (40, .inl (fun _ => 0))), .inl (.int, (8, .inl (fun _ => 0))), .inl (.long, (7000, .inr (.inl (fun _ => 0)))), .inl (.long, (301, .inr (.inl (fun _ => 0))))]) rfl ?_
  refine mm_aload_n (M := M_Model_init) d_Model_init_54 rfl ?_
  refine mm_sipush (M := M_Model_init) (v := 4000) d_Model_init_55 (by decide) ?_
  refine mm_newl (M := M_Model_init) (kc := (0 + 1)) (ks := (0 + 4000)) 4000 d_Model_init_58 tw_209 (by decide) (by decide) (by decide) ?_
  refine mm_eqw (w' := [.inr (7, [.int 0, .int 0, .ref 1, .int 0, .int 0, .int 0, .int 0, .ref 2, .int 0, .ref 3, .int 0, .int 0, .int 0, .int 0, .long 0, .ref 4, .int 0, .ref 5, .ref 6, .int 0, .null, .null, .int 0, .int 0, .int 0, .int 0, .long 0]), .inl (.int, (32, .inl (fun _ => 0))), .inl (.int, (32, .inl (fun _ => 0))), .inl (.int, (40, .inl (fun _ => 0))), .inl (.int, (8, .inl (fun _ => 0))), .inl (.long, (7000, .inr (.inl (fun _ => 0)))), .inl (.long, (301, .inr (.inl (fun _ => 0)))), .inl (.long, (4000, .inr (.inl (fun _ => 0))))]) rfl ?_
  refine mm_eqs (st2 := [.ref 7, .ref 0]) rfl ?_
  refine mm_putf (M := M_Model_init) 7 20 (.array .long) d_Model_init_60 fl_Model_29 fp_Model_29 ft_7_20 rfl (Nat.le_of_ble_eq_true rfl) trivial ?_
  refine mm_eqw (w' := [.inr (7, [.int 0, .int 0, .ref 1, .int 0, .int 0, .int 0, .int 0, .ref 2, .int 0, .ref 3, .int 0, .int 0, .int 0, .int 0, .long 0, .ref 4, .int 0, .ref 5, .ref 6, .int 0, .ref 7, .null, .int 0, .int 0, .int 0, .int 0, .long 0]), .inl (.int, (32, .inl (fun _ => 0))), .inl (.int, (32, .inl (fun _ => 0))), .inl (.int, (40, .inl (fun _ => 0))), .inl (.int, (8, .inl (fun _ => 0))), .inl (.long, (7000, .inr (.inl (fun _ => 0)))), .inl (.long, (301, .inr (.inl (fun _ => 0)))), .inl (.long, (4000, .inr (.inl (fun _ => 0))))]) rfl ?_
  refine mm_aload_n (M := M_Model_init) d_Model_init_63 rfl ?_
  refine mm_sipush (M := M_Model_init) (v := 4000) d_Model_init_64 (by decide) ?_
  refine mm_newl (M := M_Model_init) (kc := 0) (ks := 0) 4000 d_Model_init_67 tw_209 (by decide) (by decide) (by decide) ?_
  refine mm_eqw (w' := [.inr (7, [.int 0, .int 0, .ref 1, .int 0, .int 0, .int 0, .int 0, .ref 2, .int 0, .ref 3, .int 0, .int 0, .int 0, .int 0, .long 0, .ref 4, .int 0, .ref 5, .ref 6, .int 0, .ref 7, .null, .int 0, .int 0, .int 0, .int 0, .long 0]), .inl (.int, (32, .inl (fun _ => 0))), .inl (.int, (32, .inl (fun _ => 0))), .inl (.int, (40, .inl (fun _ => 0))), .inl (.int, (8, .inl (fun _ => 0))), .inl (.long, (7000, .inr (.inl (fun _ => 0)))), .inl (.long, (301, .inr (.inl (fun _ => 0)))), .inl (.long, (4000, .inr (.inl (fun _ => 0)))), .inl (.long, (4000, .inr (.inl (fun _ => 0))))]) rfl ?_
  refine mm_eqs (st2 := [.ref 8, .ref 0]) rfl ?_
  refine mm_putf (M := M_Model_init) 7 21 (.array .long) d_Model_init_69 fl_Model_32 fp_Model_32 ft_7_21 rfl (Nat.le_of_ble_eq_true rfl) trivial ?_
  refine mm_eqw (w' := [.inr (7, [.int 0, .int 0, .ref 1, .int 0, .int 0, .int 0, .int 0, .ref 2, .int 0, .ref 3, .int 0, .int 0, .int 0, .int 0, .long 0, .ref 4, .int 0, .ref 5, .ref 6, .int 0, .ref 7, .ref 8, .int 0, .int 0, .int 0, .int 0, .long 0]), .inl (.int, (32, .inl (fun _ => 0))), .inl (.int, (32, .inl (fun _ => 0))), .inl (.int, (40, .inl (fun _ => 0))), .inl (.int, (8, .inl (fun _ => 0))), .inl (.long, (7000, .inr (.inl (fun _ => 0)))), .inl (.long, (301, .inr (.inl (fun _ => 0)))), .inl (.long, (4000, .inr (.inl (fun _ => 0)))), .inl (.long, (4000, .inr (.inl (fun _ => 0))))]) rfl ?_
  refine mm_aload_n (M := M_Model_init) d_Model_init_72 rfl ?_
  refine mm_iload_n (M := M_Model_init) d_Model_init_73 rfl ?_
  refine mm_bipush (M := M_Model_init) (v := 20) d_Model_init_74 (by decide) ?_
  refine mm_icmp_ge (M := M_Model_init) 84 d_Model_init_76 (by decide) (fun c => ?_) (fun c => ?_)
  · refine mm_iload_n (M := M_Model_init) d_Model_init_84 rfl ?_
    refine mm_sipush (M := M_Model_init) (v := 300) d_Model_init_85 (by decide) ?_
    refine mm_icmp_le (M := M_Model_init) 97 d_Model_init_88 (by decide) (fun c2 => ?_) (fun c2 => ?_)
    · refine mm_iload_n (M := M_Model_init) d_Model_init_97 rfl ?_
      refine mm_putf (M := M_Model_init) 7 0 .int d_Model_init_98 fl_Model_35 fp_Model_35 ft_7_0 rfl (Nat.le_of_ble_eq_true rfl) trivial ?_
      refine mm_eqw (w' := [.inr (7, [.int x1, .int 0, .ref 1, .int 0, .int 0, .int 0, .int 0, .ref 2, .int 0, .ref 3, .int 0, .int 0, .int 0, .int 0, .long 0, .ref 4, .int 0, .ref 5, .ref 6, .int 0, .ref 7, .ref 8, .int 0, .int 0, .int 0, .int 0, .long 0]), .inl (.int, (32, .inl (fun _ => 0))), .inl (.int, (32, .inl (fun _ => 0))), .inl (.int, (40, .inl (fun _ => 0))), .inl (.int, (8, .inl (fun _ => 0))), .inl (.long, (7000, .inr (.inl (fun _ => 0)))), .inl (.long, (301, .inr (.inl (fun _ => 0)))), .inl (.long, (4000, .inr (.inl (fun _ => 0)))), .inl (.long, (4000, .inr (.inl (fun _ => 0))))]) rfl ?_
      exact mm_ret (M := M_Model_init) ⟨rfl, d_Model_init_101⟩ ⟨rfl, x1, rfl, by rw [clM, if_pos c, if_pos c2]⟩
    · refine mm_sipush (M := M_Model_init) (v := 300) d_Model_init_91 (by decide) ?_
      refine mm_goto (M := M_Model_init) (tgt := 98) d_Model_init_94 (by decide) ?_
      refine mm_putf (M := M_Model_init) 7 0 .int d_Model_init_98 fl_Model_35 fp_Model_35 ft_7_0 rfl (Nat.le_of_ble_eq_true rfl) trivial ?_
      refine mm_eqw (w' := [.inr (7, [.int 300, .int 0, .ref 1, .int 0, .int 0, .int 0, .int 0, .ref 2, .int 0, .ref 3, .int 0, .int 0, .int 0, .int 0, .long 0, .ref 4, .int 0, .ref 5, .ref 6, .int 0, .ref 7, .ref 8, .int 0, .int 0, .int 0, .int 0, .long 0]), .inl (.int, (32, .inl (fun _ => 0))), .inl (.int, (32, .inl (fun _ => 0))), .inl (.int, (40, .inl (fun _ => 0))), .inl (.int, (8, .inl (fun _ => 0))), .inl (.long, (7000, .inr (.inl (fun _ => 0)))), .inl (.long, (301, .inr (.inl (fun _ => 0)))), .inl (.long, (4000, .inr (.inl (fun _ => 0)))), .inl (.long, (4000, .inr (.inl (fun _ => 0))))]) rfl ?_
      exact mm_ret (M := M_Model_init) ⟨rfl, d_Model_init_101⟩ ⟨rfl, 300, rfl, by rw [clM, if_pos c, if_neg c2]⟩
  · refine mm_bipush (M := M_Model_init) (v := 20) d_Model_init_79 (by decide) ?_
    refine mm_goto (M := M_Model_init) (tgt := 98) d_Model_init_81 (by decide) ?_
    refine mm_putf (M := M_Model_init) 7 0 .int d_Model_init_98 fl_Model_35 fp_Model_35 ft_7_0 rfl (Nat.le_of_ble_eq_true rfl) trivial ?_
    refine mm_eqw (w' := [.inr (7, [.int 20, .int 0, .ref 1, .int 0, .int 0, .int 0, .int 0, .ref 2, .int 0, .ref 3, .int 0, .int 0, .int 0, .int 0, .long 0, .ref 4, .int 0, .ref 5, .ref 6, .int 0, .ref 7, .ref 8, .int 0, .int 0, .int 0, .int 0, .long 0]), .inl (.int, (32, .inl (fun _ => 0))), .inl (.int, (32, .inl (fun _ => 0))), .inl (.int, (40, .inl (fun _ => 0))), .inl (.int, (8, .inl (fun _ => 0))), .inl (.long, (7000, .inr (.inl (fun _ => 0)))), .inl (.long, (301, .inr (.inl (fun _ => 0)))), .inl (.long, (4000, .inr (.inl (fun _ => 0)))), .inl (.long, (4000, .inr (.inl (fun _ => 0))))]) rfl ?_
    exact mm_ret (M := M_Model_init) ⟨rfl, d_Model_init_101⟩ ⟨rfl, 20, rfl, by rw [clM, if_neg c]⟩
