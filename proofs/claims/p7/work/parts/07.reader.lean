def wp_Reader_lettersBetween (n1 n2 : Nat) (i : mm_i) (l : mm_j) (a : mm_a) (b : mm_b) (x1 : Int32) (x2 : Int32) (K : Int32 → mm_i → mm_j → mm_a → mm_b → Prop) : Prop :=
  K ((((2 : Int32) <<< ((x2 - x1) &&& 31)) - (1 : Int32)) <<< ((x1 - (97 : Int32)) &&& 31)) i l a b
set_option maxRecDepth 100000 in
set_option maxHeartbeats 4000000 in
theorem ct_Reader_lettersBetween {n1 n2 : Nat} {i : mm_i} {l : mm_j} {a : mm_a} {b : mm_b} {t : mm_H} {x1 : Int32} {x2 : Int32} {K : Int32 → mm_i → mm_j → mm_a → mm_b → Prop} (h : wp_Reader_lettersBetween n1 n2 i l a b x1 x2 K) : mm_Ct y_Reader_lettersBetween M_Reader_lettersBetween 0 0 0 [.int x1, .int x2] (Wd 4 22 n1 n2 i l a b ++ t) (mm_PI n1 n2 t K) := by
  refine mm_Ct.of (by decide) rfl (fun q => absurd q (by decide)) (Nat.le_of_ble_eq_true rfl) ?_
  unfold wp_Reader_lettersBetween at h
  refine mm_eqL (L' := [some (.int x1), some (.int x2)]) rfl ?_
  refine mm_iconst (M := M_Reader_lettersBetween) (v := 2) d_Reader_lettersBetween_0 (by decide) ?_
  refine mm_iload_n (M := M_Reader_lettersBetween) d_Reader_lettersBetween_1 rfl ?_
  refine mm_iload_n (M := M_Reader_lettersBetween) d_Reader_lettersBetween_2 rfl ?_
  refine mm_isub (M := M_Reader_lettersBetween) d_Reader_lettersBetween_3 ?_
  refine mm_ishl (M := M_Reader_lettersBetween) d_Reader_lettersBetween_4 ?_
  refine mm_iconst (M := M_Reader_lettersBetween) (v := 1) d_Reader_lettersBetween_5 (by decide) ?_
  refine mm_isub (M := M_Reader_lettersBetween) d_Reader_lettersBetween_6 ?_
  refine mm_iload_n (M := M_Reader_lettersBetween) d_Reader_lettersBetween_7 rfl ?_
  refine mm_bipush (M := M_Reader_lettersBetween) (v := 97) d_Reader_lettersBetween_8 (by decide) ?_
  refine mm_isub (M := M_Reader_lettersBetween) d_Reader_lettersBetween_10 ?_
  refine mm_ishl (M := M_Reader_lettersBetween) d_Reader_lettersBetween_11 ?_
  exact mm_retv (M := M_Reader_lettersBetween) ⟨_, rfl, rfl, d_Reader_lettersBetween_12⟩ ⟨_, _, _, _, _, rfl, rfl, h⟩
def wp_Reader_ahead_1 (n1 n2 : Nat) (i : mm_i) (l : mm_j) (a : mm_a) (b : mm_b) (x1 : Int32) (K : Int32 → mm_i → mm_j → mm_a → mm_b → Prop) : Prop :=
  wp_Text_codeAt_2 n1 n2 i l a b ((i 23) + x1) (fun r1 i1 l1 a1 b1 => K r1 i1 l1 a1 b1)
set_option maxRecDepth 100000 in
set_option maxHeartbeats 4000000 in
theorem ct_Reader_ahead_1 {n1 n2 : Nat} {i : mm_i} {l : mm_j} {a : mm_a} {b : mm_b} {t : mm_H} {x1 : Int32} {K : Int32 → mm_i → mm_j → mm_a → mm_b → Prop} (h : wp_Reader_ahead_1 n1 n2 i l a b x1 K) : mm_Ct y_Reader_ahead M_Reader_ahead 1 0 0 [.ref 1, .int x1] (Wd 4 22 n1 n2 i l a b ++ t) (mm_PI n1 n2 t K) := by
  refine mm_Ct.of (by decide) rfl (fun q => absurd q (by decide)) (Nat.le_of_ble_eq_true rfl) ?_
  unfold wp_Reader_ahead_1 at h
  refine mm_eqL (L' := [some (.ref 1), some (.int x1)]) rfl ?_
  refine mm_aload_n (M := M_Reader_ahead) d_Reader_ahead_0 rfl ?_
  refine mm_getf (M := M_Reader_ahead) (u := .ref 2) 2 0 d_Reader_ahead_1 fl_Reader_14 wg_1 rfl ?_
  refine mm_aload_n (M := M_Reader_ahead) d_Reader_ahead_4 rfl ?_
  refine mm_getf (M := M_Reader_ahead) (u := .int (i 23)) 2 7 d_Reader_ahead_5 fl_Reader_44 wg_1 rfl ?_
  refine mm_iload_n (M := M_Reader_ahead) d_Reader_ahead_8 rfl ?_
  refine mm_iadd (M := M_Reader_ahead) d_Reader_ahead_9 ?_
  refine mm_eqs (st2 := [.int ((i 23) + x1)].reverse ++ .ref 2 :: []) rfl ?_
  refine mm_callV (M := M_Reader_ahead) (y := y_Text_codeAt) (M' := M_Text_codeAt) (d' := 0) (kc := 0) (ks := 0) (kc' := 0) (ks' := 0) (n := 1) d_Reader_ahead_10 ok_Text_codeAt ml_Reader_112 (by decide) rfl (Nat.le_of_ble_eq_true rfl) ⟨tw_440, tw_441⟩ wg_2 rfl (ct_Text_codeAt_2 h) (fun v w h => ?_)
  obtain ⟨r1, i1, l1, a1, b1, rfl, rfl, h⟩ := h
  refine mm_eqs (st2 := [.int r1]) rfl ?_
  exact mm_retv (M := M_Reader_ahead) ⟨_, rfl, rfl, d_Reader_ahead_13⟩ ⟨_, _, _, _, _, rfl, rfl, h⟩
def wp_Reader_refuse_1 (n1 n2 : Nat) (i : mm_i) (l : mm_j) (a : mm_a) (b : mm_b)  (K : Int32 → mm_i → mm_j → mm_a → mm_b → Prop) : Prop :=
  K (-1) (upd i 26 0) l a b
set_option maxRecDepth 100000 in
set_option maxHeartbeats 4000000 in
theorem ct_Reader_refuse_1 {n1 n2 : Nat} {i : mm_i} {l : mm_j} {a : mm_a} {b : mm_b} {t : mm_H}  {K : Int32 → mm_i → mm_j → mm_a → mm_b → Prop} (h : wp_Reader_refuse_1 n1 n2 i l a b  K) : mm_Ct y_Reader_refuse M_Reader_refuse 0 0 0 [.ref 1] (Wd 4 22 n1 n2 i l a b ++ t) (mm_PI n1 n2 t K) := by
  refine mm_Ct.of (by decide) rfl (fun q => absurd q (by decide)) (Nat.le_of_ble_eq_true rfl) ?_
  unfold wp_Reader_refuse_1 at h
  refine mm_eqL (L' := [some (.ref 1)]) rfl ?_
  refine mm_aload_n (M := M_Reader_refuse) d_Reader_refuse_0 rfl ?_
  refine mm_iconst (M := M_Reader_refuse) (v := 0) d_Reader_refuse_1 (by decide) ?_
  refine mm_putf (M := M_Reader_refuse) 2 10 .boolean d_Reader_refuse_2 fl_Reader_53 fp_Reader_53 ft_2_10 wg_1 (Nat.le_of_ble_eq_true rfl) (Or.inl rfl) ?_
  refine mm_eqw ws_26 ?_
  refine mm_iconst (M := M_Reader_refuse) (v := (-1)) d_Reader_refuse_5 (by decide) ?_
  exact mm_retv (M := M_Reader_refuse) ⟨_, rfl, rfl, d_Reader_refuse_6⟩ ⟨_, _, _, _, _, rfl, rfl, h⟩
def wp_Reader_openLevel_1 (n1 n2 : Nat) (i : mm_i) (l : mm_j) (a : mm_a) (b : mm_b) (x1 : Int32) (x2 : Int32) (K : mm_i → mm_j → mm_a → mm_b → Prop) : Prop :=
  vp_in x1 7 ∧ (wp_Program_addRow_4 n1 n2 (upd i 22 x1) l (mm_ua a 15 (upd (a 15) x1.toNatClampNeg x2)) b (fun r1 i1 l1 a1 b1 => vp_in x1 7 ∧ (vp_in (i1 22) 7 ∧ (vp_in (i1 22) 7 ∧ (K i1 l1 (mm_ua (mm_ua (mm_ua a1 16 (upd (a1 16) x1.toNatClampNeg r1)) 17 (upd (a1 17) (i1 22).toNatClampNeg (-1))) 18 (upd (a1 18) (i1 22).toNatClampNeg 0)) b1)))))
set_option maxRecDepth 100000 in
set_option maxHeartbeats 4000000 in
theorem ct_Reader_openLevel_1 {n1 n2 : Nat} {i : mm_i} {l : mm_j} {a : mm_a} {b : mm_b} {t : mm_H} {x1 : Int32} {x2 : Int32} {K : mm_i → mm_j → mm_a → mm_b → Prop} (h : wp_Reader_openLevel_1 n1 n2 i l a b x1 x2 K) : mm_Ct y_Reader_openLevel M_Reader_openLevel 1 0 0 [.ref 1, .int x1, .int x2] (Wd 4 22 n1 n2 i l a b ++ t) (mm_PV n1 n2 t K) := by
  refine mm_Ct.of (by decide) rfl (fun q => absurd q (by decide)) (Nat.le_of_ble_eq_true rfl) ?_
  unfold wp_Reader_openLevel_1 at h
  refine mm_eqL (L' := [some (.ref 1), some (.int x1), some (.int x2)]) rfl ?_
  refine mm_aload_n (M := M_Reader_openLevel) d_Reader_openLevel_0 rfl ?_
  refine mm_iload_n (M := M_Reader_openLevel) d_Reader_openLevel_1 rfl ?_
  refine mm_putf (M := M_Reader_openLevel) 2 6 .int d_Reader_openLevel_2 fl_Reader_40 fp_Reader_40 ft_2_6 wg_1 (Nat.le_of_ble_eq_true rfl) trivial ?_
  refine mm_eqw ws_22 ?_
  refine mm_aload_n (M := M_Reader_openLevel) d_Reader_openLevel_5 rfl ?_
  refine mm_getf (M := M_Reader_openLevel) (u := .ref 15) 2 2 d_Reader_openLevel_6 fl_Reader_27 wg_1 rfl ?_
  refine mm_aload_n (M := M_Reader_openLevel) d_Reader_openLevel_9 rfl ?_
  refine mm_getf (M := M_Reader_openLevel) (u := .int x1) 2 6 d_Reader_openLevel_10 fl_Reader_40 wg_1 rfl ?_
  refine mm_iload_n (M := M_Reader_openLevel) d_Reader_openLevel_13 rfl ?_
  obtain ⟨hin, h⟩ := h
  refine mm_iast (M := M_Reader_openLevel) (f := (a 15)) d_Reader_openLevel_14 wg_15 hin ?_
  refine mm_eqw wa_15 ?_
  refine mm_aload_n (M := M_Reader_openLevel) d_Reader_openLevel_15 rfl ?_
  refine mm_getf (M := M_Reader_openLevel) (u := .ref 16) 2 3 d_Reader_openLevel_16 fl_Reader_31 wg_1 rfl ?_
  refine mm_aload_n (M := M_Reader_openLevel) d_Reader_openLevel_19 rfl ?_
  refine mm_getf (M := M_Reader_openLevel) (u := .int x1) 2 6 d_Reader_openLevel_20 fl_Reader_40 wg_1 rfl ?_
  refine mm_aload_n (M := M_Reader_openLevel) d_Reader_openLevel_23 rfl ?_
  refine mm_getf (M := M_Reader_openLevel) (u := .ref 4) 2 1 d_Reader_openLevel_24 fl_Reader_23 wg_1 rfl ?_
  refine mm_eqs (st2 := [].reverse ++ .ref 4 :: [.int x1, .ref 16]) rfl ?_
  refine mm_callV (M := M_Reader_openLevel) (y := y_Program_addRow) (M' := M_Program_addRow) (d' := 0) (kc := 0) (ks := 0) (kc' := 0) (ks' := 0) (n := 0) d_Reader_openLevel_27 ok_Program_addRow ml_Reader_115 (by decide) rfl (Nat.le_of_ble_eq_true rfl) ⟨tw_428, tw_429⟩ wg_4 rfl (ct_Program_addRow_4 h) (fun v w h => ?_)
  obtain ⟨r1, i1, l1, a1, b1, rfl, rfl, h⟩ := h
  refine mm_eqs (st2 := [.int r1, .int x1, .ref 16]) rfl ?_
  obtain ⟨hin, h⟩ := h
  refine mm_iast (M := M_Reader_openLevel) (f := (a1 16)) d_Reader_openLevel_30 wg_16 hin ?_
  refine mm_eqw wa_16 ?_
  refine mm_aload_n (M := M_Reader_openLevel) d_Reader_openLevel_31 rfl ?_
  refine mm_getf (M := M_Reader_openLevel) (u := .ref 17) 2 4 d_Reader_openLevel_32 fl_Reader_34 wg_1 rfl ?_
  refine mm_aload_n (M := M_Reader_openLevel) d_Reader_openLevel_35 rfl ?_
  refine mm_getf (M := M_Reader_openLevel) (u := .int (i1 22)) 2 6 d_Reader_openLevel_36 fl_Reader_40 wg_1 rfl ?_
  refine mm_iconst (M := M_Reader_openLevel) (v := (-1)) d_Reader_openLevel_39 (by decide) ?_
  obtain ⟨hin, h⟩ := h
  refine mm_iast (M := M_Reader_openLevel) (f := (a1 17)) d_Reader_openLevel_40 wg_17 hin ?_
  refine mm_eqw wa_17 ?_
  refine mm_aload_n (M := M_Reader_openLevel) d_Reader_openLevel_41 rfl ?_
  refine mm_getf (M := M_Reader_openLevel) (u := .ref 18) 2 5 d_Reader_openLevel_42 fl_Reader_37 wg_1 rfl ?_
  refine mm_aload_n (M := M_Reader_openLevel) d_Reader_openLevel_45 rfl ?_
  refine mm_getf (M := M_Reader_openLevel) (u := .int (i1 22)) 2 6 d_Reader_openLevel_46 fl_Reader_40 wg_1 rfl ?_
  refine mm_iconst (M := M_Reader_openLevel) (v := 0) d_Reader_openLevel_49 (by decide) ?_
  obtain ⟨hin, h⟩ := h
  refine mm_iast (M := M_Reader_openLevel) (f := (a1 18)) d_Reader_openLevel_50 wg_18 hin ?_
  refine mm_eqw wa_18 ?_
  exact mm_ret (M := M_Reader_openLevel) ⟨rfl, d_Reader_openLevel_51⟩ ⟨_, _, _, _, rfl, rfl, h⟩
def wp_Reader_openNextRow_1 (n1 n2 : Nat) (i : mm_i) (l : mm_j) (a : mm_a) (b : mm_b)  (K : Int32 → mm_i → mm_j → mm_a → mm_b → Prop) : Prop :=
  wp_Program_addRow_4 n1 n2 i l a b (fun r1 i1 l1 a1 b1 => vp_in (i1 22) 7 ∧ (vp_in ((a1 16) (i1 22).toNatClampNeg) 33 ∧ (vp_in (i1 22) 7 ∧ (vp_in (i1 22) 7 ∧ (vp_in (i1 22) 7 ∧ (vp_in (i1 22) 7 ∧ (K (-1) (upd i1 23 ((i1 23) + (1 : Int32))) l1 (mm_ua (mm_ua (mm_ua (mm_ua a1 13 (upd (a1 13) ((a1 16) (i1 22).toNatClampNeg).toNatClampNeg r1)) 16 (upd (a1 16) (i1 22).toNatClampNeg r1)) 17 (upd (a1 17) (i1 22).toNatClampNeg (-1))) 18 (upd (a1 18) (i1 22).toNatClampNeg (((a1 18) (i1 22).toNatClampNeg) + (1 : Int32)))) b1)))))))
set_option maxRecDepth 100000 in
set_option maxHeartbeats 4000000 in
theorem ct_Reader_openNextRow_1 {n1 n2 : Nat} {i : mm_i} {l : mm_j} {a : mm_a} {b : mm_b} {t : mm_H}  {K : Int32 → mm_i → mm_j → mm_a → mm_b → Prop} (h : wp_Reader_openNextRow_1 n1 n2 i l a b  K) : mm_Ct y_Reader_openNextRow M_Reader_openNextRow 1 0 0 [.ref 1] (Wd 4 22 n1 n2 i l a b ++ t) (mm_PI n1 n2 t K) := by
  refine mm_Ct.of (by decide) rfl (fun q => absurd q (by decide)) (Nat.le_of_ble_eq_true rfl) ?_
  unfold wp_Reader_openNextRow_1 at h
  refine mm_eqL (L' := [some (.ref 1), none]) rfl ?_
  refine mm_aload_n (M := M_Reader_openNextRow) d_Reader_openNextRow_0 rfl ?_
  refine mm_getf (M := M_Reader_openNextRow) (u := .ref 4) 2 1 d_Reader_openNextRow_1 fl_Reader_23 wg_1 rfl ?_
  refine mm_eqs (st2 := [].reverse ++ .ref 4 :: []) rfl ?_
  refine mm_callV (M := M_Reader_openNextRow) (y := y_Program_addRow) (M' := M_Program_addRow) (d' := 0) (kc := 0) (ks := 0) (kc' := 0) (ks' := 0) (n := 0) d_Reader_openNextRow_4 ok_Program_addRow ml_Reader_115 (by decide) rfl (Nat.le_of_ble_eq_true rfl) ⟨tw_428, tw_429⟩ wg_4 rfl (ct_Program_addRow_4 h) (fun v w h => ?_)
  obtain ⟨r1, i1, l1, a1, b1, rfl, rfl, h⟩ := h
  refine mm_eqs (st2 := [.int r1]) rfl ?_
  refine mm_istore_n (M := M_Reader_openNextRow) d_Reader_openNextRow_7 (Nat.le_of_ble_eq_true rfl) ?_
  refine mm_eqL (L' := [some (.ref 1), some (.int r1)]) rfl ?_
  refine mm_aload_n (M := M_Reader_openNextRow) d_Reader_openNextRow_8 rfl ?_
  refine mm_getf (M := M_Reader_openNextRow) (u := .ref 4) 2 1 d_Reader_openNextRow_9 fl_Reader_23 wg_1 rfl ?_
  refine mm_getf (M := M_Reader_openNextRow) (u := .ref 13) 1 8 d_Reader_openNextRow_12 fl_Reader_118 wg_4 rfl ?_
  refine mm_aload_n (M := M_Reader_openNextRow) d_Reader_openNextRow_15 rfl ?_
  refine mm_getf (M := M_Reader_openNextRow) (u := .ref 16) 2 3 d_Reader_openNextRow_16 fl_Reader_31 wg_1 rfl ?_
  refine mm_aload_n (M := M_Reader_openNextRow) d_Reader_openNextRow_19 rfl ?_
  refine mm_getf (M := M_Reader_openNextRow) (u := .int (i1 22)) 2 6 d_Reader_openNextRow_20 fl_Reader_40 wg_1 rfl ?_
  obtain ⟨hin, h⟩ := h
  refine mm_iald (M := M_Reader_openNextRow) (f := (a1 16)) d_Reader_openNextRow_23 wg_16 hin ?_
  refine mm_iload_n (M := M_Reader_openNextRow) d_Reader_openNextRow_24 rfl ?_
  obtain ⟨hin, h⟩ := h
  refine mm_iast (M := M_Reader_openNextRow) (f := (a1 13)) d_Reader_openNextRow_25 wg_13 hin ?_
  refine mm_eqw wa_13 ?_
  refine mm_aload_n (M := M_Reader_openNextRow) d_Reader_openNextRow_26 rfl ?_
  refine mm_getf (M := M_Reader_openNextRow) (u := .ref 16) 2 3 d_Reader_openNextRow_27 fl_Reader_31 wg_1 rfl ?_
  refine mm_aload_n (M := M_Reader_openNextRow) d_Reader_openNextRow_30 rfl ?_
  refine mm_getf (M := M_Reader_openNextRow) (u := .int (i1 22)) 2 6 d_Reader_openNextRow_31 fl_Reader_40 wg_1 rfl ?_
  refine mm_iload_n (M := M_Reader_openNextRow) d_Reader_openNextRow_34 rfl ?_
  obtain ⟨hin, h⟩ := h
  refine mm_iast (M := M_Reader_openNextRow) (f := (a1 16)) d_Reader_openNextRow_35 wg_16 hin ?_
  refine mm_eqw wa_16 ?_
  refine mm_aload_n (M := M_Reader_openNextRow) d_Reader_openNextRow_36 rfl ?_
  refine mm_getf (M := M_Reader_openNextRow) (u := .ref 17) 2 4 d_Reader_openNextRow_37 fl_Reader_34 wg_1 rfl ?_
  refine mm_aload_n (M := M_Reader_openNextRow) d_Reader_openNextRow_40 rfl ?_
  refine mm_getf (M := M_Reader_openNextRow) (u := .int (i1 22)) 2 6 d_Reader_openNextRow_41 fl_Reader_40 wg_1 rfl ?_
  refine mm_iconst (M := M_Reader_openNextRow) (v := (-1)) d_Reader_openNextRow_44 (by decide) ?_
  obtain ⟨hin, h⟩ := h
  refine mm_iast (M := M_Reader_openNextRow) (f := (a1 17)) d_Reader_openNextRow_45 wg_17 hin ?_
  refine mm_eqw wa_17 ?_
  refine mm_aload_n (M := M_Reader_openNextRow) d_Reader_openNextRow_46 rfl ?_
  refine mm_getf (M := M_Reader_openNextRow) (u := .ref 18) 2 5 d_Reader_openNextRow_47 fl_Reader_37 wg_1 rfl ?_
  refine mm_aload_n (M := M_Reader_openNextRow) d_Reader_openNextRow_50 rfl ?_
  refine mm_getf (M := M_Reader_openNextRow) (u := .int (i1 22)) 2 6 d_Reader_openNextRow_51 fl_Reader_40 wg_1 rfl ?_
  refine mm_dup2 (M := M_Reader_openNextRow) d_Reader_openNextRow_54 rfl rfl ?_
  obtain ⟨hin, h⟩ := h
  refine mm_iald (M := M_Reader_openNextRow) (f := (a1 18)) d_Reader_openNextRow_55 wg_18 hin ?_
  refine mm_iconst (M := M_Reader_openNextRow) (v := 1) d_Reader_openNextRow_56 (by decide) ?_
  refine mm_iadd (M := M_Reader_openNextRow) d_Reader_openNextRow_57 ?_
  obtain ⟨hin, h⟩ := h
  refine mm_iast (M := M_Reader_openNextRow) (f := (a1 18)) d_Reader_openNextRow_58 wg_18 hin ?_
  refine mm_eqw wa_18 ?_
  refine mm_aload_n (M := M_Reader_openNextRow) d_Reader_openNextRow_59 rfl ?_
  refine mm_dup (M := M_Reader_openNextRow) d_Reader_openNextRow_60 rfl ?_
  refine mm_getf (M := M_Reader_openNextRow) (u := .int (i1 23)) 2 7 d_Reader_openNextRow_61 fl_Reader_44 wg_1 rfl ?_
  refine mm_iconst (M := M_Reader_openNextRow) (v := 1) d_Reader_openNextRow_64 (by decide) ?_
  refine mm_iadd (M := M_Reader_openNextRow) d_Reader_openNextRow_65 ?_
  refine mm_putf (M := M_Reader_openNextRow) 2 7 .int d_Reader_openNextRow_66 fl_Reader_44 fp_Reader_44 ft_2_7 wg_1 (Nat.le_of_ble_eq_true rfl) trivial ?_
  refine mm_eqw ws_23 ?_
  refine mm_iconst (M := M_Reader_openNextRow) (v := (-1)) d_Reader_openNextRow_69 (by decide) ?_
  exact mm_retv (M := M_Reader_openNextRow) ⟨_, rfl, rfl, d_Reader_openNextRow_70⟩ ⟨_, _, _, _, _, rfl, rfl, h⟩
def wp_Reader_kindOfChoice_1 (n1 n2 : Nat) (i : mm_i) (l : mm_j) (a : mm_a) (b : mm_b)  (K : Int32 → mm_i → mm_j → mm_a → mm_b → Prop) : Prop :=
  wp_Reader_ahead_1 n1 n2 i l a b 1 (fun r1 i1 l1 a1 b1 => (r1 = (63 : Int32) → wp_Reader_ahead_1 n1 n2 i1 l1 a1 b1 2 (fun r2 i2 l2 a2 b2 => (r2 = 33 → K 8 i2 l2 a2 b2) ∧ (¬ r2 = 33 → (r2 = 58 → K 6 i2 l2 a2 b2) ∧ (¬ r2 = 58 → (r2 = 61 → K 7 i2 l2 a2 b2) ∧ (¬ r2 = 61 → (r2 = 62 → K 9 i2 l2 a2 b2) ∧ (¬ r2 = 62 → K (-1) i2 l2 a2 b2)))))) ∧ (¬ r1 = (63 : Int32) → K 5 i1 l1 a1 b1))
set_option maxRecDepth 100000 in
set_option maxHeartbeats 4000000 in
theorem ct_Reader_kindOfChoice_1 {n1 n2 : Nat} {i : mm_i} {l : mm_j} {a : mm_a} {b : mm_b} {t : mm_H}  {K : Int32 → mm_i → mm_j → mm_a → mm_b → Prop} (h : wp_Reader_kindOfChoice_1 n1 n2 i l a b  K) : mm_Ct y_Reader_kindOfChoice M_Reader_kindOfChoice 2 0 0 [.ref 1] (Wd 4 22 n1 n2 i l a b ++ t) (mm_PI n1 n2 t K) := by
  refine mm_Ct.of (by decide) rfl (fun q => absurd q (by decide)) (Nat.le_of_ble_eq_true rfl) ?_
  unfold wp_Reader_kindOfChoice_1 at h
  refine mm_eqL (L' := [some (.ref 1)]) rfl ?_
  refine mm_aload_n (M := M_Reader_kindOfChoice) d_Reader_kindOfChoice_0 rfl ?_
  refine mm_iconst (M := M_Reader_kindOfChoice) (v := 1) d_Reader_kindOfChoice_1 (by decide) ?_
  refine mm_eqs (st2 := [.int 1].reverse ++ .ref 1 :: []) rfl ?_
  refine mm_callV (M := M_Reader_kindOfChoice) (y := y_Reader_ahead) (M' := M_Reader_ahead) (d' := 1) (kc := 0) (ks := 0) (kc' := 0) (ks' := 0) (n := 1) d_Reader_kindOfChoice_2 ok_Reader_ahead ml_Reader_83 (by decide) rfl (Nat.le_of_ble_eq_true rfl) ⟨tw_437, ts_Reader_ahead⟩ wg_1 rfl (ct_Reader_ahead_1 h) (fun v w h => ?_)
  obtain ⟨r1, i1, l1, a1, b1, rfl, rfl, h⟩ := h
  refine mm_eqs (st2 := [.int r1]) rfl ?_
  refine mm_bipush (M := M_Reader_kindOfChoice) (v := 63) d_Reader_kindOfChoice_5 (by decide) ?_
  refine mm_icmp_eq (M := M_Reader_kindOfChoice) 12 d_Reader_kindOfChoice_7 (by decide) (fun c => ?_) (fun c => ?_)
  · have h := h.1 c
    refine mm_aload_n (M := M_Reader_kindOfChoice) d_Reader_kindOfChoice_12 rfl ?_
    refine mm_iconst (M := M_Reader_kindOfChoice) (v := 2) d_Reader_kindOfChoice_13 (by decide) ?_
    refine mm_eqs (st2 := [.int 2].reverse ++ .ref 1 :: []) rfl ?_
    refine mm_callV (M := M_Reader_kindOfChoice) (y := y_Reader_ahead) (M' := M_Reader_ahead) (d' := 1) (kc := 0) (ks := 0) (kc' := 0) (ks' := 0) (n := 1) d_Reader_kindOfChoice_14 ok_Reader_ahead ml_Reader_83 (by decide) rfl (Nat.le_of_ble_eq_true rfl) ⟨tw_437, ts_Reader_ahead⟩ wg_1 rfl (ct_Reader_ahead_1 h) (fun v w h => ?_)
    obtain ⟨r2, i2, l2, a2, b2, rfl, rfl, h⟩ := h
    refine mm_eqs (st2 := [.int r2]) rfl ?_
    refine mm_lookup (M := M_Reader_kindOfChoice) [(33, 66), (58, 60), (61, 63), (62, 69)] 72 d_Reader_kindOfChoice_17 (by decide) (by decide +kernel) (by decide) ⟨fun c0 => ?_, fun c0 => ⟨fun c1 => ?_, fun c1 => ⟨fun c2 => ?_, fun c2 => ⟨fun c3 => ?_, fun c3 => ?_⟩⟩⟩⟩
    · have h := h.1 c0
      refine mm_bipush (M := M_Reader_kindOfChoice) (v := 8) d_Reader_kindOfChoice_66 (by decide) ?_
      exact mm_retv (M := M_Reader_kindOfChoice) ⟨_, rfl, rfl, d_Reader_kindOfChoice_68⟩ ⟨_, _, _, _, _, rfl, rfl, h⟩
    · have h := (h.2 c0).1 c1
      refine mm_bipush (M := M_Reader_kindOfChoice) (v := 6) d_Reader_kindOfChoice_60 (by decide) ?_
      exact mm_retv (M := M_Reader_kindOfChoice) ⟨_, rfl, rfl, d_Reader_kindOfChoice_62⟩ ⟨_, _, _, _, _, rfl, rfl, h⟩
    · have h := ((h.2 c0).2 c1).1 c2
      refine mm_bipush (M := M_Reader_kindOfChoice) (v := 7) d_Reader_kindOfChoice_63 (by decide) ?_
      exact mm_retv (M := M_Reader_kindOfChoice) ⟨_, rfl, rfl, d_Reader_kindOfChoice_65⟩ ⟨_, _, _, _, _, rfl, rfl, h⟩
    · have h := (((h.2 c0).2 c1).2 c2).1 c3
      refine mm_bipush (M := M_Reader_kindOfChoice) (v := 9) d_Reader_kindOfChoice_69 (by decide) ?_
      exact mm_retv (M := M_Reader_kindOfChoice) ⟨_, rfl, rfl, d_Reader_kindOfChoice_71⟩ ⟨_, _, _, _, _, rfl, rfl, h⟩
    · have h := ((((h.2 c0).2 c1).2 c2).2 c3)
      refine mm_iconst (M := M_Reader_kindOfChoice) (v := (-1)) d_Reader_kindOfChoice_72 (by decide) ?_
      exact mm_retv (M := M_Reader_kindOfChoice) ⟨_, rfl, rfl, d_Reader_kindOfChoice_73⟩ ⟨_, _, _, _, _, rfl, rfl, h⟩
  · have h := h.2 c
    refine mm_iconst (M := M_Reader_kindOfChoice) (v := 5) d_Reader_kindOfChoice_10 (by decide) ?_
    exact mm_retv (M := M_Reader_kindOfChoice) ⟨_, rfl, rfl, d_Reader_kindOfChoice_11⟩ ⟨_, _, _, _, _, rfl, rfl, h⟩
def wp_Reader_appendItem_1 (n1 n2 : Nat) (i : mm_i) (l : mm_j) (a : mm_a) (b : mm_b) (x1 : Int32) (x2 : Int32) (K : Int32 → mm_i → mm_j → mm_a → mm_b → Prop) : Prop :=
  wp_Program_addItem_4 n1 n2 i l a b x1 x2 (fun r1 i1 l1 a1 b1 => vp_in (i1 22) 7 ∧ ((¬ ((a1 17) (i1 22).toNatClampNeg) = ((-1) : Int32) → vp_in (i1 22) 7 ∧ (vp_in ((a1 17) (i1 22).toNatClampNeg) 32 ∧ (vp_in (i1 22) 7 ∧ (K r1 (upd i1 24 1) l1 (mm_ua (mm_ua a1 11 (upd (a1 11) ((a1 17) (i1 22).toNatClampNeg).toNatClampNeg r1)) 17 (upd (a1 17) (i1 22).toNatClampNeg r1)) b1)))) ∧ (((a1 17) (i1 22).toNatClampNeg) = ((-1) : Int32) → vp_in (i1 22) 7 ∧ (vp_in ((a1 16) (i1 22).toNatClampNeg) 33 ∧ (vp_in (i1 22) 7 ∧ (K r1 (upd i1 24 1) l1 (mm_ua (mm_ua a1 12 (upd (a1 12) ((a1 16) (i1 22).toNatClampNeg).toNatClampNeg r1)) 17 (upd (a1 17) (i1 22).toNatClampNeg r1)) b1))))))
set_option maxRecDepth 100000 in
set_option maxHeartbeats 4000000 in
theorem ct_Reader_appendItem_1 {n1 n2 : Nat} {i : mm_i} {l : mm_j} {a : mm_a} {b : mm_b} {t : mm_H} {x1 : Int32} {x2 : Int32} {K : Int32 → mm_i → mm_j → mm_a → mm_b → Prop} (h : wp_Reader_appendItem_1 n1 n2 i l a b x1 x2 K) : mm_Ct y_Reader_appendItem M_Reader_appendItem 1 0 0 [.ref 1, .int x1, .int x2] (Wd 4 22 n1 n2 i l a b ++ t) (mm_PI n1 n2 t K) := by
  refine mm_Ct.of (by decide) rfl (fun q => absurd q (by decide)) (Nat.le_of_ble_eq_true rfl) ?_
  unfold wp_Reader_appendItem_1 at h
  refine mm_eqL (L' := [some (.ref 1), some (.int x1), some (.int x2), none]) rfl ?_
  refine mm_aload_n (M := M_Reader_appendItem) d_Reader_appendItem_0 rfl ?_
  refine mm_getf (M := M_Reader_appendItem) (u := .ref 4) 2 1 d_Reader_appendItem_1 fl_Reader_23 wg_1 rfl ?_
  refine mm_iload_n (M := M_Reader_appendItem) d_Reader_appendItem_4 rfl ?_
  refine mm_iload_n (M := M_Reader_appendItem) d_Reader_appendItem_5 rfl ?_
  refine mm_eqs (st2 := [.int x1, .int x2].reverse ++ .ref 4 :: []) rfl ?_
  refine mm_callV (M := M_Reader_appendItem) (y := y_Program_addItem) (M' := M_Program_addItem) (d' := 0) (kc := 0) (ks := 0) (kc' := 0) (ks' := 0) (n := 2) d_Reader_appendItem_6 ok_Program_addItem ml_Reader_149 (by decide) rfl (Nat.le_of_ble_eq_true rfl) ⟨tw_466, tw_467⟩ wg_4 rfl (ct_Program_addItem_4 h) (fun v w h => ?_)
  obtain ⟨r1, i1, l1, a1, b1, rfl, rfl, h⟩ := h
  refine mm_eqs (st2 := [.int r1]) rfl ?_
  refine mm_istore_n (M := M_Reader_appendItem) d_Reader_appendItem_9 (Nat.le_of_ble_eq_true rfl) ?_
  refine mm_eqL (L' := [some (.ref 1), some (.int x1), some (.int x2), some (.int r1)]) rfl ?_
  refine mm_aload_n (M := M_Reader_appendItem) d_Reader_appendItem_10 rfl ?_
  refine mm_getf (M := M_Reader_appendItem) (u := .ref 17) 2 4 d_Reader_appendItem_11 fl_Reader_34 wg_1 rfl ?_
  refine mm_aload_n (M := M_Reader_appendItem) d_Reader_appendItem_14 rfl ?_
  refine mm_getf (M := M_Reader_appendItem) (u := .int (i1 22)) 2 6 d_Reader_appendItem_15 fl_Reader_40 wg_1 rfl ?_
  obtain ⟨hin, h⟩ := h
  refine mm_iald (M := M_Reader_appendItem) (f := (a1 17)) d_Reader_appendItem_18 wg_17 hin ?_
  refine mm_iconst (M := M_Reader_appendItem) (v := (-1)) d_Reader_appendItem_19 (by decide) ?_
  refine mm_icmp_ne (M := M_Reader_appendItem) 44 d_Reader_appendItem_20 (by decide) (fun c => ?_) (fun c => ?_)
  · have h := h.1 c
    refine mm_aload_n (M := M_Reader_appendItem) d_Reader_appendItem_44 rfl ?_
    refine mm_getf (M := M_Reader_appendItem) (u := .ref 4) 2 1 d_Reader_appendItem_45 fl_Reader_23 wg_1 rfl ?_
    refine mm_getf (M := M_Reader_appendItem) (u := .ref 11) 1 6 d_Reader_appendItem_48 fl_Reader_155 wg_4 rfl ?_
    refine mm_aload_n (M := M_Reader_appendItem) d_Reader_appendItem_51 rfl ?_
    refine mm_getf (M := M_Reader_appendItem) (u := .ref 17) 2 4 d_Reader_appendItem_52 fl_Reader_34 wg_1 rfl ?_
    refine mm_aload_n (M := M_Reader_appendItem) d_Reader_appendItem_55 rfl ?_
    refine mm_getf (M := M_Reader_appendItem) (u := .int (i1 22)) 2 6 d_Reader_appendItem_56 fl_Reader_40 wg_1 rfl ?_
    obtain ⟨hin, h⟩ := h
    refine mm_iald (M := M_Reader_appendItem) (f := (a1 17)) d_Reader_appendItem_59 wg_17 hin ?_
    refine mm_iload_n (M := M_Reader_appendItem) d_Reader_appendItem_60 rfl ?_
    obtain ⟨hin, h⟩ := h
    refine mm_iast (M := M_Reader_appendItem) (f := (a1 11)) d_Reader_appendItem_61 wg_11 hin ?_
    refine mm_eqw wa_11 ?_
    refine mm_aload_n (M := M_Reader_appendItem) d_Reader_appendItem_62 rfl ?_
    refine mm_getf (M := M_Reader_appendItem) (u := .ref 17) 2 4 d_Reader_appendItem_63 fl_Reader_34 wg_1 rfl ?_
    refine mm_aload_n (M := M_Reader_appendItem) d_Reader_appendItem_66 rfl ?_
    refine mm_getf (M := M_Reader_appendItem) (u := .int (i1 22)) 2 6 d_Reader_appendItem_67 fl_Reader_40 wg_1 rfl ?_
    refine mm_iload_n (M := M_Reader_appendItem) d_Reader_appendItem_70 rfl ?_
    obtain ⟨hin, h⟩ := h
    refine mm_iast (M := M_Reader_appendItem) (f := (a1 17)) d_Reader_appendItem_71 wg_17 hin ?_
    refine mm_eqw wa_17 ?_
    refine mm_aload_n (M := M_Reader_appendItem) d_Reader_appendItem_72 rfl ?_
    refine mm_iconst (M := M_Reader_appendItem) (v := 1) d_Reader_appendItem_73 (by decide) ?_
    refine mm_putf (M := M_Reader_appendItem) 2 8 .int d_Reader_appendItem_74 fl_Reader_47 fp_Reader_47 ft_2_8 wg_1 (Nat.le_of_ble_eq_true rfl) trivial ?_
    refine mm_eqw ws_24 ?_
    refine mm_iload_n (M := M_Reader_appendItem) d_Reader_appendItem_77 rfl ?_
    exact mm_retv (M := M_Reader_appendItem) ⟨_, rfl, rfl, d_Reader_appendItem_78⟩ ⟨_, _, _, _, _, rfl, rfl, h⟩
  · have h := h.2 c
    refine mm_aload_n (M := M_Reader_appendItem) d_Reader_appendItem_23 rfl ?_
    refine mm_getf (M := M_Reader_appendItem) (u := .ref 4) 2 1 d_Reader_appendItem_24 fl_Reader_23 wg_1 rfl ?_
    refine mm_getf (M := M_Reader_appendItem) (u := .ref 12) 1 7 d_Reader_appendItem_27 fl_Reader_152 wg_4 rfl ?_
    refine mm_aload_n (M := M_Reader_appendItem) d_Reader_appendItem_30 rfl ?_
    refine mm_getf (M := M_Reader_appendItem) (u := .ref 16) 2 3 d_Reader_appendItem_31 fl_Reader_31 wg_1 rfl ?_
    refine mm_aload_n (M := M_Reader_appendItem) d_Reader_appendItem_34 rfl ?_
    refine mm_getf (M := M_Reader_appendItem) (u := .int (i1 22)) 2 6 d_Reader_appendItem_35 fl_Reader_40 wg_1 rfl ?_
    obtain ⟨hin, h⟩ := h
    refine mm_iald (M := M_Reader_appendItem) (f := (a1 16)) d_Reader_appendItem_38 wg_16 hin ?_
    refine mm_iload_n (M := M_Reader_appendItem) d_Reader_appendItem_39 rfl ?_
    obtain ⟨hin, h⟩ := h
    refine mm_iast (M := M_Reader_appendItem) (f := (a1 12)) d_Reader_appendItem_40 wg_12 hin ?_
    refine mm_eqw wa_12 ?_
    refine mm_goto (M := M_Reader_appendItem) (tgt := 62) d_Reader_appendItem_41 (by decide) ?_
    refine mm_aload_n (M := M_Reader_appendItem) d_Reader_appendItem_62 rfl ?_
    refine mm_getf (M := M_Reader_appendItem) (u := .ref 17) 2 4 d_Reader_appendItem_63 fl_Reader_34 wg_1 rfl ?_
    refine mm_aload_n (M := M_Reader_appendItem) d_Reader_appendItem_66 rfl ?_
    refine mm_getf (M := M_Reader_appendItem) (u := .int (i1 22)) 2 6 d_Reader_appendItem_67 fl_Reader_40 wg_1 rfl ?_
    refine mm_iload_n (M := M_Reader_appendItem) d_Reader_appendItem_70 rfl ?_
    obtain ⟨hin, h⟩ := h
    refine mm_iast (M := M_Reader_appendItem) (f := (a1 17)) d_Reader_appendItem_71 wg_17 hin ?_
    refine mm_eqw wa_17 ?_
    refine mm_aload_n (M := M_Reader_appendItem) d_Reader_appendItem_72 rfl ?_
    refine mm_iconst (M := M_Reader_appendItem) (v := 1) d_Reader_appendItem_73 (by decide) ?_
    refine mm_putf (M := M_Reader_appendItem) 2 8 .int d_Reader_appendItem_74 fl_Reader_47 fp_Reader_47 ft_2_8 wg_1 (Nat.le_of_ble_eq_true rfl) trivial ?_
    refine mm_eqw ws_24 ?_
    refine mm_iload_n (M := M_Reader_appendItem) d_Reader_appendItem_77 rfl ?_
    exact mm_retv (M := M_Reader_appendItem) ⟨_, rfl, rfl, d_Reader_appendItem_78⟩ ⟨_, _, _, _, _, rfl, rfl, h⟩
def wp_Reader_openChoice_1 (n1 n2 : Nat) (i : mm_i) (l : mm_j) (a : mm_a) (b : mm_b)  (K : Int32 → mm_i → mm_j → mm_a → mm_b → Prop) : Prop :=
  wp_Reader_kindOfChoice_1 n1 n2 i l a b (fun r1 i1 l1 a1 b1 => (¬ r1 = (5 : Int32) → (r1 = ((-1) : Int32) → wp_Reader_refuse_1 n1 n2 i1 l1 a1 b1 (fun r2 i2 l2 a2 b2 => K r2 i2 l2 a2 b2)) ∧ (¬ r1 = ((-1) : Int32) → ((6 : Int32) ≤ (i1 22) → wp_Reader_refuse_1 n1 n2 i1 l1 a1 b1 (fun r3 i3 l3 a3 b3 => K r3 i3 l3 a3 b3)) ∧ (¬ (6 : Int32) ≤ (i1 22) → wp_Reader_appendItem_1 n1 n2 i1 l1 a1 b1 r1 0 (fun r4 i4 l4 a4 b4 => wp_Reader_openLevel_1 n1 n2 (upd i4 23 ((i4 23) + (3 : Int32))) l4 a4 b4 ((i4 22) + (1 : Int32)) r4 (fun i5 l5 a5 b5 => vp_in (i5 22) 7 ∧ (vp_in r4 32 ∧ (K (-1) i5 l5 (mm_ua a5 10 (upd (a5 10) r4.toNatClampNeg ((a5 16) (i5 22).toNatClampNeg))) b5))))))) ∧ (r1 = (5 : Int32) → (r1 = ((-1) : Int32) → wp_Reader_refuse_1 n1 n2 i1 l1 a1 b1 (fun r6 i6 l6 a6 b6 => K r6 i6 l6 a6 b6)) ∧ (¬ r1 = ((-1) : Int32) → ((6 : Int32) ≤ (i1 22) → wp_Reader_refuse_1 n1 n2 i1 l1 a1 b1 (fun r7 i7 l7 a7 b7 => K r7 i7 l7 a7 b7)) ∧ (¬ (6 : Int32) ≤ (i1 22) → ((i1 76) < (4 : Int32) → wp_Reader_appendItem_1 n1 n2 (upd i1 76 ((i1 76) + (1 : Int32))) l1 a1 b1 r1 ((i1 76) + (1 : Int32)) (fun r8 i8 l8 a8 b8 => wp_Reader_openLevel_1 n1 n2 (upd i8 23 ((i8 23) + (1 : Int32))) l8 a8 b8 ((i8 22) + (1 : Int32)) r8 (fun i9 l9 a9 b9 => vp_in (i9 22) 7 ∧ (vp_in r8 32 ∧ (vp_in (i9 22) 7 ∧ (vp_in (i9 76) 5 ∧ (K (-1) i9 l9 (mm_ua (mm_ua a9 10 (upd (a9 10) r8.toNatClampNeg ((a9 16) (i9 22).toNatClampNeg))) 14 (upd (a9 14) (i9 76).toNatClampNeg ((a9 16) (i9 22).toNatClampNeg))) b9))))))) ∧ (¬ (i1 76) < (4 : Int32) → wp_Reader_refuse_1 n1 n2 i1 l1 a1 b1 (fun r10 i10 l10 a10 b10 => K r10 i10 l10 a10 b10))))))
set_option maxRecDepth 100000 in
set_option maxHeartbeats 4000000 in
theorem ct_Reader_openChoice_1 {n1 n2 : Nat} {i : mm_i} {l : mm_j} {a : mm_a} {b : mm_b} {t : mm_H}  {K : Int32 → mm_i → mm_j → mm_a → mm_b → Prop} (h : wp_Reader_openChoice_1 n1 n2 i l a b  K) : mm_Ct y_Reader_openChoice M_Reader_openChoice 3 0 0 [.ref 1] (Wd 4 22 n1 n2 i l a b ++ t) (mm_PI n1 n2 t K) := by
  refine mm_Ct.of (by decide) rfl (fun q => absurd q (by decide)) (Nat.le_of_ble_eq_true rfl) ?_
  unfold wp_Reader_openChoice_1 at h
  refine mm_eqL (L' := [some (.ref 1), none, none, none]) rfl ?_
  refine mm_aload_n (M := M_Reader_openChoice) d_Reader_openChoice_0 rfl ?_
  refine mm_eqs (st2 := [].reverse ++ .ref 1 :: []) rfl ?_
  refine mm_callV (M := M_Reader_openChoice) (y := y_Reader_kindOfChoice) (M' := M_Reader_kindOfChoice) (d' := 2) (kc := 0) (ks := 0) (kc' := 0) (ks' := 0) (n := 0) d_Reader_openChoice_1 ok_Reader_kindOfChoice ml_Reader_121 (by decide) rfl (Nat.le_of_ble_eq_true rfl) ⟨tw_475, ts_Reader_kindOfChoice⟩ wg_1 rfl (ct_Reader_kindOfChoice_1 h) (fun v w h => ?_)
  obtain ⟨r1, i1, l1, a1, b1, rfl, rfl, h⟩ := h
  refine mm_eqs (st2 := [.int r1]) rfl ?_
  refine mm_istore_n (M := M_Reader_openChoice) d_Reader_openChoice_4 (Nat.le_of_ble_eq_true rfl) ?_
  refine mm_eqL (L' := [some (.ref 1), some (.int r1), none, none]) rfl ?_
  refine mm_iload_n (M := M_Reader_openChoice) d_Reader_openChoice_5 rfl ?_
  refine mm_iconst (M := M_Reader_openChoice) (v := 5) d_Reader_openChoice_6 (by decide) ?_
  refine mm_icmp_ne (M := M_Reader_openChoice) 14 d_Reader_openChoice_7 (by decide) (fun c => ?_) (fun c => ?_)
  · have h := h.1 c
    refine mm_iconst (M := M_Reader_openChoice) (v := 0) d_Reader_openChoice_14 (by decide) ?_
    refine mm_istore_n (M := M_Reader_openChoice) d_Reader_openChoice_15 (Nat.le_of_ble_eq_true rfl) ?_
    refine mm_eqL (L' := [some (.ref 1), some (.int r1), some (.int 0), none]) rfl ?_
    refine mm_iload_n (M := M_Reader_openChoice) d_Reader_openChoice_16 rfl ?_
    refine mm_iconst (M := M_Reader_openChoice) (v := (-1)) d_Reader_openChoice_17 (by decide) ?_
    refine mm_icmp_eq (M := M_Reader_openChoice) 45 d_Reader_openChoice_18 (by decide) (fun c => ?_) (fun c => ?_)
    · have h := h.1 c
      refine mm_aload_n (M := M_Reader_openChoice) d_Reader_openChoice_45 rfl ?_
      refine mm_eqs (st2 := [].reverse ++ .ref 1 :: []) rfl ?_
      refine mm_callV (M := M_Reader_openChoice) (y := y_Reader_refuse) (M' := M_Reader_refuse) (d' := 0) (kc := 0) (ks := 0) (kc' := 0) (ks' := 0) (n := 0) d_Reader_openChoice_46 ok_Reader_refuse ml_Reader_124 (by decide) rfl (Nat.le_of_ble_eq_true rfl) ⟨tw_453, ts_Reader_refuse⟩ wg_1 rfl (ct_Reader_refuse_1 h) (fun v w h => ?_)
      obtain ⟨r2, i2, l2, a2, b2, rfl, rfl, h⟩ := h
      refine mm_eqs (st2 := [.int r2]) rfl ?_
      exact mm_retv (M := M_Reader_openChoice) ⟨_, rfl, rfl, d_Reader_openChoice_49⟩ ⟨_, _, _, _, _, rfl, rfl, h⟩
    · have h := h.2 c
      refine mm_aload_n (M := M_Reader_openChoice) d_Reader_openChoice_21 rfl ?_
      refine mm_getf (M := M_Reader_openChoice) (u := .int (i1 22)) 2 6 d_Reader_openChoice_22 fl_Reader_40 wg_1 rfl ?_
      refine mm_bipush (M := M_Reader_openChoice) (v := 6) d_Reader_openChoice_25 (by decide) ?_
      refine mm_icmp_ge (M := M_Reader_openChoice) 45 d_Reader_openChoice_27 (by decide) (fun c => ?_) (fun c => ?_)
      · have h := h.1 c
        refine mm_aload_n (M := M_Reader_openChoice) d_Reader_openChoice_45 rfl ?_
        refine mm_eqs (st2 := [].reverse ++ .ref 1 :: []) rfl ?_
        refine mm_callV (M := M_Reader_openChoice) (y := y_Reader_refuse) (M' := M_Reader_refuse) (d' := 0) (kc := 0) (ks := 0) (kc' := 0) (ks' := 0) (n := 0) d_Reader_openChoice_46 ok_Reader_refuse ml_Reader_124 (by decide) rfl (Nat.le_of_ble_eq_true rfl) ⟨tw_453, ts_Reader_refuse⟩ wg_1 rfl (ct_Reader_refuse_1 h) (fun v w h => ?_)
        obtain ⟨r3, i3, l3, a3, b3, rfl, rfl, h⟩ := h
        refine mm_eqs (st2 := [.int r3]) rfl ?_
        exact mm_retv (M := M_Reader_openChoice) ⟨_, rfl, rfl, d_Reader_openChoice_49⟩ ⟨_, _, _, _, _, rfl, rfl, h⟩
      · have h := h.2 c
        refine mm_iload_n (M := M_Reader_openChoice) d_Reader_openChoice_30 rfl ?_
        refine mm_if_eq (M := M_Reader_openChoice) 50 d_Reader_openChoice_31 (by decide) (fun c => ?_) (fun c => absurd c (by decide))
        refine mm_iload_n (M := M_Reader_openChoice) d_Reader_openChoice_50 rfl ?_
        refine mm_if_eq (M := M_Reader_openChoice) 67 d_Reader_openChoice_51 (by decide) (fun c => ?_) (fun c => absurd c (by decide))
        refine mm_aload_n (M := M_Reader_openChoice) d_Reader_openChoice_67 rfl ?_
        refine mm_iload_n (M := M_Reader_openChoice) d_Reader_openChoice_68 rfl ?_
        refine mm_iload_n (M := M_Reader_openChoice) d_Reader_openChoice_69 rfl ?_
        refine mm_if_eq (M := M_Reader_openChoice) 83 d_Reader_openChoice_70 (by decide) (fun c => ?_) (fun c => absurd c (by decide))
        refine mm_iconst (M := M_Reader_openChoice) (v := 0) d_Reader_openChoice_83 (by decide) ?_
        refine mm_eqs (st2 := [.int r1, .int 0].reverse ++ .ref 1 :: []) rfl ?_
        refine mm_callV (M := M_Reader_openChoice) (y := y_Reader_appendItem) (M' := M_Reader_appendItem) (d' := 1) (kc := 0) (ks := 0) (kc' := 0) (ks' := 0) (n := 2) d_Reader_openChoice_84 ok_Reader_appendItem ml_Reader_127 (by decide) rfl (Nat.le_of_ble_eq_true rfl) ⟨tw_463, ts_Reader_appendItem⟩ wg_1 rfl (ct_Reader_appendItem_1 h) (fun v w h => ?_)
        obtain ⟨r4, i4, l4, a4, b4, rfl, rfl, h⟩ := h
        refine mm_eqs (st2 := [.int r4]) rfl ?_
        refine mm_istore_n (M := M_Reader_openChoice) d_Reader_openChoice_87 (Nat.le_of_ble_eq_true rfl) ?_
        refine mm_eqL (L' := [some (.ref 1), some (.int r1), some (.int 0), some (.int r4)]) rfl ?_
        refine mm_aload_n (M := M_Reader_openChoice) d_Reader_openChoice_88 rfl ?_
        refine mm_dup (M := M_Reader_openChoice) d_Reader_openChoice_89 rfl ?_
        refine mm_getf (M := M_Reader_openChoice) (u := .int (i4 23)) 2 7 d_Reader_openChoice_90 fl_Reader_44 wg_1 rfl ?_
        refine mm_iload_n (M := M_Reader_openChoice) d_Reader_openChoice_93 rfl ?_
        refine mm_if_eq (M := M_Reader_openChoice) 101 d_Reader_openChoice_94 (by decide) (fun c => ?_) (fun c => absurd c (by decide))
        refine mm_iconst (M := M_Reader_openChoice) (v := 3) d_Reader_openChoice_101 (by decide) ?_
        refine mm_iadd (M := M_Reader_openChoice) d_Reader_openChoice_102 ?_
        refine mm_putf (M := M_Reader_openChoice) 2 7 .int d_Reader_openChoice_103 fl_Reader_44 fp_Reader_44 ft_2_7 wg_1 (Nat.le_of_ble_eq_true rfl) trivial ?_
        refine mm_eqw ws_23 ?_
        refine mm_aload_n (M := M_Reader_openChoice) d_Reader_openChoice_106 rfl ?_
        refine mm_aload_n (M := M_Reader_openChoice) d_Reader_openChoice_107 rfl ?_
        refine mm_getf (M := M_Reader_openChoice) (u := .int (i4 22)) 2 6 d_Reader_openChoice_108 fl_Reader_40 wg_1 rfl ?_
        refine mm_iconst (M := M_Reader_openChoice) (v := 1) d_Reader_openChoice_111 (by decide) ?_
        refine mm_iadd (M := M_Reader_openChoice) d_Reader_openChoice_112 ?_
        refine mm_iload_n (M := M_Reader_openChoice) d_Reader_openChoice_113 rfl ?_
        refine mm_eqs (st2 := [.int ((i4 22) + (1 : Int32)), .int r4].reverse ++ .ref 1 :: []) rfl ?_
        refine mm_callV (M := M_Reader_openChoice) (y := y_Reader_openLevel) (M' := M_Reader_openLevel) (d' := 1) (kc := 0) (ks := 0) (kc' := 0) (ks' := 0) (n := 2) d_Reader_openChoice_114 ok_Reader_openLevel ml_Reader_60 (by decide) rfl (Nat.le_of_ble_eq_true rfl) ⟨tw_425, ts_Reader_openLevel⟩ wg_1 rfl (ct_Reader_openLevel_1 h) (fun v w h => ?_)
        obtain ⟨i5, l5, a5, b5, rfl, rfl, h⟩ := h
        refine mm_eqs (st2 := []) rfl ?_
        refine mm_aload_n (M := M_Reader_openChoice) d_Reader_openChoice_117 rfl ?_
        refine mm_getf (M := M_Reader_openChoice) (u := .ref 4) 2 1 d_Reader_openChoice_118 fl_Reader_23 wg_1 rfl ?_
        refine mm_getf (M := M_Reader_openChoice) (u := .ref 10) 1 5 d_Reader_openChoice_121 fl_Reader_131 wg_4 rfl ?_
        refine mm_iload_n (M := M_Reader_openChoice) d_Reader_openChoice_124 rfl ?_
        refine mm_aload_n (M := M_Reader_openChoice) d_Reader_openChoice_125 rfl ?_
        refine mm_getf (M := M_Reader_openChoice) (u := .ref 16) 2 3 d_Reader_openChoice_126 fl_Reader_31 wg_1 rfl ?_
        refine mm_aload_n (M := M_Reader_openChoice) d_Reader_openChoice_129 rfl ?_
        refine mm_getf (M := M_Reader_openChoice) (u := .int (i5 22)) 2 6 d_Reader_openChoice_130 fl_Reader_40 wg_1 rfl ?_
        obtain ⟨hin, h⟩ := h
        refine mm_iald (M := M_Reader_openChoice) (f := (a5 16)) d_Reader_openChoice_133 wg_16 hin ?_
        obtain ⟨hin, h⟩ := h
        refine mm_iast (M := M_Reader_openChoice) (f := (a5 10)) d_Reader_openChoice_134 wg_10 hin ?_
        refine mm_eqw wa_10 ?_
        refine mm_iload_n (M := M_Reader_openChoice) d_Reader_openChoice_135 rfl ?_
        refine mm_if_eq (M := M_Reader_openChoice) 163 d_Reader_openChoice_136 (by decide) (fun c => ?_) (fun c => absurd c (by decide))
        refine mm_iconst (M := M_Reader_openChoice) (v := (-1)) d_Reader_openChoice_163 (by decide) ?_
        exact mm_retv (M := M_Reader_openChoice) ⟨_, rfl, rfl, d_Reader_openChoice_164⟩ ⟨_, _, _, _, _, rfl, rfl, h⟩
  · have h := h.2 c
    refine mm_iconst (M := M_Reader_openChoice) (v := 1) d_Reader_openChoice_10 (by decide) ?_
    refine mm_goto (M := M_Reader_openChoice) (tgt := 15) d_Reader_openChoice_11 (by decide) ?_
    refine mm_istore_n (M := M_Reader_openChoice) d_Reader_openChoice_15 (Nat.le_of_ble_eq_true rfl) ?_
    refine mm_eqL (L' := [some (.ref 1), some (.int r1), some (.int 1), none]) rfl ?_
    refine mm_iload_n (M := M_Reader_openChoice) d_Reader_openChoice_16 rfl ?_
    refine mm_iconst (M := M_Reader_openChoice) (v := (-1)) d_Reader_openChoice_17 (by decide) ?_
    refine mm_icmp_eq (M := M_Reader_openChoice) 45 d_Reader_openChoice_18 (by decide) (fun c => ?_) (fun c => ?_)
    · have h := h.1 c
      refine mm_aload_n (M := M_Reader_openChoice) d_Reader_openChoice_45 rfl ?_
      refine mm_eqs (st2 := [].reverse ++ .ref 1 :: []) rfl ?_
      refine mm_callV (M := M_Reader_openChoice) (y := y_Reader_refuse) (M' := M_Reader_refuse) (d' := 0) (kc := 0) (ks := 0) (kc' := 0) (ks' := 0) (n := 0) d_Reader_openChoice_46 ok_Reader_refuse ml_Reader_124 (by decide) rfl (Nat.le_of_ble_eq_true rfl) ⟨tw_453, ts_Reader_refuse⟩ wg_1 rfl (ct_Reader_refuse_1 h) (fun v w h => ?_)
      obtain ⟨r6, i6, l6, a6, b6, rfl, rfl, h⟩ := h
      refine mm_eqs (st2 := [.int r6]) rfl ?_
      exact mm_retv (M := M_Reader_openChoice) ⟨_, rfl, rfl, d_Reader_openChoice_49⟩ ⟨_, _, _, _, _, rfl, rfl, h⟩
    · have h := h.2 c
      refine mm_aload_n (M := M_Reader_openChoice) d_Reader_openChoice_21 rfl ?_
      refine mm_getf (M := M_Reader_openChoice) (u := .int (i1 22)) 2 6 d_Reader_openChoice_22 fl_Reader_40 wg_1 rfl ?_
      refine mm_bipush (M := M_Reader_openChoice) (v := 6) d_Reader_openChoice_25 (by decide) ?_
      refine mm_icmp_ge (M := M_Reader_openChoice) 45 d_Reader_openChoice_27 (by decide) (fun c => ?_) (fun c => ?_)
      · have h := h.1 c
        refine mm_aload_n (M := M_Reader_openChoice) d_Reader_openChoice_45 rfl ?_
        refine mm_eqs (st2 := [].reverse ++ .ref 1 :: []) rfl ?_
        refine mm_callV (M := M_Reader_openChoice) (y := y_Reader_refuse) (M' := M_Reader_refuse) (d' := 0) (kc := 0) (ks := 0) (kc' := 0) (ks' := 0) (n := 0) d_Reader_openChoice_46 ok_Reader_refuse ml_Reader_124 (by decide) rfl (Nat.le_of_ble_eq_true rfl) ⟨tw_453, ts_Reader_refuse⟩ wg_1 rfl (ct_Reader_refuse_1 h) (fun v w h => ?_)
        obtain ⟨r7, i7, l7, a7, b7, rfl, rfl, h⟩ := h
        refine mm_eqs (st2 := [.int r7]) rfl ?_
        exact mm_retv (M := M_Reader_openChoice) ⟨_, rfl, rfl, d_Reader_openChoice_49⟩ ⟨_, _, _, _, _, rfl, rfl, h⟩
      · have h := h.2 c
        refine mm_iload_n (M := M_Reader_openChoice) d_Reader_openChoice_30 rfl ?_
        refine mm_if_eq (M := M_Reader_openChoice) 50 d_Reader_openChoice_31 (by decide) (fun c => absurd c (by decide)) (fun c => ?_)
        refine mm_aload_n (M := M_Reader_openChoice) d_Reader_openChoice_34 rfl ?_
        refine mm_getf (M := M_Reader_openChoice) (u := .ref 4) 2 1 d_Reader_openChoice_35 fl_Reader_23 wg_1 rfl ?_
        refine mm_getf (M := M_Reader_openChoice) (u := .int (i1 76)) 1 12 d_Reader_openChoice_38 fl_Reader_80 wg_4 rfl ?_
        refine mm_iconst (M := M_Reader_openChoice) (v := 4) d_Reader_openChoice_41 (by decide) ?_
        refine mm_icmp_lt (M := M_Reader_openChoice) 50 d_Reader_openChoice_42 (by decide) (fun c => ?_) (fun c => ?_)
        · have h := h.1 c
          refine mm_iload_n (M := M_Reader_openChoice) d_Reader_openChoice_50 rfl ?_
          refine mm_if_eq (M := M_Reader_openChoice) 67 d_Reader_openChoice_51 (by decide) (fun c => absurd c (by decide)) (fun c => ?_)
          refine mm_aload_n (M := M_Reader_openChoice) d_Reader_openChoice_54 rfl ?_
          refine mm_getf (M := M_Reader_openChoice) (u := .ref 4) 2 1 d_Reader_openChoice_55 fl_Reader_23 wg_1 rfl ?_
          refine mm_dup (M := M_Reader_openChoice) d_Reader_openChoice_58 rfl ?_
          refine mm_getf (M := M_Reader_openChoice) (u := .int (i1 76)) 1 12 d_Reader_openChoice_59 fl_Reader_80 wg_4 rfl ?_
          refine mm_iconst (M := M_Reader_openChoice) (v := 1) d_Reader_openChoice_62 (by decide) ?_
          refine mm_iadd (M := M_Reader_openChoice) d_Reader_openChoice_63 ?_
          refine mm_putf (M := M_Reader_openChoice) 1 12 .int d_Reader_openChoice_64 fl_Reader_80 fp_Reader_80 ft_1_12 wg_4 (Nat.le_of_ble_eq_true rfl) trivial ?_
          refine mm_eqw ws_76 ?_
          refine mm_aload_n (M := M_Reader_openChoice) d_Reader_openChoice_67 rfl ?_
          refine mm_iload_n (M := M_Reader_openChoice) d_Reader_openChoice_68 rfl ?_
          refine mm_iload_n (M := M_Reader_openChoice) d_Reader_openChoice_69 rfl ?_
          refine mm_if_eq (M := M_Reader_openChoice) 83 d_Reader_openChoice_70 (by decide) (fun c => absurd c (by decide)) (fun c => ?_)
          refine mm_aload_n (M := M_Reader_openChoice) d_Reader_openChoice_73 rfl ?_
          refine mm_getf (M := M_Reader_openChoice) (u := .ref 4) 2 1 d_Reader_openChoice_74 fl_Reader_23 wg_1 rfl ?_
          refine mm_getf (M := M_Reader_openChoice) (u := .int ((i1 76) + (1 : Int32))) 1 12 d_Reader_openChoice_77 fl_Reader_80 wg_4 rfl ?_
          refine mm_goto (M := M_Reader_openChoice) (tgt := 84) d_Reader_openChoice_80 (by decide) ?_
          refine mm_eqs (st2 := [.int r1, .int ((i1 76) + (1 : Int32))].reverse ++ .ref 1 :: []) rfl ?_
          refine mm_callV (M := M_Reader_openChoice) (y := y_Reader_appendItem) (M' := M_Reader_appendItem) (d' := 1) (kc := 0) (ks := 0) (kc' := 0) (ks' := 0) (n := 2) d_Reader_openChoice_84 ok_Reader_appendItem ml_Reader_127 (by decide) rfl (Nat.le_of_ble_eq_true rfl) ⟨tw_463, ts_Reader_appendItem⟩ wg_1 rfl (ct_Reader_appendItem_1 h) (fun v w h => ?_)
          obtain ⟨r8, i8, l8, a8, b8, rfl, rfl, h⟩ := h
          refine mm_eqs (st2 := [.int r8]) rfl ?_
          refine mm_istore_n (M := M_Reader_openChoice) d_Reader_openChoice_87 (Nat.le_of_ble_eq_true rfl) ?_
          refine mm_eqL (L' := [some (.ref 1), some (.int r1), some (.int 1), some (.int r8)]) rfl ?_
          refine mm_aload_n (M := M_Reader_openChoice) d_Reader_openChoice_88 rfl ?_
          refine mm_dup (M := M_Reader_openChoice) d_Reader_openChoice_89 rfl ?_
          refine mm_getf (M := M_Reader_openChoice) (u := .int (i8 23)) 2 7 d_Reader_openChoice_90 fl_Reader_44 wg_1 rfl ?_
          refine mm_iload_n (M := M_Reader_openChoice) d_Reader_openChoice_93 rfl ?_
          refine mm_if_eq (M := M_Reader_openChoice) 101 d_Reader_openChoice_94 (by decide) (fun c => absurd c (by decide)) (fun c => ?_)
          refine mm_iconst (M := M_Reader_openChoice) (v := 1) d_Reader_openChoice_97 (by decide) ?_
          refine mm_goto (M := M_Reader_openChoice) (tgt := 102) d_Reader_openChoice_98 (by decide) ?_
          refine mm_iadd (M := M_Reader_openChoice) d_Reader_openChoice_102 ?_
          refine mm_putf (M := M_Reader_openChoice) 2 7 .int d_Reader_openChoice_103 fl_Reader_44 fp_Reader_44 ft_2_7 wg_1 (Nat.le_of_ble_eq_true rfl) trivial ?_
          refine mm_eqw ws_23 ?_
          refine mm_aload_n (M := M_Reader_openChoice) d_Reader_openChoice_106 rfl ?_
          refine mm_aload_n (M := M_Reader_openChoice) d_Reader_openChoice_107 rfl ?_
          refine mm_getf (M := M_Reader_openChoice) (u := .int (i8 22)) 2 6 d_Reader_openChoice_108 fl_Reader_40 wg_1 rfl ?_
          refine mm_iconst (M := M_Reader_openChoice) (v := 1) d_Reader_openChoice_111 (by decide) ?_
          refine mm_iadd (M := M_Reader_openChoice) d_Reader_openChoice_112 ?_
          refine mm_iload_n (M := M_Reader_openChoice) d_Reader_openChoice_113 rfl ?_
          refine mm_eqs (st2 := [.int ((i8 22) + (1 : Int32)), .int r8].reverse ++ .ref 1 :: []) rfl ?_
          refine mm_callV (M := M_Reader_openChoice) (y := y_Reader_openLevel) (M' := M_Reader_openLevel) (d' := 1) (kc := 0) (ks := 0) (kc' := 0) (ks' := 0) (n := 2) d_Reader_openChoice_114 ok_Reader_openLevel ml_Reader_60 (by decide) rfl (Nat.le_of_ble_eq_true rfl) ⟨tw_425, ts_Reader_openLevel⟩ wg_1 rfl (ct_Reader_openLevel_1 h) (fun v w h => ?_)
          obtain ⟨i9, l9, a9, b9, rfl, rfl, h⟩ := h
          refine mm_eqs (st2 := []) rfl ?_
          refine mm_aload_n (M := M_Reader_openChoice) d_Reader_openChoice_117 rfl ?_
          refine mm_getf (M := M_Reader_openChoice) (u := .ref 4) 2 1 d_Reader_openChoice_118 fl_Reader_23 wg_1 rfl ?_
          refine mm_getf (M := M_Reader_openChoice) (u := .ref 10) 1 5 d_Reader_openChoice_121 fl_Reader_131 wg_4 rfl ?_
          refine mm_iload_n (M := M_Reader_openChoice) d_Reader_openChoice_124 rfl ?_
          refine mm_aload_n (M := M_Reader_openChoice) d_Reader_openChoice_125 rfl ?_
          refine mm_getf (M := M_Reader_openChoice) (u := .ref 16) 2 3 d_Reader_openChoice_126 fl_Reader_31 wg_1 rfl ?_
          refine mm_aload_n (M := M_Reader_openChoice) d_Reader_openChoice_129 rfl ?_
          refine mm_getf (M := M_Reader_openChoice) (u := .int (i9 22)) 2 6 d_Reader_openChoice_130 fl_Reader_40 wg_1 rfl ?_
          obtain ⟨hin, h⟩ := h
          refine mm_iald (M := M_Reader_openChoice) (f := (a9 16)) d_Reader_openChoice_133 wg_16 hin ?_
          obtain ⟨hin, h⟩ := h
          refine mm_iast (M := M_Reader_openChoice) (f := (a9 10)) d_Reader_openChoice_134 wg_10 hin ?_
          refine mm_eqw wa_10 ?_
          refine mm_iload_n (M := M_Reader_openChoice) d_Reader_openChoice_135 rfl ?_
          refine mm_if_eq (M := M_Reader_openChoice) 163 d_Reader_openChoice_136 (by decide) (fun c => absurd c (by decide)) (fun c => ?_)
          refine mm_aload_n (M := M_Reader_openChoice) d_Reader_openChoice_139 rfl ?_
          refine mm_getf (M := M_Reader_openChoice) (u := .ref 4) 2 1 d_Reader_openChoice_140 fl_Reader_23 wg_1 rfl ?_
          refine mm_getf (M := M_Reader_openChoice) (u := .ref 14) 1 9 d_Reader_openChoice_143 fl_Reader_64 wg_4 rfl ?_
          refine mm_aload_n (M := M_Reader_openChoice) d_Reader_openChoice_146 rfl ?_
          refine mm_getf (M := M_Reader_openChoice) (u := .ref 4) 2 1 d_Reader_openChoice_147 fl_Reader_23 wg_1 rfl ?_
          refine mm_getf (M := M_Reader_openChoice) (u := .int (i9 76)) 1 12 d_Reader_openChoice_150 fl_Reader_80 wg_4 rfl ?_
          refine mm_aload_n (M := M_Reader_openChoice) d_Reader_openChoice_153 rfl ?_
          refine mm_getf (M := M_Reader_openChoice) (u := .ref 16) 2 3 d_Reader_openChoice_154 fl_Reader_31 wg_1 rfl ?_
          refine mm_aload_n (M := M_Reader_openChoice) d_Reader_openChoice_157 rfl ?_
          refine mm_getf (M := M_Reader_openChoice) (u := .int (i9 22)) 2 6 d_Reader_openChoice_158 fl_Reader_40 wg_1 rfl ?_
          obtain ⟨hin, h⟩ := h
          refine mm_iald (M := M_Reader_openChoice) (f := (a9 16)) d_Reader_openChoice_161 wg_16 hin ?_
          obtain ⟨hin, h⟩ := h
          refine mm_iast (M := M_Reader_openChoice) (f := (a9 14)) d_Reader_openChoice_162 wg_14 hin ?_
          refine mm_eqw wa_14 ?_
          refine mm_iconst (M := M_Reader_openChoice) (v := (-1)) d_Reader_openChoice_163 (by decide) ?_
          exact mm_retv (M := M_Reader_openChoice) ⟨_, rfl, rfl, d_Reader_openChoice_164⟩ ⟨_, _, _, _, _, rfl, rfl, h⟩
        · have h := h.2 c
          refine mm_aload_n (M := M_Reader_openChoice) d_Reader_openChoice_45 rfl ?_
          refine mm_eqs (st2 := [].reverse ++ .ref 1 :: []) rfl ?_
          refine mm_callV (M := M_Reader_openChoice) (y := y_Reader_refuse) (M' := M_Reader_refuse) (d' := 0) (kc := 0) (ks := 0) (kc' := 0) (ks' := 0) (n := 0) d_Reader_openChoice_46 ok_Reader_refuse ml_Reader_124 (by decide) rfl (Nat.le_of_ble_eq_true rfl) ⟨tw_453, ts_Reader_refuse⟩ wg_1 rfl (ct_Reader_refuse_1 h) (fun v w h => ?_)
          obtain ⟨r10, i10, l10, a10, b10, rfl, rfl, h⟩ := h
          refine mm_eqs (st2 := [.int r10]) rfl ?_
          exact mm_retv (M := M_Reader_openChoice) ⟨_, rfl, rfl, d_Reader_openChoice_49⟩ ⟨_, _, _, _, _, rfl, rfl, h⟩
def wp_Reader_closeChoice_1 (n1 n2 : Nat) (i : mm_i) (l : mm_j) (a : mm_a) (b : mm_b)  (K : Int32 → mm_i → mm_j → mm_a → mm_b → Prop) : Prop :=
  (¬ (i 22) = 0 → vp_in (i 22) 7 ∧ (vp_in (i 22) 7 ∧ (K ((a 15) (i 22).toNatClampNeg) (upd (upd (upd i 24 (((a 18) (i 22).toNatClampNeg) + (2 : Int32))) 22 ((i 22) - (1 : Int32))) 23 ((i 23) + (1 : Int32))) l a b))) ∧ ((i 22) = 0 → wp_Reader_refuse_1 n1 n2 i l a b (fun r1 i1 l1 a1 b1 => K r1 i1 l1 a1 b1))
set_option maxRecDepth 100000 in
set_option maxHeartbeats 4000000 in
theorem ct_Reader_closeChoice_1 {n1 n2 : Nat} {i : mm_i} {l : mm_j} {a : mm_a} {b : mm_b} {t : mm_H}  {K : Int32 → mm_i → mm_j → mm_a → mm_b → Prop} (h : wp_Reader_closeChoice_1 n1 n2 i l a b  K) : mm_Ct y_Reader_closeChoice M_Reader_closeChoice 1 0 0 [.ref 1] (Wd 4 22 n1 n2 i l a b ++ t) (mm_PI n1 n2 t K) := by
  refine mm_Ct.of (by decide) rfl (fun q => absurd q (by decide)) (Nat.le_of_ble_eq_true rfl) ?_
  unfold wp_Reader_closeChoice_1 at h
  refine mm_eqL (L' := [some (.ref 1), none]) rfl ?_
  refine mm_aload_n (M := M_Reader_closeChoice) d_Reader_closeChoice_0 rfl ?_
  refine mm_getf (M := M_Reader_closeChoice) (u := .int (i 22)) 2 6 d_Reader_closeChoice_1 fl_Reader_40 wg_1 rfl ?_
  refine mm_if_ne (M := M_Reader_closeChoice) 12 d_Reader_closeChoice_4 (by decide) (fun c => ?_) (fun c => ?_)
  · have h := h.1 c
    refine mm_aload_n (M := M_Reader_closeChoice) d_Reader_closeChoice_12 rfl ?_
    refine mm_getf (M := M_Reader_closeChoice) (u := .ref 15) 2 2 d_Reader_closeChoice_13 fl_Reader_27 wg_1 rfl ?_
    refine mm_aload_n (M := M_Reader_closeChoice) d_Reader_closeChoice_16 rfl ?_
    refine mm_getf (M := M_Reader_closeChoice) (u := .int (i 22)) 2 6 d_Reader_closeChoice_17 fl_Reader_40 wg_1 rfl ?_
    obtain ⟨hin, h⟩ := h
    refine mm_iald (M := M_Reader_closeChoice) (f := (a 15)) d_Reader_closeChoice_20 wg_15 hin ?_
    refine mm_istore_n (M := M_Reader_closeChoice) d_Reader_closeChoice_21 (Nat.le_of_ble_eq_true rfl) ?_
    refine mm_eqL (L' := [some (.ref 1), some (.int ((a 15) (i 22).toNatClampNeg))]) rfl ?_
    refine mm_aload_n (M := M_Reader_closeChoice) d_Reader_closeChoice_22 rfl ?_
    refine mm_aload_n (M := M_Reader_closeChoice) d_Reader_closeChoice_23 rfl ?_
    refine mm_getf (M := M_Reader_closeChoice) (u := .ref 18) 2 5 d_Reader_closeChoice_24 fl_Reader_37 wg_1 rfl ?_
    refine mm_aload_n (M := M_Reader_closeChoice) d_Reader_closeChoice_27 rfl ?_
    refine mm_getf (M := M_Reader_closeChoice) (u := .int (i 22)) 2 6 d_Reader_closeChoice_28 fl_Reader_40 wg_1 rfl ?_
    obtain ⟨hin, h⟩ := h
    refine mm_iald (M := M_Reader_closeChoice) (f := (a 18)) d_Reader_closeChoice_31 wg_18 hin ?_
    refine mm_iconst (M := M_Reader_closeChoice) (v := 2) d_Reader_closeChoice_32 (by decide) ?_
    refine mm_iadd (M := M_Reader_closeChoice) d_Reader_closeChoice_33 ?_
    refine mm_putf (M := M_Reader_closeChoice) 2 8 .int d_Reader_closeChoice_34 fl_Reader_47 fp_Reader_47 ft_2_8 wg_1 (Nat.le_of_ble_eq_true rfl) trivial ?_
    refine mm_eqw ws_24 ?_
    refine mm_aload_n (M := M_Reader_closeChoice) d_Reader_closeChoice_37 rfl ?_
    refine mm_dup (M := M_Reader_closeChoice) d_Reader_closeChoice_38 rfl ?_
    refine mm_getf (M := M_Reader_closeChoice) (u := .int (i 22)) 2 6 d_Reader_closeChoice_39 fl_Reader_40 wg_1 rfl ?_
    refine mm_iconst (M := M_Reader_closeChoice) (v := 1) d_Reader_closeChoice_42 (by decide) ?_
    refine mm_isub (M := M_Reader_closeChoice) d_Reader_closeChoice_43 ?_
    refine mm_putf (M := M_Reader_closeChoice) 2 6 .int d_Reader_closeChoice_44 fl_Reader_40 fp_Reader_40 ft_2_6 wg_1 (Nat.le_of_ble_eq_true rfl) trivial ?_
    refine mm_eqw ws_22 ?_
    refine mm_aload_n (M := M_Reader_closeChoice) d_Reader_closeChoice_47 rfl ?_
    refine mm_dup (M := M_Reader_closeChoice) d_Reader_closeChoice_48 rfl ?_
    refine mm_getf (M := M_Reader_closeChoice) (u := .int (i 23)) 2 7 d_Reader_closeChoice_49 fl_Reader_44 wg_1 rfl ?_
    refine mm_iconst (M := M_Reader_closeChoice) (v := 1) d_Reader_closeChoice_52 (by decide) ?_
    refine mm_iadd (M := M_Reader_closeChoice) d_Reader_closeChoice_53 ?_
    refine mm_putf (M := M_Reader_closeChoice) 2 7 .int d_Reader_closeChoice_54 fl_Reader_44 fp_Reader_44 ft_2_7 wg_1 (Nat.le_of_ble_eq_true rfl) trivial ?_
    refine mm_eqw ws_23 ?_
    refine mm_iload_n (M := M_Reader_closeChoice) d_Reader_closeChoice_57 rfl ?_
    exact mm_retv (M := M_Reader_closeChoice) ⟨_, rfl, rfl, d_Reader_closeChoice_58⟩ ⟨_, _, _, _, _, rfl, rfl, h⟩
  · have h := h.2 c
    refine mm_aload_n (M := M_Reader_closeChoice) d_Reader_closeChoice_7 rfl ?_
    refine mm_eqs (st2 := [].reverse ++ .ref 1 :: []) rfl ?_
    refine mm_callV (M := M_Reader_closeChoice) (y := y_Reader_refuse) (M' := M_Reader_refuse) (d' := 0) (kc := 0) (ks := 0) (kc' := 0) (ks' := 0) (n := 0) d_Reader_closeChoice_8 ok_Reader_refuse ml_Reader_124 (by decide) rfl (Nat.le_of_ble_eq_true rfl) ⟨tw_453, ts_Reader_refuse⟩ wg_1 rfl (ct_Reader_refuse_1 h) (fun v w h => ?_)
    obtain ⟨r1, i1, l1, a1, b1, rfl, rfl, h⟩ := h
    refine mm_eqs (st2 := [.int r1]) rfl ?_
    exact mm_retv (M := M_Reader_closeChoice) ⟨_, rfl, rfl, d_Reader_closeChoice_11⟩ ⟨_, _, _, _, _, rfl, rfl, h⟩
def wp_Reader_readCall_1 (n1 n2 : Nat) (i : mm_i) (l : mm_j) (a : mm_a) (b : mm_b)  (K : Int32 → mm_i → mm_j → mm_a → mm_b → Prop) : Prop :=
  wp_Reader_ahead_1 n1 n2 i l a b 2 (fun r1 i1 l1 a1 b1 => ((4 : Int32) < (r1 - (48 : Int32)) → wp_Reader_refuse_1 n1 n2 i1 l1 a1 b1 (fun r2 i2 l2 a2 b2 => K r2 i2 l2 a2 b2)) ∧ (¬ (4 : Int32) < (r1 - (48 : Int32)) → wp_Reader_ahead_1 n1 n2 i1 l1 a1 b1 3 (fun r3 i3 l3 a3 b3 => (r3 = (41 : Int32) → wp_Reader_appendItem_1 n1 n2 (upd (upd i3 25 (if (i3 25) < (r1 - (48 : Int32)) then (r1 - (48 : Int32)) else (i3 25))) 23 ((i3 23) + (4 : Int32))) l3 a3 b3 4 (r1 - (48 : Int32)) (fun r4 i4 l4 a4 b4 => K r4 i4 l4 a4 b4)) ∧ (¬ r3 = (41 : Int32) → wp_Reader_refuse_1 n1 n2 i3 l3 a3 b3 (fun r5 i5 l5 a5 b5 => K r5 i5 l5 a5 b5)))))
set_option maxRecDepth 100000 in
set_option maxHeartbeats 4000000 in
theorem ct_Reader_readCall_1 {n1 n2 : Nat} {i : mm_i} {l : mm_j} {a : mm_a} {b : mm_b} {t : mm_H}  {K : Int32 → mm_i → mm_j → mm_a → mm_b → Prop} (h : wp_Reader_readCall_1 n1 n2 i l a b  K) : mm_Ct y_Reader_readCall M_Reader_readCall 2 0 0 [.ref 1] (Wd 4 22 n1 n2 i l a b ++ t) (mm_PI n1 n2 t K) := by
  refine mm_Ct.of (by decide) rfl (fun q => absurd q (by decide)) (Nat.le_of_ble_eq_true rfl) ?_
  unfold wp_Reader_readCall_1 at h
  refine mm_eqL (L' := [some (.ref 1), none]) rfl ?_
  refine mm_aload_n (M := M_Reader_readCall) d_Reader_readCall_0 rfl ?_
  refine mm_iconst (M := M_Reader_readCall) (v := 2) d_Reader_readCall_1 (by decide) ?_
  refine mm_eqs (st2 := [.int 2].reverse ++ .ref 1 :: []) rfl ?_
  refine mm_callV (M := M_Reader_readCall) (y := y_Reader_ahead) (M' := M_Reader_ahead) (d' := 1) (kc := 0) (ks := 0) (kc' := 0) (ks' := 0) (n := 1) d_Reader_readCall_2 ok_Reader_ahead ml_Reader_83 (by decide) rfl (Nat.le_of_ble_eq_true rfl) ⟨tw_437, ts_Reader_ahead⟩ wg_1 rfl (ct_Reader_ahead_1 h) (fun v w h => ?_)
  obtain ⟨r1, i1, l1, a1, b1, rfl, rfl, h⟩ := h
  refine mm_eqs (st2 := [.int r1]) rfl ?_
  refine mm_bipush (M := M_Reader_readCall) (v := 48) d_Reader_readCall_5 (by decide) ?_
  refine mm_isub (M := M_Reader_readCall) d_Reader_readCall_7 ?_
  refine mm_istore_n (M := M_Reader_readCall) d_Reader_readCall_8 (Nat.le_of_ble_eq_true rfl) ?_
  refine mm_eqL (L' := [some (.ref 1), some (.int (r1 - (48 : Int32)))]) rfl ?_
  refine mm_iload_n (M := M_Reader_readCall) d_Reader_readCall_9 rfl ?_
  refine mm_iconst (M := M_Reader_readCall) (v := 4) d_Reader_readCall_10 (by decide) ?_
  refine mm_icmp_gt (M := M_Reader_readCall) 24 d_Reader_readCall_11 (by decide) (fun c => ?_) (fun c => ?_)
  · have h := h.1 c
    refine mm_aload_n (M := M_Reader_readCall) d_Reader_readCall_24 rfl ?_
    refine mm_eqs (st2 := [].reverse ++ .ref 1 :: []) rfl ?_
    refine mm_callV (M := M_Reader_readCall) (y := y_Reader_refuse) (M' := M_Reader_refuse) (d' := 0) (kc := 0) (ks := 0) (kc' := 0) (ks' := 0) (n := 0) d_Reader_readCall_25 ok_Reader_refuse ml_Reader_124 (by decide) rfl (Nat.le_of_ble_eq_true rfl) ⟨tw_453, ts_Reader_refuse⟩ wg_1 rfl (ct_Reader_refuse_1 h) (fun v w h => ?_)
    obtain ⟨r2, i2, l2, a2, b2, rfl, rfl, h⟩ := h
    refine mm_eqs (st2 := [.int r2]) rfl ?_
    exact mm_retv (M := M_Reader_readCall) ⟨_, rfl, rfl, d_Reader_readCall_28⟩ ⟨_, _, _, _, _, rfl, rfl, h⟩
  · have h := h.2 c
    refine mm_aload_n (M := M_Reader_readCall) d_Reader_readCall_14 rfl ?_
    refine mm_iconst (M := M_Reader_readCall) (v := 3) d_Reader_readCall_15 (by decide) ?_
    refine mm_eqs (st2 := [.int 3].reverse ++ .ref 1 :: []) rfl ?_
    refine mm_callV (M := M_Reader_readCall) (y := y_Reader_ahead) (M' := M_Reader_ahead) (d' := 1) (kc := 0) (ks := 0) (kc' := 0) (ks' := 0) (n := 1) d_Reader_readCall_16 ok_Reader_ahead ml_Reader_83 (by decide) rfl (Nat.le_of_ble_eq_true rfl) ⟨tw_437, ts_Reader_ahead⟩ wg_1 rfl (ct_Reader_ahead_1 h) (fun v w h => ?_)
    obtain ⟨r3, i3, l3, a3, b3, rfl, rfl, h⟩ := h
    refine mm_eqs (st2 := [.int r3]) rfl ?_
    refine mm_bipush (M := M_Reader_readCall) (v := 41) d_Reader_readCall_19 (by decide) ?_
    refine mm_icmp_eq (M := M_Reader_readCall) 29 d_Reader_readCall_21 (by decide) (fun c => ?_) (fun c => ?_)
    · have h := h.1 c
      refine mm_aload_n (M := M_Reader_readCall) d_Reader_readCall_29 rfl ?_
      refine mm_aload_n (M := M_Reader_readCall) d_Reader_readCall_30 rfl ?_
      refine mm_getf (M := M_Reader_readCall) (u := .int (i3 25)) 2 9 d_Reader_readCall_31 fl_Reader_50 wg_1 rfl ?_
      refine mm_iload_n (M := M_Reader_readCall) d_Reader_readCall_34 rfl ?_
      refine mm_mmax (M := M_Reader_readCall) d_Reader_readCall_35 tw_460 tw_161 tw_6 tw_162 (Nat.le_of_ble_eq_true rfl) (by decide) ?_
      refine mm_putf (M := M_Reader_readCall) 2 9 .int d_Reader_readCall_38 fl_Reader_50 fp_Reader_50 ft_2_9 wg_1 (Nat.le_of_ble_eq_true rfl) trivial ?_
      refine mm_eqw ws_25 ?_
      refine mm_aload_n (M := M_Reader_readCall) d_Reader_readCall_41 rfl ?_
      refine mm_dup (M := M_Reader_readCall) d_Reader_readCall_42 rfl ?_
      refine mm_getf (M := M_Reader_readCall) (u := .int (i3 23)) 2 7 d_Reader_readCall_43 fl_Reader_44 wg_1 rfl ?_
      refine mm_iconst (M := M_Reader_readCall) (v := 4) d_Reader_readCall_46 (by decide) ?_
      refine mm_iadd (M := M_Reader_readCall) d_Reader_readCall_47 ?_
      refine mm_putf (M := M_Reader_readCall) 2 7 .int d_Reader_readCall_48 fl_Reader_44 fp_Reader_44 ft_2_7 wg_1 (Nat.le_of_ble_eq_true rfl) trivial ?_
      refine mm_eqw ws_23 ?_
      refine mm_aload_n (M := M_Reader_readCall) d_Reader_readCall_51 rfl ?_
      refine mm_iconst (M := M_Reader_readCall) (v := 4) d_Reader_readCall_52 (by decide) ?_
      refine mm_iload_n (M := M_Reader_readCall) d_Reader_readCall_53 rfl ?_
      refine mm_eqs (st2 := [.int 4, .int (r1 - (48 : Int32))].reverse ++ .ref 1 :: []) rfl ?_
      refine mm_callV (M := M_Reader_readCall) (y := y_Reader_appendItem) (M' := M_Reader_appendItem) (d' := 1) (kc := 0) (ks := 0) (kc' := 0) (ks' := 0) (n := 2) d_Reader_readCall_54 ok_Reader_appendItem ml_Reader_127 (by decide) rfl (Nat.le_of_ble_eq_true rfl) ⟨tw_463, ts_Reader_appendItem⟩ wg_1 rfl (ct_Reader_appendItem_1 h) (fun v w h => ?_)
      obtain ⟨r4, i4, l4, a4, b4, rfl, rfl, h⟩ := h
      refine mm_eqs (st2 := [.int r4]) rfl ?_
      exact mm_retv (M := M_Reader_readCall) ⟨_, rfl, rfl, d_Reader_readCall_57⟩ ⟨_, _, _, _, _, rfl, rfl, h⟩
    · have h := h.2 c
      refine mm_aload_n (M := M_Reader_readCall) d_Reader_readCall_24 rfl ?_
      refine mm_eqs (st2 := [].reverse ++ .ref 1 :: []) rfl ?_
      refine mm_callV (M := M_Reader_readCall) (y := y_Reader_refuse) (M' := M_Reader_refuse) (d' := 0) (kc := 0) (ks := 0) (kc' := 0) (ks' := 0) (n := 0) d_Reader_readCall_25 ok_Reader_refuse ml_Reader_124 (by decide) rfl (Nat.le_of_ble_eq_true rfl) ⟨tw_453, ts_Reader_refuse⟩ wg_1 rfl (ct_Reader_refuse_1 h) (fun v w h => ?_)
      obtain ⟨r5, i5, l5, a5, b5, rfl, rfl, h⟩ := h
      refine mm_eqs (st2 := [.int r5]) rfl ?_
      exact mm_retv (M := M_Reader_readCall) ⟨_, rfl, rfl, d_Reader_readCall_28⟩ ⟨_, _, _, _, _, rfl, rfl, h⟩
def wp_Reader_readReference_1 (n1 n2 : Nat) (i : mm_i) (l : mm_j) (a : mm_a) (b : mm_b)  (K : Int32 → mm_i → mm_j → mm_a → mm_b → Prop) : Prop :=
  wp_Reader_ahead_1 n1 n2 i l a b 1 (fun r1 i1 l1 a1 b1 => ((r1 - (48 : Int32)) < (1 : Int32) → wp_Reader_refuse_1 n1 n2 i1 l1 a1 b1 (fun r2 i2 l2 a2 b2 => K r2 i2 l2 a2 b2)) ∧ (¬ (r1 - (48 : Int32)) < (1 : Int32) → ((r1 - (48 : Int32)) ≤ (4 : Int32) → wp_Reader_appendItem_1 n1 n2 (upd (upd i1 25 (if (i1 25) < (r1 - (48 : Int32)) then (r1 - (48 : Int32)) else (i1 25))) 23 ((i1 23) + (2 : Int32))) l1 a1 b1 3 (r1 - (48 : Int32)) (fun r3 i3 l3 a3 b3 => K r3 i3 l3 a3 b3)) ∧ (¬ (r1 - (48 : Int32)) ≤ (4 : Int32) → wp_Reader_refuse_1 n1 n2 i1 l1 a1 b1 (fun r4 i4 l4 a4 b4 => K r4 i4 l4 a4 b4))))
set_option maxRecDepth 100000 in
set_option maxHeartbeats 4000000 in
theorem ct_Reader_readReference_1 {n1 n2 : Nat} {i : mm_i} {l : mm_j} {a : mm_a} {b : mm_b} {t : mm_H}  {K : Int32 → mm_i → mm_j → mm_a → mm_b → Prop} (h : wp_Reader_readReference_1 n1 n2 i l a b  K) : mm_Ct y_Reader_readReference M_Reader_readReference 2 0 0 [.ref 1] (Wd 4 22 n1 n2 i l a b ++ t) (mm_PI n1 n2 t K) := by
  refine mm_Ct.of (by decide) rfl (fun q => absurd q (by decide)) (Nat.le_of_ble_eq_true rfl) ?_
  unfold wp_Reader_readReference_1 at h
  refine mm_eqL (L' := [some (.ref 1), none]) rfl ?_
  refine mm_aload_n (M := M_Reader_readReference) d_Reader_readReference_0 rfl ?_
  refine mm_iconst (M := M_Reader_readReference) (v := 1) d_Reader_readReference_1 (by decide) ?_
  refine mm_eqs (st2 := [.int 1].reverse ++ .ref 1 :: []) rfl ?_
  refine mm_callV (M := M_Reader_readReference) (y := y_Reader_ahead) (M' := M_Reader_ahead) (d' := 1) (kc := 0) (ks := 0) (kc' := 0) (ks' := 0) (n := 1) d_Reader_readReference_2 ok_Reader_ahead ml_Reader_83 (by decide) rfl (Nat.le_of_ble_eq_true rfl) ⟨tw_437, ts_Reader_ahead⟩ wg_1 rfl (ct_Reader_ahead_1 h) (fun v w h => ?_)
  obtain ⟨r1, i1, l1, a1, b1, rfl, rfl, h⟩ := h
  refine mm_eqs (st2 := [.int r1]) rfl ?_
  refine mm_bipush (M := M_Reader_readReference) (v := 48) d_Reader_readReference_5 (by decide) ?_
  refine mm_isub (M := M_Reader_readReference) d_Reader_readReference_7 ?_
  refine mm_istore_n (M := M_Reader_readReference) d_Reader_readReference_8 (Nat.le_of_ble_eq_true rfl) ?_
  refine mm_eqL (L' := [some (.ref 1), some (.int (r1 - (48 : Int32)))]) rfl ?_
  refine mm_iload_n (M := M_Reader_readReference) d_Reader_readReference_9 rfl ?_
  refine mm_iconst (M := M_Reader_readReference) (v := 1) d_Reader_readReference_10 (by decide) ?_
  refine mm_icmp_lt (M := M_Reader_readReference) 19 d_Reader_readReference_11 (by decide) (fun c => ?_) (fun c => ?_)
  · have h := h.1 c
    refine mm_aload_n (M := M_Reader_readReference) d_Reader_readReference_19 rfl ?_
    refine mm_eqs (st2 := [].reverse ++ .ref 1 :: []) rfl ?_
    refine mm_callV (M := M_Reader_readReference) (y := y_Reader_refuse) (M' := M_Reader_refuse) (d' := 0) (kc := 0) (ks := 0) (kc' := 0) (ks' := 0) (n := 0) d_Reader_readReference_20 ok_Reader_refuse ml_Reader_124 (by decide) rfl (Nat.le_of_ble_eq_true rfl) ⟨tw_453, ts_Reader_refuse⟩ wg_1 rfl (ct_Reader_refuse_1 h) (fun v w h => ?_)
    obtain ⟨r2, i2, l2, a2, b2, rfl, rfl, h⟩ := h
    refine mm_eqs (st2 := [.int r2]) rfl ?_
    exact mm_retv (M := M_Reader_readReference) ⟨_, rfl, rfl, d_Reader_readReference_23⟩ ⟨_, _, _, _, _, rfl, rfl, h⟩
  · have h := h.2 c
    refine mm_iload_n (M := M_Reader_readReference) d_Reader_readReference_14 rfl ?_
    refine mm_iconst (M := M_Reader_readReference) (v := 4) d_Reader_readReference_15 (by decide) ?_
    refine mm_icmp_le (M := M_Reader_readReference) 24 d_Reader_readReference_16 (by decide) (fun c => ?_) (fun c => ?_)
    · have h := h.1 c
      refine mm_aload_n (M := M_Reader_readReference) d_Reader_readReference_24 rfl ?_
      refine mm_aload_n (M := M_Reader_readReference) d_Reader_readReference_25 rfl ?_
      refine mm_getf (M := M_Reader_readReference) (u := .int (i1 25)) 2 9 d_Reader_readReference_26 fl_Reader_50 wg_1 rfl ?_
      refine mm_iload_n (M := M_Reader_readReference) d_Reader_readReference_29 rfl ?_
      refine mm_mmax (M := M_Reader_readReference) d_Reader_readReference_30 tw_460 tw_161 tw_6 tw_162 (Nat.le_of_ble_eq_true rfl) (by decide) ?_
      refine mm_putf (M := M_Reader_readReference) 2 9 .int d_Reader_readReference_33 fl_Reader_50 fp_Reader_50 ft_2_9 wg_1 (Nat.le_of_ble_eq_true rfl) trivial ?_
      refine mm_eqw ws_25 ?_
      refine mm_aload_n (M := M_Reader_readReference) d_Reader_readReference_36 rfl ?_
      refine mm_dup (M := M_Reader_readReference) d_Reader_readReference_37 rfl ?_
      refine mm_getf (M := M_Reader_readReference) (u := .int (i1 23)) 2 7 d_Reader_readReference_38 fl_Reader_44 wg_1 rfl ?_
      refine mm_iconst (M := M_Reader_readReference) (v := 2) d_Reader_readReference_41 (by decide) ?_
      refine mm_iadd (M := M_Reader_readReference) d_Reader_readReference_42 ?_
      refine mm_putf (M := M_Reader_readReference) 2 7 .int d_Reader_readReference_43 fl_Reader_44 fp_Reader_44 ft_2_7 wg_1 (Nat.le_of_ble_eq_true rfl) trivial ?_
      refine mm_eqw ws_23 ?_
      refine mm_aload_n (M := M_Reader_readReference) d_Reader_readReference_46 rfl ?_
      refine mm_iconst (M := M_Reader_readReference) (v := 3) d_Reader_readReference_47 (by decide) ?_
      refine mm_iload_n (M := M_Reader_readReference) d_Reader_readReference_48 rfl ?_
      refine mm_eqs (st2 := [.int 3, .int (r1 - (48 : Int32))].reverse ++ .ref 1 :: []) rfl ?_
      refine mm_callV (M := M_Reader_readReference) (y := y_Reader_appendItem) (M' := M_Reader_appendItem) (d' := 1) (kc := 0) (ks := 0) (kc' := 0) (ks' := 0) (n := 2) d_Reader_readReference_49 ok_Reader_appendItem ml_Reader_127 (by decide) rfl (Nat.le_of_ble_eq_true rfl) ⟨tw_463, ts_Reader_appendItem⟩ wg_1 rfl (ct_Reader_appendItem_1 h) (fun v w h => ?_)
      obtain ⟨r3, i3, l3, a3, b3, rfl, rfl, h⟩ := h
      refine mm_eqs (st2 := [.int r3]) rfl ?_
      exact mm_retv (M := M_Reader_readReference) ⟨_, rfl, rfl, d_Reader_readReference_52⟩ ⟨_, _, _, _, _, rfl, rfl, h⟩
    · have h := h.2 c
      refine mm_aload_n (M := M_Reader_readReference) d_Reader_readReference_19 rfl ?_
      refine mm_eqs (st2 := [].reverse ++ .ref 1 :: []) rfl ?_
      refine mm_callV (M := M_Reader_readReference) (y := y_Reader_refuse) (M' := M_Reader_refuse) (d' := 0) (kc := 0) (ks := 0) (kc' := 0) (ks' := 0) (n := 0) d_Reader_readReference_20 ok_Reader_refuse ml_Reader_124 (by decide) rfl (Nat.le_of_ble_eq_true rfl) ⟨tw_453, ts_Reader_refuse⟩ wg_1 rfl (ct_Reader_refuse_1 h) (fun v w h => ?_)
      obtain ⟨r4, i4, l4, a4, b4, rfl, rfl, h⟩ := h
      refine mm_eqs (st2 := [.int r4]) rfl ?_
      exact mm_retv (M := M_Reader_readReference) ⟨_, rfl, rfl, d_Reader_readReference_23⟩ ⟨_, _, _, _, _, rfl, rfl, h⟩
def wp_Reader_readSign_1 (n1 n2 : Nat) (i : mm_i) (l : mm_j) (a : mm_a) (b : mm_b)  (K : Int32 → mm_i → mm_j → mm_a → mm_b → Prop) : Prop :=
  wp_Reader_ahead_1 n1 n2 i l a b 0 (fun r1 i1 l1 a1 b1 => wp_Bench_isLetter n1 n2 (upd i1 23 ((i1 23) + (1 : Int32))) l1 a1 b1 r1 (fun r2 i2 l2 a2 b2 => (r2 = 0 → (r1 = 36 → wp_Reader_appendItem_1 n1 n2 i2 l2 a2 b2 2 0 (fun r3 i3 l3 a3 b3 => K r3 i3 l3 a3 b3)) ∧ (¬ r1 = 36 → (r1 = 46 → wp_Reader_appendItem_1 n1 n2 i2 l2 a2 b2 0 67108863 (fun r4 i4 l4 a4 b4 => K r4 i4 l4 a4 b4)) ∧ (¬ r1 = 46 → (r1 = 94 → wp_Reader_appendItem_1 n1 n2 i2 l2 a2 b2 1 0 (fun r5 i5 l5 a5 b5 => K r5 i5 l5 a5 b5)) ∧ (¬ r1 = 94 → wp_Reader_refuse_1 n1 n2 i2 l2 a2 b2 (fun r6 i6 l6 a6 b6 => K r6 i6 l6 a6 b6))))) ∧ (¬ r2 = 0 → wp_Reader_lettersBetween n1 n2 i2 l2 a2 b2 r1 r1 (fun r7 i7 l7 a7 b7 => wp_Reader_appendItem_1 n1 n2 i7 l7 a7 b7 0 r7 (fun r8 i8 l8 a8 b8 => K r8 i8 l8 a8 b8)))))
set_option maxRecDepth 100000 in
set_option maxHeartbeats 4000000 in
theorem ct_Reader_readSign_1 {n1 n2 : Nat} {i : mm_i} {l : mm_j} {a : mm_a} {b : mm_b} {t : mm_H}  {K : Int32 → mm_i → mm_j → mm_a → mm_b → Prop} (h : wp_Reader_readSign_1 n1 n2 i l a b  K) : mm_Ct y_Reader_readSign M_Reader_readSign 2 0 0 [.ref 1] (Wd 4 22 n1 n2 i l a b ++ t) (mm_PI n1 n2 t K) := by
  refine mm_Ct.of (by decide) rfl (fun q => absurd q (by decide)) (Nat.le_of_ble_eq_true rfl) ?_
  unfold wp_Reader_readSign_1 at h
  refine mm_eqL (L' := [some (.ref 1), none]) rfl ?_
  refine mm_aload_n (M := M_Reader_readSign) d_Reader_readSign_0 rfl ?_
  refine mm_iconst (M := M_Reader_readSign) (v := 0) d_Reader_readSign_1 (by decide) ?_
  refine mm_eqs (st2 := [.int 0].reverse ++ .ref 1 :: []) rfl ?_
  refine mm_callV (M := M_Reader_readSign) (y := y_Reader_ahead) (M' := M_Reader_ahead) (d' := 1) (kc := 0) (ks := 0) (kc' := 0) (ks' := 0) (n := 1) d_Reader_readSign_2 ok_Reader_ahead ml_Reader_83 (by decide) rfl (Nat.le_of_ble_eq_true rfl) ⟨tw_437, ts_Reader_ahead⟩ wg_1 rfl (ct_Reader_ahead_1 h) (fun v w h => ?_)
  obtain ⟨r1, i1, l1, a1, b1, rfl, rfl, h⟩ := h
  refine mm_eqs (st2 := [.int r1]) rfl ?_
  refine mm_istore_n (M := M_Reader_readSign) d_Reader_readSign_5 (Nat.le_of_ble_eq_true rfl) ?_
  refine mm_eqL (L' := [some (.ref 1), some (.int r1)]) rfl ?_
  refine mm_aload_n (M := M_Reader_readSign) d_Reader_readSign_6 rfl ?_
  refine mm_dup (M := M_Reader_readSign) d_Reader_readSign_7 rfl ?_
  refine mm_getf (M := M_Reader_readSign) (u := .int (i1 23)) 2 7 d_Reader_readSign_8 fl_Reader_44 wg_1 rfl ?_
  refine mm_iconst (M := M_Reader_readSign) (v := 1) d_Reader_readSign_11 (by decide) ?_
  refine mm_iadd (M := M_Reader_readSign) d_Reader_readSign_12 ?_
  refine mm_putf (M := M_Reader_readSign) 2 7 .int d_Reader_readSign_13 fl_Reader_44 fp_Reader_44 ft_2_7 wg_1 (Nat.le_of_ble_eq_true rfl) trivial ?_
  refine mm_eqw ws_23 ?_
  refine mm_iload_n (M := M_Reader_readSign) d_Reader_readSign_16 rfl ?_
  refine mm_eqs (st2 := [.int r1].reverse ++ []) rfl ?_
  refine mm_callS (M := M_Reader_readSign) (y := y_Bench_isLetter) (M' := M_Bench_isLetter) (d' := 0) (kc := 0) (ks := 0) (kc' := 0) (ks' := 0) (n := 1) d_Reader_readSign_17 ok_Bench_isLetter ml_Reader_139 (by decide) rfl (Nat.le_of_ble_eq_true rfl) tw_313 (ct_Bench_isLetter h) (fun v w h => ?_)
  obtain ⟨r2, i2, l2, a2, b2, rfl, rfl, h⟩ := h
  refine mm_eqs (st2 := [.int r2]) rfl ?_
  refine mm_if_eq (M := M_Reader_readSign) 34 d_Reader_readSign_20 (by decide) (fun c => ?_) (fun c => ?_)
  · have h := h.1 c
    refine mm_iload_n (M := M_Reader_readSign) d_Reader_readSign_34 rfl ?_
    refine mm_lookup (M := M_Reader_readSign) [(36, 83), (46, 68), (94, 76)] 90 d_Reader_readSign_35 (by decide) (by decide +kernel) (by decide) ⟨fun c0 => ?_, fun c0 => ⟨fun c1 => ?_, fun c1 => ⟨fun c2 => ?_, fun c2 => ?_⟩⟩⟩
    · have h := h.1 c0
      refine mm_aload_n (M := M_Reader_readSign) d_Reader_readSign_83 rfl ?_
      refine mm_iconst (M := M_Reader_readSign) (v := 2) d_Reader_readSign_84 (by decide) ?_
      refine mm_iconst (M := M_Reader_readSign) (v := 0) d_Reader_readSign_85 (by decide) ?_
      refine mm_eqs (st2 := [.int 2, .int 0].reverse ++ .ref 1 :: []) rfl ?_
      refine mm_callV (M := M_Reader_readSign) (y := y_Reader_appendItem) (M' := M_Reader_appendItem) (d' := 1) (kc := 0) (ks := 0) (kc' := 0) (ks' := 0) (n := 2) d_Reader_readSign_86 ok_Reader_appendItem ml_Reader_127 (by decide) rfl (Nat.le_of_ble_eq_true rfl) ⟨tw_463, ts_Reader_appendItem⟩ wg_1 rfl (ct_Reader_appendItem_1 h) (fun v w h => ?_)
      obtain ⟨r3, i3, l3, a3, b3, rfl, rfl, h⟩ := h
      refine mm_eqs (st2 := [.int r3]) rfl ?_
      exact mm_retv (M := M_Reader_readSign) ⟨_, rfl, rfl, d_Reader_readSign_89⟩ ⟨_, _, _, _, _, rfl, rfl, h⟩
    · have h := (h.2 c0).1 c1
      refine mm_aload_n (M := M_Reader_readSign) d_Reader_readSign_68 rfl ?_
      refine mm_iconst (M := M_Reader_readSign) (v := 0) d_Reader_readSign_69 (by decide) ?_
      refine mm_ldc (M := M_Reader_readSign) (v := 67108863) d_Reader_readSign_70 tw_489 ?_
      refine mm_eqs (st2 := [.int 0, .int 67108863].reverse ++ .ref 1 :: []) rfl ?_
      refine mm_callV (M := M_Reader_readSign) (y := y_Reader_appendItem) (M' := M_Reader_appendItem) (d' := 1) (kc := 0) (ks := 0) (kc' := 0) (ks' := 0) (n := 2) d_Reader_readSign_72 ok_Reader_appendItem ml_Reader_127 (by decide) rfl (Nat.le_of_ble_eq_true rfl) ⟨tw_463, ts_Reader_appendItem⟩ wg_1 rfl (ct_Reader_appendItem_1 h) (fun v w h => ?_)
      obtain ⟨r4, i4, l4, a4, b4, rfl, rfl, h⟩ := h
      refine mm_eqs (st2 := [.int r4]) rfl ?_
      exact mm_retv (M := M_Reader_readSign) ⟨_, rfl, rfl, d_Reader_readSign_75⟩ ⟨_, _, _, _, _, rfl, rfl, h⟩
    · have h := ((h.2 c0).2 c1).1 c2
      refine mm_aload_n (M := M_Reader_readSign) d_Reader_readSign_76 rfl ?_
      refine mm_iconst (M := M_Reader_readSign) (v := 1) d_Reader_readSign_77 (by decide) ?_
      refine mm_iconst (M := M_Reader_readSign) (v := 0) d_Reader_readSign_78 (by decide) ?_
      refine mm_eqs (st2 := [.int 1, .int 0].reverse ++ .ref 1 :: []) rfl ?_
      refine mm_callV (M := M_Reader_readSign) (y := y_Reader_appendItem) (M' := M_Reader_appendItem) (d' := 1) (kc := 0) (ks := 0) (kc' := 0) (ks' := 0) (n := 2) d_Reader_readSign_79 ok_Reader_appendItem ml_Reader_127 (by decide) rfl (Nat.le_of_ble_eq_true rfl) ⟨tw_463, ts_Reader_appendItem⟩ wg_1 rfl (ct_Reader_appendItem_1 h) (fun v w h => ?_)
      obtain ⟨r5, i5, l5, a5, b5, rfl, rfl, h⟩ := h
      refine mm_eqs (st2 := [.int r5]) rfl ?_
      exact mm_retv (M := M_Reader_readSign) ⟨_, rfl, rfl, d_Reader_readSign_82⟩ ⟨_, _, _, _, _, rfl, rfl, h⟩
    · have h := (((h.2 c0).2 c1).2 c2)
      refine mm_aload_n (M := M_Reader_readSign) d_Reader_readSign_90 rfl ?_
      refine mm_eqs (st2 := [].reverse ++ .ref 1 :: []) rfl ?_
      refine mm_callV (M := M_Reader_readSign) (y := y_Reader_refuse) (M' := M_Reader_refuse) (d' := 0) (kc := 0) (ks := 0) (kc' := 0) (ks' := 0) (n := 0) d_Reader_readSign_91 ok_Reader_refuse ml_Reader_124 (by decide) rfl (Nat.le_of_ble_eq_true rfl) ⟨tw_453, ts_Reader_refuse⟩ wg_1 rfl (ct_Reader_refuse_1 h) (fun v w h => ?_)
      obtain ⟨r6, i6, l6, a6, b6, rfl, rfl, h⟩ := h
      refine mm_eqs (st2 := [.int r6]) rfl ?_
      exact mm_retv (M := M_Reader_readSign) ⟨_, rfl, rfl, d_Reader_readSign_94⟩ ⟨_, _, _, _, _, rfl, rfl, h⟩
  · have h := h.2 c
    refine mm_aload_n (M := M_Reader_readSign) d_Reader_readSign_23 rfl ?_
    refine mm_iconst (M := M_Reader_readSign) (v := 0) d_Reader_readSign_24 (by decide) ?_
    refine mm_iload_n (M := M_Reader_readSign) d_Reader_readSign_25 rfl ?_
    refine mm_iload_n (M := M_Reader_readSign) d_Reader_readSign_26 rfl ?_
    refine mm_eqs (st2 := [.int r1, .int r1].reverse ++ [.int 0, .ref 1]) rfl ?_
    refine mm_callS (M := M_Reader_readSign) (y := y_Reader_lettersBetween) (M' := M_Reader_lettersBetween) (d' := 0) (kc := 0) (ks := 0) (kc' := 0) (ks' := 0) (n := 2) d_Reader_readSign_27 ok_Reader_lettersBetween ml_Reader_142 (by decide) rfl (Nat.le_of_ble_eq_true rfl) tw_487 (ct_Reader_lettersBetween h) (fun v w h => ?_)
    obtain ⟨r7, i7, l7, a7, b7, rfl, rfl, h⟩ := h
    refine mm_eqs (st2 := [.int r7, .int 0, .ref 1]) rfl ?_
    refine mm_eqs (st2 := [.int 0, .int r7].reverse ++ .ref 1 :: []) rfl ?_
    refine mm_callV (M := M_Reader_readSign) (y := y_Reader_appendItem) (M' := M_Reader_appendItem) (d' := 1) (kc := 0) (ks := 0) (kc' := 0) (ks' := 0) (n := 2) d_Reader_readSign_30 ok_Reader_appendItem ml_Reader_127 (by decide) rfl (Nat.le_of_ble_eq_true rfl) ⟨tw_463, ts_Reader_appendItem⟩ wg_1 rfl (ct_Reader_appendItem_1 h) (fun v w h => ?_)
    obtain ⟨r8, i8, l8, a8, b8, rfl, rfl, h⟩ := h
    refine mm_eqs (st2 := [.int r8]) rfl ?_
    exact mm_retv (M := M_Reader_readSign) ⟨_, rfl, rfl, d_Reader_readSign_33⟩ ⟨_, _, _, _, _, rfl, rfl, h⟩
def wp_Reader_readClassPart_1 (n1 n2 : Nat) (i : mm_i) (l : mm_j) (a : mm_a) (b : mm_b)  (K : Int32 → mm_i → mm_j → mm_a → mm_b → Prop) : Prop :=
  wp_Reader_ahead_1 n1 n2 i l a b 0 (fun r1 i1 l1 a1 b1 => wp_Reader_ahead_1 n1 n2 i1 l1 a1 b1 1 (fun r2 i2 l2 a2 b2 => (r2 = (45 : Int32) → wp_Reader_ahead_1 n1 n2 i2 l2 a2 b2 2 (fun r3 i3 l3 a3 b3 => wp_Bench_isLetter n1 n2 (upd i3 23 ((i3 23) + (3 : Int32))) l3 a3 b3 r3 (fun r4 i4 l4 a4 b4 => (r4 = 0 → K 0 (upd i4 26 0) l4 a4 b4) ∧ (¬ r4 = 0 → (r1 ≤ r3 → wp_Reader_lettersBetween n1 n2 i4 l4 a4 b4 r1 r3 (fun r5 i5 l5 a5 b5 => K r5 i5 l5 a5 b5)) ∧ (¬ r1 ≤ r3 → K 0 (upd i4 26 0) l4 a4 b4))))) ∧ (¬ r2 = (45 : Int32) → wp_Reader_lettersBetween n1 n2 (upd i2 23 ((i2 23) + (1 : Int32))) l2 a2 b2 r1 r1 (fun r6 i6 l6 a6 b6 => K r6 i6 l6 a6 b6))))
set_option maxRecDepth 100000 in
set_option maxHeartbeats 4000000 in
theorem ct_Reader_readClassPart_1 {n1 n2 : Nat} {i : mm_i} {l : mm_j} {a : mm_a} {b : mm_b} {t : mm_H}  {K : Int32 → mm_i → mm_j → mm_a → mm_b → Prop} (h : wp_Reader_readClassPart_1 n1 n2 i l a b  K) : mm_Ct y_Reader_readClassPart M_Reader_readClassPart 2 0 0 [.ref 1] (Wd 4 22 n1 n2 i l a b ++ t) (mm_PI n1 n2 t K) := by
  refine mm_Ct.of (by decide) rfl (fun q => absurd q (by decide)) (Nat.le_of_ble_eq_true rfl) ?_
  unfold wp_Reader_readClassPart_1 at h
  refine mm_eqL (L' := [some (.ref 1), none, none]) rfl ?_
  refine mm_aload_n (M := M_Reader_readClassPart) d_Reader_readClassPart_0 rfl ?_
  refine mm_iconst (M := M_Reader_readClassPart) (v := 0) d_Reader_readClassPart_1 (by decide) ?_
  refine mm_eqs (st2 := [.int 0].reverse ++ .ref 1 :: []) rfl ?_
  refine mm_callV (M := M_Reader_readClassPart) (y := y_Reader_ahead) (M' := M_Reader_ahead) (d' := 1) (kc := 0) (ks := 0) (kc' := 0) (ks' := 0) (n := 1) d_Reader_readClassPart_2 ok_Reader_ahead ml_Reader_83 (by decide) rfl (Nat.le_of_ble_eq_true rfl) ⟨tw_437, ts_Reader_ahead⟩ wg_1 rfl (ct_Reader_ahead_1 h) (fun v w h => ?_)
  obtain ⟨r1, i1, l1, a1, b1, rfl, rfl, h⟩ := h
  refine mm_eqs (st2 := [.int r1]) rfl ?_
  refine mm_istore_n (M := M_Reader_readClassPart) d_Reader_readClassPart_5 (Nat.le_of_ble_eq_true rfl) ?_
  refine mm_eqL (L' := [some (.ref 1), some (.int r1), none]) rfl ?_
  refine mm_aload_n (M := M_Reader_readClassPart) d_Reader_readClassPart_6 rfl ?_
  refine mm_iconst (M := M_Reader_readClassPart) (v := 1) d_Reader_readClassPart_7 (by decide) ?_
  refine mm_eqs (st2 := [.int 1].reverse ++ .ref 1 :: []) rfl ?_
  refine mm_callV (M := M_Reader_readClassPart) (y := y_Reader_ahead) (M' := M_Reader_ahead) (d' := 1) (kc := 0) (ks := 0) (kc' := 0) (ks' := 0) (n := 1) d_Reader_readClassPart_8 ok_Reader_ahead ml_Reader_83 (by decide) rfl (Nat.le_of_ble_eq_true rfl) ⟨tw_437, ts_Reader_ahead⟩ wg_1 rfl (ct_Reader_ahead_1 h) (fun v w h => ?_)
  obtain ⟨r2, i2, l2, a2, b2, rfl, rfl, h⟩ := h
  refine mm_eqs (st2 := [.int r2]) rfl ?_
  refine mm_bipush (M := M_Reader_readClassPart) (v := 45) d_Reader_readClassPart_11 (by decide) ?_
  refine mm_icmp_eq (M := M_Reader_readClassPart) 32 d_Reader_readClassPart_13 (by decide) (fun c => ?_) (fun c => ?_)
  · have h := h.1 c
    refine mm_aload_n (M := M_Reader_readClassPart) d_Reader_readClassPart_32 rfl ?_
    refine mm_iconst (M := M_Reader_readClassPart) (v := 2) d_Reader_readClassPart_33 (by decide) ?_
    refine mm_eqs (st2 := [.int 2].reverse ++ .ref 1 :: []) rfl ?_
    refine mm_callV (M := M_Reader_readClassPart) (y := y_Reader_ahead) (M' := M_Reader_ahead) (d' := 1) (kc := 0) (ks := 0) (kc' := 0) (ks' := 0) (n := 1) d_Reader_readClassPart_34 ok_Reader_ahead ml_Reader_83 (by decide) rfl (Nat.le_of_ble_eq_true rfl) ⟨tw_437, ts_Reader_ahead⟩ wg_1 rfl (ct_Reader_ahead_1 h) (fun v w h => ?_)
    obtain ⟨r3, i3, l3, a3, b3, rfl, rfl, h⟩ := h
    refine mm_eqs (st2 := [.int r3]) rfl ?_
    refine mm_istore_n (M := M_Reader_readClassPart) d_Reader_readClassPart_37 (Nat.le_of_ble_eq_true rfl) ?_
    refine mm_eqL (L' := [some (.ref 1), some (.int r1), some (.int r3)]) rfl ?_
    refine mm_aload_n (M := M_Reader_readClassPart) d_Reader_readClassPart_38 rfl ?_
    refine mm_dup (M := M_Reader_readClassPart) d_Reader_readClassPart_39 rfl ?_
    refine mm_getf (M := M_Reader_readClassPart) (u := .int (i3 23)) 2 7 d_Reader_readClassPart_40 fl_Reader_44 wg_1 rfl ?_
    refine mm_iconst (M := M_Reader_readClassPart) (v := 3) d_Reader_readClassPart_43 (by decide) ?_
    refine mm_iadd (M := M_Reader_readClassPart) d_Reader_readClassPart_44 ?_
    refine mm_putf (M := M_Reader_readClassPart) 2 7 .int d_Reader_readClassPart_45 fl_Reader_44 fp_Reader_44 ft_2_7 wg_1 (Nat.le_of_ble_eq_true rfl) trivial ?_
    refine mm_eqw ws_23 ?_
    refine mm_iload_n (M := M_Reader_readClassPart) d_Reader_readClassPart_48 rfl ?_
    refine mm_eqs (st2 := [.int r3].reverse ++ []) rfl ?_
    refine mm_callS (M := M_Reader_readClassPart) (y := y_Bench_isLetter) (M' := M_Bench_isLetter) (d' := 0) (kc := 0) (ks := 0) (kc' := 0) (ks' := 0) (n := 1) d_Reader_readClassPart_49 ok_Bench_isLetter ml_Reader_139 (by decide) rfl (Nat.le_of_ble_eq_true rfl) tw_313 (ct_Bench_isLetter h) (fun v w h => ?_)
    obtain ⟨r4, i4, l4, a4, b4, rfl, rfl, h⟩ := h
    refine mm_eqs (st2 := [.int r4]) rfl ?_
    refine mm_if_eq (M := M_Reader_readClassPart) 60 d_Reader_readClassPart_52 (by decide) (fun c => ?_) (fun c => ?_)
    · have h := h.1 c
      refine mm_aload_n (M := M_Reader_readClassPart) d_Reader_readClassPart_60 rfl ?_
      refine mm_iconst (M := M_Reader_readClassPart) (v := 0) d_Reader_readClassPart_61 (by decide) ?_
      refine mm_putf (M := M_Reader_readClassPart) 2 10 .boolean d_Reader_readClassPart_62 fl_Reader_53 fp_Reader_53 ft_2_10 wg_1 (Nat.le_of_ble_eq_true rfl) (Or.inl rfl) ?_
      refine mm_eqw ws_26 ?_
      refine mm_iconst (M := M_Reader_readClassPart) (v := 0) d_Reader_readClassPart_65 (by decide) ?_
      exact mm_retv (M := M_Reader_readClassPart) ⟨_, rfl, rfl, d_Reader_readClassPart_66⟩ ⟨_, _, _, _, _, rfl, rfl, h⟩
    · have h := h.2 c
      refine mm_iload_n (M := M_Reader_readClassPart) d_Reader_readClassPart_55 rfl ?_
      refine mm_iload_n (M := M_Reader_readClassPart) d_Reader_readClassPart_56 rfl ?_
      refine mm_icmp_ge (M := M_Reader_readClassPart) 67 d_Reader_readClassPart_57 (by decide) (fun c => ?_) (fun c => ?_)
      · have h := h.1 c
        refine mm_iload_n (M := M_Reader_readClassPart) d_Reader_readClassPart_67 rfl ?_
        refine mm_iload_n (M := M_Reader_readClassPart) d_Reader_readClassPart_68 rfl ?_
        refine mm_eqs (st2 := [.int r1, .int r3].reverse ++ []) rfl ?_
        refine mm_callS (M := M_Reader_readClassPart) (y := y_Reader_lettersBetween) (M' := M_Reader_lettersBetween) (d' := 0) (kc := 0) (ks := 0) (kc' := 0) (ks' := 0) (n := 2) d_Reader_readClassPart_69 ok_Reader_lettersBetween ml_Reader_142 (by decide) rfl (Nat.le_of_ble_eq_true rfl) tw_487 (ct_Reader_lettersBetween h) (fun v w h => ?_)
        obtain ⟨r5, i5, l5, a5, b5, rfl, rfl, h⟩ := h
        refine mm_eqs (st2 := [.int r5]) rfl ?_
        exact mm_retv (M := M_Reader_readClassPart) ⟨_, rfl, rfl, d_Reader_readClassPart_72⟩ ⟨_, _, _, _, _, rfl, rfl, h⟩
      · have h := h.2 c
        refine mm_aload_n (M := M_Reader_readClassPart) d_Reader_readClassPart_60 rfl ?_
        refine mm_iconst (M := M_Reader_readClassPart) (v := 0) d_Reader_readClassPart_61 (by decide) ?_
        refine mm_putf (M := M_Reader_readClassPart) 2 10 .boolean d_Reader_readClassPart_62 fl_Reader_53 fp_Reader_53 ft_2_10 wg_1 (Nat.le_of_ble_eq_true rfl) (Or.inl rfl) ?_
        refine mm_eqw ws_26 ?_
        refine mm_iconst (M := M_Reader_readClassPart) (v := 0) d_Reader_readClassPart_65 (by decide) ?_
        exact mm_retv (M := M_Reader_readClassPart) ⟨_, rfl, rfl, d_Reader_readClassPart_66⟩ ⟨_, _, _, _, _, rfl, rfl, h⟩
  · have h := h.2 c
    refine mm_aload_n (M := M_Reader_readClassPart) d_Reader_readClassPart_16 rfl ?_
    refine mm_dup (M := M_Reader_readClassPart) d_Reader_readClassPart_17 rfl ?_
    refine mm_getf (M := M_Reader_readClassPart) (u := .int (i2 23)) 2 7 d_Reader_readClassPart_18 fl_Reader_44 wg_1 rfl ?_
    refine mm_iconst (M := M_Reader_readClassPart) (v := 1) d_Reader_readClassPart_21 (by decide) ?_
    refine mm_iadd (M := M_Reader_readClassPart) d_Reader_readClassPart_22 ?_
    refine mm_putf (M := M_Reader_readClassPart) 2 7 .int d_Reader_readClassPart_23 fl_Reader_44 fp_Reader_44 ft_2_7 wg_1 (Nat.le_of_ble_eq_true rfl) trivial ?_
    refine mm_eqw ws_23 ?_
    refine mm_iload_n (M := M_Reader_readClassPart) d_Reader_readClassPart_26 rfl ?_
    refine mm_iload_n (M := M_Reader_readClassPart) d_Reader_readClassPart_27 rfl ?_
    refine mm_eqs (st2 := [.int r1, .int r1].reverse ++ []) rfl ?_
    refine mm_callS (M := M_Reader_readClassPart) (y := y_Reader_lettersBetween) (M' := M_Reader_lettersBetween) (d' := 0) (kc := 0) (ks := 0) (kc' := 0) (ks' := 0) (n := 2) d_Reader_readClassPart_28 ok_Reader_lettersBetween ml_Reader_142 (by decide) rfl (Nat.le_of_ble_eq_true rfl) tw_487 (ct_Reader_lettersBetween h) (fun v w h => ?_)
    obtain ⟨r6, i6, l6, a6, b6, rfl, rfl, h⟩ := h
    refine mm_eqs (st2 := [.int r6]) rfl ?_
    exact mm_retv (M := M_Reader_readClassPart) ⟨_, rfl, rfl, d_Reader_readClassPart_31⟩ ⟨_, _, _, _, _, rfl, rfl, h⟩
def wp_Reader_setRepeat_1 (n1 n2 : Nat) (i : mm_i) (l : mm_j) (a : mm_a) (b : mm_b) (x1 : Int32) (x2 : Int32) (x3 : Int32) (x4 : Int32) (K : mm_i → mm_j → mm_a → mm_b → Prop) : Prop :=
  vp_in x1 32 ∧ (vp_in (i 22) 7 ∧ (vp_in (i 22) 7 ∧ (wp_Reader_ahead_1 n1 n2 (upd i 23 ((i 23) + x3)) l (mm_ua (mm_ua a 7 (upd (a 7) x1.toNatClampNeg x2)) 18 (upd (a 18) (i 22).toNatClampNeg (((a 18) (i 22).toNatClampNeg) + x4))) b 0 (fun r1 i1 l1 a1 b1 => (¬ r1 = (63 : Int32) → wp_Reader_ahead_1 n1 n2 i1 l1 a1 b1 0 (fun r2 i2 l2 a2 b2 => (¬ r2 = (43 : Int32) → K i2 l2 a2 b2) ∧ (r2 = (43 : Int32) → vp_in x1 32 ∧ (K (upd i2 23 ((i2 23) + (1 : Int32))) l2 (mm_ua a2 9 (upd (a2 9) x1.toNatClampNeg 2)) b2)))) ∧ (r1 = (63 : Int32) → vp_in x1 32 ∧ (K (upd i1 23 ((i1 23) + (1 : Int32))) l1 (mm_ua a1 9 (upd (a1 9) x1.toNatClampNeg 1)) b1))))))
set_option maxRecDepth 100000 in
set_option maxHeartbeats 4000000 in
theorem ct_Reader_setRepeat_1 {n1 n2 : Nat} {i : mm_i} {l : mm_j} {a : mm_a} {b : mm_b} {t : mm_H} {x1 : Int32} {x2 : Int32} {x3 : Int32} {x4 : Int32} {K : mm_i → mm_j → mm_a → mm_b → Prop} (h : wp_Reader_setRepeat_1 n1 n2 i l a b x1 x2 x3 x4 K) : mm_Ct y_Reader_setRepeat M_Reader_setRepeat 2 0 0 [.ref 1, .int x1, .int x2, .int x3, .int x4] (Wd 4 22 n1 n2 i l a b ++ t) (mm_PV n1 n2 t K) := by
  refine mm_Ct.of (by decide) rfl (fun q => absurd q (by decide)) (Nat.le_of_ble_eq_true rfl) ?_
  unfold wp_Reader_setRepeat_1 at h
  refine mm_eqL (L' := [some (.ref 1), some (.int x1), some (.int x2), some (.int x3), some (.int x4)]) rfl ?_
  refine mm_aload_n (M := M_Reader_setRepeat) d_Reader_setRepeat_0 rfl ?_
  refine mm_getf (M := M_Reader_setRepeat) (u := .ref 4) 2 1 d_Reader_setRepeat_1 fl_Reader_23 wg_1 rfl ?_
  refine mm_getf (M := M_Reader_setRepeat) (u := .ref 7) 1 2 d_Reader_setRepeat_4 fl_Reader_168 wg_4 rfl ?_
  refine mm_iload_n (M := M_Reader_setRepeat) d_Reader_setRepeat_7 rfl ?_
  refine mm_iload_n (M := M_Reader_setRepeat) d_Reader_setRepeat_8 rfl ?_
  obtain ⟨hin, h⟩ := h
  refine mm_iast (M := M_Reader_setRepeat) (f := (a 7)) d_Reader_setRepeat_9 wg_7 hin ?_
  refine mm_eqw wa_7 ?_
  refine mm_aload_n (M := M_Reader_setRepeat) d_Reader_setRepeat_10 rfl ?_
  refine mm_getf (M := M_Reader_setRepeat) (u := .ref 18) 2 5 d_Reader_setRepeat_11 fl_Reader_37 wg_1 rfl ?_
  refine mm_aload_n (M := M_Reader_setRepeat) d_Reader_setRepeat_14 rfl ?_
  refine mm_getf (M := M_Reader_setRepeat) (u := .int (i 22)) 2 6 d_Reader_setRepeat_15 fl_Reader_40 wg_1 rfl ?_
  refine mm_dup2 (M := M_Reader_setRepeat) d_Reader_setRepeat_18 rfl rfl ?_
  obtain ⟨hin, h⟩ := h
  refine mm_iald (M := M_Reader_setRepeat) (f := (a 18)) d_Reader_setRepeat_19 wg_18 hin ?_
  refine mm_iload (M := M_Reader_setRepeat) d_Reader_setRepeat_20 rfl ?_
  refine mm_iadd (M := M_Reader_setRepeat) d_Reader_setRepeat_22 ?_
  obtain ⟨hin, h⟩ := h
  refine mm_iast (M := M_Reader_setRepeat) (f := (a 18)) d_Reader_setRepeat_23 wg_18 hin ?_
  refine mm_eqw wa_18 ?_
  refine mm_aload_n (M := M_Reader_setRepeat) d_Reader_setRepeat_24 rfl ?_
  refine mm_dup (M := M_Reader_setRepeat) d_Reader_setRepeat_25 rfl ?_
  refine mm_getf (M := M_Reader_setRepeat) (u := .int (i 23)) 2 7 d_Reader_setRepeat_26 fl_Reader_44 wg_1 rfl ?_
  refine mm_iload_n (M := M_Reader_setRepeat) d_Reader_setRepeat_29 rfl ?_
  refine mm_iadd (M := M_Reader_setRepeat) d_Reader_setRepeat_30 ?_
  refine mm_putf (M := M_Reader_setRepeat) 2 7 .int d_Reader_setRepeat_31 fl_Reader_44 fp_Reader_44 ft_2_7 wg_1 (Nat.le_of_ble_eq_true rfl) trivial ?_
  refine mm_eqw ws_23 ?_
  refine mm_aload_n (M := M_Reader_setRepeat) d_Reader_setRepeat_34 rfl ?_
  refine mm_iconst (M := M_Reader_setRepeat) (v := 0) d_Reader_setRepeat_35 (by decide) ?_
  refine mm_eqs (st2 := [.int 0].reverse ++ .ref 1 :: []) rfl ?_
  refine mm_callV (M := M_Reader_setRepeat) (y := y_Reader_ahead) (M' := M_Reader_ahead) (d' := 1) (kc := 0) (ks := 0) (kc' := 0) (ks' := 0) (n := 1) d_Reader_setRepeat_36 ok_Reader_ahead ml_Reader_83 (by decide) rfl (Nat.le_of_ble_eq_true rfl) ⟨tw_437, ts_Reader_ahead⟩ wg_1 rfl (ct_Reader_ahead_1 h) (fun v w h => ?_)
  obtain ⟨r1, i1, l1, a1, b1, rfl, rfl, h⟩ := h
  refine mm_eqs (st2 := [.int r1]) rfl ?_
  refine mm_bipush (M := M_Reader_setRepeat) (v := 63) d_Reader_setRepeat_39 (by decide) ?_
  refine mm_icmp_ne (M := M_Reader_setRepeat) 67 d_Reader_setRepeat_41 (by decide) (fun c => ?_) (fun c => ?_)
  · have h := h.1 c
    refine mm_aload_n (M := M_Reader_setRepeat) d_Reader_setRepeat_67 rfl ?_
    refine mm_iconst (M := M_Reader_setRepeat) (v := 0) d_Reader_setRepeat_68 (by decide) ?_
    refine mm_eqs (st2 := [.int 0].reverse ++ .ref 1 :: []) rfl ?_
    refine mm_callV (M := M_Reader_setRepeat) (y := y_Reader_ahead) (M' := M_Reader_ahead) (d' := 1) (kc := 0) (ks := 0) (kc' := 0) (ks' := 0) (n := 1) d_Reader_setRepeat_69 ok_Reader_ahead ml_Reader_83 (by decide) rfl (Nat.le_of_ble_eq_true rfl) ⟨tw_437, ts_Reader_ahead⟩ wg_1 rfl (ct_Reader_ahead_1 h) (fun v w h => ?_)
    obtain ⟨r2, i2, l2, a2, b2, rfl, rfl, h⟩ := h
    refine mm_eqs (st2 := [.int r2]) rfl ?_
    refine mm_bipush (M := M_Reader_setRepeat) (v := 43) d_Reader_setRepeat_72 (by decide) ?_
    refine mm_icmp_ne (M := M_Reader_setRepeat) 97 d_Reader_setRepeat_74 (by decide) (fun c => ?_) (fun c => ?_)
    · have h := h.1 c
      exact mm_ret (M := M_Reader_setRepeat) ⟨rfl, d_Reader_setRepeat_97⟩ ⟨_, _, _, _, rfl, rfl, h⟩
    · have h := h.2 c
      refine mm_aload_n (M := M_Reader_setRepeat) d_Reader_setRepeat_77 rfl ?_
      refine mm_getf (M := M_Reader_setRepeat) (u := .ref 4) 2 1 d_Reader_setRepeat_78 fl_Reader_23 wg_1 rfl ?_
      refine mm_getf (M := M_Reader_setRepeat) (u := .ref 9) 1 4 d_Reader_setRepeat_81 fl_Reader_171 wg_4 rfl ?_
      refine mm_iload_n (M := M_Reader_setRepeat) d_Reader_setRepeat_84 rfl ?_
      refine mm_iconst (M := M_Reader_setRepeat) (v := 2) d_Reader_setRepeat_85 (by decide) ?_
      obtain ⟨hin, h⟩ := h
      refine mm_iast (M := M_Reader_setRepeat) (f := (a2 9)) d_Reader_setRepeat_86 wg_9 hin ?_
      refine mm_eqw wa_9 ?_
      refine mm_aload_n (M := M_Reader_setRepeat) d_Reader_setRepeat_87 rfl ?_
      refine mm_dup (M := M_Reader_setRepeat) d_Reader_setRepeat_88 rfl ?_
      refine mm_getf (M := M_Reader_setRepeat) (u := .int (i2 23)) 2 7 d_Reader_setRepeat_89 fl_Reader_44 wg_1 rfl ?_
      refine mm_iconst (M := M_Reader_setRepeat) (v := 1) d_Reader_setRepeat_92 (by decide) ?_
      refine mm_iadd (M := M_Reader_setRepeat) d_Reader_setRepeat_93 ?_
      refine mm_putf (M := M_Reader_setRepeat) 2 7 .int d_Reader_setRepeat_94 fl_Reader_44 fp_Reader_44 ft_2_7 wg_1 (Nat.le_of_ble_eq_true rfl) trivial ?_
      refine mm_eqw ws_23 ?_
      exact mm_ret (M := M_Reader_setRepeat) ⟨rfl, d_Reader_setRepeat_97⟩ ⟨_, _, _, _, rfl, rfl, h⟩
  · have h := h.2 c
    refine mm_aload_n (M := M_Reader_setRepeat) d_Reader_setRepeat_44 rfl ?_
    refine mm_getf (M := M_Reader_setRepeat) (u := .ref 4) 2 1 d_Reader_setRepeat_45 fl_Reader_23 wg_1 rfl ?_
    refine mm_getf (M := M_Reader_setRepeat) (u := .ref 9) 1 4 d_Reader_setRepeat_48 fl_Reader_171 wg_4 rfl ?_
    refine mm_iload_n (M := M_Reader_setRepeat) d_Reader_setRepeat_51 rfl ?_
    refine mm_iconst (M := M_Reader_setRepeat) (v := 1) d_Reader_setRepeat_52 (by decide) ?_
    obtain ⟨hin, h⟩ := h
    refine mm_iast (M := M_Reader_setRepeat) (f := (a1 9)) d_Reader_setRepeat_53 wg_9 hin ?_
    refine mm_eqw wa_9 ?_
    refine mm_aload_n (M := M_Reader_setRepeat) d_Reader_setRepeat_54 rfl ?_
    refine mm_dup (M := M_Reader_setRepeat) d_Reader_setRepeat_55 rfl ?_
    refine mm_getf (M := M_Reader_setRepeat) (u := .int (i1 23)) 2 7 d_Reader_setRepeat_56 fl_Reader_44 wg_1 rfl ?_
    refine mm_iconst (M := M_Reader_setRepeat) (v := 1) d_Reader_setRepeat_59 (by decide) ?_
    refine mm_iadd (M := M_Reader_setRepeat) d_Reader_setRepeat_60 ?_
    refine mm_putf (M := M_Reader_setRepeat) 2 7 .int d_Reader_setRepeat_61 fl_Reader_44 fp_Reader_44 ft_2_7 wg_1 (Nat.le_of_ble_eq_true rfl) trivial ?_
    refine mm_eqw ws_23 ?_
    refine mm_goto (M := M_Reader_setRepeat) (tgt := 97) d_Reader_setRepeat_64 (by decide) ?_
    exact mm_ret (M := M_Reader_setRepeat) ⟨rfl, d_Reader_setRepeat_97⟩ ⟨_, _, _, _, rfl, rfl, h⟩
def wp_Reader_readTimes_1 (n1 n2 : Nat) (i : mm_i) (l : mm_j) (a : mm_a) (b : mm_b) (x1 : Int32) (K : mm_i → mm_j → mm_a → mm_b → Prop) : Prop :=
  wp_Reader_ahead_1 n1 n2 i l a b 1 (fun r1 i1 l1 a1 b1 => wp_Bench_isDigit n1 n2 i1 l1 a1 b1 r1 (fun r2 i2 l2 a2 b2 => (r2 = 0 → K (upd i2 26 0) l2 a2 b2) ∧ (¬ r2 = 0 → wp_Reader_ahead_1 n1 n2 i2 l2 a2 b2 2 (fun r3 i3 l3 a3 b3 => (r3 = (125 : Int32) → wp_Reader_ahead_1 n1 n2 i3 l3 a3 b3 1 (fun r4 i4 l4 a4 b4 => vp_in x1 32 ∧ ((¬ (r4 - (48 : Int32)) = 0 → wp_Reader_setRepeat_1 n1 n2 i4 l4 (mm_ua a4 8 (upd (a4 8) x1.toNatClampNeg (r4 - (48 : Int32)))) b4 x1 5 3 (((r4 - (48 : Int32)) * (i4 24)) + (1 : Int32)) (fun i5 l5 a5 b5 => K i5 l5 a5 b5)) ∧ ((r4 - (48 : Int32)) = 0 → wp_Reader_setRepeat_1 n1 n2 i4 l4 (mm_ua a4 8 (upd (a4 8) x1.toNatClampNeg (r4 - (48 : Int32)))) b4 x1 1 3 (((r4 - (48 : Int32)) * (i4 24)) + (1 : Int32)) (fun i6 l6 a6 b6 => K i6 l6 a6 b6))))) ∧ (¬ r3 = (125 : Int32) → K (upd i3 26 0) l3 a3 b3)))))
set_option maxRecDepth 100000 in
set_option maxHeartbeats 4000000 in
theorem ct_Reader_readTimes_1 {n1 n2 : Nat} {i : mm_i} {l : mm_j} {a : mm_a} {b : mm_b} {t : mm_H} {x1 : Int32} {K : mm_i → mm_j → mm_a → mm_b → Prop} (h : wp_Reader_readTimes_1 n1 n2 i l a b x1 K) : mm_Ct y_Reader_readTimes M_Reader_readTimes 3 0 0 [.ref 1, .int x1] (Wd 4 22 n1 n2 i l a b ++ t) (mm_PV n1 n2 t K) := by
  refine mm_Ct.of (by decide) rfl (fun q => absurd q (by decide)) (Nat.le_of_ble_eq_true rfl) ?_
  unfold wp_Reader_readTimes_1 at h
  refine mm_eqL (L' := [some (.ref 1), some (.int x1), none]) rfl ?_
  refine mm_aload_n (M := M_Reader_readTimes) d_Reader_readTimes_0 rfl ?_
  refine mm_iconst (M := M_Reader_readTimes) (v := 1) d_Reader_readTimes_1 (by decide) ?_
  refine mm_eqs (st2 := [.int 1].reverse ++ .ref 1 :: []) rfl ?_
  refine mm_callV (M := M_Reader_readTimes) (y := y_Reader_ahead) (M' := M_Reader_ahead) (d' := 1) (kc := 0) (ks := 0) (kc' := 0) (ks' := 0) (n := 1) d_Reader_readTimes_2 ok_Reader_ahead ml_Reader_83 (by decide) rfl (Nat.le_of_ble_eq_true rfl) ⟨tw_437, ts_Reader_ahead⟩ wg_1 rfl (ct_Reader_ahead_1 h) (fun v w h => ?_)
  obtain ⟨r1, i1, l1, a1, b1, rfl, rfl, h⟩ := h
  refine mm_eqs (st2 := [.int r1]) rfl ?_
  refine mm_eqs (st2 := [.int r1].reverse ++ []) rfl ?_
  refine mm_callS (M := M_Reader_readTimes) (y := y_Bench_isDigit) (M' := M_Bench_isDigit) (d' := 0) (kc := 0) (ks := 0) (kc' := 0) (ks' := 0) (n := 1) d_Reader_readTimes_5 ok_Bench_isDigit ml_Reader_93 (by decide) rfl (Nat.le_of_ble_eq_true rfl) tw_316 (ct_Bench_isDigit h) (fun v w h => ?_)
  obtain ⟨r2, i2, l2, a2, b2, rfl, rfl, h⟩ := h
  refine mm_eqs (st2 := [.int r2]) rfl ?_
  refine mm_if_eq (M := M_Reader_readTimes) 21 d_Reader_readTimes_8 (by decide) (fun c => ?_) (fun c => ?_)
  · have h := h.1 c
    refine mm_aload_n (M := M_Reader_readTimes) d_Reader_readTimes_21 rfl ?_
    refine mm_iconst (M := M_Reader_readTimes) (v := 0) d_Reader_readTimes_22 (by decide) ?_
    refine mm_putf (M := M_Reader_readTimes) 2 10 .boolean d_Reader_readTimes_23 fl_Reader_53 fp_Reader_53 ft_2_10 wg_1 (Nat.le_of_ble_eq_true rfl) (Or.inl rfl) ?_
    refine mm_eqw ws_26 ?_
    exact mm_ret (M := M_Reader_readTimes) ⟨rfl, d_Reader_readTimes_26⟩ ⟨_, _, _, _, rfl, rfl, h⟩
  · have h := h.2 c
    refine mm_aload_n (M := M_Reader_readTimes) d_Reader_readTimes_11 rfl ?_
    refine mm_iconst (M := M_Reader_readTimes) (v := 2) d_Reader_readTimes_12 (by decide) ?_
    refine mm_eqs (st2 := [.int 2].reverse ++ .ref 1 :: []) rfl ?_
    refine mm_callV (M := M_Reader_readTimes) (y := y_Reader_ahead) (M' := M_Reader_ahead) (d' := 1) (kc := 0) (ks := 0) (kc' := 0) (ks' := 0) (n := 1) d_Reader_readTimes_13 ok_Reader_ahead ml_Reader_83 (by decide) rfl (Nat.le_of_ble_eq_true rfl) ⟨tw_437, ts_Reader_ahead⟩ wg_1 rfl (ct_Reader_ahead_1 h) (fun v w h => ?_)
    obtain ⟨r3, i3, l3, a3, b3, rfl, rfl, h⟩ := h
    refine mm_eqs (st2 := [.int r3]) rfl ?_
    refine mm_bipush (M := M_Reader_readTimes) (v := 125) d_Reader_readTimes_16 (by decide) ?_
    refine mm_icmp_eq (M := M_Reader_readTimes) 27 d_Reader_readTimes_18 (by decide) (fun c => ?_) (fun c => ?_)
    · have h := h.1 c
      refine mm_aload_n (M := M_Reader_readTimes) d_Reader_readTimes_27 rfl ?_
      refine mm_iconst (M := M_Reader_readTimes) (v := 1) d_Reader_readTimes_28 (by decide) ?_
      refine mm_eqs (st2 := [.int 1].reverse ++ .ref 1 :: []) rfl ?_
      refine mm_callV (M := M_Reader_readTimes) (y := y_Reader_ahead) (M' := M_Reader_ahead) (d' := 1) (kc := 0) (ks := 0) (kc' := 0) (ks' := 0) (n := 1) d_Reader_readTimes_29 ok_Reader_ahead ml_Reader_83 (by decide) rfl (Nat.le_of_ble_eq_true rfl) ⟨tw_437, ts_Reader_ahead⟩ wg_1 rfl (ct_Reader_ahead_1 h) (fun v w h => ?_)
      obtain ⟨r4, i4, l4, a4, b4, rfl, rfl, h⟩ := h
      refine mm_eqs (st2 := [.int r4]) rfl ?_
      refine mm_bipush (M := M_Reader_readTimes) (v := 48) d_Reader_readTimes_32 (by decide) ?_
      refine mm_isub (M := M_Reader_readTimes) d_Reader_readTimes_34 ?_
      refine mm_istore_n (M := M_Reader_readTimes) d_Reader_readTimes_35 (Nat.le_of_ble_eq_true rfl) ?_
      refine mm_eqL (L' := [some (.ref 1), some (.int x1), some (.int (r4 - (48 : Int32)))]) rfl ?_
      refine mm_aload_n (M := M_Reader_readTimes) d_Reader_readTimes_36 rfl ?_
      refine mm_getf (M := M_Reader_readTimes) (u := .ref 4) 2 1 d_Reader_readTimes_37 fl_Reader_23 wg_1 rfl ?_
      refine mm_getf (M := M_Reader_readTimes) (u := .ref 8) 1 3 d_Reader_readTimes_40 fl_Reader_165 wg_4 rfl ?_
      refine mm_iload_n (M := M_Reader_readTimes) d_Reader_readTimes_43 rfl ?_
      refine mm_iload_n (M := M_Reader_readTimes) d_Reader_readTimes_44 rfl ?_
      obtain ⟨hin, h⟩ := h
      refine mm_iast (M := M_Reader_readTimes) (f := (a4 8)) d_Reader_readTimes_45 wg_8 hin ?_
      refine mm_eqw wa_8 ?_
      refine mm_aload_n (M := M_Reader_readTimes) d_Reader_readTimes_46 rfl ?_
      refine mm_iload_n (M := M_Reader_readTimes) d_Reader_readTimes_47 rfl ?_
      refine mm_iload_n (M := M_Reader_readTimes) d_Reader_readTimes_48 rfl ?_
      refine mm_if_ne (M := M_Reader_readTimes) 56 d_Reader_readTimes_49 (by decide) (fun c => ?_) (fun c => ?_)
      · have h := h.1 c
        refine mm_iconst (M := M_Reader_readTimes) (v := 5) d_Reader_readTimes_56 (by decide) ?_
        refine mm_iconst (M := M_Reader_readTimes) (v := 3) d_Reader_readTimes_57 (by decide) ?_
        refine mm_iload_n (M := M_Reader_readTimes) d_Reader_readTimes_58 rfl ?_
        refine mm_aload_n (M := M_Reader_readTimes) d_Reader_readTimes_59 rfl ?_
        refine mm_getf (M := M_Reader_readTimes) (u := .int (i4 24)) 2 8 d_Reader_readTimes_60 fl_Reader_47 wg_1 rfl ?_
        refine mm_imul (M := M_Reader_readTimes) d_Reader_readTimes_63 ?_
        refine mm_iconst (M := M_Reader_readTimes) (v := 1) d_Reader_readTimes_64 (by decide) ?_
        refine mm_iadd (M := M_Reader_readTimes) d_Reader_readTimes_65 ?_
        refine mm_eqs (st2 := [.int x1, .int 5, .int 3, .int (((r4 - (48 : Int32)) * (i4 24)) + (1 : Int32))].reverse ++ .ref 1 :: []) rfl ?_
        refine mm_callV (M := M_Reader_readTimes) (y := y_Reader_setRepeat) (M' := M_Reader_setRepeat) (d' := 2) (kc := 0) (ks := 0) (kc' := 0) (ks' := 0) (n := 4) d_Reader_readTimes_66 ok_Reader_setRepeat ml_Reader_158 (by decide) rfl (Nat.le_of_ble_eq_true rfl) ⟨tw_504, ts_Reader_setRepeat⟩ wg_1 rfl (ct_Reader_setRepeat_1 h) (fun v w h => ?_)
        obtain ⟨i5, l5, a5, b5, rfl, rfl, h⟩ := h
        refine mm_eqs (st2 := []) rfl ?_
        exact mm_ret (M := M_Reader_readTimes) ⟨rfl, d_Reader_readTimes_69⟩ ⟨_, _, _, _, rfl, rfl, h⟩
      · have h := h.2 c
        refine mm_iconst (M := M_Reader_readTimes) (v := 1) d_Reader_readTimes_52 (by decide) ?_
        refine mm_goto (M := M_Reader_readTimes) (tgt := 57) d_Reader_readTimes_53 (by decide) ?_
        refine mm_iconst (M := M_Reader_readTimes) (v := 3) d_Reader_readTimes_57 (by decide) ?_
        refine mm_iload_n (M := M_Reader_readTimes) d_Reader_readTimes_58 rfl ?_
        refine mm_aload_n (M := M_Reader_readTimes) d_Reader_readTimes_59 rfl ?_
        refine mm_getf (M := M_Reader_readTimes) (u := .int (i4 24)) 2 8 d_Reader_readTimes_60 fl_Reader_47 wg_1 rfl ?_
        refine mm_imul (M := M_Reader_readTimes) d_Reader_readTimes_63 ?_
        refine mm_iconst (M := M_Reader_readTimes) (v := 1) d_Reader_readTimes_64 (by decide) ?_
        refine mm_iadd (M := M_Reader_readTimes) d_Reader_readTimes_65 ?_
        refine mm_eqs (st2 := [.int x1, .int 1, .int 3, .int (((r4 - (48 : Int32)) * (i4 24)) + (1 : Int32))].reverse ++ .ref 1 :: []) rfl ?_
        refine mm_callV (M := M_Reader_readTimes) (y := y_Reader_setRepeat) (M' := M_Reader_setRepeat) (d' := 2) (kc := 0) (ks := 0) (kc' := 0) (ks' := 0) (n := 4) d_Reader_readTimes_66 ok_Reader_setRepeat ml_Reader_158 (by decide) rfl (Nat.le_of_ble_eq_true rfl) ⟨tw_504, ts_Reader_setRepeat⟩ wg_1 rfl (ct_Reader_setRepeat_1 h) (fun v w h => ?_)
        obtain ⟨i6, l6, a6, b6, rfl, rfl, h⟩ := h
        refine mm_eqs (st2 := []) rfl ?_
        exact mm_ret (M := M_Reader_readTimes) ⟨rfl, d_Reader_readTimes_69⟩ ⟨_, _, _, _, rfl, rfl, h⟩
    · have h := h.2 c
      refine mm_aload_n (M := M_Reader_readTimes) d_Reader_readTimes_21 rfl ?_
      refine mm_iconst (M := M_Reader_readTimes) (v := 0) d_Reader_readTimes_22 (by decide) ?_
      refine mm_putf (M := M_Reader_readTimes) 2 10 .boolean d_Reader_readTimes_23 fl_Reader_53 fp_Reader_53 ft_2_10 wg_1 (Nat.le_of_ble_eq_true rfl) (Or.inl rfl) ?_
      refine mm_eqw ws_26 ?_
      exact mm_ret (M := M_Reader_readTimes) ⟨rfl, d_Reader_readTimes_26⟩ ⟨_, _, _, _, rfl, rfl, h⟩
def wp_Reader_readRepeat_1 (n1 n2 : Nat) (i : mm_i) (l : mm_j) (a : mm_a) (b : mm_b) (x1 : Int32) (K : mm_i → mm_j → mm_a → mm_b → Prop) : Prop :=
  wp_Reader_ahead_1 n1 n2 i l a b 0 (fun r1 i1 l1 a1 b1 => (r1 = 42 → wp_Reader_setRepeat_1 n1 n2 i1 l1 a1 b1 x1 3 1 ((i1 24) + (2 : Int32)) (fun i2 l2 a2 b2 => K i2 l2 a2 b2)) ∧ (¬ r1 = 42 → (r1 = 43 → wp_Reader_setRepeat_1 n1 n2 i1 l1 a1 b1 x1 4 1 (((2 : Int32) * (i1 24)) + (2 : Int32)) (fun i3 l3 a3 b3 => K i3 l3 a3 b3)) ∧ (¬ r1 = 43 → (r1 = 63 → wp_Reader_setRepeat_1 n1 n2 i1 l1 a1 b1 x1 2 1 ((i1 24) + (2 : Int32)) (fun i4 l4 a4 b4 => K i4 l4 a4 b4)) ∧ (¬ r1 = 63 → (r1 = 123 → wp_Reader_readTimes_1 n1 n2 i1 l1 a1 b1 x1 (fun i5 l5 a5 b5 => K i5 l5 a5 b5)) ∧ (¬ r1 = 123 → vp_in (i1 22) 7 ∧ (vp_in (i1 22) 7 ∧ (K i1 l1 (mm_ua a1 18 (upd (a1 18) (i1 22).toNatClampNeg (((a1 18) (i1 22).toNatClampNeg) + (i1 24)))) b1)))))))
set_option maxRecDepth 100000 in
set_option maxHeartbeats 4000000 in
theorem ct_Reader_readRepeat_1 {n1 n2 : Nat} {i : mm_i} {l : mm_j} {a : mm_a} {b : mm_b} {t : mm_H} {x1 : Int32} {K : mm_i → mm_j → mm_a → mm_b → Prop} (h : wp_Reader_readRepeat_1 n1 n2 i l a b x1 K) : mm_Ct y_Reader_readRepeat M_Reader_readRepeat 4 0 0 [.ref 1, .int x1] (Wd 4 22 n1 n2 i l a b ++ t) (mm_PV n1 n2 t K) := by
  refine mm_Ct.of (by decide) rfl (fun q => absurd q (by decide)) (Nat.le_of_ble_eq_true rfl) ?_
  unfold wp_Reader_readRepeat_1 at h
  refine mm_eqL (L' := [some (.ref 1), some (.int x1)]) rfl ?_
  refine mm_aload_n (M := M_Reader_readRepeat) d_Reader_readRepeat_0 rfl ?_
  refine mm_iconst (M := M_Reader_readRepeat) (v := 0) d_Reader_readRepeat_1 (by decide) ?_
  refine mm_eqs (st2 := [.int 0].reverse ++ .ref 1 :: []) rfl ?_
  refine mm_callV (M := M_Reader_readRepeat) (y := y_Reader_ahead) (M' := M_Reader_ahead) (d' := 1) (kc := 0) (ks := 0) (kc' := 0) (ks' := 0) (n := 1) d_Reader_readRepeat_2 ok_Reader_ahead ml_Reader_83 (by decide) rfl (Nat.le_of_ble_eq_true rfl) ⟨tw_437, ts_Reader_ahead⟩ wg_1 rfl (ct_Reader_ahead_1 h) (fun v w h => ?_)
  obtain ⟨r1, i1, l1, a1, b1, rfl, rfl, h⟩ := h
  refine mm_eqs (st2 := [.int r1]) rfl ?_
  refine mm_lookup (M := M_Reader_readRepeat) [(42, 48), (43, 64), (63, 82), (123, 98)] 106 d_Reader_readRepeat_5 (by decide) (by decide +kernel) (by decide) ⟨fun c0 => ?_, fun c0 => ⟨fun c1 => ?_, fun c1 => ⟨fun c2 => ?_, fun c2 => ⟨fun c3 => ?_, fun c3 => ?_⟩⟩⟩⟩
  · have h := h.1 c0
    refine mm_aload_n (M := M_Reader_readRepeat) d_Reader_readRepeat_48 rfl ?_
    refine mm_iload_n (M := M_Reader_readRepeat) d_Reader_readRepeat_49 rfl ?_
    refine mm_iconst (M := M_Reader_readRepeat) (v := 3) d_Reader_readRepeat_50 (by decide) ?_
    refine mm_iconst (M := M_Reader_readRepeat) (v := 1) d_Reader_readRepeat_51 (by decide) ?_
    refine mm_aload_n (M := M_Reader_readRepeat) d_Reader_readRepeat_52 rfl ?_
    refine mm_getf (M := M_Reader_readRepeat) (u := .int (i1 24)) 2 8 d_Reader_readRepeat_53 fl_Reader_47 wg_1 rfl ?_
    refine mm_iconst (M := M_Reader_readRepeat) (v := 2) d_Reader_readRepeat_56 (by decide) ?_
    refine mm_iadd (M := M_Reader_readRepeat) d_Reader_readRepeat_57 ?_
    refine mm_eqs (st2 := [.int x1, .int 3, .int 1, .int ((i1 24) + (2 : Int32))].reverse ++ .ref 1 :: []) rfl ?_
    refine mm_callV (M := M_Reader_readRepeat) (y := y_Reader_setRepeat) (M' := M_Reader_setRepeat) (d' := 2) (kc := 0) (ks := 0) (kc' := 0) (ks' := 0) (n := 4) d_Reader_readRepeat_58 ok_Reader_setRepeat ml_Reader_158 (by decide) rfl (Nat.le_of_ble_eq_true rfl) ⟨tw_504, ts_Reader_setRepeat⟩ wg_1 rfl (ct_Reader_setRepeat_1 h) (fun v w h => ?_)
    obtain ⟨i2, l2, a2, b2, rfl, rfl, h⟩ := h
    refine mm_eqs (st2 := []) rfl ?_
    refine mm_goto (M := M_Reader_readRepeat) (tgt := 122) d_Reader_readRepeat_61 (by decide) ?_
    exact mm_ret (M := M_Reader_readRepeat) ⟨rfl, d_Reader_readRepeat_122⟩ ⟨_, _, _, _, rfl, rfl, h⟩
  · have h := (h.2 c0).1 c1
    refine mm_aload_n (M := M_Reader_readRepeat) d_Reader_readRepeat_64 rfl ?_
    refine mm_iload_n (M := M_Reader_readRepeat) d_Reader_readRepeat_65 rfl ?_
    refine mm_iconst (M := M_Reader_readRepeat) (v := 4) d_Reader_readRepeat_66 (by decide) ?_
    refine mm_iconst (M := M_Reader_readRepeat) (v := 1) d_Reader_readRepeat_67 (by decide) ?_
    refine mm_iconst (M := M_Reader_readRepeat) (v := 2) d_Reader_readRepeat_68 (by decide) ?_
    refine mm_aload_n (M := M_Reader_readRepeat) d_Reader_readRepeat_69 rfl ?_
    refine mm_getf (M := M_Reader_readRepeat) (u := .int (i1 24)) 2 8 d_Reader_readRepeat_70 fl_Reader_47 wg_1 rfl ?_
    refine mm_imul (M := M_Reader_readRepeat) d_Reader_readRepeat_73 ?_
    refine mm_iconst (M := M_Reader_readRepeat) (v := 2) d_Reader_readRepeat_74 (by decide) ?_
    refine mm_iadd (M := M_Reader_readRepeat) d_Reader_readRepeat_75 ?_
    refine mm_eqs (st2 := [.int x1, .int 4, .int 1, .int (((2 : Int32) * (i1 24)) + (2 : Int32))].reverse ++ .ref 1 :: []) rfl ?_
    refine mm_callV (M := M_Reader_readRepeat) (y := y_Reader_setRepeat) (M' := M_Reader_setRepeat) (d' := 2) (kc := 0) (ks := 0) (kc' := 0) (ks' := 0) (n := 4) d_Reader_readRepeat_76 ok_Reader_setRepeat ml_Reader_158 (by decide) rfl (Nat.le_of_ble_eq_true rfl) ⟨tw_504, ts_Reader_setRepeat⟩ wg_1 rfl (ct_Reader_setRepeat_1 h) (fun v w h => ?_)
    obtain ⟨i3, l3, a3, b3, rfl, rfl, h⟩ := h
    refine mm_eqs (st2 := []) rfl ?_
    refine mm_goto (M := M_Reader_readRepeat) (tgt := 122) d_Reader_readRepeat_79 (by decide) ?_
    exact mm_ret (M := M_Reader_readRepeat) ⟨rfl, d_Reader_readRepeat_122⟩ ⟨_, _, _, _, rfl, rfl, h⟩
  · have h := ((h.2 c0).2 c1).1 c2
    refine mm_aload_n (M := M_Reader_readRepeat) d_Reader_readRepeat_82 rfl ?_
    refine mm_iload_n (M := M_Reader_readRepeat) d_Reader_readRepeat_83 rfl ?_
    refine mm_iconst (M := M_Reader_readRepeat) (v := 2) d_Reader_readRepeat_84 (by decide) ?_
    refine mm_iconst (M := M_Reader_readRepeat) (v := 1) d_Reader_readRepeat_85 (by decide) ?_
    refine mm_aload_n (M := M_Reader_readRepeat) d_Reader_readRepeat_86 rfl ?_
    refine mm_getf (M := M_Reader_readRepeat) (u := .int (i1 24)) 2 8 d_Reader_readRepeat_87 fl_Reader_47 wg_1 rfl ?_
    refine mm_iconst (M := M_Reader_readRepeat) (v := 2) d_Reader_readRepeat_90 (by decide) ?_
    refine mm_iadd (M := M_Reader_readRepeat) d_Reader_readRepeat_91 ?_
    refine mm_eqs (st2 := [.int x1, .int 2, .int 1, .int ((i1 24) + (2 : Int32))].reverse ++ .ref 1 :: []) rfl ?_
    refine mm_callV (M := M_Reader_readRepeat) (y := y_Reader_setRepeat) (M' := M_Reader_setRepeat) (d' := 2) (kc := 0) (ks := 0) (kc' := 0) (ks' := 0) (n := 4) d_Reader_readRepeat_92 ok_Reader_setRepeat ml_Reader_158 (by decide) rfl (Nat.le_of_ble_eq_true rfl) ⟨tw_504, ts_Reader_setRepeat⟩ wg_1 rfl (ct_Reader_setRepeat_1 h) (fun v w h => ?_)
    obtain ⟨i4, l4, a4, b4, rfl, rfl, h⟩ := h
    refine mm_eqs (st2 := []) rfl ?_
    refine mm_goto (M := M_Reader_readRepeat) (tgt := 122) d_Reader_readRepeat_95 (by decide) ?_
    exact mm_ret (M := M_Reader_readRepeat) ⟨rfl, d_Reader_readRepeat_122⟩ ⟨_, _, _, _, rfl, rfl, h⟩
  · have h := (((h.2 c0).2 c1).2 c2).1 c3
    refine mm_aload_n (M := M_Reader_readRepeat) d_Reader_readRepeat_98 rfl ?_
    refine mm_iload_n (M := M_Reader_readRepeat) d_Reader_readRepeat_99 rfl ?_
    refine mm_eqs (st2 := [.int x1].reverse ++ .ref 1 :: []) rfl ?_
    refine mm_callV (M := M_Reader_readRepeat) (y := y_Reader_readTimes) (M' := M_Reader_readTimes) (d' := 3) (kc := 0) (ks := 0) (kc' := 0) (ks' := 0) (n := 1) d_Reader_readRepeat_100 ok_Reader_readTimes ml_Reader_162 (by decide) rfl (Nat.le_of_ble_eq_true rfl) ⟨tw_508, ts_Reader_readTimes⟩ wg_1 rfl (ct_Reader_readTimes_1 h) (fun v w h => ?_)
    obtain ⟨i5, l5, a5, b5, rfl, rfl, h⟩ := h
    refine mm_eqs (st2 := []) rfl ?_
    refine mm_goto (M := M_Reader_readRepeat) (tgt := 122) d_Reader_readRepeat_103 (by decide) ?_
    exact mm_ret (M := M_Reader_readRepeat) ⟨rfl, d_Reader_readRepeat_122⟩ ⟨_, _, _, _, rfl, rfl, h⟩
  · have h := ((((h.2 c0).2 c1).2 c2).2 c3)
    refine mm_aload_n (M := M_Reader_readRepeat) d_Reader_readRepeat_106 rfl ?_
    refine mm_getf (M := M_Reader_readRepeat) (u := .ref 18) 2 5 d_Reader_readRepeat_107 fl_Reader_37 wg_1 rfl ?_
    refine mm_aload_n (M := M_Reader_readRepeat) d_Reader_readRepeat_110 rfl ?_
    refine mm_getf (M := M_Reader_readRepeat) (u := .int (i1 22)) 2 6 d_Reader_readRepeat_111 fl_Reader_40 wg_1 rfl ?_
    refine mm_dup2 (M := M_Reader_readRepeat) d_Reader_readRepeat_114 rfl rfl ?_
    obtain ⟨hin, h⟩ := h
    refine mm_iald (M := M_Reader_readRepeat) (f := (a1 18)) d_Reader_readRepeat_115 wg_18 hin ?_
    refine mm_aload_n (M := M_Reader_readRepeat) d_Reader_readRepeat_116 rfl ?_
    refine mm_getf (M := M_Reader_readRepeat) (u := .int (i1 24)) 2 8 d_Reader_readRepeat_117 fl_Reader_47 wg_1 rfl ?_
    refine mm_iadd (M := M_Reader_readRepeat) d_Reader_readRepeat_120 ?_
    obtain ⟨hin, h⟩ := h
    refine mm_iast (M := M_Reader_readRepeat) (f := (a1 18)) d_Reader_readRepeat_121 wg_18 hin ?_
    refine mm_eqw wa_18 ?_
    exact mm_ret (M := M_Reader_readRepeat) ⟨rfl, d_Reader_readRepeat_122⟩ ⟨_, _, _, _, rfl, rfl, h⟩
