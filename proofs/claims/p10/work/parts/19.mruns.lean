def wq_Model_walk_0_240 (X : mm_i → mm_j → mm_a → mm_b → Int32 → Prop) (K : Int32 → mm_i → mm_j → mm_a → mm_b → Prop) (i : mm_i) (l : mm_j) (a : mm_a) (b : mm_b) (z2 : Int32) : Prop :=
  X i l a b (z2 + 1)
set_option maxRecDepth 100000 in
set_option maxHeartbeats 4000000 in
theorem vq_Model_walk_0_240 {k0 : Nat} {t : mm_H} {K : Int32 → mm_i → mm_j → mm_a → mm_b → Prop} {X : mm_i → mm_j → mm_a → mm_b → Int32 → Prop} (hX : ∀ {i l a b z2}, X i l a b z2 → mm_V M_Model_walk 5 k0 (mx_PI t K) 0 0 29 [some (.ref 0), none, some (.int z2), none] [] (Wm i l a b ++ t)) {i : mm_i} {l : mm_j} {a : mm_a} {b : mm_b} {z2 : Int32} (h : wq_Model_walk_0_240 X K i l a b z2) : mm_V M_Model_walk 5 k0 (mx_PI t K) 0 0 240 [some (.ref 0), none, some (.int z2), none] [] (Wm i l a b ++ t) := by
  unfold wq_Model_walk_0_240 at h
  refine mm_iinc (M := M_Model_walk) (v := 1) d_Model_walk_240 rfl (by decide) (Nat.le_of_ble_eq_true rfl) ?_
  refine mm_eqL (L' := [some (.ref 0), none, some (.int (z2 + 1)), none]) rfl ?_
  refine mm_goto (M := M_Model_walk) (tgt := 29) d_Model_walk_243 (by decide) ?_
  refine mm_drop (L' := [some (.ref 0), none, some (.int (z2 + 1)), none]) ⟨rfl, ⟨rfl, trivial⟩⟩ ?_
  exact hX h
def wq_Model_walk_0_91 (X : mm_i → mm_j → mm_a → mm_b → Int32 → Prop) (K : Int32 → mm_i → mm_j → mm_a → mm_b → Prop) (i : mm_i) (l : mm_j) (a : mm_a) (b : mm_b) (z2 : Int32) : Prop :=
  ((i 22) = 0 → wp_Model_rowEnds_0 i l a b (i 23) (fun r1 i1 l1 a1 b1 => (r1 = 0 → wp_Model_item_0 i1 l1 a1 b1 (i1 23) (fun i2 l2 a2 b2 => wq_Model_walk_0_240 X K i2 l2 a2 b2 z2)) ∧ (¬ r1 = 0 → wp_Model_go_0 i1 l1 a1 b1 5 0 (i1 25) (fun i3 l3 a3 b3 => wq_Model_walk_0_240 X K i3 l3 a3 b3 z2)))) ∧ (¬ (i 22) = 0 → ((i 22) = 1 → wp_Model_nextRow_0 i l a b (i 23) (fun r4 i4 l4 a4 b4 => (r4 < 0 → wp_Model_go_0 i4 l4 a4 b4 0 (i4 23) (i4 25) (fun i5 l5 a5 b5 => wq_Model_walk_0_240 X K i5 l5 a5 b5 z2)) ∧ (¬ r4 < 0 → wp_Model_pushBack_0 i4 l4 a4 b4 1 r4 (i4 25) (fun i6 l6 a6 b6 => wp_Model_go_0 i6 l6 a6 b6 0 (i6 23) (i6 25) (fun i7 l7 a7 b7 => wq_Model_walk_0_240 X K i7 l7 a7 b7 z2))))) ∧ (¬ (i 22) = 1 → ((i 22) = 2 → wp_Model_atom_0 i l a b (fun i8 l8 a8 b8 => wq_Model_walk_0_240 X K i8 l8 a8 b8 z2)) ∧ (¬ (i 22) = 2 → ((i 22) = 3 → (¬ (i 22) = (4 : Int32) → wp_Model_star_0 i l a b 0 (fun i9 l9 a9 b9 => wq_Model_walk_0_240 X K i9 l9 a9 b9 z2)) ∧ ((i 22) = (4 : Int32) → wp_Model_star_0 i l a b 1 (fun i10 l10 a10 b10 => wq_Model_walk_0_240 X K i10 l10 a10 b10 z2))) ∧ (¬ (i 22) = 3 → ((i 22) = 4 → (¬ (i 22) = (4 : Int32) → wp_Model_star_0 i l a b 0 (fun i11 l11 a11 b11 => wq_Model_walk_0_240 X K i11 l11 a11 b11 z2)) ∧ ((i 22) = (4 : Int32) → wp_Model_star_0 i l a b 1 (fun i12 l12 a12 b12 => wq_Model_walk_0_240 X K i12 l12 a12 b12 z2))) ∧ (¬ (i 22) = 4 → ((i 22) = 5 → wp_Model_carryOn_0 i l a b (fun i13 l13 a13 b13 => wq_Model_walk_0_240 X K i13 l13 a13 b13 z2)) ∧ (¬ (i 22) = 5 → wq_Model_walk_0_240 X K i l a b z2))))))
set_option maxRecDepth 100000 in
set_option maxHeartbeats 4000000 in
theorem vq_Model_walk_0_91 {k0 : Nat} {t : mm_H} {K : Int32 → mm_i → mm_j → mm_a → mm_b → Prop} {X : mm_i → mm_j → mm_a → mm_b → Int32 → Prop} (hX : ∀ {i l a b z2}, X i l a b z2 → mm_V M_Model_walk 5 k0 (mx_PI t K) 0 0 29 [some (.ref 0), none, some (.int z2), none] [] (Wm i l a b ++ t)) {i : mm_i} {l : mm_j} {a : mm_a} {b : mm_b} {z2 : Int32} (h : wq_Model_walk_0_91 X K i l a b z2) : mm_V M_Model_walk 5 k0 (mx_PI t K) 0 0 91 [some (.ref 0), none, some (.int z2), none] [] (Wm i l a b ++ t) := by
  unfold wq_Model_walk_0_91 at h
  refine mm_aload_n (M := M_Model_walk) d_Model_walk_91 rfl ?_
  refine mm_getf (M := M_Model_walk) (u := .int (i 22)) 7 22 d_Model_walk_92 fl_Model_127 xg_0 rfl ?_
  refine mm_table (M := M_Model_walk) [(0, 132), (1, 167), (2, 206), (3, 213), (4, 213), (5, 233)] 240 d_Model_walk_95 (by decide) (by decide +kernel) (by decide +kernel) (by decide) ⟨fun c0 => ?_, fun c0 => ⟨fun c1 => ?_, fun c1 => ⟨fun c2 => ?_, fun c2 => ⟨fun c3 => ?_, fun c3 => ⟨fun c4 => ?_, fun c4 => ⟨fun c5 => ?_, fun c5 => ?_⟩⟩⟩⟩⟩⟩
  · have h := h.1 c0
    refine mm_aload_n (M := M_Model_walk) d_Model_walk_132 rfl ?_
    refine mm_aload_n (M := M_Model_walk) d_Model_walk_133 rfl ?_
    refine mm_getf (M := M_Model_walk) (u := .int (i 23)) 7 23 d_Model_walk_134 fl_Model_130 xg_0 rfl ?_
    refine mm_eqs (st2 := [.int (i 23)].reverse ++ .ref 0 :: []) rfl ?_
    refine mm_callV (M := M_Model_walk) (y := y_Model_rowEnds) (M' := M_Model_rowEnds) (d' := 1) (kc := 0) (ks := 0) (kc' := 0) (ks' := 0) (n := 1) d_Model_walk_137 ok_Model_rowEnds ml_Model_108 (by decide) rfl (Nat.le_of_ble_eq_true rfl) ⟨tw_851, ts_Model_rowEnds⟩ xg_0 rfl (ct_Model_rowEnds_0 h) (fun v w h => ?_)
    obtain ⟨r1, i1, l1, a1, b1, rfl, rfl, h⟩ := h
    refine mm_eqs (st2 := [.int r1]) rfl ?_
    refine mm_if_eq (M := M_Model_walk) 156 d_Model_walk_140 (by decide) (fun c => ?_) (fun c => ?_)
    · have h := h.1 c
      refine mm_aload_n (M := M_Model_walk) d_Model_walk_156 rfl ?_
      refine mm_aload_n (M := M_Model_walk) d_Model_walk_157 rfl ?_
      refine mm_getf (M := M_Model_walk) (u := .int (i1 23)) 7 23 d_Model_walk_158 fl_Model_130 xg_0 rfl ?_
      refine mm_eqs (st2 := [.int (i1 23)].reverse ++ .ref 0 :: []) rfl ?_
      refine mm_callV (M := M_Model_walk) (y := y_Model_item) (M' := M_Model_item) (d' := 2) (kc := 0) (ks := 0) (kc' := 0) (ks' := 0) (n := 1) d_Model_walk_161 ok_Model_item ml_Model_201 (by decide) rfl (Nat.le_of_ble_eq_true rfl) ⟨tw_859, ts_Model_item⟩ xg_0 rfl (ct_Model_item_0 h) (fun v w h => ?_)
      obtain ⟨i2, l2, a2, b2, rfl, rfl, h⟩ := h
      refine mm_eqs (st2 := []) rfl ?_
      refine mm_goto (M := M_Model_walk) (tgt := 240) d_Model_walk_164 (by decide) ?_
      refine mm_drop (L' := [some (.ref 0), none, some (.int z2), none]) ⟨rfl, ⟨rfl, trivial⟩⟩ ?_
      exact vq_Model_walk_0_240 hX h
    · have h := h.2 c
      refine mm_aload_n (M := M_Model_walk) d_Model_walk_143 rfl ?_
      refine mm_iconst (M := M_Model_walk) (v := 5) d_Model_walk_144 (by decide) ?_
      refine mm_iconst (M := M_Model_walk) (v := 0) d_Model_walk_145 (by decide) ?_
      refine mm_aload_n (M := M_Model_walk) d_Model_walk_146 rfl ?_
      refine mm_getf (M := M_Model_walk) (u := .int (i1 25)) 7 25 d_Model_walk_147 fl_Model_133 xg_0 rfl ?_
      refine mm_eqs (st2 := [.int 5, .int 0, .int (i1 25)].reverse ++ .ref 0 :: []) rfl ?_
      refine mm_callV (M := M_Model_walk) (y := y_Model_go) (M' := M_Model_go) (d' := 0) (kc := 0) (ks := 0) (kc' := 0) (ks' := 0) (n := 3) d_Model_walk_150 ok_Model_go ml_Model_163 (by decide) rfl (Nat.le_of_ble_eq_true rfl) ⟨tw_842, ts_Model_go⟩ xg_0 rfl (ct_Model_go_0 h) (fun v w h => ?_)
      obtain ⟨i3, l3, a3, b3, rfl, rfl, h⟩ := h
      refine mm_eqs (st2 := []) rfl ?_
      refine mm_goto (M := M_Model_walk) (tgt := 240) d_Model_walk_153 (by decide) ?_
      refine mm_drop (L' := [some (.ref 0), none, some (.int z2), none]) ⟨rfl, ⟨rfl, trivial⟩⟩ ?_
      exact vq_Model_walk_0_240 hX h
  · have h := (h.2 c0).1 c1
    refine mm_aload_n (M := M_Model_walk) d_Model_walk_167 rfl ?_
    refine mm_aload_n (M := M_Model_walk) d_Model_walk_168 rfl ?_
    refine mm_getf (M := M_Model_walk) (u := .int (i 23)) 7 23 d_Model_walk_169 fl_Model_130 xg_0 rfl ?_
    refine mm_eqs (st2 := [.int (i 23)].reverse ++ .ref 0 :: []) rfl ?_
    refine mm_callV (M := M_Model_walk) (y := y_Model_nextRow) (M' := M_Model_nextRow) (d' := 2) (kc := 0) (ks := 0) (kc' := 0) (ks' := 0) (n := 1) d_Model_walk_172 ok_Model_nextRow ml_Model_204 (by decide) rfl (Nat.le_of_ble_eq_true rfl) ⟨tw_879, ts_Model_nextRow⟩ xg_0 rfl (ct_Model_nextRow_0 h) (fun v w h => ?_)
    obtain ⟨r4, i4, l4, a4, b4, rfl, rfl, h⟩ := h
    refine mm_eqs (st2 := [.int r4]) rfl ?_
    refine mm_istore_n (M := M_Model_walk) d_Model_walk_175 (Nat.le_of_ble_eq_true rfl) ?_
    refine mm_eqL (L' := [some (.ref 0), none, some (.int z2), some (.int r4)]) rfl ?_
    refine mm_iload_n (M := M_Model_walk) d_Model_walk_176 rfl ?_
    refine mm_if_lt (M := M_Model_walk) 190 d_Model_walk_177 (by decide) (fun c => ?_) (fun c => ?_)
    · have h := h.1 c
      refine mm_aload_n (M := M_Model_walk) d_Model_walk_190 rfl ?_
      refine mm_iconst (M := M_Model_walk) (v := 0) d_Model_walk_191 (by decide) ?_
      refine mm_aload_n (M := M_Model_walk) d_Model_walk_192 rfl ?_
      refine mm_getf (M := M_Model_walk) (u := .int (i4 23)) 7 23 d_Model_walk_193 fl_Model_130 xg_0 rfl ?_
      refine mm_aload_n (M := M_Model_walk) d_Model_walk_196 rfl ?_
      refine mm_getf (M := M_Model_walk) (u := .int (i4 25)) 7 25 d_Model_walk_197 fl_Model_133 xg_0 rfl ?_
      refine mm_eqs (st2 := [.int 0, .int (i4 23), .int (i4 25)].reverse ++ .ref 0 :: []) rfl ?_
      refine mm_callV (M := M_Model_walk) (y := y_Model_go) (M' := M_Model_go) (d' := 0) (kc := 0) (ks := 0) (kc' := 0) (ks' := 0) (n := 3) d_Model_walk_200 ok_Model_go ml_Model_163 (by decide) rfl (Nat.le_of_ble_eq_true rfl) ⟨tw_842, ts_Model_go⟩ xg_0 rfl (ct_Model_go_0 h) (fun v w h => ?_)
      obtain ⟨i5, l5, a5, b5, rfl, rfl, h⟩ := h
      refine mm_eqs (st2 := []) rfl ?_
      refine mm_goto (M := M_Model_walk) (tgt := 240) d_Model_walk_203 (by decide) ?_
      refine mm_drop (L' := [some (.ref 0), none, some (.int z2), none]) ⟨rfl, ⟨rfl, trivial⟩⟩ ?_
      exact vq_Model_walk_0_240 hX h
    · have h := h.2 c
      refine mm_aload_n (M := M_Model_walk) d_Model_walk_180 rfl ?_
      refine mm_iconst (M := M_Model_walk) (v := 1) d_Model_walk_181 (by decide) ?_
      refine mm_iload_n (M := M_Model_walk) d_Model_walk_182 rfl ?_
      refine mm_aload_n (M := M_Model_walk) d_Model_walk_183 rfl ?_
      refine mm_getf (M := M_Model_walk) (u := .int (i4 25)) 7 25 d_Model_walk_184 fl_Model_133 xg_0 rfl ?_
      refine mm_eqs (st2 := [.int 1, .int r4, .int (i4 25)].reverse ++ .ref 0 :: []) rfl ?_
      refine mm_callV (M := M_Model_walk) (y := y_Model_pushBack) (M' := M_Model_pushBack) (d' := 0) (kc := 0) (ks := 0) (kc' := 0) (ks' := 0) (n := 3) d_Model_walk_187 ok_Model_pushBack ml_Model_167 (by decide) rfl (Nat.le_of_ble_eq_true rfl) ⟨tw_875, ts_Model_pushBack⟩ xg_0 rfl (ct_Model_pushBack_0 h) (fun v w h => ?_)
      obtain ⟨i6, l6, a6, b6, rfl, rfl, h⟩ := h
      refine mm_eqs (st2 := []) rfl ?_
      refine mm_aload_n (M := M_Model_walk) d_Model_walk_190 rfl ?_
      refine mm_iconst (M := M_Model_walk) (v := 0) d_Model_walk_191 (by decide) ?_
      refine mm_aload_n (M := M_Model_walk) d_Model_walk_192 rfl ?_
      refine mm_getf (M := M_Model_walk) (u := .int (i6 23)) 7 23 d_Model_walk_193 fl_Model_130 xg_0 rfl ?_
      refine mm_aload_n (M := M_Model_walk) d_Model_walk_196 rfl ?_
      refine mm_getf (M := M_Model_walk) (u := .int (i6 25)) 7 25 d_Model_walk_197 fl_Model_133 xg_0 rfl ?_
      refine mm_eqs (st2 := [.int 0, .int (i6 23), .int (i6 25)].reverse ++ .ref 0 :: []) rfl ?_
      refine mm_callV (M := M_Model_walk) (y := y_Model_go) (M' := M_Model_go) (d' := 0) (kc := 0) (ks := 0) (kc' := 0) (ks' := 0) (n := 3) d_Model_walk_200 ok_Model_go ml_Model_163 (by decide) rfl (Nat.le_of_ble_eq_true rfl) ⟨tw_842, ts_Model_go⟩ xg_0 rfl (ct_Model_go_0 h) (fun v w h => ?_)
      obtain ⟨i7, l7, a7, b7, rfl, rfl, h⟩ := h
      refine mm_eqs (st2 := []) rfl ?_
      refine mm_goto (M := M_Model_walk) (tgt := 240) d_Model_walk_203 (by decide) ?_
      refine mm_drop (L' := [some (.ref 0), none, some (.int z2), none]) ⟨rfl, ⟨rfl, trivial⟩⟩ ?_
      exact vq_Model_walk_0_240 hX h
  · have h := ((h.2 c0).2 c1).1 c2
    refine mm_aload_n (M := M_Model_walk) d_Model_walk_206 rfl ?_
    refine mm_eqs (st2 := [].reverse ++ .ref 0 :: []) rfl ?_
    refine mm_callV (M := M_Model_walk) (y := y_Model_atom) (M' := M_Model_atom) (d' := 4) (kc := 0) (ks := 0) (kc' := 0) (ks' := 0) (n := 0) d_Model_walk_207 ok_Model_atom ml_Model_207 (by decide) rfl (Nat.le_of_ble_eq_true rfl) ⟨tw_883, ts_Model_atom⟩ xg_0 rfl (ct_Model_atom_0 h) (fun v w h => ?_)
    obtain ⟨i8, l8, a8, b8, rfl, rfl, h⟩ := h
    refine mm_eqs (st2 := []) rfl ?_
    refine mm_goto (M := M_Model_walk) (tgt := 240) d_Model_walk_210 (by decide) ?_
    refine mm_drop (L' := [some (.ref 0), none, some (.int z2), none]) ⟨rfl, ⟨rfl, trivial⟩⟩ ?_
    exact vq_Model_walk_0_240 hX h
  · have h := (((h.2 c0).2 c1).2 c2).1 c3
    refine mm_aload_n (M := M_Model_walk) d_Model_walk_213 rfl ?_
    refine mm_aload_n (M := M_Model_walk) d_Model_walk_214 rfl ?_
    refine mm_getf (M := M_Model_walk) (u := .int (i 22)) 7 22 d_Model_walk_215 fl_Model_127 xg_0 rfl ?_
    refine mm_iconst (M := M_Model_walk) (v := 4) d_Model_walk_218 (by decide) ?_
    refine mm_icmp_ne (M := M_Model_walk) 226 d_Model_walk_219 (by decide) (fun c => ?_) (fun c => ?_)
    · have h := h.1 c
      refine mm_iconst (M := M_Model_walk) (v := 0) d_Model_walk_226 (by decide) ?_
      refine mm_eqs (st2 := [.int 0].reverse ++ .ref 0 :: []) rfl ?_
      refine mm_callV (M := M_Model_walk) (y := y_Model_star) (M' := M_Model_star) (d' := 1) (kc := 0) (ks := 0) (kc' := 0) (ks' := 0) (n := 1) d_Model_walk_227 ok_Model_star ml_Model_210 (by decide) rfl (Nat.le_of_ble_eq_true rfl) ⟨tw_931, ts_Model_star⟩ xg_0 rfl (ct_Model_star_0 h) (fun v w h => ?_)
      obtain ⟨i9, l9, a9, b9, rfl, rfl, h⟩ := h
      refine mm_eqs (st2 := []) rfl ?_
      refine mm_goto (M := M_Model_walk) (tgt := 240) d_Model_walk_230 (by decide) ?_
      refine mm_drop (L' := [some (.ref 0), none, some (.int z2), none]) ⟨rfl, ⟨rfl, trivial⟩⟩ ?_
      exact vq_Model_walk_0_240 hX h
    · have h := h.2 c
      refine mm_iconst (M := M_Model_walk) (v := 1) d_Model_walk_222 (by decide) ?_
      refine mm_goto (M := M_Model_walk) (tgt := 227) d_Model_walk_223 (by decide) ?_
      refine mm_eqs (st2 := [.int 1].reverse ++ .ref 0 :: []) rfl ?_
      refine mm_callV (M := M_Model_walk) (y := y_Model_star) (M' := M_Model_star) (d' := 1) (kc := 0) (ks := 0) (kc' := 0) (ks' := 0) (n := 1) d_Model_walk_227 ok_Model_star ml_Model_210 (by decide) rfl (Nat.le_of_ble_eq_true rfl) ⟨tw_931, ts_Model_star⟩ xg_0 rfl (ct_Model_star_0 h) (fun v w h => ?_)
      obtain ⟨i10, l10, a10, b10, rfl, rfl, h⟩ := h
      refine mm_eqs (st2 := []) rfl ?_
      refine mm_goto (M := M_Model_walk) (tgt := 240) d_Model_walk_230 (by decide) ?_
      refine mm_drop (L' := [some (.ref 0), none, some (.int z2), none]) ⟨rfl, ⟨rfl, trivial⟩⟩ ?_
      exact vq_Model_walk_0_240 hX h
  · have h := ((((h.2 c0).2 c1).2 c2).2 c3).1 c4
    refine mm_aload_n (M := M_Model_walk) d_Model_walk_213 rfl ?_
    refine mm_aload_n (M := M_Model_walk) d_Model_walk_214 rfl ?_
    refine mm_getf (M := M_Model_walk) (u := .int (i 22)) 7 22 d_Model_walk_215 fl_Model_127 xg_0 rfl ?_
    refine mm_iconst (M := M_Model_walk) (v := 4) d_Model_walk_218 (by decide) ?_
    refine mm_icmp_ne (M := M_Model_walk) 226 d_Model_walk_219 (by decide) (fun c => ?_) (fun c => ?_)
    · have h := h.1 c
      refine mm_iconst (M := M_Model_walk) (v := 0) d_Model_walk_226 (by decide) ?_
      refine mm_eqs (st2 := [.int 0].reverse ++ .ref 0 :: []) rfl ?_
      refine mm_callV (M := M_Model_walk) (y := y_Model_star) (M' := M_Model_star) (d' := 1) (kc := 0) (ks := 0) (kc' := 0) (ks' := 0) (n := 1) d_Model_walk_227 ok_Model_star ml_Model_210 (by decide) rfl (Nat.le_of_ble_eq_true rfl) ⟨tw_931, ts_Model_star⟩ xg_0 rfl (ct_Model_star_0 h) (fun v w h => ?_)
      obtain ⟨i11, l11, a11, b11, rfl, rfl, h⟩ := h
      refine mm_eqs (st2 := []) rfl ?_
      refine mm_goto (M := M_Model_walk) (tgt := 240) d_Model_walk_230 (by decide) ?_
      refine mm_drop (L' := [some (.ref 0), none, some (.int z2), none]) ⟨rfl, ⟨rfl, trivial⟩⟩ ?_
      exact vq_Model_walk_0_240 hX h
    · have h := h.2 c
      refine mm_iconst (M := M_Model_walk) (v := 1) d_Model_walk_222 (by decide) ?_
      refine mm_goto (M := M_Model_walk) (tgt := 227) d_Model_walk_223 (by decide) ?_
      refine mm_eqs (st2 := [.int 1].reverse ++ .ref 0 :: []) rfl ?_
      refine mm_callV (M := M_Model_walk) (y := y_Model_star) (M' := M_Model_star) (d' := 1) (kc := 0) (ks := 0) (kc' := 0) (ks' := 0) (n := 1) d_Model_walk_227 ok_Model_star ml_Model_210 (by decide) rfl (Nat.le_of_ble_eq_true rfl) ⟨tw_931, ts_Model_star⟩ xg_0 rfl (ct_Model_star_0 h) (fun v w h => ?_)
      obtain ⟨i12, l12, a12, b12, rfl, rfl, h⟩ := h
      refine mm_eqs (st2 := []) rfl ?_
      refine mm_goto (M := M_Model_walk) (tgt := 240) d_Model_walk_230 (by decide) ?_
      refine mm_drop (L' := [some (.ref 0), none, some (.int z2), none]) ⟨rfl, ⟨rfl, trivial⟩⟩ ?_
      exact vq_Model_walk_0_240 hX h
  · have h := (((((h.2 c0).2 c1).2 c2).2 c3).2 c4).1 c5
    refine mm_aload_n (M := M_Model_walk) d_Model_walk_233 rfl ?_
    refine mm_eqs (st2 := [].reverse ++ .ref 0 :: []) rfl ?_
    refine mm_callV (M := M_Model_walk) (y := y_Model_carryOn) (M' := M_Model_carryOn) (d' := 1) (kc := 0) (ks := 0) (kc' := 0) (ks' := 0) (n := 0) d_Model_walk_234 ok_Model_carryOn ml_Model_214 (by decide) rfl (Nat.le_of_ble_eq_true rfl) ⟨tw_935, ts_Model_carryOn⟩ xg_0 rfl (ct_Model_carryOn_0 h) (fun v w h => ?_)
    obtain ⟨i13, l13, a13, b13, rfl, rfl, h⟩ := h
    refine mm_eqs (st2 := []) rfl ?_
    refine mm_goto (M := M_Model_walk) (tgt := 240) d_Model_walk_237 (by decide) ?_
    refine mm_drop (L' := [some (.ref 0), none, some (.int z2), none]) ⟨rfl, ⟨rfl, trivial⟩⟩ ?_
    exact vq_Model_walk_0_240 hX h
  · have h := ((((((h.2 c0).2 c1).2 c2).2 c3).2 c4).2 c5)
    refine mm_drop (L' := [some (.ref 0), none, some (.int z2), none]) ⟨rfl, ⟨rfl, trivial⟩⟩ ?_
    exact vq_Model_walk_0_240 hX h
def wq_Model_walk_0_70 (X : mm_i → mm_j → mm_a → mm_b → Int32 → Prop) (K : Int32 → mm_i → mm_j → mm_a → mm_b → Prop) (i : mm_i) (l : mm_j) (a : mm_a) (b : mm_b) (z2 : Int32) : Prop :=
  (¬ (i 22) = (2 : Int32) → wq_Model_walk_0_91 X K i l a b z2) ∧ ((i 22) = (2 : Int32) → (¬ (i 10) = (i 0) → wq_Model_walk_0_91 X K i l a b z2) ∧ ((i 10) = (i 0) → K 2 i l a b))
set_option maxRecDepth 100000 in
set_option maxHeartbeats 4000000 in
theorem vq_Model_walk_0_70 {k0 : Nat} {t : mm_H} {K : Int32 → mm_i → mm_j → mm_a → mm_b → Prop} {X : mm_i → mm_j → mm_a → mm_b → Int32 → Prop} (hX : ∀ {i l a b z2}, X i l a b z2 → mm_V M_Model_walk 5 k0 (mx_PI t K) 0 0 29 [some (.ref 0), none, some (.int z2), none] [] (Wm i l a b ++ t)) {i : mm_i} {l : mm_j} {a : mm_a} {b : mm_b} {z2 : Int32} (h : wq_Model_walk_0_70 X K i l a b z2) : mm_V M_Model_walk 5 k0 (mx_PI t K) 0 0 70 [some (.ref 0), none, some (.int z2), none] [] (Wm i l a b ++ t) := by
  unfold wq_Model_walk_0_70 at h
  refine mm_aload_n (M := M_Model_walk) d_Model_walk_70 rfl ?_
  refine mm_getf (M := M_Model_walk) (u := .int (i 22)) 7 22 d_Model_walk_71 fl_Model_127 xg_0 rfl ?_
  refine mm_iconst (M := M_Model_walk) (v := 2) d_Model_walk_74 (by decide) ?_
  refine mm_icmp_ne (M := M_Model_walk) 91 d_Model_walk_75 (by decide) (fun c => ?_) (fun c => ?_)
  · have h := h.1 c
    refine mm_drop (L' := [some (.ref 0), none, some (.int z2), none]) ⟨rfl, ⟨rfl, trivial⟩⟩ ?_
    exact vq_Model_walk_0_91 hX h
  · have h := h.2 c
    refine mm_aload_n (M := M_Model_walk) d_Model_walk_78 rfl ?_
    refine mm_getf (M := M_Model_walk) (u := .int (i 10)) 7 10 d_Model_walk_79 fl_Model_173 xg_0 rfl ?_
    refine mm_aload_n (M := M_Model_walk) d_Model_walk_82 rfl ?_
    refine mm_getf (M := M_Model_walk) (u := .int (i 0)) 7 0 d_Model_walk_83 fl_Model_35 xg_0 rfl ?_
    refine mm_icmp_ne (M := M_Model_walk) 91 d_Model_walk_86 (by decide) (fun c => ?_) (fun c => ?_)
    · have h := h.1 c
      refine mm_drop (L' := [some (.ref 0), none, some (.int z2), none]) ⟨rfl, ⟨rfl, trivial⟩⟩ ?_
      exact vq_Model_walk_0_91 hX h
    · have h := h.2 c
      refine mm_iconst (M := M_Model_walk) (v := 2) d_Model_walk_89 (by decide) ?_
      exact mm_retv (M := M_Model_walk) ⟨_, rfl, rfl, d_Model_walk_90⟩ ⟨_, _, _, _, _, rfl, rfl, h⟩
def wq_Model_walk_0_53 (X : mm_i → mm_j → mm_a → mm_b → Int32 → Prop) (K : Int32 → mm_i → mm_j → mm_a → mm_b → Prop) (i : mm_i) (l : mm_j) (a : mm_a) (b : mm_b) (z2 : Int32) : Prop :=
  (¬ (i 22) = (5 : Int32) → wq_Model_walk_0_70 X K i l a b z2) ∧ ((i 22) = (5 : Int32) → (¬ (i 25) = 0 → wq_Model_walk_0_70 X K i l a b z2) ∧ ((i 25) = 0 → K 1 i l a b))
set_option maxRecDepth 100000 in
set_option maxHeartbeats 4000000 in
theorem vq_Model_walk_0_53 {k0 : Nat} {t : mm_H} {K : Int32 → mm_i → mm_j → mm_a → mm_b → Prop} {X : mm_i → mm_j → mm_a → mm_b → Int32 → Prop} (hX : ∀ {i l a b z2}, X i l a b z2 → mm_V M_Model_walk 5 k0 (mx_PI t K) 0 0 29 [some (.ref 0), none, some (.int z2), none] [] (Wm i l a b ++ t)) {i : mm_i} {l : mm_j} {a : mm_a} {b : mm_b} {z2 : Int32} (h : wq_Model_walk_0_53 X K i l a b z2) : mm_V M_Model_walk 5 k0 (mx_PI t K) 0 0 53 [some (.ref 0), none, some (.int z2), none] [] (Wm i l a b ++ t) := by
  unfold wq_Model_walk_0_53 at h
  refine mm_aload_n (M := M_Model_walk) d_Model_walk_53 rfl ?_
  refine mm_getf (M := M_Model_walk) (u := .int (i 22)) 7 22 d_Model_walk_54 fl_Model_127 xg_0 rfl ?_
  refine mm_iconst (M := M_Model_walk) (v := 5) d_Model_walk_57 (by decide) ?_
  refine mm_icmp_ne (M := M_Model_walk) 70 d_Model_walk_58 (by decide) (fun c => ?_) (fun c => ?_)
  · have h := h.1 c
    refine mm_drop (L' := [some (.ref 0), none, some (.int z2), none]) ⟨rfl, ⟨rfl, trivial⟩⟩ ?_
    exact vq_Model_walk_0_70 hX h
  · have h := h.2 c
    refine mm_aload_n (M := M_Model_walk) d_Model_walk_61 rfl ?_
    refine mm_getf (M := M_Model_walk) (u := .int (i 25)) 7 25 d_Model_walk_62 fl_Model_133 xg_0 rfl ?_
    refine mm_if_ne (M := M_Model_walk) 70 d_Model_walk_65 (by decide) (fun c => ?_) (fun c => ?_)
    · have h := h.1 c
      refine mm_drop (L' := [some (.ref 0), none, some (.int z2), none]) ⟨rfl, ⟨rfl, trivial⟩⟩ ?_
      exact vq_Model_walk_0_70 hX h
    · have h := h.2 c
      refine mm_iconst (M := M_Model_walk) (v := 1) d_Model_walk_68 (by decide) ?_
      exact mm_retv (M := M_Model_walk) ⟨_, rfl, rfl, d_Model_walk_69⟩ ⟨_, _, _, _, _, rfl, rfl, h⟩
def wt_Model_walk_0 (X : mm_i → mm_j → mm_a → mm_b → Int32 → Prop) (K : Int32 → mm_i → mm_j → mm_a → mm_b → Prop) (i : mm_i) (l : mm_j) (a : mm_a) (b : mm_b) (z2 : Int32) : Prop :=
  ((1000000 : Int32) ≤ z2 → K 2 i l a b) ∧ (¬ (1000000 : Int32) ≤ z2 → (¬ (i 22) = (6 : Int32) → wq_Model_walk_0_53 X K i l a b z2) ∧ ((i 22) = (6 : Int32) → wp_Model_retreat_0 i l a b (fun r1 i1 l1 a1 b1 => (¬ r1 = 0 → wq_Model_walk_0_53 X K i1 l1 a1 b1 z2) ∧ (r1 = 0 → K 0 i1 l1 a1 b1))))
def wl_Model_walk_0 (K : Int32 → mm_i → mm_j → mm_a → mm_b → Prop) : Nat → mm_i → mm_j → mm_a → mm_b → Int32 → Prop
  | 0 => fun _ _ _ _ _ => False
  | n + 1 => fun i l a b z2 => wt_Model_walk_0 (wl_Model_walk_0 K n) K i l a b z2
set_option maxRecDepth 100000 in
set_option maxHeartbeats 4000000 in
theorem vt_Model_walk_0 {k0 : Nat} {t : mm_H} {K : Int32 → mm_i → mm_j → mm_a → mm_b → Prop} {X : mm_i → mm_j → mm_a → mm_b → Int32 → Prop} (hX : ∀ {i l a b z2}, X i l a b z2 → mm_V M_Model_walk 5 k0 (mx_PI t K) 0 0 29 [some (.ref 0), none, some (.int z2), none] [] (Wm i l a b ++ t)) {i : mm_i} {l : mm_j} {a : mm_a} {b : mm_b} {z2 : Int32} (h : wt_Model_walk_0 X K i l a b z2) : mm_V M_Model_walk 5 k0 (mx_PI t K) 0 0 29 [some (.ref 0), none, some (.int z2), none] [] (Wm i l a b ++ t) := by
  unfold wt_Model_walk_0 at h
  refine mm_iload_n (M := M_Model_walk) d_Model_walk_29 rfl ?_
  refine mm_ldc (M := M_Model_walk) (v := 1000000) d_Model_walk_30 tw_844 ?_
  refine mm_icmp_ge (M := M_Model_walk) 246 d_Model_walk_32 (by decide) (fun c => ?_) (fun c => ?_)
  · have h := h.1 c
    refine mm_iconst (M := M_Model_walk) (v := 2) d_Model_walk_246 (by decide) ?_
    exact mm_retv (M := M_Model_walk) ⟨_, rfl, rfl, d_Model_walk_247⟩ ⟨_, _, _, _, _, rfl, rfl, h⟩
  · have h := h.2 c
    refine mm_aload_n (M := M_Model_walk) d_Model_walk_35 rfl ?_
    refine mm_getf (M := M_Model_walk) (u := .int (i 22)) 7 22 d_Model_walk_36 fl_Model_127 xg_0 rfl ?_
    refine mm_bipush (M := M_Model_walk) (v := 6) d_Model_walk_39 (by decide) ?_
    refine mm_icmp_ne (M := M_Model_walk) 53 d_Model_walk_41 (by decide) (fun c => ?_) (fun c => ?_)
    · have h := h.1 c
      refine mm_drop (L' := [some (.ref 0), none, some (.int z2), none]) ⟨rfl, ⟨rfl, trivial⟩⟩ ?_
      exact vq_Model_walk_0_53 hX h
    · have h := h.2 c
      refine mm_aload_n (M := M_Model_walk) d_Model_walk_44 rfl ?_
      refine mm_eqs (st2 := [].reverse ++ .ref 0 :: []) rfl ?_
      refine mm_callV (M := M_Model_walk) (y := y_Model_retreat) (M' := M_Model_retreat) (d' := 1) (kc := 0) (ks := 0) (kc' := 0) (ks' := 0) (n := 0) d_Model_walk_45 ok_Model_retreat ml_Model_197 (by decide) rfl (Nat.le_of_ble_eq_true rfl) ⟨tw_847, ts_Model_retreat⟩ xg_0 rfl (ct_Model_retreat_0 h) (fun v w h => ?_)
      obtain ⟨r1, i1, l1, a1, b1, rfl, rfl, h⟩ := h
      refine mm_eqs (st2 := [.int r1]) rfl ?_
      refine mm_if_ne (M := M_Model_walk) 53 d_Model_walk_48 (by decide) (fun c => ?_) (fun c => ?_)
      · have h := h.1 c
        refine mm_drop (L' := [some (.ref 0), none, some (.int z2), none]) ⟨rfl, ⟨rfl, trivial⟩⟩ ?_
        exact vq_Model_walk_0_53 hX h
      · have h := h.2 c
        refine mm_iconst (M := M_Model_walk) (v := 0) d_Model_walk_51 (by decide) ?_
        exact mm_retv (M := M_Model_walk) ⟨_, rfl, rfl, d_Model_walk_52⟩ ⟨_, _, _, _, _, rfl, rfl, h⟩
theorem vl_Model_walk_0 {k0 : Nat} {t : mm_H} {K : Int32 → mm_i → mm_j → mm_a → mm_b → Prop} : ∀ (n : Nat) {i : mm_i} {l : mm_j} {a : mm_a} {b : mm_b} {z2 : Int32}, wl_Model_walk_0 K n i l a b z2 → mm_V M_Model_walk 5 k0 (mx_PI t K) 0 0 29 [some (.ref 0), none, some (.int z2), none] [] (Wm i l a b ++ t)
  | 0, _, _, _, _, _, h => h.elim
  | n + 1, _, _, _, _, _, h => vt_Model_walk_0 (fun h => vl_Model_walk_0 n h) h
def wp_Model_walk_0 (i : mm_i) (l : mm_j) (a : mm_a) (b : mm_b) (x1 : Int32) (K : Int32 → mm_i → mm_j → mm_a → mm_b → Prop) : Prop :=
  wp_Model_go_0 (upd (upd (upd i 16 0) 19 0) 24 x1) (vp_updL l 26 0) a b 1 0 0 (fun i1 l1 a1 b1 => ∃ n, wl_Model_walk_0 K n i1 l1 a1 b1 0)
set_option maxRecDepth 100000 in
set_option maxHeartbeats 4000000 in
theorem ct_Model_walk_0 {i : mm_i} {l : mm_j} {a : mm_a} {b : mm_b} {t : mm_H} {x1 : Int32} {K : Int32 → mm_i → mm_j → mm_a → mm_b → Prop} (h : wp_Model_walk_0 i l a b x1 K) : mm_Ct y_Model_walk M_Model_walk 5 0 0 [.ref 0, .int x1] (Wm i l a b ++ t) (mx_PI t K) := by
  refine mm_Ct.of (by decide) rfl (fun q => absurd q (by decide)) (Nat.le_of_ble_eq_true rfl) ?_
  unfold wp_Model_walk_0 at h
  refine mm_eqL (L' := [some (.ref 0), some (.int x1), none, none]) rfl ?_
  refine mm_aload_n (M := M_Model_walk) d_Model_walk_0 rfl ?_
  refine mm_iconst (M := M_Model_walk) (v := 0) d_Model_walk_1 (by decide) ?_
  refine mm_putf (M := M_Model_walk) 7 16 .int d_Model_walk_2 fl_Model_114 fp_Model_114 ft_7_16 xg_0 (Nat.le_of_ble_eq_true rfl) trivial ?_
  refine mm_eqw xs_16 ?_
  refine mm_aload_n (M := M_Model_walk) d_Model_walk_5 rfl ?_
  refine mm_iconst (M := M_Model_walk) (v := 0) d_Model_walk_6 (by decide) ?_
  refine mm_putf (M := M_Model_walk) 7 19 .int d_Model_walk_7 fl_Model_117 fp_Model_117 ft_7_19 xg_0 (Nat.le_of_ble_eq_true rfl) trivial ?_
  refine mm_eqw xs_19 ?_
  refine mm_aload_n (M := M_Model_walk) d_Model_walk_10 rfl ?_
  refine mm_iload_n (M := M_Model_walk) d_Model_walk_11 rfl ?_
  refine mm_putf (M := M_Model_walk) 7 24 .int d_Model_walk_12 fl_Model_120 fp_Model_120 ft_7_24 xg_0 (Nat.le_of_ble_eq_true rfl) trivial ?_
  refine mm_eqw xs_24 ?_
  refine mm_aload_n (M := M_Model_walk) d_Model_walk_15 rfl ?_
  refine mm_lconst (M := M_Model_walk) (v := 0) d_Model_walk_16 (by decide) ?_
  refine mm_putf (M := M_Model_walk) 7 26 .long d_Model_walk_17 fl_Model_123 fp_Model_123 ft_7_26 xg_0 (Nat.le_of_ble_eq_true rfl) trivial ?_
  refine mm_eqw xs_26 ?_
  refine mm_aload_n (M := M_Model_walk) d_Model_walk_20 rfl ?_
  refine mm_iconst (M := M_Model_walk) (v := 1) d_Model_walk_21 (by decide) ?_
  refine mm_iconst (M := M_Model_walk) (v := 0) d_Model_walk_22 (by decide) ?_
  refine mm_iconst (M := M_Model_walk) (v := 0) d_Model_walk_23 (by decide) ?_
  refine mm_eqs (st2 := [.int 1, .int 0, .int 0].reverse ++ .ref 0 :: []) rfl ?_
  refine mm_callV (M := M_Model_walk) (y := y_Model_go) (M' := M_Model_go) (d' := 0) (kc := 0) (ks := 0) (kc' := 0) (ks' := 0) (n := 3) d_Model_walk_24 ok_Model_go ml_Model_163 (by decide) rfl (Nat.le_of_ble_eq_true rfl) ⟨tw_842, ts_Model_go⟩ xg_0 rfl (ct_Model_go_0 h) (fun v w h => ?_)
  obtain ⟨i1, l1, a1, b1, rfl, rfl, h⟩ := h
  refine mm_eqs (st2 := []) rfl ?_
  refine mm_iconst (M := M_Model_walk) (v := 0) d_Model_walk_27 (by decide) ?_
  refine mm_istore_n (M := M_Model_walk) d_Model_walk_28 (Nat.le_of_ble_eq_true rfl) ?_
  refine mm_eqL (L' := [some (.ref 0), some (.int x1), some (.int 0), none]) rfl ?_
  obtain ⟨n, h⟩ := h
  refine mm_drop (L' := [some (.ref 0), none, some (.int 0), none]) ⟨rfl, ⟨rfl, trivial⟩⟩ ?_
  exact (vl_Model_walk_0 n) h
def wt_Model_seek_0 (X : mm_i → mm_j → mm_a → mm_b → Int32 → Prop) (K : Int32 → mm_i → mm_j → mm_a → mm_b → Prop) (i : mm_i) (l : mm_j) (a : mm_a) (b : mm_b) (z2 : Int32) : Prop :=
  ((i 8) < z2 → K (-4) i l a b) ∧ (¬ (i 8) < z2 → wp_Model_walk_0 i l a b z2 (fun r1 i1 l1 a1 b1 => (¬ r1 = (2 : Int32) → (¬ r1 = (1 : Int32) → X i1 l1 a1 b1 (z2 + 1)) ∧ (r1 = (1 : Int32) → K z2 (upd (upd (upd i1 11 1) 12 z2) 13 (i1 24)) (vp_updL l1 14 (l1 26)) a1 b1)) ∧ (r1 = (2 : Int32) → K (-5) i1 l1 a1 b1)))
def wl_Model_seek_0 (K : Int32 → mm_i → mm_j → mm_a → mm_b → Prop) : Nat → mm_i → mm_j → mm_a → mm_b → Int32 → Prop
  | 0 => fun _ _ _ _ _ => False
  | n + 1 => fun i l a b z2 => wt_Model_seek_0 (wl_Model_seek_0 K n) K i l a b z2
set_option maxRecDepth 100000 in
set_option maxHeartbeats 4000000 in
theorem vt_Model_seek_0 {k0 : Nat} {t : mm_H} {K : Int32 → mm_i → mm_j → mm_a → mm_b → Prop} {X : mm_i → mm_j → mm_a → mm_b → Int32 → Prop} (hX : ∀ {i l a b z2}, X i l a b z2 → mm_V M_Model_seek 6 k0 (mx_PI t K) 0 0 12 [some (.ref 0), none, some (.int z2), none] [] (Wm i l a b ++ t)) {i : mm_i} {l : mm_j} {a : mm_a} {b : mm_b} {z2 : Int32} (h : wt_Model_seek_0 X K i l a b z2) : mm_V M_Model_seek 6 k0 (mx_PI t K) 0 0 12 [some (.ref 0), none, some (.int z2), none] [] (Wm i l a b ++ t) := by
  unfold wt_Model_seek_0 at h
  refine mm_iload_n (M := M_Model_seek) d_Model_seek_12 rfl ?_
  refine mm_aload_n (M := M_Model_seek) d_Model_seek_13 rfl ?_
  refine mm_getf (M := M_Model_seek) (u := .int (i 8)) 7 8 d_Model_seek_14 fl_Model_99 xg_0 rfl ?_
  refine mm_icmp_gt (M := M_Model_seek) 73 d_Model_seek_17 (by decide) (fun c => ?_) (fun c => ?_)
  · have h := h.1 c
    refine mm_bipush (M := M_Model_seek) (v := (-4)) d_Model_seek_73 (by decide) ?_
    exact mm_retv (M := M_Model_seek) ⟨_, rfl, rfl, d_Model_seek_75⟩ ⟨_, _, _, _, _, rfl, rfl, h⟩
  · have h := h.2 c
    refine mm_aload_n (M := M_Model_seek) d_Model_seek_20 rfl ?_
    refine mm_iload_n (M := M_Model_seek) d_Model_seek_21 rfl ?_
    refine mm_eqs (st2 := [.int z2].reverse ++ .ref 0 :: []) rfl ?_
    refine mm_callV (M := M_Model_seek) (y := y_Model_walk) (M' := M_Model_walk) (d' := 5) (kc := 0) (ks := 0) (kc' := 0) (ks' := 0) (n := 1) d_Model_seek_22 ok_Model_walk ml_Model_217 (by decide) rfl (Nat.le_of_ble_eq_true rfl) ⟨tw_838, ts_Model_walk⟩ xg_0 rfl (ct_Model_walk_0 h) (fun v w h => ?_)
    obtain ⟨r1, i1, l1, a1, b1, rfl, rfl, h⟩ := h
    refine mm_eqs (st2 := [.int r1]) rfl ?_
    refine mm_istore_n (M := M_Model_seek) d_Model_seek_25 (Nat.le_of_ble_eq_true rfl) ?_
    refine mm_eqL (L' := [some (.ref 0), none, some (.int z2), some (.int r1)]) rfl ?_
    refine mm_iload_n (M := M_Model_seek) d_Model_seek_26 rfl ?_
    refine mm_iconst (M := M_Model_seek) (v := 2) d_Model_seek_27 (by decide) ?_
    refine mm_icmp_ne (M := M_Model_seek) 34 d_Model_seek_28 (by decide) (fun c => ?_) (fun c => ?_)
    · have h := h.1 c
      refine mm_iload_n (M := M_Model_seek) d_Model_seek_34 rfl ?_
      refine mm_iconst (M := M_Model_seek) (v := 1) d_Model_seek_35 (by decide) ?_
      refine mm_icmp_ne (M := M_Model_seek) 67 d_Model_seek_36 (by decide) (fun c => ?_) (fun c => ?_)
      · have h := h.1 c
        refine mm_iinc (M := M_Model_seek) (v := 1) d_Model_seek_67 rfl (by decide) (Nat.le_of_ble_eq_true rfl) ?_
        refine mm_eqL (L' := [some (.ref 0), none, some (.int (z2 + 1)), some (.int r1)]) rfl ?_
        refine mm_goto (M := M_Model_seek) (tgt := 12) d_Model_seek_70 (by decide) ?_
        refine mm_drop (L' := [some (.ref 0), none, some (.int (z2 + 1)), none]) ⟨rfl, ⟨rfl, trivial⟩⟩ ?_
        exact hX h
      · have h := h.2 c
        refine mm_aload_n (M := M_Model_seek) d_Model_seek_39 rfl ?_
        refine mm_iconst (M := M_Model_seek) (v := 1) d_Model_seek_40 (by decide) ?_
        refine mm_putf (M := M_Model_seek) 7 11 .boolean d_Model_seek_41 fl_Model_96 fp_Model_96 ft_7_11 xg_0 (Nat.le_of_ble_eq_true rfl) (Or.inr rfl) ?_
        refine mm_eqw xs_11 ?_
        refine mm_aload_n (M := M_Model_seek) d_Model_seek_44 rfl ?_
        refine mm_iload_n (M := M_Model_seek) d_Model_seek_45 rfl ?_
        refine mm_putf (M := M_Model_seek) 7 12 .int d_Model_seek_46 fl_Model_220 fp_Model_220 ft_7_12 xg_0 (Nat.le_of_ble_eq_true rfl) trivial ?_
        refine mm_eqw xs_12 ?_
        refine mm_aload_n (M := M_Model_seek) d_Model_seek_49 rfl ?_
        refine mm_aload_n (M := M_Model_seek) d_Model_seek_50 rfl ?_
        refine mm_getf (M := M_Model_seek) (u := .int (i1 24)) 7 24 d_Model_seek_51 fl_Model_120 xg_0 rfl ?_
        refine mm_putf (M := M_Model_seek) 7 13 .int d_Model_seek_54 fl_Model_223 fp_Model_223 ft_7_13 xg_0 (Nat.le_of_ble_eq_true rfl) trivial ?_
        refine mm_eqw xs_13 ?_
        refine mm_aload_n (M := M_Model_seek) d_Model_seek_57 rfl ?_
        refine mm_aload_n (M := M_Model_seek) d_Model_seek_58 rfl ?_
        refine mm_getf (M := M_Model_seek) (u := .long (l1 26)) 7 26 d_Model_seek_59 fl_Model_123 xg_0 rfl ?_
        refine mm_putf (M := M_Model_seek) 7 14 .long d_Model_seek_62 fl_Model_226 fp_Model_226 ft_7_14 xg_0 (Nat.le_of_ble_eq_true rfl) trivial ?_
        refine mm_eqw xs_14 ?_
        refine mm_iload_n (M := M_Model_seek) d_Model_seek_65 rfl ?_
        exact mm_retv (M := M_Model_seek) ⟨_, rfl, rfl, d_Model_seek_66⟩ ⟨_, _, _, _, _, rfl, rfl, h⟩
    · have h := h.2 c
      refine mm_bipush (M := M_Model_seek) (v := (-5)) d_Model_seek_31 (by decide) ?_
      exact mm_retv (M := M_Model_seek) ⟨_, rfl, rfl, d_Model_seek_33⟩ ⟨_, _, _, _, _, rfl, rfl, h⟩
theorem vl_Model_seek_0 {k0 : Nat} {t : mm_H} {K : Int32 → mm_i → mm_j → mm_a → mm_b → Prop} : ∀ (n : Nat) {i : mm_i} {l : mm_j} {a : mm_a} {b : mm_b} {z2 : Int32}, wl_Model_seek_0 K n i l a b z2 → mm_V M_Model_seek 6 k0 (mx_PI t K) 0 0 12 [some (.ref 0), none, some (.int z2), none] [] (Wm i l a b ++ t)
  | 0, _, _, _, _, _, h => h.elim
  | n + 1, _, _, _, _, _, h => vt_Model_seek_0 (fun h => vl_Model_seek_0 n h) h
def wp_Model_seek_0 (i : mm_i) (l : mm_j) (a : mm_a) (b : mm_b) (x1 : Int32) (K : Int32 → mm_i → mm_j → mm_a → mm_b → Prop) : Prop :=
  ∃ n, wl_Model_seek_0 K n (upd (upd i 10 0) 11 0) l a b x1
set_option maxRecDepth 100000 in
set_option maxHeartbeats 4000000 in
theorem ct_Model_seek_0 {i : mm_i} {l : mm_j} {a : mm_a} {b : mm_b} {t : mm_H} {x1 : Int32} {K : Int32 → mm_i → mm_j → mm_a → mm_b → Prop} (h : wp_Model_seek_0 i l a b x1 K) : mm_Ct y_Model_seek M_Model_seek 6 0 0 [.ref 0, .int x1] (Wm i l a b ++ t) (mx_PI t K) := by
  refine mm_Ct.of (by decide) rfl (fun q => absurd q (by decide)) (Nat.le_of_ble_eq_true rfl) ?_
  unfold wp_Model_seek_0 at h
  refine mm_eqL (L' := [some (.ref 0), some (.int x1), none, none]) rfl ?_
  refine mm_aload_n (M := M_Model_seek) d_Model_seek_0 rfl ?_
  refine mm_iconst (M := M_Model_seek) (v := 0) d_Model_seek_1 (by decide) ?_
  refine mm_putf (M := M_Model_seek) 7 10 .int d_Model_seek_2 fl_Model_173 fp_Model_173 ft_7_10 xg_0 (Nat.le_of_ble_eq_true rfl) trivial ?_
  refine mm_eqw xs_10 ?_
  refine mm_aload_n (M := M_Model_seek) d_Model_seek_5 rfl ?_
  refine mm_iconst (M := M_Model_seek) (v := 0) d_Model_seek_6 (by decide) ?_
  refine mm_putf (M := M_Model_seek) 7 11 .boolean d_Model_seek_7 fl_Model_96 fp_Model_96 ft_7_11 xg_0 (Nat.le_of_ble_eq_true rfl) (Or.inl rfl) ?_
  refine mm_eqw xs_11 ?_
  refine mm_iload_n (M := M_Model_seek) d_Model_seek_10 rfl ?_
  refine mm_istore_n (M := M_Model_seek) d_Model_seek_11 (Nat.le_of_ble_eq_true rfl) ?_
  refine mm_eqL (L' := [some (.ref 0), some (.int x1), some (.int x1), none]) rfl ?_
  obtain ⟨n, h⟩ := h
  refine mm_drop (L' := [some (.ref 0), none, some (.int x1), none]) ⟨rfl, ⟨rfl, trivial⟩⟩ ?_
  exact (vl_Model_seek_0 n) h
def wp_Model_search_0 (i : mm_i) (l : mm_j) (a : mm_a) (b : mm_b) (x1 : Int32) (K : Int32 → mm_i → mm_j → mm_a → mm_b → Prop) : Prop :=
  ((i 3) = 0 → K (-1) i l a b) ∧ (¬ (i 3) = 0 → wp_Model_in i l a b x1 0 (i 8) (fun r1 i1 l1 a1 b1 => (¬ r1 = 0 → wp_Model_seek_0 i1 l1 a1 b1 x1 (fun r2 i2 l2 a2 b2 => K r2 i2 l2 a2 b2)) ∧ (r1 = 0 → K (-1) i1 l1 a1 b1)))
set_option maxRecDepth 100000 in
set_option maxHeartbeats 4000000 in
theorem ct_Model_search_0 {i : mm_i} {l : mm_j} {a : mm_a} {b : mm_b} {t : mm_H} {x1 : Int32} {K : Int32 → mm_i → mm_j → mm_a → mm_b → Prop} (h : wp_Model_search_0 i l a b x1 K) : mm_Ct y_Model_search M_Model_search 7 0 0 [.ref 0, .int x1] (Wm i l a b ++ t) (mx_PI t K) := by
  refine mm_Ct.of (by decide) rfl (fun q => absurd q (by decide)) (Nat.le_of_ble_eq_true rfl) ?_
  unfold wp_Model_search_0 at h
  refine mm_eqL (L' := [some (.ref 0), some (.int x1)]) rfl ?_
  refine mm_aload_n (M := M_Model_search) d_Model_search_0 rfl ?_
  refine mm_getf (M := M_Model_search) (u := .int (i 3)) 7 3 d_Model_search_1 fl_Model_83 xg_0 rfl ?_
  refine mm_if_eq (M := M_Model_search) 19 d_Model_search_4 (by decide) (fun c => ?_) (fun c => ?_)
  · have h := h.1 c
    refine mm_iconst (M := M_Model_search) (v := (-1)) d_Model_search_19 (by decide) ?_
    refine mm_goto (M := M_Model_search) (tgt := 28) d_Model_search_20 (by decide) ?_
    exact mm_retv (M := M_Model_search) ⟨_, rfl, rfl, d_Model_search_28⟩ ⟨_, _, _, _, _, rfl, rfl, h⟩
  · have h := h.2 c
    refine mm_iload_n (M := M_Model_search) d_Model_search_7 rfl ?_
    refine mm_iconst (M := M_Model_search) (v := 0) d_Model_search_8 (by decide) ?_
    refine mm_aload_n (M := M_Model_search) d_Model_search_9 rfl ?_
    refine mm_getf (M := M_Model_search) (u := .int (i 8)) 7 8 d_Model_search_10 fl_Model_99 xg_0 rfl ?_
    refine mm_eqs (st2 := [.int x1, .int 0, .int (i 8)].reverse ++ []) rfl ?_
    refine mm_callS (M := M_Model_search) (y := y_Model_in) (M' := M_Model_in) (d' := 0) (kc := 0) (ks := 0) (kc' := 0) (ks' := 0) (n := 3) d_Model_search_13 ok_Model_in ml_Model_39 (by decide) rfl (Nat.le_of_ble_eq_true rfl) tw_775 (ct_Model_in h) (fun v w h => ?_)
    obtain ⟨r1, i1, l1, a1, b1, rfl, rfl, h⟩ := h
    refine mm_eqs (st2 := [.int r1]) rfl ?_
    refine mm_if_ne (M := M_Model_search) 23 d_Model_search_16 (by decide) (fun c => ?_) (fun c => ?_)
    · have h := h.1 c
      refine mm_aload_n (M := M_Model_search) d_Model_search_23 rfl ?_
      refine mm_iload_n (M := M_Model_search) d_Model_search_24 rfl ?_
      refine mm_eqs (st2 := [.int x1].reverse ++ .ref 0 :: []) rfl ?_
      refine mm_callV (M := M_Model_search) (y := y_Model_seek) (M' := M_Model_seek) (d' := 6) (kc := 0) (ks := 0) (kc' := 0) (ks' := 0) (n := 1) d_Model_search_25 ok_Model_seek ml_Model_229 (by decide) rfl (Nat.le_of_ble_eq_true rfl) ⟨tw_834, ts_Model_seek⟩ xg_0 rfl (ct_Model_seek_0 h) (fun v w h => ?_)
      obtain ⟨r2, i2, l2, a2, b2, rfl, rfl, h⟩ := h
      refine mm_eqs (st2 := [.int r2]) rfl ?_
      exact mm_retv (M := M_Model_search) ⟨_, rfl, rfl, d_Model_search_28⟩ ⟨_, _, _, _, _, rfl, rfl, h⟩
    · have h := h.2 c
      refine mm_iconst (M := M_Model_search) (v := (-1)) d_Model_search_19 (by decide) ?_
      refine mm_goto (M := M_Model_search) (tgt := 28) d_Model_search_20 (by decide) ?_
      exact mm_retv (M := M_Model_search) ⟨_, rfl, rfl, d_Model_search_28⟩ ⟨_, _, _, _, _, rfl, rfl, h⟩
def wq_Model_again_0_41 (K : Int32 → mm_i → mm_j → mm_a → mm_b → Prop) (i : mm_i) (l : mm_j) (a : mm_a) (b : mm_b) (z1 : Int32) : Prop :=
  ((i 8) < z1 → K (-4) (upd (upd i 11 0) 10 0) l a b) ∧ (¬ (i 8) < z1 → wp_Model_seek_0 i l a b z1 (fun r1 i1 l1 a1 b1 => K r1 i1 l1 a1 b1))
set_option maxRecDepth 100000 in
set_option maxHeartbeats 4000000 in
theorem vq_Model_again_0_41 {k0 : Nat} {t : mm_H} {K : Int32 → mm_i → mm_j → mm_a → mm_b → Prop} {i : mm_i} {l : mm_j} {a : mm_a} {b : mm_b} {z1 : Int32} (h : wq_Model_again_0_41 K i l a b z1) : mm_V M_Model_again 7 k0 (mx_PI t K) 0 0 41 [some (.ref 0), some (.int z1)] [] (Wm i l a b ++ t) := by
  unfold wq_Model_again_0_41 at h
  refine mm_iload_n (M := M_Model_again) d_Model_again_41 rfl ?_
  refine mm_aload_n (M := M_Model_again) d_Model_again_42 rfl ?_
  refine mm_getf (M := M_Model_again) (u := .int (i 8)) 7 8 d_Model_again_43 fl_Model_99 xg_0 rfl ?_
  refine mm_icmp_gt (M := M_Model_again) 55 d_Model_again_46 (by decide) (fun c => ?_) (fun c => ?_)
  · have h := h.1 c
    refine mm_aload_n (M := M_Model_again) d_Model_again_55 rfl ?_
    refine mm_iconst (M := M_Model_again) (v := 0) d_Model_again_56 (by decide) ?_
    refine mm_putf (M := M_Model_again) 7 11 .boolean d_Model_again_57 fl_Model_96 fp_Model_96 ft_7_11 xg_0 (Nat.le_of_ble_eq_true rfl) (Or.inl rfl) ?_
    refine mm_eqw xs_11 ?_
    refine mm_aload_n (M := M_Model_again) d_Model_again_60 rfl ?_
    refine mm_iconst (M := M_Model_again) (v := 0) d_Model_again_61 (by decide) ?_
    refine mm_putf (M := M_Model_again) 7 10 .int d_Model_again_62 fl_Model_173 fp_Model_173 ft_7_10 xg_0 (Nat.le_of_ble_eq_true rfl) trivial ?_
    refine mm_eqw xs_10 ?_
    refine mm_bipush (M := M_Model_again) (v := (-4)) d_Model_again_65 (by decide) ?_
    exact mm_retv (M := M_Model_again) ⟨_, rfl, rfl, d_Model_again_67⟩ ⟨_, _, _, _, _, rfl, rfl, h⟩
  · have h := h.2 c
    refine mm_aload_n (M := M_Model_again) d_Model_again_49 rfl ?_
    refine mm_iload_n (M := M_Model_again) d_Model_again_50 rfl ?_
    refine mm_eqs (st2 := [.int z1].reverse ++ .ref 0 :: []) rfl ?_
    refine mm_callV (M := M_Model_again) (y := y_Model_seek) (M' := M_Model_seek) (d' := 6) (kc := 0) (ks := 0) (kc' := 0) (ks' := 0) (n := 1) d_Model_again_51 ok_Model_seek ml_Model_229 (by decide) rfl (Nat.le_of_ble_eq_true rfl) ⟨tw_834, ts_Model_seek⟩ xg_0 rfl (ct_Model_seek_0 h) (fun v w h => ?_)
    obtain ⟨r1, i1, l1, a1, b1, rfl, rfl, h⟩ := h
    refine mm_eqs (st2 := [.int r1]) rfl ?_
    exact mm_retv (M := M_Model_again) ⟨_, rfl, rfl, d_Model_again_54⟩ ⟨_, _, _, _, _, rfl, rfl, h⟩
def wp_Model_again_0 (i : mm_i) (l : mm_j) (a : mm_a) (b : mm_b)  (K : Int32 → mm_i → mm_j → mm_a → mm_b → Prop) : Prop :=
  ((i 11) = 0 → wq_Model_again_0_41 K i l a b ((i 8) + (1 : Int32))) ∧ (¬ (i 11) = 0 → ((i 13) ≤ (i 12) → wq_Model_again_0_41 K i l a b ((i 13) + (1 : Int32))) ∧ (¬ (i 13) ≤ (i 12) → wq_Model_again_0_41 K i l a b (i 13)))
set_option maxRecDepth 100000 in
set_option maxHeartbeats 4000000 in
theorem ct_Model_again_0 {i : mm_i} {l : mm_j} {a : mm_a} {b : mm_b} {t : mm_H}  {K : Int32 → mm_i → mm_j → mm_a → mm_b → Prop} (h : wp_Model_again_0 i l a b  K) : mm_Ct y_Model_again M_Model_again 7 0 0 [.ref 0] (Wm i l a b ++ t) (mx_PI t K) := by
  refine mm_Ct.of (by decide) rfl (fun q => absurd q (by decide)) (Nat.le_of_ble_eq_true rfl) ?_
  unfold wp_Model_again_0 at h
  refine mm_eqL (L' := [some (.ref 0), none]) rfl ?_
  refine mm_aload_n (M := M_Model_again) d_Model_again_0 rfl ?_
  refine mm_getf (M := M_Model_again) (u := .int (i 11)) 7 11 d_Model_again_1 fl_Model_96 xg_0 rfl ?_
  refine mm_if_eq (M := M_Model_again) 34 d_Model_again_4 (by decide) (fun c => ?_) (fun c => ?_)
  · have h := h.1 c
    refine mm_aload_n (M := M_Model_again) d_Model_again_34 rfl ?_
    refine mm_getf (M := M_Model_again) (u := .int (i 8)) 7 8 d_Model_again_35 fl_Model_99 xg_0 rfl ?_
    refine mm_iconst (M := M_Model_again) (v := 1) d_Model_again_38 (by decide) ?_
    refine mm_iadd (M := M_Model_again) d_Model_again_39 ?_
    refine mm_istore_n (M := M_Model_again) d_Model_again_40 (Nat.le_of_ble_eq_true rfl) ?_
    refine mm_eqL (L' := [some (.ref 0), some (.int ((i 8) + (1 : Int32)))]) rfl ?_
    refine mm_drop (L' := [some (.ref 0), some (.int ((i 8) + (1 : Int32)))]) ⟨rfl, ⟨rfl, trivial⟩⟩ ?_
    exact vq_Model_again_0_41 h
  · have h := h.2 c
    refine mm_aload_n (M := M_Model_again) d_Model_again_7 rfl ?_
    refine mm_getf (M := M_Model_again) (u := .int (i 13)) 7 13 d_Model_again_8 fl_Model_223 xg_0 rfl ?_
    refine mm_aload_n (M := M_Model_again) d_Model_again_11 rfl ?_
    refine mm_getf (M := M_Model_again) (u := .int (i 12)) 7 12 d_Model_again_12 fl_Model_220 xg_0 rfl ?_
    refine mm_icmp_le (M := M_Model_again) 25 d_Model_again_15 (by decide) (fun c => ?_) (fun c => ?_)
    · have h := h.1 c
      refine mm_aload_n (M := M_Model_again) d_Model_again_25 rfl ?_
      refine mm_getf (M := M_Model_again) (u := .int (i 13)) 7 13 d_Model_again_26 fl_Model_223 xg_0 rfl ?_
      refine mm_iconst (M := M_Model_again) (v := 1) d_Model_again_29 (by decide) ?_
      refine mm_iadd (M := M_Model_again) d_Model_again_30 ?_
      refine mm_goto (M := M_Model_again) (tgt := 40) d_Model_again_31 (by decide) ?_
      refine mm_istore_n (M := M_Model_again) d_Model_again_40 (Nat.le_of_ble_eq_true rfl) ?_
      refine mm_eqL (L' := [some (.ref 0), some (.int ((i 13) + (1 : Int32)))]) rfl ?_
      refine mm_drop (L' := [some (.ref 0), some (.int ((i 13) + (1 : Int32)))]) ⟨rfl, ⟨rfl, trivial⟩⟩ ?_
      exact vq_Model_again_0_41 h
    · have h := h.2 c
      refine mm_aload_n (M := M_Model_again) d_Model_again_18 rfl ?_
      refine mm_getf (M := M_Model_again) (u := .int (i 13)) 7 13 d_Model_again_19 fl_Model_223 xg_0 rfl ?_
      refine mm_goto (M := M_Model_again) (tgt := 40) d_Model_again_22 (by decide) ?_
      refine mm_istore_n (M := M_Model_again) d_Model_again_40 (Nat.le_of_ble_eq_true rfl) ?_
      refine mm_eqL (L' := [some (.ref 0), some (.int (i 13))]) rfl ?_
      refine mm_drop (L' := [some (.ref 0), some (.int (i 13))]) ⟨rfl, ⟨rfl, trivial⟩⟩ ?_
      exact vq_Model_again_0_41 h
def wp_Model_bound_0 (i : mm_i) (l : mm_j) (a : mm_a) (b : mm_b) (x1 : Int32) (x2 : Int32) (K : Int32 → mm_i → mm_j → mm_a → mm_b → Prop) : Prop :=
  ((i 11) = 0 → K (-6) i l a b) ∧ (¬ (i 11) = 0 → wp_Model_in i l a b x1 0 4 (fun r1 i1 l1 a1 b1 => (¬ r1 = 0 → (¬ x1 = 0 → wp_Model_capture_0 i1 l1 a1 b1 (l1 14) x1 x2 (fun r2 i2 l2 a2 b2 => K r2 i2 l2 a2 b2)) ∧ (x1 = 0 → (x2 = 0 → K (i1 12) i1 l1 a1 b1) ∧ (¬ x2 = 0 → K (i1 13) i1 l1 a1 b1))) ∧ (r1 = 0 → K (-6) i1 l1 a1 b1)))
set_option maxRecDepth 100000 in
set_option maxHeartbeats 4000000 in
theorem ct_Model_bound_0 {i : mm_i} {l : mm_j} {a : mm_a} {b : mm_b} {t : mm_H} {x1 : Int32} {x2 : Int32} {K : Int32 → mm_i → mm_j → mm_a → mm_b → Prop} (h : wp_Model_bound_0 i l a b x1 x2 K) : mm_Ct y_Model_bound M_Model_bound 1 0 0 [.ref 0, .int x1, .int x2] (Wm i l a b ++ t) (mx_PI t K) := by
  refine mm_Ct.of (by decide) rfl (fun q => absurd q (by decide)) (Nat.le_of_ble_eq_true rfl) ?_
  unfold wp_Model_bound_0 at h
  refine mm_eqL (L' := [some (.ref 0), some (.int x1), some (.int x2)]) rfl ?_
  refine mm_aload_n (M := M_Model_bound) d_Model_bound_0 rfl ?_
  refine mm_getf (M := M_Model_bound) (u := .int (i 11)) 7 11 d_Model_bound_1 fl_Model_96 xg_0 rfl ?_
  refine mm_if_eq (M := M_Model_bound) 16 d_Model_bound_4 (by decide) (fun c => ?_) (fun c => ?_)
  · have h := h.1 c
    refine mm_bipush (M := M_Model_bound) (v := (-6)) d_Model_bound_16 (by decide) ?_
    exact mm_retv (M := M_Model_bound) ⟨_, rfl, rfl, d_Model_bound_18⟩ ⟨_, _, _, _, _, rfl, rfl, h⟩
  · have h := h.2 c
    refine mm_iload_n (M := M_Model_bound) d_Model_bound_7 rfl ?_
    refine mm_iconst (M := M_Model_bound) (v := 0) d_Model_bound_8 (by decide) ?_
    refine mm_iconst (M := M_Model_bound) (v := 4) d_Model_bound_9 (by decide) ?_
    refine mm_eqs (st2 := [.int x1, .int 0, .int 4].reverse ++ []) rfl ?_
    refine mm_callS (M := M_Model_bound) (y := y_Model_in) (M' := M_Model_in) (d' := 0) (kc := 0) (ks := 0) (kc' := 0) (ks' := 0) (n := 3) d_Model_bound_10 ok_Model_in ml_Model_39 (by decide) rfl (Nat.le_of_ble_eq_true rfl) tw_775 (ct_Model_in h) (fun v w h => ?_)
    obtain ⟨r1, i1, l1, a1, b1, rfl, rfl, h⟩ := h
    refine mm_eqs (st2 := [.int r1]) rfl ?_
    refine mm_if_ne (M := M_Model_bound) 19 d_Model_bound_13 (by decide) (fun c => ?_) (fun c => ?_)
    · have h := h.1 c
      refine mm_iload_n (M := M_Model_bound) d_Model_bound_19 rfl ?_
      refine mm_if_ne (M := M_Model_bound) 39 d_Model_bound_20 (by decide) (fun c => ?_) (fun c => ?_)
      · have h := h.1 c
        refine mm_aload_n (M := M_Model_bound) d_Model_bound_39 rfl ?_
        refine mm_aload_n (M := M_Model_bound) d_Model_bound_40 rfl ?_
        refine mm_getf (M := M_Model_bound) (u := .long (l1 14)) 7 14 d_Model_bound_41 fl_Model_226 xg_0 rfl ?_
        refine mm_iload_n (M := M_Model_bound) d_Model_bound_44 rfl ?_
        refine mm_iload_n (M := M_Model_bound) d_Model_bound_45 rfl ?_
        refine mm_eqs (st2 := [.long (l1 14), .int x1, .int x2].reverse ++ .ref 0 :: []) rfl ?_
        refine mm_callV (M := M_Model_bound) (y := y_Model_capture) (M' := M_Model_capture) (d' := 0) (kc := 0) (ks := 0) (kc' := 0) (ks' := 0) (n := 3) d_Model_bound_46 ok_Model_capture ml_Model_142 (by decide) rfl (Nat.le_of_ble_eq_true rfl) ⟨tw_919, ts_Model_capture⟩ xg_0 rfl (ct_Model_capture_0 h) (fun v w h => ?_)
        obtain ⟨r2, i2, l2, a2, b2, rfl, rfl, h⟩ := h
        refine mm_eqs (st2 := [.int r2]) rfl ?_
        exact mm_retv (M := M_Model_bound) ⟨_, rfl, rfl, d_Model_bound_49⟩ ⟨_, _, _, _, _, rfl, rfl, h⟩
      · have h := h.2 c
        refine mm_iload_n (M := M_Model_bound) d_Model_bound_23 rfl ?_
        refine mm_if_eq (M := M_Model_bound) 34 d_Model_bound_24 (by decide) (fun c => ?_) (fun c => ?_)
        · have h := h.1 c
          refine mm_aload_n (M := M_Model_bound) d_Model_bound_34 rfl ?_
          refine mm_getf (M := M_Model_bound) (u := .int (i1 12)) 7 12 d_Model_bound_35 fl_Model_220 xg_0 rfl ?_
          exact mm_retv (M := M_Model_bound) ⟨_, rfl, rfl, d_Model_bound_38⟩ ⟨_, _, _, _, _, rfl, rfl, h⟩
        · have h := h.2 c
          refine mm_aload_n (M := M_Model_bound) d_Model_bound_27 rfl ?_
          refine mm_getf (M := M_Model_bound) (u := .int (i1 13)) 7 13 d_Model_bound_28 fl_Model_223 xg_0 rfl ?_
          refine mm_goto (M := M_Model_bound) (tgt := 38) d_Model_bound_31 (by decide) ?_
          exact mm_retv (M := M_Model_bound) ⟨_, rfl, rfl, d_Model_bound_38⟩ ⟨_, _, _, _, _, rfl, rfl, h⟩
    · have h := h.2 c
      refine mm_bipush (M := M_Model_bound) (v := (-6)) d_Model_bound_16 (by decide) ?_
      exact mm_retv (M := M_Model_bound) ⟨_, rfl, rfl, d_Model_bound_18⟩ ⟨_, _, _, _, _, rfl, rfl, h⟩
def wp_Model_start_0 (i : mm_i) (l : mm_j) (a : mm_a) (b : mm_b) (x1 : Int32) (K : Int32 → mm_i → mm_j → mm_a → mm_b → Prop) : Prop :=
  wp_Model_bound_0 i l a b x1 0 (fun r1 i1 l1 a1 b1 => K r1 i1 l1 a1 b1)
set_option maxRecDepth 100000 in
set_option maxHeartbeats 4000000 in
theorem ct_Model_start_0 {i : mm_i} {l : mm_j} {a : mm_a} {b : mm_b} {t : mm_H} {x1 : Int32} {K : Int32 → mm_i → mm_j → mm_a → mm_b → Prop} (h : wp_Model_start_0 i l a b x1 K) : mm_Ct y_Model_start M_Model_start 2 0 0 [.ref 0, .int x1] (Wm i l a b ++ t) (mx_PI t K) := by
  refine mm_Ct.of (by decide) rfl (fun q => absurd q (by decide)) (Nat.le_of_ble_eq_true rfl) ?_
  unfold wp_Model_start_0 at h
  refine mm_eqL (L' := [some (.ref 0), some (.int x1)]) rfl ?_
  refine mm_aload_n (M := M_Model_start) d_Model_start_0 rfl ?_
  refine mm_iload_n (M := M_Model_start) d_Model_start_1 rfl ?_
  refine mm_iconst (M := M_Model_start) (v := 0) d_Model_start_2 (by decide) ?_
  refine mm_eqs (st2 := [.int x1, .int 0].reverse ++ .ref 0 :: []) rfl ?_
  refine mm_callV (M := M_Model_start) (y := y_Model_bound) (M' := M_Model_bound) (d' := 1) (kc := 0) (ks := 0) (kc' := 0) (ks' := 0) (n := 2) d_Model_start_3 ok_Model_bound ml_Model_232 (by decide) rfl (Nat.le_of_ble_eq_true rfl) ⟨tw_957, ts_Model_bound⟩ xg_0 rfl (ct_Model_bound_0 h) (fun v w h => ?_)
  obtain ⟨r1, i1, l1, a1, b1, rfl, rfl, h⟩ := h
  refine mm_eqs (st2 := [.int r1]) rfl ?_
  exact mm_retv (M := M_Model_start) ⟨_, rfl, rfl, d_Model_start_6⟩ ⟨_, _, _, _, _, rfl, rfl, h⟩
def wp_Model_end_0 (i : mm_i) (l : mm_j) (a : mm_a) (b : mm_b) (x1 : Int32) (K : Int32 → mm_i → mm_j → mm_a → mm_b → Prop) : Prop :=
  wp_Model_bound_0 i l a b x1 1 (fun r1 i1 l1 a1 b1 => K r1 i1 l1 a1 b1)
set_option maxRecDepth 100000 in
set_option maxHeartbeats 4000000 in
theorem ct_Model_end_0 {i : mm_i} {l : mm_j} {a : mm_a} {b : mm_b} {t : mm_H} {x1 : Int32} {K : Int32 → mm_i → mm_j → mm_a → mm_b → Prop} (h : wp_Model_end_0 i l a b x1 K) : mm_Ct y_Model_end M_Model_end 2 0 0 [.ref 0, .int x1] (Wm i l a b ++ t) (mx_PI t K) := by
  refine mm_Ct.of (by decide) rfl (fun q => absurd q (by decide)) (Nat.le_of_ble_eq_true rfl) ?_
  unfold wp_Model_end_0 at h
  refine mm_eqL (L' := [some (.ref 0), some (.int x1)]) rfl ?_
  refine mm_aload_n (M := M_Model_end) d_Model_end_0 rfl ?_
  refine mm_iload_n (M := M_Model_end) d_Model_end_1 rfl ?_
  refine mm_iconst (M := M_Model_end) (v := 1) d_Model_end_2 (by decide) ?_
  refine mm_eqs (st2 := [.int x1, .int 1].reverse ++ .ref 0 :: []) rfl ?_
  refine mm_callV (M := M_Model_end) (y := y_Model_bound) (M' := M_Model_bound) (d' := 1) (kc := 0) (ks := 0) (kc' := 0) (ks' := 0) (n := 2) d_Model_end_3 ok_Model_bound ml_Model_232 (by decide) rfl (Nat.le_of_ble_eq_true rfl) ⟨tw_957, ts_Model_bound⟩ xg_0 rfl (ct_Model_bound_0 h) (fun v w h => ?_)
  obtain ⟨r1, i1, l1, a1, b1, rfl, rfl, h⟩ := h
  refine mm_eqs (st2 := [.int r1]) rfl ?_
  exact mm_retv (M := M_Model_end) ⟨_, rfl, rfl, d_Model_end_6⟩ ⟨_, _, _, _, _, rfl, rfl, h⟩
def wp_Model_steps_0 (i : mm_i) (l : mm_j) (a : mm_a) (b : mm_b)  (K : Int32 → mm_i → mm_j → mm_a → mm_b → Prop) : Prop :=
  K (i 10) i l a b
set_option maxRecDepth 100000 in
set_option maxHeartbeats 4000000 in
theorem ct_Model_steps_0 {i : mm_i} {l : mm_j} {a : mm_a} {b : mm_b} {t : mm_H}  {K : Int32 → mm_i → mm_j → mm_a → mm_b → Prop} (h : wp_Model_steps_0 i l a b  K) : mm_Ct y_Model_steps M_Model_steps 0 0 0 [.ref 0] (Wm i l a b ++ t) (mx_PI t K) := by
  refine mm_Ct.of (by decide) rfl (fun q => absurd q (by decide)) (Nat.le_of_ble_eq_true rfl) ?_
  unfold wp_Model_steps_0 at h
  refine mm_eqL (L' := [some (.ref 0)]) rfl ?_
  refine mm_aload_n (M := M_Model_steps) d_Model_steps_0 rfl ?_
  refine mm_getf (M := M_Model_steps) (u := .int (i 10)) 7 10 d_Model_steps_1 fl_Model_173 xg_0 rfl ?_
  exact mm_retv (M := M_Model_steps) ⟨_, rfl, rfl, d_Model_steps_4⟩ ⟨_, _, _, _, _, rfl, rfl, h⟩
def wt_Model_matches_0 (X : mm_i → mm_j → mm_a → mm_b → Int32 → Int32 → Prop) (K : Int32 → mm_i → mm_j → mm_a → mm_b → Prop) (i : mm_i) (l : mm_j) (a : mm_a) (b : mm_b) (z1 : Int32) (z2 : Int32) : Prop :=
  ((i 8) < z2 → K z1 (upd i 11 0) l a b) ∧ (¬ (i 8) < z2 → wp_Model_seek_0 i l a b z2 (fun r1 i1 l1 a1 b1 => (0 ≤ r1 → ((i1 13) ≤ (i1 12) → X i1 l1 a1 b1 (z1 + 1) ((i1 13) + (1 : Int32))) ∧ (¬ (i1 13) ≤ (i1 12) → X i1 l1 a1 b1 (z1 + 1) (i1 13))) ∧ (¬ 0 ≤ r1 → (¬ r1 = ((-5) : Int32) → K z1 i1 l1 a1 b1) ∧ (r1 = ((-5) : Int32) → K (-5) i1 l1 a1 b1))))
def wl_Model_matches_0 (K : Int32 → mm_i → mm_j → mm_a → mm_b → Prop) : Nat → mm_i → mm_j → mm_a → mm_b → Int32 → Int32 → Prop
  | 0 => fun _ _ _ _ _ _ => False
  | n + 1 => fun i l a b z1 z2 => wt_Model_matches_0 (wl_Model_matches_0 K n) K i l a b z1 z2
set_option maxRecDepth 100000 in
set_option maxHeartbeats 4000000 in
theorem vt_Model_matches_0 {k0 : Nat} {t : mm_H} {K : Int32 → mm_i → mm_j → mm_a → mm_b → Prop} {X : mm_i → mm_j → mm_a → mm_b → Int32 → Int32 → Prop} (hX : ∀ {i l a b z1 z2}, X i l a b z1 z2 → mm_V M_Model_matches 7 k0 (mx_PI t K) 0 0 13 [some (.ref 0), some (.int z1), some (.int z2), none] [] (Wm i l a b ++ t)) {i : mm_i} {l : mm_j} {a : mm_a} {b : mm_b} {z1 : Int32} {z2 : Int32} (h : wt_Model_matches_0 X K i l a b z1 z2) : mm_V M_Model_matches 7 k0 (mx_PI t K) 0 0 13 [some (.ref 0), some (.int z1), some (.int z2), none] [] (Wm i l a b ++ t) := by
  unfold wt_Model_matches_0 at h
  refine mm_iload_n (M := M_Model_matches) d_Model_matches_13 rfl ?_
  refine mm_aload_n (M := M_Model_matches) d_Model_matches_14 rfl ?_
  refine mm_getf (M := M_Model_matches) (u := .int (i 8)) 7 8 d_Model_matches_15 fl_Model_99 xg_0 rfl ?_
  refine mm_icmp_gt (M := M_Model_matches) 75 d_Model_matches_18 (by decide) (fun c => ?_) (fun c => ?_)
  · have h := h.1 c
    refine mm_aload_n (M := M_Model_matches) d_Model_matches_75 rfl ?_
    refine mm_iconst (M := M_Model_matches) (v := 0) d_Model_matches_76 (by decide) ?_
    refine mm_putf (M := M_Model_matches) 7 11 .boolean d_Model_matches_77 fl_Model_96 fp_Model_96 ft_7_11 xg_0 (Nat.le_of_ble_eq_true rfl) (Or.inl rfl) ?_
    refine mm_eqw xs_11 ?_
    refine mm_iload_n (M := M_Model_matches) d_Model_matches_80 rfl ?_
    exact mm_retv (M := M_Model_matches) ⟨_, rfl, rfl, d_Model_matches_81⟩ ⟨_, _, _, _, _, rfl, rfl, h⟩
  · have h := h.2 c
    refine mm_aload_n (M := M_Model_matches) d_Model_matches_21 rfl ?_
    refine mm_iload_n (M := M_Model_matches) d_Model_matches_22 rfl ?_
    refine mm_eqs (st2 := [.int z2].reverse ++ .ref 0 :: []) rfl ?_
    refine mm_callV (M := M_Model_matches) (y := y_Model_seek) (M' := M_Model_seek) (d' := 6) (kc := 0) (ks := 0) (kc' := 0) (ks' := 0) (n := 1) d_Model_matches_23 ok_Model_seek ml_Model_229 (by decide) rfl (Nat.le_of_ble_eq_true rfl) ⟨tw_834, ts_Model_seek⟩ xg_0 rfl (ct_Model_seek_0 h) (fun v w h => ?_)
    obtain ⟨r1, i1, l1, a1, b1, rfl, rfl, h⟩ := h
    refine mm_eqs (st2 := [.int r1]) rfl ?_
    refine mm_istore_n (M := M_Model_matches) d_Model_matches_26 (Nat.le_of_ble_eq_true rfl) ?_
    refine mm_eqL (L' := [some (.ref 0), some (.int z1), some (.int z2), some (.int r1)]) rfl ?_
    refine mm_iload_n (M := M_Model_matches) d_Model_matches_27 rfl ?_
    refine mm_if_ge (M := M_Model_matches) 44 d_Model_matches_28 (by decide) (fun c => ?_) (fun c => ?_)
    · have h := h.1 c
      refine mm_iinc (M := M_Model_matches) (v := 1) d_Model_matches_44 rfl (by decide) (Nat.le_of_ble_eq_true rfl) ?_
      refine mm_eqL (L' := [some (.ref 0), some (.int (z1 + 1)), some (.int z2), some (.int r1)]) rfl ?_
      refine mm_aload_n (M := M_Model_matches) d_Model_matches_47 rfl ?_
      refine mm_getf (M := M_Model_matches) (u := .int (i1 13)) 7 13 d_Model_matches_48 fl_Model_223 xg_0 rfl ?_
      refine mm_aload_n (M := M_Model_matches) d_Model_matches_51 rfl ?_
      refine mm_getf (M := M_Model_matches) (u := .int (i1 12)) 7 12 d_Model_matches_52 fl_Model_220 xg_0 rfl ?_
      refine mm_icmp_le (M := M_Model_matches) 65 d_Model_matches_55 (by decide) (fun c => ?_) (fun c => ?_)
      · have h := h.1 c
        refine mm_aload_n (M := M_Model_matches) d_Model_matches_65 rfl ?_
        refine mm_getf (M := M_Model_matches) (u := .int (i1 13)) 7 13 d_Model_matches_66 fl_Model_223 xg_0 rfl ?_
        refine mm_iconst (M := M_Model_matches) (v := 1) d_Model_matches_69 (by decide) ?_
        refine mm_iadd (M := M_Model_matches) d_Model_matches_70 ?_
        refine mm_istore_n (M := M_Model_matches) d_Model_matches_71 (Nat.le_of_ble_eq_true rfl) ?_
        refine mm_eqL (L' := [some (.ref 0), some (.int (z1 + 1)), some (.int ((i1 13) + (1 : Int32))), some (.int r1)]) rfl ?_
        refine mm_goto (M := M_Model_matches) (tgt := 13) d_Model_matches_72 (by decide) ?_
        refine mm_drop (L' := [some (.ref 0), some (.int (z1 + 1)), some (.int ((i1 13) + (1 : Int32))), none]) ⟨rfl, ⟨rfl, ⟨rfl, trivial⟩⟩⟩ ?_
        exact hX h
      · have h := h.2 c
        refine mm_aload_n (M := M_Model_matches) d_Model_matches_58 rfl ?_
        refine mm_getf (M := M_Model_matches) (u := .int (i1 13)) 7 13 d_Model_matches_59 fl_Model_223 xg_0 rfl ?_
        refine mm_goto (M := M_Model_matches) (tgt := 71) d_Model_matches_62 (by decide) ?_
        refine mm_istore_n (M := M_Model_matches) d_Model_matches_71 (Nat.le_of_ble_eq_true rfl) ?_
        refine mm_eqL (L' := [some (.ref 0), some (.int (z1 + 1)), some (.int (i1 13)), some (.int r1)]) rfl ?_
        refine mm_goto (M := M_Model_matches) (tgt := 13) d_Model_matches_72 (by decide) ?_
        refine mm_drop (L' := [some (.ref 0), some (.int (z1 + 1)), some (.int (i1 13)), none]) ⟨rfl, ⟨rfl, ⟨rfl, trivial⟩⟩⟩ ?_
        exact hX h
    · have h := h.2 c
      refine mm_iload_n (M := M_Model_matches) d_Model_matches_31 rfl ?_
      refine mm_bipush (M := M_Model_matches) (v := (-5)) d_Model_matches_32 (by decide) ?_
      refine mm_icmp_ne (M := M_Model_matches) 42 d_Model_matches_34 (by decide) (fun c => ?_) (fun c => ?_)
      · have h := h.1 c
        refine mm_iload_n (M := M_Model_matches) d_Model_matches_42 rfl ?_
        exact mm_retv (M := M_Model_matches) ⟨_, rfl, rfl, d_Model_matches_43⟩ ⟨_, _, _, _, _, rfl, rfl, h⟩
      · have h := h.2 c
        refine mm_bipush (M := M_Model_matches) (v := (-5)) d_Model_matches_37 (by decide) ?_
        refine mm_goto (M := M_Model_matches) (tgt := 43) d_Model_matches_39 (by decide) ?_
        exact mm_retv (M := M_Model_matches) ⟨_, rfl, rfl, d_Model_matches_43⟩ ⟨_, _, _, _, _, rfl, rfl, h⟩
theorem vl_Model_matches_0 {k0 : Nat} {t : mm_H} {K : Int32 → mm_i → mm_j → mm_a → mm_b → Prop} : ∀ (n : Nat) {i : mm_i} {l : mm_j} {a : mm_a} {b : mm_b} {z1 : Int32} {z2 : Int32}, wl_Model_matches_0 K n i l a b z1 z2 → mm_V M_Model_matches 7 k0 (mx_PI t K) 0 0 13 [some (.ref 0), some (.int z1), some (.int z2), none] [] (Wm i l a b ++ t)
  | 0, _, _, _, _, _, _, h => h.elim
  | n + 1, _, _, _, _, _, _, h => vt_Model_matches_0 (fun h => vl_Model_matches_0 n h) h
def wp_Model_matches_0 (i : mm_i) (l : mm_j) (a : mm_a) (b : mm_b)  (K : Int32 → mm_i → mm_j → mm_a → mm_b → Prop) : Prop :=
  (¬ (i 3) = 0 → ∃ n, wl_Model_matches_0 K n i l a b 0 0) ∧ ((i 3) = 0 → K (-1) i l a b)
set_option maxRecDepth 100000 in
set_option maxHeartbeats 4000000 in
theorem ct_Model_matches_0 {i : mm_i} {l : mm_j} {a : mm_a} {b : mm_b} {t : mm_H}  {K : Int32 → mm_i → mm_j → mm_a → mm_b → Prop} (h : wp_Model_matches_0 i l a b  K) : mm_Ct y_Model_matches M_Model_matches 7 0 0 [.ref 0] (Wm i l a b ++ t) (mx_PI t K) := by
  refine mm_Ct.of (by decide) rfl (fun q => absurd q (by decide)) (Nat.le_of_ble_eq_true rfl) ?_
  unfold wp_Model_matches_0 at h
  refine mm_eqL (L' := [some (.ref 0), none, none, none]) rfl ?_
  refine mm_aload_n (M := M_Model_matches) d_Model_matches_0 rfl ?_
  refine mm_getf (M := M_Model_matches) (u := .int (i 3)) 7 3 d_Model_matches_1 fl_Model_83 xg_0 rfl ?_
  refine mm_if_ne (M := M_Model_matches) 9 d_Model_matches_4 (by decide) (fun c => ?_) (fun c => ?_)
  · have h := h.1 c
    refine mm_iconst (M := M_Model_matches) (v := 0) d_Model_matches_9 (by decide) ?_
    refine mm_istore_n (M := M_Model_matches) d_Model_matches_10 (Nat.le_of_ble_eq_true rfl) ?_
    refine mm_eqL (L' := [some (.ref 0), some (.int 0), none, none]) rfl ?_
    refine mm_iconst (M := M_Model_matches) (v := 0) d_Model_matches_11 (by decide) ?_
    refine mm_istore_n (M := M_Model_matches) d_Model_matches_12 (Nat.le_of_ble_eq_true rfl) ?_
    refine mm_eqL (L' := [some (.ref 0), some (.int 0), some (.int 0), none]) rfl ?_
    obtain ⟨n, h⟩ := h
    refine mm_drop (L' := [some (.ref 0), some (.int 0), some (.int 0), none]) ⟨rfl, ⟨rfl, ⟨rfl, trivial⟩⟩⟩ ?_
    exact (vl_Model_matches_0 n) h
  · have h := h.2 c
    refine mm_iconst (M := M_Model_matches) (v := (-1)) d_Model_matches_7 (by decide) ?_
    exact mm_retv (M := M_Model_matches) ⟨_, rfl, rfl, d_Model_matches_8⟩ ⟨_, _, _, _, _, rfl, rfl, h⟩
def wp_Model_count_0 (i : mm_i) (l : mm_j) (a : mm_a) (b : mm_b) (x1 : Int32) (K : Int32 → mm_i → mm_j → mm_a → mm_b → Prop) : Prop :=
  wp_Model_in i l a b x1 0 1 (fun r1 i1 l1 a1 b1 => (r1 = 0 → wp_Model_in i1 l1 a1 b1 x1 2 3 (fun r2 i2 l2 a2 b2 => (¬ r2 = 0 → (¬ (i2 3) = 0 → (¬ x1 = (2 : Int32) → K (i2 6) i2 l2 a2 b2) ∧ (x1 = (2 : Int32) → K (i2 5) i2 l2 a2 b2)) ∧ ((i2 3) = 0 → K (-4) i2 l2 a2 b2)) ∧ (r2 = 0 → K (-1) i2 l2 a2 b2))) ∧ (¬ r1 = 0 → (¬ x1 = 0 → K (i1 8) i1 l1 a1 b1) ∧ (x1 = 0 → K (i1 1) i1 l1 a1 b1)))
set_option maxRecDepth 100000 in
set_option maxHeartbeats 4000000 in
theorem ct_Model_count_0 {i : mm_i} {l : mm_j} {a : mm_a} {b : mm_b} {t : mm_H} {x1 : Int32} {K : Int32 → mm_i → mm_j → mm_a → mm_b → Prop} (h : wp_Model_count_0 i l a b x1 K) : mm_Ct y_Model_count M_Model_count 1 0 0 [.ref 0, .int x1] (Wm i l a b ++ t) (mx_PI t K) := by
  refine mm_Ct.of (by decide) rfl (fun q => absurd q (by decide)) (Nat.le_of_ble_eq_true rfl) ?_
  unfold wp_Model_count_0 at h
  refine mm_eqL (L' := [some (.ref 0), some (.int x1)]) rfl ?_
  refine mm_iload_n (M := M_Model_count) d_Model_count_0 rfl ?_
  refine mm_iconst (M := M_Model_count) (v := 0) d_Model_count_1 (by decide) ?_
  refine mm_iconst (M := M_Model_count) (v := 1) d_Model_count_2 (by decide) ?_
  refine mm_eqs (st2 := [.int x1, .int 0, .int 1].reverse ++ []) rfl ?_
  refine mm_callS (M := M_Model_count) (y := y_Model_in) (M' := M_Model_in) (d' := 0) (kc := 0) (ks := 0) (kc' := 0) (ks' := 0) (n := 3) d_Model_count_3 ok_Model_in ml_Model_39 (by decide) rfl (Nat.le_of_ble_eq_true rfl) tw_775 (ct_Model_in h) (fun v w h => ?_)
  obtain ⟨r1, i1, l1, a1, b1, rfl, rfl, h⟩ := h
  refine mm_eqs (st2 := [.int r1]) rfl ?_
  refine mm_if_eq (M := M_Model_count) 25 d_Model_count_6 (by decide) (fun c => ?_) (fun c => ?_)
  · have h := h.1 c
    refine mm_iload_n (M := M_Model_count) d_Model_count_25 rfl ?_
    refine mm_iconst (M := M_Model_count) (v := 2) d_Model_count_26 (by decide) ?_
    refine mm_iconst (M := M_Model_count) (v := 3) d_Model_count_27 (by decide) ?_
    refine mm_eqs (st2 := [.int x1, .int 2, .int 3].reverse ++ []) rfl ?_
    refine mm_callS (M := M_Model_count) (y := y_Model_in) (M' := M_Model_in) (d' := 0) (kc := 0) (ks := 0) (kc' := 0) (ks' := 0) (n := 3) d_Model_count_28 ok_Model_in ml_Model_39 (by decide) rfl (Nat.le_of_ble_eq_true rfl) tw_775 (ct_Model_in h) (fun v w h => ?_)
    obtain ⟨r2, i2, l2, a2, b2, rfl, rfl, h⟩ := h
    refine mm_eqs (st2 := [.int r2]) rfl ?_
    refine mm_if_ne (M := M_Model_count) 36 d_Model_count_31 (by decide) (fun c => ?_) (fun c => ?_)
    · have h := h.1 c
      refine mm_aload_n (M := M_Model_count) d_Model_count_36 rfl ?_
      refine mm_getf (M := M_Model_count) (u := .int (i2 3)) 7 3 d_Model_count_37 fl_Model_83 xg_0 rfl ?_
      refine mm_if_ne (M := M_Model_count) 48 d_Model_count_40 (by decide) (fun c => ?_) (fun c => ?_)
      · have h := h.1 c
        refine mm_iload_n (M := M_Model_count) d_Model_count_48 rfl ?_
        refine mm_iconst (M := M_Model_count) (v := 2) d_Model_count_49 (by decide) ?_
        refine mm_icmp_ne (M := M_Model_count) 60 d_Model_count_50 (by decide) (fun c => ?_) (fun c => ?_)
        · have h := h.1 c
          refine mm_aload_n (M := M_Model_count) d_Model_count_60 rfl ?_
          refine mm_getf (M := M_Model_count) (u := .int (i2 6)) 7 6 d_Model_count_61 fl_Model_93 xg_0 rfl ?_
          exact mm_retv (M := M_Model_count) ⟨_, rfl, rfl, d_Model_count_64⟩ ⟨_, _, _, _, _, rfl, rfl, h⟩
        · have h := h.2 c
          refine mm_aload_n (M := M_Model_count) d_Model_count_53 rfl ?_
          refine mm_getf (M := M_Model_count) (u := .int (i2 5)) 7 5 d_Model_count_54 fl_Model_90 xg_0 rfl ?_
          refine mm_goto (M := M_Model_count) (tgt := 64) d_Model_count_57 (by decide) ?_
          exact mm_retv (M := M_Model_count) ⟨_, rfl, rfl, d_Model_count_64⟩ ⟨_, _, _, _, _, rfl, rfl, h⟩
      · have h := h.2 c
        refine mm_bipush (M := M_Model_count) (v := (-4)) d_Model_count_43 (by decide) ?_
        refine mm_goto (M := M_Model_count) (tgt := 64) d_Model_count_45 (by decide) ?_
        exact mm_retv (M := M_Model_count) ⟨_, rfl, rfl, d_Model_count_64⟩ ⟨_, _, _, _, _, rfl, rfl, h⟩
    · have h := h.2 c
      refine mm_iconst (M := M_Model_count) (v := (-1)) d_Model_count_34 (by decide) ?_
      exact mm_retv (M := M_Model_count) ⟨_, rfl, rfl, d_Model_count_35⟩ ⟨_, _, _, _, _, rfl, rfl, h⟩
  · have h := h.2 c
    refine mm_iload_n (M := M_Model_count) d_Model_count_9 rfl ?_
    refine mm_if_ne (M := M_Model_count) 20 d_Model_count_10 (by decide) (fun c => ?_) (fun c => ?_)
    · have h := h.1 c
      refine mm_aload_n (M := M_Model_count) d_Model_count_20 rfl ?_
      refine mm_getf (M := M_Model_count) (u := .int (i1 8)) 7 8 d_Model_count_21 fl_Model_99 xg_0 rfl ?_
      exact mm_retv (M := M_Model_count) ⟨_, rfl, rfl, d_Model_count_24⟩ ⟨_, _, _, _, _, rfl, rfl, h⟩
    · have h := h.2 c
      refine mm_aload_n (M := M_Model_count) d_Model_count_13 rfl ?_
      refine mm_getf (M := M_Model_count) (u := .int (i1 1)) 7 1 d_Model_count_14 fl_Model_50 xg_0 rfl ?_
      refine mm_goto (M := M_Model_count) (tgt := 24) d_Model_count_17 (by decide) ?_
      exact mm_retv (M := M_Model_count) ⟨_, rfl, rfl, d_Model_count_24⟩ ⟨_, _, _, _, _, rfl, rfl, h⟩
