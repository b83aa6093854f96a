section LOOP
variable {p : Program} {e : Env} {s : State} {m : MethodId} {below : List Frame} {meth : Method} {c : Code} {l : Launch} {b L : Nat} {xs : Nat → Int32} {D : va_G} {cA : FieldType → ClassId}
set_option maxHeartbeats 4000000 in
set_option maxRecDepth 100000 in
/-- one turn of the law's loop, or its end -/
theorem law_step (hL : L ≤ 1025) (C0 : lw_At p s m meth c b L xs) (hC : la_C s b D cA) {n1 n2 lim q1 q2 i : Nat} {t : LT} (hi : i ≤ L + 2) {H : Heap} {locs : List Loc} {ls : Array Slot}
    (ih : i + 2 ≤ L → ∀ (t : LT) (H : Heap) (locs : List Loc) (ls : Array Slot), lws s D cA n1 n2 lim q1 q2 t t H → va_S (la_A s) s.heap H locs → lv_has ls 4 [(0, .ref b), (1, .ref q1), (2, .ref q2), (3, .int (nI (i + 2)))] → W p l e room_1 s m #[Value.ref b] below meth c H locs 100 200000 (lw_Z below #[Value.ref b] s) (F0 m 28 ls []))
    (hLS : lws s D cA n1 n2 lim q1 q2 t t H) (hS : va_S (la_A s) s.heap H locs) (hl : lv_has ls 4 [(0, .ref b), (1, .ref q1), (2, .ref q2), (3, .int (nI i))]) : W p l e room_1 s m #[Value.ref b] below meth c H locs 100 200000 (lw_Z below #[Value.ref b] s) (F0 m 28 ls []) := by
  obtain ⟨hx, hb, hr, hml, hown, hts, hX, hbl, hlocks, hgv⟩ := id C0
  have hbA : ¬ la_A s b := Nat.not_le.mpr hbl
  refine lv_iload_n hx hb d_law_28 rfl (lv_at hl 3 rfl) ?_
  refine lv_aload_n hx hb d_law_29 rfl (lv_at hl 0 rfl) ?_
  refine va_slen hx hb hX hbl hbA hS d_law_30 ?_
  refine lv_iconst (v := 2) hx hb d_law_31 (by decide) ?_
  refine lv_isub hx hb d_law_32 ?_
  refine lv_icmp_gt (tgt := 309) hx hb d_law_33 (by decide) (fun c1 => ?_) (fun c1 => ?_)
  · refine lv_iconst (v := 1) hx hb d_law_309 (by decide) ?_
    refine va_forget (fun q hq => hS.2.2 q hq) ?_
    refine W.widen (k := 600000) (n := 7302250) (by decide) (by decide) ?_
    exact lw_ret hx hb hr hlocks d_law_310
  · have hlt : i + 2 ≤ L := by
      have h1 := i32_nl.mp c1
      rw [i32_le] at h1
      have h2 : (Int32.ofNat L - 2).toInt = (L : Int) - 2 := pk_sub_toInt (a := L) (b := 2) (by omega) (by decide)
      rw [h2, nI_toInt (by omega)] at h1
      omega
    have hin0 : vp_in (nI i) L := vp_in_nI (by omega) (by omega)
    have hin1 : vp_in (nI i + 1) L := by rw [nI_1]; exact vp_in_nI (by omega) (by omega)
    have tail : ∀ (t : LT) (H : Heap) (locs : List Loc), lws s D cA n1 n2 lim q1 q2 t t H → va_S (la_A s) s.heap H locs → W p l e room_1 s m #[Value.ref b] below meth c H locs 100 200000 (lw_Z below #[Value.ref b] s) (F0 m 303 ls []) := by
      intro t H locs h1 h2
      refine lv_iinc (v := nI (i + 2)) (lv' := [(3, .int (nI (i + 2))), (0, .ref b), (1, .ref q1), (2, .ref q2)]) hx hb d_law_303 hl (k := 3) rfl (nI_add i 2) (by decide) rfl (fun ls hl => ?_)
      refine lv_goto (tgt := 28) hx hb d_law_306 (by decide) ?_
      exact ih hlt t H locs ls h1 h2 (lv_sub hl [1, 2, 3, 0] rfl)
    refine lv_aload_n hx hb d_law_36 rfl (lv_at hl 0 rfl) ?_
    refine lv_iload_n hx hb d_law_37 rfl (lv_at hl 3 rfl) ?_
    refine va_sld hx hb hX hbl hbA hS hin0 d_law_38 ?_
    refine lv_bipush (v := 15) hx hb d_law_39 (by decide) ?_
    refine lv_iand hx hb d_law_41 ?_
    obtain ⟨k, hk, ek⟩ : ∃ k, k < 16 ∧ xs (nI i).toNatClampNeg &&& 15 = nI k := ⟨_, Nat.mod_lt _ (by decide), pk_and (xs (nI i).toNatClampNeg) 4 rfl⟩
    rw [ek]
    rcases (by omega : k = 0 ∨ k = 1 ∨ k = 2 ∨ k = 3 ∨ k = 4 ∨ k = 5 ∨ k = 6 ∨ k = 7 ∨ k = 8 ∨ k = 9 ∨ k = 10 ∨ 11 ≤ k) with rfl | rfl | rfl | rfl | rfl | rfl | rfl | rfl | rfl | rfl | rfl | hk2
    · refine lv_tableIn (off := 58) (tgt := 100) hx hb d_law_42 (by decide) (by decide) (by decide) (by decide) ?_
      refine lv_aload_n hx hb d_law_100 rfl (lv_at hl 1 rfl) ?_
      refine lv_aload_n hx hb d_law_101 rfl (lv_at hl 0 rfl) ?_
      refine lv_iload_n hx hb d_law_102 rfl (lv_at hl 3 rfl) ?_
      refine lv_iconst (v := 1) hx hb d_law_103 (by decide) ?_
      refine lv_iadd hx hb d_law_104 ?_
      refine va_sld hx hb hX hbl hbA hS hin1 d_law_105 ?_
      refine lc_class (av := [.int (xs (nI i + 1).toNatClampNeg)]) (r' := []) C0 hC (lk_C_write (xs (nI i + 1).toNatClampNeg)) d_law_106 ok_Bench_write tw_305 (by decide) rfl (Nat.le_of_ble_eq_true rfl) ⟨tw_306, tw_307⟩ rfl hl.1 (fun ρ => ⟨_, _, rfl, rfl, rfl⟩) ⟨by decide, by decide⟩ hLS hS (fun r1 t1 H locs hR1 hLS hS => ?_)
      refine lv_pop hx hb d_law_109 rfl ?_
      refine lv_aload_n hx hb d_law_110 rfl (lv_at hl 2 rfl) ?_
      refine lv_aload_n hx hb d_law_111 rfl (lv_at hl 0 rfl) ?_
      refine lv_iload_n hx hb d_law_112 rfl (lv_at hl 3 rfl) ?_
      refine lv_iconst (v := 1) hx hb d_law_113 (by decide) ?_
      refine lv_iadd hx hb d_law_114 ?_
      refine va_sld hx hb hX hbl hbA hS hin1 d_law_115 ?_
      refine lc_model (av := [.int (xs (nI i + 1).toNatClampNeg)]) (r' := []) C0 hC (lk_M_write (xs (nI i + 1).toNatClampNeg)) d_law_116 ok_Model_write tw_767 (by decide) rfl (Nat.le_of_ble_eq_true rfl) ⟨tw_768, tw_769⟩ rfl hl.1 (fun ρ => ⟨_, _, rfl, rfl, rfl⟩) ⟨by decide, by decide⟩ hLS hS (fun r2 t2 H locs hR2 hLS hS => ?_)
      refine lv_pop hx hb d_law_119 rfl ?_
      refine lv_goto (tgt := 303) hx hb d_law_120 (by decide) ?_
      have e1 := det_write.1 _ _ _ _ _ _ hR1 hR2
      subst e1
      exact tail _ _ _ hLS hS
    · refine lv_tableIn (off := 81) (tgt := 123) hx hb d_law_42 (by decide) (by decide) (by decide) (by decide) ?_
      refine lv_aload_n hx hb d_law_123 rfl (lv_at hl 1 rfl) ?_
      refine lc_class (av := []) (r' := []) C0 hC lk_C_compile d_law_124 ok_Bench_compile tw_411 (by decide) rfl (Nat.le_of_ble_eq_true rfl) ⟨tw_412, tw_413⟩ rfl hl.1 (fun ρ => rfl) ⟨by decide, by decide⟩ hLS hS (fun r1 t1 H locs hR1 hLS hS => ?_)
      refine lv_pop hx hb d_law_127 rfl ?_
      refine lv_aload_n hx hb d_law_128 rfl (lv_at hl 2 rfl) ?_
      refine lc_model (av := []) (r' := []) C0 hC lk_M_compile d_law_129 ok_Model_compile tw_780 (by decide) rfl (Nat.le_of_ble_eq_true rfl) ⟨tw_781, tw_782⟩ rfl hl.1 (fun ρ => rfl) ⟨by decide, by decide⟩ hLS hS (fun r2 t2 H locs hR2 hLS hS => ?_)
      refine lv_pop hx hb d_law_132 rfl ?_
      refine lv_goto (tgt := 303) hx hb d_law_133 (by decide) ?_
      have e1 := det_comp.1 _ _ _ _ _ _ hR1 hR2
      subst e1
      exact tail _ _ _ hLS hS
    · refine lv_tableIn (off := 94) (tgt := 136) hx hb d_law_42 (by decide) (by decide) (by decide) (by decide) ?_
      refine lv_aload_n hx hb d_law_136 rfl (lv_at hl 1 rfl) ?_
      refine lv_aload_n hx hb d_law_137 rfl (lv_at hl 0 rfl) ?_
      refine lv_iload_n hx hb d_law_138 rfl (lv_at hl 3 rfl) ?_
      refine lv_iconst (v := 1) hx hb d_law_139 (by decide) ?_
      refine lv_iadd hx hb d_law_140 ?_
      refine va_sld hx hb hX hbl hbA hS hin1 d_law_141 ?_
      refine lc_class (av := [.int (xs (nI i + 1).toNatClampNeg)]) (r' := []) C0 hC (lk_C_feed (xs (nI i + 1).toNatClampNeg)) d_law_142 ok_Bench_feed tw_510 (by decide) rfl (Nat.le_of_ble_eq_true rfl) ⟨tw_511, tw_512⟩ rfl hl.1 (fun ρ => ⟨_, _, rfl, rfl, rfl⟩) ⟨by decide, by decide⟩ hLS hS (fun r1 t1 H locs hR1 hLS hS => ?_)
      refine lv_pop hx hb d_law_145 rfl ?_
      refine lv_aload_n hx hb d_law_146 rfl (lv_at hl 2 rfl) ?_
      refine lv_aload_n hx hb d_law_147 rfl (lv_at hl 0 rfl) ?_
      refine lv_iload_n hx hb d_law_148 rfl (lv_at hl 3 rfl) ?_
      refine lv_iconst (v := 1) hx hb d_law_149 (by decide) ?_
      refine lv_iadd hx hb d_law_150 ?_
      refine va_sld hx hb hX hbl hbA hS hin1 d_law_151 ?_
      refine lc_model (av := [.int (xs (nI i + 1).toNatClampNeg)]) (r' := []) C0 hC (lk_M_feed (xs (nI i + 1).toNatClampNeg)) d_law_152 ok_Model_feed tw_820 (by decide) rfl (Nat.le_of_ble_eq_true rfl) ⟨tw_821, tw_822⟩ rfl hl.1 (fun ρ => ⟨_, _, rfl, rfl, rfl⟩) ⟨by decide, by decide⟩ hLS hS (fun r2 t2 H locs hR2 hLS hS => ?_)
      refine lv_pop hx hb d_law_155 rfl ?_
      refine lv_goto (tgt := 303) hx hb d_law_156 (by decide) ?_
      have e1 := det_feed.1 _ _ _ _ _ _ hR1 hR2
      subst e1
      exact tail _ _ _ hLS hS
    · refine lv_tableIn (off := 117) (tgt := 159) hx hb d_law_42 (by decide) (by decide) (by decide) (by decide) ?_
      refine lv_aload_n hx hb d_law_159 rfl (lv_at hl 1 rfl) ?_
      refine lc_class (av := []) (r' := []) C0 hC lk_C_clear d_law_160 ok_Bench_clear tw_514 (by decide) rfl (Nat.le_of_ble_eq_true rfl) ⟨tw_515, tw_516⟩ rfl hl.1 (fun ρ => rfl) ⟨by decide, by decide⟩ hLS hS (fun r1 t1 H locs hR1 hLS hS => ?_)
      refine lv_pop hx hb d_law_163 rfl ?_
      refine lv_aload_n hx hb d_law_164 rfl (lv_at hl 2 rfl) ?_
      refine lc_model (av := []) (r' := []) C0 hC lk_M_clear d_law_165 ok_Model_clear tw_824 (by decide) rfl (Nat.le_of_ble_eq_true rfl) ⟨tw_825, tw_826⟩ rfl hl.1 (fun ρ => rfl) ⟨by decide, by decide⟩ hLS hS (fun r2 t2 H locs hR2 hLS hS => ?_)
      refine lv_pop hx hb d_law_168 rfl ?_
      refine lv_goto (tgt := 303) hx hb d_law_169 (by decide) ?_
      have e1 := det_clear.1 _ _ _ _ _ _ hR1 hR2
      subst e1
      exact tail _ _ _ hLS hS
    · refine lv_tableIn (off := 130) (tgt := 172) hx hb d_law_42 (by decide) (by decide) (by decide) (by decide) ?_
      refine lv_aload_n hx hb d_law_172 rfl (lv_at hl 1 rfl) ?_
      refine lv_aload_n hx hb d_law_173 rfl (lv_at hl 0 rfl) ?_
      refine lv_iload_n hx hb d_law_174 rfl (lv_at hl 3 rfl) ?_
      refine lv_iconst (v := 1) hx hb d_law_175 (by decide) ?_
      refine lv_iadd hx hb d_law_176 ?_
      refine va_sld hx hb hX hbl hbA hS hin1 d_law_177 ?_
      refine lc_class (av := [.int (xs (nI i + 1).toNatClampNeg)]) (r' := []) C0 hC (lk_C_search (xs (nI i + 1).toNatClampNeg)) d_law_178 ok_Bench_search tw_518 (by decide) rfl (Nat.le_of_ble_eq_true rfl) ⟨tw_519, tw_520⟩ rfl hl.1 (fun ρ => ⟨_, _, rfl, rfl, rfl⟩) ⟨by decide, by decide⟩ hLS hS (fun r1 t1 H locs hR1 hLS hS => ?_)
      refine lv_pop hx hb d_law_181 rfl ?_
      refine lv_aload_n hx hb d_law_182 rfl (lv_at hl 2 rfl) ?_
      refine lv_aload_n hx hb d_law_183 rfl (lv_at hl 0 rfl) ?_
      refine lv_iload_n hx hb d_law_184 rfl (lv_at hl 3 rfl) ?_
      refine lv_iconst (v := 1) hx hb d_law_185 (by decide) ?_
      refine lv_iadd hx hb d_law_186 ?_
      refine va_sld hx hb hX hbl hbA hS hin1 d_law_187 ?_
      refine lc_model (av := [.int (xs (nI i + 1).toNatClampNeg)]) (r' := []) C0 hC (lk_M_search (xs (nI i + 1).toNatClampNeg)) d_law_188 ok_Model_search tw_828 (by decide) rfl (Nat.le_of_ble_eq_true rfl) ⟨tw_829, tw_830⟩ rfl hl.1 (fun ρ => ⟨_, _, rfl, rfl, rfl⟩) ⟨by decide, by decide⟩ hLS hS (fun r2 t2 H locs hR2 hLS hS => ?_)
      refine lv_pop hx hb d_law_191 rfl ?_
      refine lv_goto (tgt := 303) hx hb d_law_192 (by decide) ?_
      have e1 := det_search.1 _ _ _ _ _ _ hR1 hR2
      subst e1
      exact tail _ _ _ hLS hS
    · refine lv_tableIn (off := 153) (tgt := 195) hx hb d_law_42 (by decide) (by decide) (by decide) (by decide) ?_
      refine lv_aload_n hx hb d_law_195 rfl (lv_at hl 1 rfl) ?_
      refine lc_class (av := []) (r' := []) C0 hC lk_C_again d_law_196 ok_Bench_again tw_646 (by decide) rfl (Nat.le_of_ble_eq_true rfl) ⟨tw_647, tw_648⟩ rfl hl.1 (fun ρ => rfl) ⟨by decide, by decide⟩ hLS hS (fun r1 t1 H locs hR1 hLS hS => ?_)
      refine lv_pop hx hb d_law_199 rfl ?_
      refine lv_aload_n hx hb d_law_200 rfl (lv_at hl 2 rfl) ?_
      refine lc_model (av := []) (r' := []) C0 hC lk_M_again d_law_201 ok_Model_again tw_947 (by decide) rfl (Nat.le_of_ble_eq_true rfl) ⟨tw_948, tw_949⟩ rfl hl.1 (fun ρ => rfl) ⟨by decide, by decide⟩ hLS hS (fun r2 t2 H locs hR2 hLS hS => ?_)
      refine lv_pop hx hb d_law_204 rfl ?_
      refine lv_goto (tgt := 303) hx hb d_law_205 (by decide) ?_
      have e1 := det_again.1 _ _ _ _ _ _ hR1 hR2
      subst e1
      exact tail _ _ _ hLS hS
    · refine lv_tableIn (off := 166) (tgt := 208) hx hb d_law_42 (by decide) (by decide) (by decide) (by decide) ?_
      refine lv_aload_n hx hb d_law_208 rfl (lv_at hl 1 rfl) ?_
      refine lv_aload_n hx hb d_law_209 rfl (lv_at hl 0 rfl) ?_
      refine lv_iload_n hx hb d_law_210 rfl (lv_at hl 3 rfl) ?_
      refine lv_iconst (v := 1) hx hb d_law_211 (by decide) ?_
      refine lv_iadd hx hb d_law_212 ?_
      refine va_sld hx hb hX hbl hbA hS hin1 d_law_213 ?_
      refine lc_class (av := [.int (xs (nI i + 1).toNatClampNeg)]) (r' := []) C0 hC (lk_C_start (xs (nI i + 1).toNatClampNeg)) d_law_214 ok_Bench_start tw_654 (by decide) rfl (Nat.le_of_ble_eq_true rfl) ⟨tw_655, tw_656⟩ rfl hl.1 (fun ρ => ⟨_, _, rfl, rfl, rfl⟩) ⟨by decide, by decide⟩ hLS hS (fun r1 t1 H locs hR1 hLS hS => ?_)
      refine lv_pop hx hb d_law_217 rfl ?_
      refine lv_aload_n hx hb d_law_218 rfl (lv_at hl 2 rfl) ?_
      refine lv_aload_n hx hb d_law_219 rfl (lv_at hl 0 rfl) ?_
      refine lv_iload_n hx hb d_law_220 rfl (lv_at hl 3 rfl) ?_
      refine lv_iconst (v := 1) hx hb d_law_221 (by decide) ?_
      refine lv_iadd hx hb d_law_222 ?_
      refine va_sld hx hb hX hbl hbA hS hin1 d_law_223 ?_
      refine lc_model (av := [.int (xs (nI i + 1).toNatClampNeg)]) (r' := []) C0 hC (lk_M_start (xs (nI i + 1).toNatClampNeg)) d_law_224 ok_Model_start tw_951 (by decide) rfl (Nat.le_of_ble_eq_true rfl) ⟨tw_952, tw_953⟩ rfl hl.1 (fun ρ => ⟨_, _, rfl, rfl, rfl⟩) ⟨by decide, by decide⟩ hLS hS (fun r2 t2 H locs hR2 hLS hS => ?_)
      refine lv_pop hx hb d_law_227 rfl ?_
      refine lv_goto (tgt := 303) hx hb d_law_228 (by decide) ?_
      have e1 := det_any _ _ _ _ _ _ hR1 hR2
      subst e1
      exact tail _ _ _ hLS hS
    · refine lv_tableIn (off := 189) (tgt := 231) hx hb d_law_42 (by decide) (by decide) (by decide) (by decide) ?_
      refine lv_aload_n hx hb d_law_231 rfl (lv_at hl 1 rfl) ?_
      refine lv_aload_n hx hb d_law_232 rfl (lv_at hl 0 rfl) ?_
      refine lv_iload_n hx hb d_law_233 rfl (lv_at hl 3 rfl) ?_
      refine lv_iconst (v := 1) hx hb d_law_234 (by decide) ?_
      refine lv_iadd hx hb d_law_235 ?_
      refine va_sld hx hb hX hbl hbA hS hin1 d_law_236 ?_
      refine lc_class (av := [.int (xs (nI i + 1).toNatClampNeg)]) (r' := []) C0 hC (lk_C_end (xs (nI i + 1).toNatClampNeg)) d_law_237 ok_Bench_end tw_659 (by decide) rfl (Nat.le_of_ble_eq_true rfl) ⟨tw_660, tw_661⟩ rfl hl.1 (fun ρ => ⟨_, _, rfl, rfl, rfl⟩) ⟨by decide, by decide⟩ hLS hS (fun r1 t1 H locs hR1 hLS hS => ?_)
      refine lv_pop hx hb d_law_240 rfl ?_
      refine lv_aload_n hx hb d_law_241 rfl (lv_at hl 2 rfl) ?_
      refine lv_aload_n hx hb d_law_242 rfl (lv_at hl 0 rfl) ?_
      refine lv_iload_n hx hb d_law_243 rfl (lv_at hl 3 rfl) ?_
      refine lv_iconst (v := 1) hx hb d_law_244 (by decide) ?_
      refine lv_iadd hx hb d_law_245 ?_
      refine va_sld hx hb hX hbl hbA hS hin1 d_law_246 ?_
      refine lc_model (av := [.int (xs (nI i + 1).toNatClampNeg)]) (r' := []) C0 hC (lk_M_end (xs (nI i + 1).toNatClampNeg)) d_law_247 ok_Model_end tw_959 (by decide) rfl (Nat.le_of_ble_eq_true rfl) ⟨tw_960, tw_961⟩ rfl hl.1 (fun ρ => ⟨_, _, rfl, rfl, rfl⟩) ⟨by decide, by decide⟩ hLS hS (fun r2 t2 H locs hR2 hLS hS => ?_)
      refine lv_pop hx hb d_law_250 rfl ?_
      refine lv_goto (tgt := 303) hx hb d_law_251 (by decide) ?_
      have e1 := det_any _ _ _ _ _ _ hR1 hR2
      subst e1
      exact tail _ _ _ hLS hS
    · refine lv_tableIn (off := 212) (tgt := 254) hx hb d_law_42 (by decide) (by decide) (by decide) (by decide) ?_
      refine lv_aload_n hx hb d_law_254 rfl (lv_at hl 1 rfl) ?_
      refine lc_class (av := []) (r' := []) C0 hC lk_C_steps d_law_255 ok_Bench_steps tw_664 (by decide) rfl (Nat.le_of_ble_eq_true rfl) ⟨tw_665, tw_666⟩ rfl hl.1 (fun ρ => rfl) ⟨by decide, by decide⟩ hLS hS (fun r1 t1 H locs hR1 hLS hS => ?_)
      refine lv_pop hx hb d_law_258 rfl ?_
      refine lv_aload_n hx hb d_law_259 rfl (lv_at hl 2 rfl) ?_
      refine lc_model (av := []) (r' := []) C0 hC lk_M_steps d_law_260 ok_Model_steps tw_963 (by decide) rfl (Nat.le_of_ble_eq_true rfl) ⟨tw_964, tw_965⟩ rfl hl.1 (fun ρ => rfl) ⟨by decide, by decide⟩ hLS hS (fun r2 t2 H locs hR2 hLS hS => ?_)
      refine lv_pop hx hb d_law_263 rfl ?_
      refine lv_goto (tgt := 303) hx hb d_law_264 (by decide) ?_
      have e1 := det_steps.1 _ _ _ _ _ _ hR1 hR2
      subst e1
      exact tail _ _ _ hLS hS
    · refine lv_tableIn (off := 225) (tgt := 267) hx hb d_law_42 (by decide) (by decide) (by decide) (by decide) ?_
      refine lv_aload_n hx hb d_law_267 rfl (lv_at hl 1 rfl) ?_
      refine lc_class (av := []) (r' := []) C0 hC lk_C_matches d_law_268 ok_Bench_matches tw_668 (by decide) rfl (Nat.le_of_ble_eq_true rfl) ⟨tw_669, tw_670⟩ rfl hl.1 (fun ρ => rfl) ⟨by decide, by decide⟩ hLS hS (fun r1 t1 H locs hR1 hLS hS => ?_)
      refine lv_aload_n hx hb d_law_271 rfl (lv_at hl 2 rfl) ?_
      refine lc_model (av := []) (r' := [.int r1]) C0 hC lk_M_matches d_law_272 ok_Model_matches tw_967 (by decide) rfl (Nat.le_of_ble_eq_true rfl) ⟨tw_968, tw_969⟩ rfl hl.1 (fun ρ => rfl) ⟨by decide, by decide⟩ hLS hS (fun r2 t2 H locs hR2 hLS hS => ?_)
      refine lv_icmp_eq (tgt := 303) hx hb d_law_275 (by decide) (fun _ => ?_) (fun hne => absurd (det_matches.2 _ _ _ _ _ _ hR1 hR2) hne)
      have e1 := det_matches.1 _ _ _ _ _ _ hR1 hR2
      subst e1
      exact tail _ _ _ hLS hS
    · refine lv_tableIn (off := 238) (tgt := 280) hx hb d_law_42 (by decide) (by decide) (by decide) (by decide) ?_
      refine lv_aload_n hx hb d_law_280 rfl (lv_at hl 1 rfl) ?_
      refine lv_aload_n hx hb d_law_281 rfl (lv_at hl 0 rfl) ?_
      refine lv_iload_n hx hb d_law_282 rfl (lv_at hl 3 rfl) ?_
      refine lv_iconst (v := 1) hx hb d_law_283 (by decide) ?_
      refine lv_iadd hx hb d_law_284 ?_
      refine va_sld hx hb hX hbl hbA hS hin1 d_law_285 ?_
      refine lc_class (av := [.int (xs (nI i + 1).toNatClampNeg)]) (r' := []) C0 hC (lk_C_count (xs (nI i + 1).toNatClampNeg)) d_law_286 ok_Bench_count tw_672 (by decide) rfl (Nat.le_of_ble_eq_true rfl) ⟨tw_673, tw_674⟩ rfl hl.1 (fun ρ => ⟨_, _, rfl, rfl, rfl⟩) ⟨by decide, by decide⟩ hLS hS (fun r1 t1 H locs hR1 hLS hS => ?_)
      refine lv_pop hx hb d_law_289 rfl ?_
      refine lv_aload_n hx hb d_law_290 rfl (lv_at hl 2 rfl) ?_
      refine lv_aload_n hx hb d_law_291 rfl (lv_at hl 0 rfl) ?_
      refine lv_iload_n hx hb d_law_292 rfl (lv_at hl 3 rfl) ?_
      refine lv_iconst (v := 1) hx hb d_law_293 (by decide) ?_
      refine lv_iadd hx hb d_law_294 ?_
      refine va_sld hx hb hX hbl hbA hS hin1 d_law_295 ?_
      refine lc_model (av := [.int (xs (nI i + 1).toNatClampNeg)]) (r' := []) C0 hC (lk_M_count (xs (nI i + 1).toNatClampNeg)) d_law_296 ok_Model_count tw_971 (by decide) rfl (Nat.le_of_ble_eq_true rfl) ⟨tw_972, tw_973⟩ rfl hl.1 (fun ρ => ⟨_, _, rfl, rfl, rfl⟩) ⟨by decide, by decide⟩ hLS hS (fun r2 t2 H locs hR2 hLS hS => ?_)
      refine lv_pop hx hb d_law_299 rfl ?_
      refine lv_goto (tgt := 303) hx hb d_law_300 (by decide) ?_
      have e1 := det_count.1 _ _ _ _ _ _ hR1 hR2
      subst e1
      exact tail _ _ _ hLS hS
    · refine lv_tableOut (tgt := 303) hx hb d_law_42 (Or.inr ?_) (by decide) ?_
      · rw [nI_toInt (by omega)]
        omega
      · exact tail _ _ _ hLS hS
theorem law_loop (hL : L ≤ 1025) (C0 : lw_At p s m meth c b L xs) (hC : la_C s b D cA) {n1 n2 lim q1 q2 : Nat} : ∀ (n i : Nat), L + 3 ≤ i + n → i ≤ L + 2 → ∀ (t : LT) (H : Heap) (locs : List Loc) (ls : Array Slot), lws s D cA n1 n2 lim q1 q2 t t H → va_S (la_A s) s.heap H locs → lv_has ls 4 [(0, .ref b), (1, .ref q1), (2, .ref q2), (3, .int (nI i))] → W p l e room_1 s m #[Value.ref b] below meth c H locs 100 200000 (lw_Z below #[Value.ref b] s) (F0 m 28 ls []) := by
  intro n
  induction n with
  | zero => intro i h1 h2; omega
  | succ n ihn =>
    intro i h1 h2 t H locs ls g1 g2 g3
    exact law_step hL C0 hC h2 (fun hlt t H locs ls => ihn (i + 2) (by omega) (by omega) t H locs ls) g1 g2 g3
end LOOP
