/-! String.indexOf of the class's one constant: the JDK's own methods, over the machine -/
def M_J_can : mm_M := ("java/lang/StringLatin1", prog_14_method_4_code, 1, false, some .boolean)
def y_J_can : MethodName := ⟨"java/lang/StringLatin1", "canEncode", "(I)Z"⟩
def M_J_chr : mm_M := ("java/lang/StringLatin1", prog_14_method_23_code, 6, false, some .int)
def y_J_chr : MethodName := ⟨"java/lang/StringLatin1", "indexOfChar", "([BIII)I"⟩
def M_J_lat : mm_M := ("java/lang/StringLatin1", prog_14_method_22_code, 4, false, some .int)
def y_J_lat : MethodName := ⟨"java/lang/StringLatin1", "indexOf", "([BIII)I"⟩
def M_J_cod : mm_M := ("java/lang/String", prog_13_method_152_code, 1, false, some .byte)
def y_J_cod : MethodName := ⟨"java/lang/String", "coder", "()B"⟩
def M_J_len : mm_M := ("java/lang/String", prog_13_method_54_code, 1, false, some .int)
def y_J_len : MethodName := ⟨"java/lang/String", "length", "()I"⟩
def M_J_isl : mm_M := ("java/lang/String", prog_13_method_154_code, 1, false, some .boolean)
def y_J_isl : MethodName := ⟨"java/lang/String", "isLatin1", "()Z"⟩
def M_J_ix2 : mm_M := ("java/lang/String", prog_13_method_80_code, 3, false, some .int)
def y_J_ix2 : MethodName := ⟨"java/lang/String", "indexOf", "(II)I"⟩
def M_J_ix1 : mm_M := ("java/lang/String", prog_13_method_79_code, 2, false, some .int)
def y_J_ix1 : MethodName := ⟨"java/lang/String", "indexOf", "(I)I"⟩
theorem ok_J_can : mm_okM y_J_can M_J_can 1 := ⟨tw_346, tw_11, by decide +kernel, by decide +kernel, by decide +kernel⟩
theorem ok_J_chr : mm_okM y_J_chr M_J_chr 4 := ⟨tw_351, tw_11, by decide +kernel, by decide +kernel, by decide +kernel⟩
theorem ok_J_lat : mm_okM y_J_lat M_J_lat 4 := ⟨tw_343, tw_11, by decide +kernel, by decide +kernel, by decide +kernel⟩
theorem ok_J_cod : mm_okM y_J_cod M_J_cod 0 := ⟨tw_340, tw_10, by decide +kernel, by decide +kernel, by decide +kernel⟩
theorem ok_J_len : mm_okM y_J_len M_J_len 0 := ⟨tw_336, tw_10, by decide +kernel, by decide +kernel, by decide +kernel⟩
theorem ok_J_isl : mm_okM y_J_isl M_J_isl 0 := ⟨tw_330, tw_10, by decide +kernel, by decide +kernel, by decide +kernel⟩
theorem ok_J_ix2 : mm_okM y_J_ix2 M_J_ix2 2 := ⟨tw_326, tw_10, by decide +kernel, by decide +kernel, by decide +kernel⟩
theorem ok_J_ix1 : mm_okM y_J_ix1 M_J_ix1 1 := ⟨tw_322, tw_10, by decide +kernel, by decide +kernel, by decide +kernel⟩
def js_E (adK adV : Nat → Nat) (U : State) (H : Heap) : Prop := vk_S 1 [19] [mm_by] adK adV (fun _ => False) U H ∧ va_Z "java/lang/String" "COMPACT_STRINGS" "Z" (.int 1) (fun _ => False) U H
def js_P (av : List Value) (adK adV : Nat → Nat) : Array Value → State → Prop := fun v U => v = av.toArray ∧ js_E adK adV U U.heap
theorem js_blind (av : List Value) (adK adV : Nat → Nat) : FrameBlind (js_P av adK adV) := fun a U g mk q => ⟨q.1, q.2.1.moved (u := U) (U := U.calling g mk a) (Vm.Alike.refl U.vm), q.2.2.moved (u := U) (U := U.calling g mk a) (Vm.Alike.refl U.vm)⟩
theorem js_pre {adK adV : Nat → Nat} {s : State} {H : Heap} (h : js_E adK adV s H) (av : List Value) : ∀ U : State, U.heap = H → s.WarmedH U.vm → js_P av adK adV av.toArray U := fun U hU hW => ⟨rfl, by rw [hU]; exact ⟨h.1.moved hW.alike, h.2.moved hW.alike⟩⟩
abbrev js_Met (l : Launch) (y : MethodName) (M : mm_M) (d : Nat) (av : List Value) (adK adV : Nat → Nat) (post : Int32 → Prop) : Prop := Met l y (.code y M.2.1 M.2.2.1 M.2.2.2.2 :: mm_T) { frames := d, cells := 0, slots := 0, locals := mm_K * d } (js_P av adK adV) (vp_Si post) 0 0 (fun _ => False)
theorem js_CB {R : Room} {s : State} {args : Array Value} {own : String} {idx n d' : Nat} {y : MethodName} {M' : mm_M} (hts : ∀ w ∈ mm_T, w.before args s = true) (hM : mm_okM y M' n) (hlk : Cond.methodLink own idx y ∈ mm_T) (h1 : d' + 1 ≤ R.frames) (h2 : mm_K * (d' + 1) ≤ R.locals) :
    CallB R s args own idx y M'.2.1 M'.2.2.1 M'.2.2.2.2 (.code y M'.2.1 M'.2.2.1 M'.2.2.2.2 :: mm_T) { frames := d', cells := 0, slots := 0, locals := mm_K * d' } 0 0 n := by
  obtain ⟨hc, hini, hy, hn, hL⟩ := hM
  refine ⟨rfl, rfl, h1, ?_, pay_in hts (mm_ws_good hc), List.mem_cons_self, hts _ hc, hts _ hini, hy, fun sig h => ?_, hts _ hlk⟩
  · unfold mm_K at *
    show 8 + (M'.2.2.1 + 11) + 36 * d' ≤ R.locals
    omega
  · rw [h] at hn
    exact (Option.some.inj hn).symm
theorem d_J_can_0 : decode prog_14_method_4_code 0 = .ok (.iload_n 0, 1) := by decide +kernel
theorem d_J_can_1 : decode prog_14_method_4_code 1 = .ok (.ifCond .lt 14, 3) := by decide +kernel
theorem d_J_can_4 : decode prog_14_method_4_code 4 = .ok (.iload_n 0, 1) := by decide +kernel
theorem d_J_can_5 : decode prog_14_method_4_code 5 = .ok (.sipush 255, 3) := by decide +kernel
theorem d_J_can_8 : decode prog_14_method_4_code 8 = .ok (.if_icmp .gt 7, 3) := by decide +kernel
theorem d_J_can_11 : decode prog_14_method_4_code 11 = .ok (.iconst 1, 1) := by decide +kernel
theorem d_J_can_12 : decode prog_14_method_4_code 12 = .ok (.goto 4, 3) := by decide +kernel
theorem d_J_can_15 : decode prog_14_method_4_code 15 = .ok (.iconst 0, 1) := by decide +kernel
theorem d_J_can_16 : decode prog_14_method_4_code 16 = .ok (.ireturn, 1) := by decide +kernel
theorem d_J_chr_0 : decode prog_14_method_23_code 0 = .ok (.iload_n 1, 1) := by decide +kernel
theorem d_J_chr_1 : decode prog_14_method_23_code 1 = .ok (.i2b, 1) := by decide +kernel
theorem d_J_chr_2 : decode prog_14_method_23_code 2 = .ok (.istore 4, 2) := by decide +kernel
theorem d_J_chr_4 : decode prog_14_method_23_code 4 = .ok (.iload_n 2, 1) := by decide +kernel
theorem d_J_chr_5 : decode prog_14_method_23_code 5 = .ok (.istore 5, 2) := by decide +kernel
theorem d_J_chr_7 : decode prog_14_method_23_code 7 = .ok (.iload 5, 2) := by decide +kernel
theorem d_J_chr_9 : decode prog_14_method_23_code 9 = .ok (.iload_n 3, 1) := by decide +kernel
theorem d_J_chr_10 : decode prog_14_method_23_code 10 = .ok (.if_icmp .ge 21, 3) := by decide +kernel
theorem d_J_chr_13 : decode prog_14_method_23_code 13 = .ok (.aload_n 0, 1) := by decide +kernel
theorem d_J_chr_14 : decode prog_14_method_23_code 14 = .ok (.iload 5, 2) := by decide +kernel
theorem d_J_chr_16 : decode prog_14_method_23_code 16 = .ok (.baload, 1) := by decide +kernel
theorem d_J_chr_17 : decode prog_14_method_23_code 17 = .ok (.iload 4, 2) := by decide +kernel
theorem d_J_chr_19 : decode prog_14_method_23_code 19 = .ok (.if_icmp .ne 6, 3) := by decide +kernel
theorem d_J_chr_22 : decode prog_14_method_23_code 22 = .ok (.iload 5, 2) := by decide +kernel
theorem d_J_chr_24 : decode prog_14_method_23_code 24 = .ok (.ireturn, 1) := by decide +kernel
theorem d_J_chr_25 : decode prog_14_method_23_code 25 = .ok (.iinc 5 1, 3) := by decide +kernel
theorem d_J_chr_28 : decode prog_14_method_23_code 28 = .ok (.goto (-21), 3) := by decide +kernel
theorem d_J_chr_31 : decode prog_14_method_23_code 31 = .ok (.iconst (-1), 1) := by decide +kernel
theorem d_J_chr_32 : decode prog_14_method_23_code 32 = .ok (.ireturn, 1) := by decide +kernel
theorem d_J_lat_0 : decode prog_14_method_22_code 0 = .ok (.iload_n 1, 1) := by decide +kernel
theorem d_J_lat_1 : decode prog_14_method_22_code 1 = .ok (.invokestatic 88, 3) := by decide +kernel
theorem d_J_lat_4 : decode prog_14_method_22_code 4 = .ok (.ifCond .ne 5, 3) := by decide +kernel
theorem d_J_lat_7 : decode prog_14_method_22_code 7 = .ok (.iconst (-1), 1) := by decide +kernel
theorem d_J_lat_8 : decode prog_14_method_22_code 8 = .ok (.ireturn, 1) := by decide +kernel
theorem d_J_lat_9 : decode prog_14_method_22_code 9 = .ok (.iload_n 2, 1) := by decide +kernel
theorem d_J_lat_10 : decode prog_14_method_22_code 10 = .ok (.iconst 0, 1) := by decide +kernel
theorem d_J_lat_11 : decode prog_14_method_22_code 11 = .ok (.invokestatic 92, 3) := by decide +kernel
theorem d_J_lat_14 : decode prog_14_method_22_code 14 = .ok (.istore_n 2, 1) := by decide +kernel
theorem d_J_lat_15 : decode prog_14_method_22_code 15 = .ok (.iload_n 3, 1) := by decide +kernel
theorem d_J_lat_16 : decode prog_14_method_22_code 16 = .ok (.aload_n 0, 1) := by decide +kernel
theorem d_J_lat_17 : decode prog_14_method_22_code 17 = .ok (.arraylength, 1) := by decide +kernel
theorem d_J_lat_18 : decode prog_14_method_22_code 18 = .ok (.invokestatic 38, 3) := by decide +kernel
theorem d_J_lat_21 : decode prog_14_method_22_code 21 = .ok (.istore_n 3, 1) := by decide +kernel
theorem d_J_lat_22 : decode prog_14_method_22_code 22 = .ok (.iload_n 2, 1) := by decide +kernel
theorem d_J_lat_23 : decode prog_14_method_22_code 23 = .ok (.iload_n 3, 1) := by decide +kernel
theorem d_J_lat_24 : decode prog_14_method_22_code 24 = .ok (.if_icmp .lt 5, 3) := by decide +kernel
theorem d_J_lat_27 : decode prog_14_method_22_code 27 = .ok (.iconst (-1), 1) := by decide +kernel
theorem d_J_lat_28 : decode prog_14_method_22_code 28 = .ok (.ireturn, 1) := by decide +kernel
theorem d_J_lat_29 : decode prog_14_method_22_code 29 = .ok (.aload_n 0, 1) := by decide +kernel
theorem d_J_lat_30 : decode prog_14_method_22_code 30 = .ok (.iload_n 1, 1) := by decide +kernel
theorem d_J_lat_31 : decode prog_14_method_22_code 31 = .ok (.iload_n 2, 1) := by decide +kernel
theorem d_J_lat_32 : decode prog_14_method_22_code 32 = .ok (.iload_n 3, 1) := by decide +kernel
theorem d_J_lat_33 : decode prog_14_method_22_code 33 = .ok (.invokestatic 95, 3) := by decide +kernel
theorem d_J_lat_36 : decode prog_14_method_22_code 36 = .ok (.ireturn, 1) := by decide +kernel
theorem d_J_cod_0 : decode prog_13_method_152_code 0 = .ok (.getstatic 38, 3) := by decide +kernel
theorem d_J_cod_3 : decode prog_13_method_152_code 3 = .ok (.ifCond .eq 10, 3) := by decide +kernel
theorem d_J_cod_6 : decode prog_13_method_152_code 6 = .ok (.aload_n 0, 1) := by decide +kernel
theorem d_J_cod_7 : decode prog_13_method_152_code 7 = .ok (.getfield 15, 3) := by decide +kernel
theorem d_J_cod_10 : decode prog_13_method_152_code 10 = .ok (.goto 4, 3) := by decide +kernel
theorem d_J_cod_14 : decode prog_13_method_152_code 14 = .ok (.ireturn, 1) := by decide +kernel
theorem d_J_len_0 : decode prog_13_method_54_code 0 = .ok (.aload_n 0, 1) := by decide +kernel
theorem d_J_len_1 : decode prog_13_method_54_code 1 = .ok (.getfield 9, 3) := by decide +kernel
theorem d_J_len_4 : decode prog_13_method_54_code 4 = .ok (.arraylength, 1) := by decide +kernel
theorem d_J_len_5 : decode prog_13_method_54_code 5 = .ok (.aload_n 0, 1) := by decide +kernel
theorem d_J_len_6 : decode prog_13_method_54_code 6 = .ok (.invokevirtual 335, 3) := by decide +kernel
theorem d_J_len_9 : decode prog_13_method_54_code 9 = .ok (.ishr, 1) := by decide +kernel
theorem d_J_len_10 : decode prog_13_method_54_code 10 = .ok (.ireturn, 1) := by decide +kernel
theorem d_J_isl_0 : decode prog_13_method_154_code 0 = .ok (.getstatic 38, 3) := by decide +kernel
theorem d_J_isl_3 : decode prog_13_method_154_code 3 = .ok (.ifCond .eq 14, 3) := by decide +kernel
theorem d_J_isl_6 : decode prog_13_method_154_code 6 = .ok (.aload_n 0, 1) := by decide +kernel
theorem d_J_isl_7 : decode prog_13_method_154_code 7 = .ok (.getfield 15, 3) := by decide +kernel
theorem d_J_isl_10 : decode prog_13_method_154_code 10 = .ok (.ifCond .ne 7, 3) := by decide +kernel
theorem d_J_isl_13 : decode prog_13_method_154_code 13 = .ok (.iconst 1, 1) := by decide +kernel
theorem d_J_isl_14 : decode prog_13_method_154_code 14 = .ok (.goto 4, 3) := by decide +kernel
theorem d_J_isl_18 : decode prog_13_method_154_code 18 = .ok (.ireturn, 1) := by decide +kernel
theorem d_J_ix2_0 : decode prog_13_method_80_code 0 = .ok (.aload_n 0, 1) := by decide +kernel
theorem d_J_ix2_1 : decode prog_13_method_80_code 1 = .ok (.invokevirtual 492, 3) := by decide +kernel
theorem d_J_ix2_4 : decode prog_13_method_80_code 4 = .ok (.ifCond .eq 19, 3) := by decide +kernel
theorem d_J_ix2_7 : decode prog_13_method_80_code 7 = .ok (.aload_n 0, 1) := by decide +kernel
theorem d_J_ix2_8 : decode prog_13_method_80_code 8 = .ok (.getfield 9, 3) := by decide +kernel
theorem d_J_ix2_11 : decode prog_13_method_80_code 11 = .ok (.iload_n 1, 1) := by decide +kernel
theorem d_J_ix2_12 : decode prog_13_method_80_code 12 = .ok (.iload_n 2, 1) := by decide +kernel
theorem d_J_ix2_13 : decode prog_13_method_80_code 13 = .ok (.aload_n 0, 1) := by decide +kernel
theorem d_J_ix2_14 : decode prog_13_method_80_code 14 = .ok (.invokevirtual 505, 3) := by decide +kernel
theorem d_J_ix2_17 : decode prog_13_method_80_code 17 = .ok (.invokestatic 637, 3) := by decide +kernel
theorem d_J_ix2_20 : decode prog_13_method_80_code 20 = .ok (.goto 16, 3) := by decide +kernel
theorem d_J_ix2_36 : decode prog_13_method_80_code 36 = .ok (.ireturn, 1) := by decide +kernel
theorem d_J_ix1_0 : decode prog_13_method_79_code 0 = .ok (.aload_n 0, 1) := by decide +kernel
theorem d_J_ix1_1 : decode prog_13_method_79_code 1 = .ok (.iload_n 1, 1) := by decide +kernel
theorem d_J_ix1_2 : decode prog_13_method_79_code 2 = .ok (.iconst 0, 1) := by decide +kernel
theorem d_J_ix1_3 : decode prog_13_method_79_code 3 = .ok (.invokevirtual 633, 3) := by decide +kernel
theorem d_J_ix1_6 : decode prog_13_method_79_code 6 = .ok (.ireturn, 1) := by decide +kernel
/-- indexOf, from place j on -/
def mm_ix (c : Int32) : List Int32 → Nat → Int32
  | [], _ => -1
  | b :: l, j => if b = c then nI j else mm_ix c l (j + 1)
set_option maxHeartbeats 4000000 in
set_option maxRecDepth 100000 in
theorem js_can (l : Launch) (adK adV : Nat → Nat) (k : Nat) (hk : k < 128) : js_Met l y_J_can M_J_can 0 [.int (nI k)] adK adV (fun r => r = 1) := by
  refine Met.ofW (cc := M_J_can.2.1) (maxL := 1) (ret := some .boolean) (by decide) rfl ?_
  intro p e s m args below meth c s₁ B hml hv
  obtain ⟨rfl, hE⟩ := hv
  have hx := B.exec
  have hb := B.bytes
  have hr := B.returns
  have hts0 := atoms_spec (ws := .code y_J_can M_J_can.2.1 M_J_can.2.2.1 M_J_can.2.2.2.2 :: mm_T) B.pre
  have hts : ∀ w ∈ mm_T, w.before ([.int (nI k)] : List Value).toArray s = true := fun w hw => hts0 w (List.mem_cons_of_mem _ hw)
  have hown : s.vm.findClass "java/lang/StringLatin1" = some m.cls := findClass_of_methodNamed B.named
  have hlocks := B.notSynchronized
  have hF : va_S (fun _ => False) s.heap s.heap [] := va_S.rf
  have hT : va_T .byte (adV 0) 19 (fun j => .int (mm_by.getD j 0)) (fun _ => False) s s.heap := (hE.1.1 0 (by decide)).2.2.2
  have hl := lv_entry [.int (nI k)] (n := 1) (Nat.le_of_ble_eq_true rfl)
  rw [lg_entry_eq]
  generalize (lg_sl [.int (nI k)] ++ List.replicate (1 - (lg_sl [.int (nI k)]).length) Slot.unset).toArray = ls at hl ⊢
  have hl : lv_has ls 1 [(0, .int (nI k))] := hl
  refine lv_iload_n hx hb d_J_can_0 rfl (lv_at hl 0 rfl) ?_
  refine lv_if_lt (tgt := 15) hx hb d_J_can_1 (by decide) (fun q => absurd q (nI_pos (by omega))) (fun _ => ?_)
  refine lv_iload_n hx hb d_J_can_4 rfl (lv_at hl 0 rfl) ?_
  refine lv_sipush (v := 255) hx hb d_J_can_5 (by decide) ?_
  refine lv_icmp_gt (tgt := 15) hx hb d_J_can_8 (by decide) (fun q => absurd q (nI_nlt (a := 255) (by omega) (by omega))) (fun _ => ?_)
  refine lv_iconst (v := 1) hx hb d_J_can_11 (by decide) ?_
  refine lv_goto (tgt := 16) hx hb d_J_can_12 (by decide) ?_
  exact W.zret hx hb hr (by decide) (fun t ht hW => ⟨_, rfl, rfl, ht⟩) (fun q h => by cases h) d_J_can_16
set_option maxHeartbeats 4000000 in
set_option maxRecDepth 100000 in
theorem js_chr (l : Launch) (adK adV : Nat → Nat) (k : Nat) (hk : k < 128) : js_Met l y_J_chr M_J_chr 0 [.ref (adV 0), .int (nI k), .int 0, .int 19] adK adV (fun r => r = mm_ix (nI k).toInt8.toInt32 mm_by 0) := by
  refine Met.ofW (cc := M_J_chr.2.1) (maxL := 6) (ret := some .int) (by decide) rfl ?_
  intro p e s m args below meth c s₁ B hml hv
  obtain ⟨rfl, hE⟩ := hv
  have hx := B.exec
  have hb := B.bytes
  have hr := B.returns
  have hts0 := atoms_spec (ws := .code y_J_chr M_J_chr.2.1 M_J_chr.2.2.1 M_J_chr.2.2.2.2 :: mm_T) B.pre
  have hts : ∀ w ∈ mm_T, w.before ([.ref (adV 0), .int (nI k), .int 0, .int 19] : List Value).toArray s = true := fun w hw => hts0 w (List.mem_cons_of_mem _ hw)
  have hown : s.vm.findClass "java/lang/StringLatin1" = some m.cls := findClass_of_methodNamed B.named
  have hlocks := B.notSynchronized
  have hF : va_S (fun _ => False) s.heap s.heap [] := va_S.rf
  have hT : va_T .byte (adV 0) 19 (fun j => .int (mm_by.getD j 0)) (fun _ => False) s s.heap := (hE.1.1 0 (by decide)).2.2.2
  have hl := lv_entry [.ref (adV 0), .int (nI k), .int 0, .int 19] (n := 6) (Nat.le_of_ble_eq_true rfl)
  rw [lg_entry_eq]
  generalize (lg_sl [.ref (adV 0), .int (nI k), .int 0, .int 19] ++ List.replicate (6 - (lg_sl [.ref (adV 0), .int (nI k), .int 0, .int 19]).length) Slot.unset).toArray = ls at hl ⊢
  have hl : lv_has ls 6 [(0, .ref (adV 0)), (1, .int (nI k)), (2, .int 0), (3, .int 19)] := hl
  refine lv_iload_n hx hb d_J_chr_0 rfl (lv_at hl 1 rfl) ?_
  refine lv_i2b hx hb d_J_chr_1 rfl ?_
  generalize (nI k).toInt8.toInt32 = cb
  refine lv_istore (lv' := [(4, .int cb), (0, .ref (adV 0)), (1, .int (nI k)), (2, .int 0), (3, .int 19)]) hx hb d_J_chr_2 hl (by decide) rfl (fun ls hl => ?_)
  refine lv_iload_n hx hb d_J_chr_4 rfl (lv_at hl 3 rfl) ?_
  refine lv_istore (lv' := [(5, .int 0), (4, .int cb), (0, .ref (adV 0)), (1, .int (nI k)), (2, .int 0), (3, .int 19)]) hx hb d_J_chr_5 hl (by decide) rfl (fun ls hl => ?_)
  have loop : ∀ (lst : List Int32) (j : Nat), mm_by.drop j = lst → j ≤ 19 → mm_ix cb lst j = mm_ix cb mm_by 0 → ∀ ls : Array Slot, lv_has ls 6 [(5, .int (nI j)), (4, .int cb), (0, .ref (adV 0)), (1, .int (nI k)), (2, .int 0), (3, .int 19)] → W p l e (headSpec (Cond.code y_J_chr M_J_chr.2.1 M_J_chr.2.2.1 M_J_chr.2.2.2.2 :: mm_T) { frames := 0, cells := 0, slots := 0, locals := mm_K * 0 }).room s m ([.ref (adV 0), .int (nI k), .int 0, .int 19] : List Value).toArray below meth c s.heap [] 0 0 (MQ below (vp_Si (fun r => r = mm_ix cb mm_by 0)) ([.ref (adV 0), .int (nI k), .int 0, .int 19] : List Value).toArray s 0 0 (fun _ => False)) (F0 m 7 ls []) := by
    intro lst
    induction lst with
    | nil =>
      intro j hj hj2 hI ls hl
      have hj3 : j = 19 := by
        have := List.drop_eq_nil_iff.mp hj
        have h19 : mm_by.length = 19 := rfl
        omega
      subst hj3
      refine lv_iload hx hb d_J_chr_7 (lv_at hl 0 rfl) ?_
      refine lv_iload_n hx hb d_J_chr_9 rfl (lv_at hl 5 rfl) ?_
      refine lv_icmp_ge (tgt := 31) hx hb d_J_chr_10 (by decide) (fun _ => ?_) (fun q => absurd (by decide) q)
      refine lv_iconst (v := -1) hx hb d_J_chr_31 (by decide) ?_
      exact W.iret hx hb hr (fun t ht hW => ⟨_, rfl, hI, ht⟩) (fun q h => by cases h) d_J_chr_32
    | cons b lst ih =>
      intro j hj hj2 hI ls hl
      obtain ⟨h1, h2, h3, h4⟩ := sc_dropC hj
      have h19 : mm_by.length = 19 := rfl
      refine lv_iload hx hb d_J_chr_7 (lv_at hl 0 rfl) ?_
      refine lv_iload_n hx hb d_J_chr_9 rfl (lv_at hl 5 rfl) ?_
      refine lv_icmp_ge (tgt := 31) hx hb d_J_chr_10 (by decide) (fun q => absurd q (nI_ge (b := 19) (by omega) (by omega))) (fun _ => ?_)
      refine lv_aload_n hx hb d_J_chr_13 rfl (lv_at hl 2 rfl) ?_
      refine lv_iload hx hb d_J_chr_14 (lv_at hl 0 rfl) ?_
      refine va_tb hx hb hT hF (vp_in_nI (by omega) (by omega)) (v := .int b) (by rw [nI_clamp (by omega)]; show Value.int (mm_by.getD j 0) = .int b; rw [h2]) d_J_chr_16 ?_
      refine lv_iload hx hb d_J_chr_17 (lv_at hl 1 rfl) ?_
      refine lv_icmp_ne (tgt := 25) hx hb d_J_chr_19 (by decide) (fun q => ?_) (fun q => ?_)
      · refine lv_iinc (v := nI (j + 1)) (lv' := [(5, .int (nI (j + 1))), (4, .int cb), (0, .ref (adV 0)), (1, .int (nI k)), (2, .int 0), (3, .int 19)]) hx hb d_J_chr_25 hl (k := 0) rfl (nI_1 j) (by decide) rfl (fun ls hl => ?_)
        refine lv_goto (tgt := 7) hx hb d_J_chr_28 (by decide) ?_
        refine ih (j + 1) h3 (by omega) ?_ ls hl
        rw [← hI, mm_ix, if_neg q]
      · refine lv_iload hx hb d_J_chr_22 (lv_at hl 0 rfl) ?_
        refine W.iret hx hb hr (fun t ht hW => ⟨_, rfl, ?_, ht⟩) (fun q h => by cases h) d_J_chr_24
        rw [← hI, mm_ix, if_pos q]
  exact loop mm_by 0 rfl (by decide) rfl ls hl
set_option maxHeartbeats 4000000 in
set_option maxRecDepth 100000 in
theorem js_cod (l : Launch) (adK adV : Nat → Nat)  : js_Met l y_J_cod M_J_cod 0 [.ref (adK 0)] adK adV (fun r => r = 0) := by
  refine Met.ofW (cc := M_J_cod.2.1) (maxL := 1) (ret := some .byte) (by decide) rfl ?_
  intro p e s m args below meth c s₁ B hml hv
  obtain ⟨rfl, hE⟩ := hv
  have hx := B.exec
  have hb := B.bytes
  have hr := B.returns
  have hts0 := atoms_spec (ws := .code y_J_cod M_J_cod.2.1 M_J_cod.2.2.1 M_J_cod.2.2.2.2 :: mm_T) B.pre
  have hts : ∀ w ∈ mm_T, w.before ([.ref (adK 0)] : List Value).toArray s = true := fun w hw => hts0 w (List.mem_cons_of_mem _ hw)
  have hown : s.vm.findClass "java/lang/String" = some m.cls := findClass_of_methodNamed B.named
  have hlocks := B.notSynchronized
  have hF : va_S (fun _ => False) s.heap s.heap [] := va_S.rf
  have hT : va_T .byte (adV 0) 19 (fun j => .int (mm_by.getD j 0)) (fun _ => False) s s.heap := (hE.1.1 0 (by decide)).2.2.2
  have hl := lv_entry [.ref (adK 0)] (n := 1) (Nat.le_of_ble_eq_true rfl)
  rw [lg_entry_eq]
  generalize (lg_sl [.ref (adK 0)] ++ List.replicate (1 - (lg_sl [.ref (adK 0)]).length) Slot.unset).toArray = ls at hl ⊢
  have hl : lv_has ls 1 [(0, .ref (adK 0))] := hl
  refine va_gets hx hb hE.2 hF hown (hts _ tw_331) (fun _ q => q) d_J_cod_0 ?_
  refine lv_if_eq (tgt := 13) hx hb d_J_cod_3 (by decide) (fun q => absurd q (by decide)) (fun _ => ?_)
  refine lv_aload_n hx hb d_J_cod_6 rfl (lv_at hl 0 rfl) ?_
  refine vk_getf hx hb (hE.1.1 0 (by decide)).2.1 hF hown (hts _ tw_975) (fun _ q => q) d_J_cod_7 ?_
  refine lv_goto (tgt := 14) hx hb d_J_cod_10 (by decide) ?_
  exact W.zret hx hb hr (by decide) (fun t ht hW => ⟨_, rfl, rfl, ht⟩) (fun q h => by cases h) d_J_cod_14
set_option maxHeartbeats 4000000 in
set_option maxRecDepth 100000 in
theorem js_isl (l : Launch) (adK adV : Nat → Nat)  : js_Met l y_J_isl M_J_isl 0 [.ref (adK 0)] adK adV (fun r => r = 1) := by
  refine Met.ofW (cc := M_J_isl.2.1) (maxL := 1) (ret := some .boolean) (by decide) rfl ?_
  intro p e s m args below meth c s₁ B hml hv
  obtain ⟨rfl, hE⟩ := hv
  have hx := B.exec
  have hb := B.bytes
  have hr := B.returns
  have hts0 := atoms_spec (ws := .code y_J_isl M_J_isl.2.1 M_J_isl.2.2.1 M_J_isl.2.2.2.2 :: mm_T) B.pre
  have hts : ∀ w ∈ mm_T, w.before ([.ref (adK 0)] : List Value).toArray s = true := fun w hw => hts0 w (List.mem_cons_of_mem _ hw)
  have hown : s.vm.findClass "java/lang/String" = some m.cls := findClass_of_methodNamed B.named
  have hlocks := B.notSynchronized
  have hF : va_S (fun _ => False) s.heap s.heap [] := va_S.rf
  have hT : va_T .byte (adV 0) 19 (fun j => .int (mm_by.getD j 0)) (fun _ => False) s s.heap := (hE.1.1 0 (by decide)).2.2.2
  have hl := lv_entry [.ref (adK 0)] (n := 1) (Nat.le_of_ble_eq_true rfl)
  rw [lg_entry_eq]
  generalize (lg_sl [.ref (adK 0)] ++ List.replicate (1 - (lg_sl [.ref (adK 0)]).length) Slot.unset).toArray = ls at hl ⊢
  have hl : lv_has ls 1 [(0, .ref (adK 0))] := hl
  refine va_gets hx hb hE.2 hF hown (hts _ tw_331) (fun _ q => q) d_J_isl_0 ?_
  refine lv_if_eq (tgt := 17) hx hb d_J_isl_3 (by decide) (fun q => absurd q (by decide)) (fun _ => ?_)
  refine lv_aload_n hx hb d_J_isl_6 rfl (lv_at hl 0 rfl) ?_
  refine vk_getf hx hb (hE.1.1 0 (by decide)).2.1 hF hown (hts _ tw_975) (fun _ q => q) d_J_isl_7 ?_
  refine lv_if_ne (tgt := 17) hx hb d_J_isl_10 (by decide) (fun q => absurd rfl q) (fun _ => ?_)
  refine lv_iconst (v := 1) hx hb d_J_isl_13 (by decide) ?_
  refine lv_goto (tgt := 18) hx hb d_J_isl_14 (by decide) ?_
  exact W.zret hx hb hr (by decide) (fun t ht hW => ⟨_, rfl, rfl, ht⟩) (fun q h => by cases h) d_J_isl_18
set_option maxHeartbeats 4000000 in
set_option maxRecDepth 100000 in
theorem js_len (l : Launch) (adK adV : Nat → Nat)  : js_Met l y_J_len M_J_len 1 [.ref (adK 0)] adK adV (fun r => r = 19) := by
  refine Met.ofW (cc := M_J_len.2.1) (maxL := 1) (ret := some .int) (by decide) rfl ?_
  intro p e s m args below meth c s₁ B hml hv
  obtain ⟨rfl, hE⟩ := hv
  have hx := B.exec
  have hb := B.bytes
  have hr := B.returns
  have hts0 := atoms_spec (ws := .code y_J_len M_J_len.2.1 M_J_len.2.2.1 M_J_len.2.2.2.2 :: mm_T) B.pre
  have hts : ∀ w ∈ mm_T, w.before ([.ref (adK 0)] : List Value).toArray s = true := fun w hw => hts0 w (List.mem_cons_of_mem _ hw)
  have hown : s.vm.findClass "java/lang/String" = some m.cls := findClass_of_methodNamed B.named
  have hlocks := B.notSynchronized
  have hF : va_S (fun _ => False) s.heap s.heap [] := va_S.rf
  have hT : va_T .byte (adV 0) 19 (fun j => .int (mm_by.getD j 0)) (fun _ => False) s s.heap := (hE.1.1 0 (by decide)).2.2.2
  have hl := lv_entry [.ref (adK 0)] (n := 1) (Nat.le_of_ble_eq_true rfl)
  rw [lg_entry_eq]
  generalize (lg_sl [.ref (adK 0)] ++ List.replicate (1 - (lg_sl [.ref (adK 0)]).length) Slot.unset).toArray = ls at hl ⊢
  have hl : lv_has ls 1 [(0, .ref (adK 0))] := hl
  refine lv_aload_n hx hb d_J_len_0 rfl (lv_at hl 0 rfl) ?_
  refine vk_getf hx hb (hE.1.1 0 (by decide)).2.2.1 hF hown (hts _ tw_976) (fun _ q => q) d_J_len_1 ?_
  refine va_tlen hx hb hT hF (v := 19) rfl d_J_len_4 ?_
  refine lv_aload_n hx hb d_J_len_5 rfl (lv_at hl 0 rfl) ?_
  refine vp_callSi (W.runV (As := []) (rest := [.int 19]) (b := adK 0) (C := "java/lang/String") ⟨hx, hb, hml, hown, hts⟩ (js_cod l adK adV) ⟨js_CB hts ok_J_cod tw_337 (by decide) (by decide), hts _ tw_338, hts _ tw_339⟩ ⟨js_blind _ _ _, vk_recv hE.1 (i := 0) (by decide) hF, js_pre hE _⟩ rfl rfl hl.1 rfl (lv_room (Nat.le_of_ble_eq_true rfl)) d_J_len_6 ⟨Nat.le_refl _, Nat.le_refl _⟩) (fun r hr1 => ?_)
  subst hr1
  refine lv_ishr hx hb d_J_len_9 ?_
  exact W.iret hx hb hr (fun t ht hW => ⟨_, rfl, (by decide), ht⟩) (fun q h => by cases h) d_J_len_10
set_option maxHeartbeats 4000000 in
set_option maxRecDepth 100000 in
theorem js_lat (l : Launch) (adK adV : Nat → Nat) (k : Nat) (hk : k < 128) : js_Met l y_J_lat M_J_lat 1 [.ref (adV 0), .int (nI k), .int 0, .int 19] adK adV (fun r => r = mm_ix (nI k).toInt8.toInt32 mm_by 0) := by
  refine Met.ofW (cc := M_J_lat.2.1) (maxL := 4) (ret := some .int) (by decide) rfl ?_
  intro p e s m args below meth c s₁ B hml hv
  obtain ⟨rfl, hE⟩ := hv
  have hx := B.exec
  have hb := B.bytes
  have hr := B.returns
  have hts0 := atoms_spec (ws := .code y_J_lat M_J_lat.2.1 M_J_lat.2.2.1 M_J_lat.2.2.2.2 :: mm_T) B.pre
  have hts : ∀ w ∈ mm_T, w.before ([.ref (adV 0), .int (nI k), .int 0, .int 19] : List Value).toArray s = true := fun w hw => hts0 w (List.mem_cons_of_mem _ hw)
  have hown : s.vm.findClass "java/lang/StringLatin1" = some m.cls := findClass_of_methodNamed B.named
  have hlocks := B.notSynchronized
  have hF : va_S (fun _ => False) s.heap s.heap [] := va_S.rf
  have hT : va_T .byte (adV 0) 19 (fun j => .int (mm_by.getD j 0)) (fun _ => False) s s.heap := (hE.1.1 0 (by decide)).2.2.2
  have hl := lv_entry [.ref (adV 0), .int (nI k), .int 0, .int 19] (n := 4) (Nat.le_of_ble_eq_true rfl)
  rw [lg_entry_eq]
  generalize (lg_sl [.ref (adV 0), .int (nI k), .int 0, .int 19] ++ List.replicate (4 - (lg_sl [.ref (adV 0), .int (nI k), .int 0, .int 19]).length) Slot.unset).toArray = ls at hl ⊢
  have hl : lv_has ls 4 [(0, .ref (adV 0)), (1, .int (nI k)), (2, .int 0), (3, .int 19)] := hl
  refine lv_iload_n hx hb d_J_lat_0 rfl (lv_at hl 1 rfl) ?_
  refine vp_callSi (W.runS (As := [.int (nI k)]) (rest := []) ⟨hx, hb, hml, hown, hts⟩ (js_can l adK adV k hk) ⟨js_CB hts ok_J_can tw_344 (by decide) (by decide), hts _ tw_345⟩ ⟨js_blind _ _ _, js_pre hE _⟩ rfl rfl hl.1 rfl (lv_room (Nat.le_of_ble_eq_true rfl)) d_J_lat_1 ⟨Nat.le_refl _, Nat.le_refl _⟩) (fun r hr1 => ?_)
  subst hr1
  refine lv_if_ne (tgt := 9) hx hb d_J_lat_4 (by decide) (fun _ => ?_) (fun q => absurd q (by decide))
  refine lv_iload_n hx hb d_J_lat_9 rfl (lv_at hl 2 rfl) ?_
  refine lv_iconst (v := 0) hx hb d_J_lat_10 (by decide) ?_
  refine va_mmax hx hb (by rw [hml]; exact hl.1.symm) hown (hts _ tw_347) (hts _ tw_161) (hts _ tw_6) (hts _ tw_162) (by decide) (by decide) (Nat.le_refl _) (Nat.le_refl _) d_J_lat_11 ?_
  refine W.eq (g2 := F0 m 14 ls [.int 0]) (by simp) ?_
  refine lv_istore_n (lv' := [(2, .int 0), (0, .ref (adV 0)), (1, .int (nI k)), (3, .int 19)]) hx hb d_J_lat_14 rfl hl (by decide) rfl (fun ls hl => ?_)
  refine lv_iload_n hx hb d_J_lat_15 rfl (lv_at hl 3 rfl) ?_
  refine lv_aload_n hx hb d_J_lat_16 rfl (lv_at hl 1 rfl) ?_
  refine va_tlen hx hb hT hF (v := 19) rfl d_J_lat_17 ?_
  refine va_mmin hx hb (by rw [hml]; exact hl.1.symm) hown (hts _ tw_348) (hts _ tw_158) (hts _ tw_6) (hts _ tw_159) (by decide) (by decide) (Nat.le_refl _) (Nat.le_refl _) d_J_lat_18 ?_
  refine W.eq (g2 := F0 m 21 ls [.int 19]) (by simp) ?_
  refine lv_istore_n (lv' := [(3, .int 19), (2, .int 0), (0, .ref (adV 0)), (1, .int (nI k))]) hx hb d_J_lat_21 rfl hl (by decide) rfl (fun ls hl => ?_)
  refine lv_iload_n hx hb d_J_lat_22 rfl (lv_at hl 1 rfl) ?_
  refine lv_iload_n hx hb d_J_lat_23 rfl (lv_at hl 0 rfl) ?_
  refine lv_icmp_lt (tgt := 29) hx hb d_J_lat_24 (by decide) (fun _ => ?_) (fun q => absurd (by decide) q)
  refine lv_aload_n hx hb d_J_lat_29 rfl (lv_at hl 2 rfl) ?_
  refine lv_iload_n hx hb d_J_lat_30 rfl (lv_at hl 3 rfl) ?_
  refine lv_iload_n hx hb d_J_lat_31 rfl (lv_at hl 1 rfl) ?_
  refine lv_iload_n hx hb d_J_lat_32 rfl (lv_at hl 0 rfl) ?_
  refine vp_callSi (W.runS (As := [.ref (adV 0), .int (nI k), .int 0, .int 19]) (rest := []) ⟨hx, hb, hml, hown, hts⟩ (js_chr l adK adV k hk) ⟨js_CB hts ok_J_chr tw_349 (by decide) (by decide), hts _ tw_350⟩ ⟨js_blind _ _ _, js_pre hE _⟩ rfl rfl hl.1 rfl (lv_room (Nat.le_of_ble_eq_true rfl)) d_J_lat_33 ⟨Nat.le_refl _, Nat.le_refl _⟩) (fun r hr1 => ?_)
  subst hr1
  exact W.iret hx hb hr (fun t ht hW => ⟨_, rfl, rfl, ht⟩) (fun q h => by cases h) d_J_lat_36
set_option maxHeartbeats 4000000 in
set_option maxRecDepth 100000 in
theorem js_ix2 (l : Launch) (adK adV : Nat → Nat) (k : Nat) (hk : k < 128) : js_Met l y_J_ix2 M_J_ix2 2 [.ref (adK 0), .int (nI k), .int 0] adK adV (fun r => r = mm_ix (nI k).toInt8.toInt32 mm_by 0) := by
  refine Met.ofW (cc := M_J_ix2.2.1) (maxL := 3) (ret := some .int) (by decide) rfl ?_
  intro p e s m args below meth c s₁ B hml hv
  obtain ⟨rfl, hE⟩ := hv
  have hx := B.exec
  have hb := B.bytes
  have hr := B.returns
  have hts0 := atoms_spec (ws := .code y_J_ix2 M_J_ix2.2.1 M_J_ix2.2.2.1 M_J_ix2.2.2.2.2 :: mm_T) B.pre
  have hts : ∀ w ∈ mm_T, w.before ([.ref (adK 0), .int (nI k), .int 0] : List Value).toArray s = true := fun w hw => hts0 w (List.mem_cons_of_mem _ hw)
  have hown : s.vm.findClass "java/lang/String" = some m.cls := findClass_of_methodNamed B.named
  have hlocks := B.notSynchronized
  have hF : va_S (fun _ => False) s.heap s.heap [] := va_S.rf
  have hT : va_T .byte (adV 0) 19 (fun j => .int (mm_by.getD j 0)) (fun _ => False) s s.heap := (hE.1.1 0 (by decide)).2.2.2
  have hl := lv_entry [.ref (adK 0), .int (nI k), .int 0] (n := 3) (Nat.le_of_ble_eq_true rfl)
  rw [lg_entry_eq]
  generalize (lg_sl [.ref (adK 0), .int (nI k), .int 0] ++ List.replicate (3 - (lg_sl [.ref (adK 0), .int (nI k), .int 0]).length) Slot.unset).toArray = ls at hl ⊢
  have hl : lv_has ls 3 [(0, .ref (adK 0)), (1, .int (nI k)), (2, .int 0)] := hl
  refine lv_aload_n hx hb d_J_ix2_0 rfl (lv_at hl 0 rfl) ?_
  refine vp_callSi (W.runV (As := []) (rest := []) (b := adK 0) (C := "java/lang/String") ⟨hx, hb, hml, hown, hts⟩ (js_isl l adK adV) ⟨js_CB hts ok_J_isl tw_327 (by decide) (by decide), hts _ tw_328, hts _ tw_329⟩ ⟨js_blind _ _ _, vk_recv hE.1 (i := 0) (by decide) hF, js_pre hE _⟩ rfl rfl hl.1 rfl (lv_room (Nat.le_of_ble_eq_true rfl)) d_J_ix2_1 ⟨Nat.le_refl _, Nat.le_refl _⟩) (fun r hr1 => ?_)
  subst hr1
  refine lv_if_eq (tgt := 23) hx hb d_J_ix2_4 (by decide) (fun q => absurd q (by decide)) (fun _ => ?_)
  refine lv_aload_n hx hb d_J_ix2_7 rfl (lv_at hl 0 rfl) ?_
  refine vk_getf hx hb (hE.1.1 0 (by decide)).2.2.1 hF hown (hts _ tw_976) (fun _ q => q) d_J_ix2_8 ?_
  refine lv_iload_n hx hb d_J_ix2_11 rfl (lv_at hl 1 rfl) ?_
  refine lv_iload_n hx hb d_J_ix2_12 rfl (lv_at hl 2 rfl) ?_
  refine lv_aload_n hx hb d_J_ix2_13 rfl (lv_at hl 0 rfl) ?_
  refine vp_callSi (W.runV (As := []) (rest := [.int 0, .int (nI k), .ref (adV 0)]) (b := adK 0) (C := "java/lang/String") ⟨hx, hb, hml, hown, hts⟩ (js_len l adK adV) ⟨js_CB hts ok_J_len tw_333 (by decide) (by decide), hts _ tw_334, hts _ tw_335⟩ ⟨js_blind _ _ _, vk_recv hE.1 (i := 0) (by decide) hF, js_pre hE _⟩ rfl rfl hl.1 rfl (lv_room (Nat.le_of_ble_eq_true rfl)) d_J_ix2_14 ⟨Nat.le_refl _, Nat.le_refl _⟩) (fun r hr1 => ?_)
  subst hr1
  refine vp_callSi (W.runS (As := [.ref (adV 0), .int (nI k), .int 0, .int 19]) (rest := []) ⟨hx, hb, hml, hown, hts⟩ (js_lat l adK adV k hk) ⟨js_CB hts ok_J_lat tw_341 (by decide) (by decide), hts _ tw_342⟩ ⟨js_blind _ _ _, js_pre hE _⟩ rfl rfl hl.1 rfl (lv_room (Nat.le_of_ble_eq_true rfl)) d_J_ix2_17 ⟨Nat.le_refl _, Nat.le_refl _⟩) (fun r hr1 => ?_)
  subst hr1
  refine lv_goto (tgt := 36) hx hb d_J_ix2_20 (by decide) ?_
  exact W.iret hx hb hr (fun t ht hW => ⟨_, rfl, rfl, ht⟩) (fun q h => by cases h) d_J_ix2_36
set_option maxHeartbeats 4000000 in
set_option maxRecDepth 100000 in
theorem js_ix1 (l : Launch) (adK adV : Nat → Nat) (k : Nat) (hk : k < 128) : js_Met l y_J_ix1 M_J_ix1 3 [.ref (adK 0), .int (nI k)] adK adV (fun r => r = mm_ix (nI k).toInt8.toInt32 mm_by 0) := by
  refine Met.ofW (cc := M_J_ix1.2.1) (maxL := 2) (ret := some .int) (by decide) rfl ?_
  intro p e s m args below meth c s₁ B hml hv
  obtain ⟨rfl, hE⟩ := hv
  have hx := B.exec
  have hb := B.bytes
  have hr := B.returns
  have hts0 := atoms_spec (ws := .code y_J_ix1 M_J_ix1.2.1 M_J_ix1.2.2.1 M_J_ix1.2.2.2.2 :: mm_T) B.pre
  have hts : ∀ w ∈ mm_T, w.before ([.ref (adK 0), .int (nI k)] : List Value).toArray s = true := fun w hw => hts0 w (List.mem_cons_of_mem _ hw)
  have hown : s.vm.findClass "java/lang/String" = some m.cls := findClass_of_methodNamed B.named
  have hlocks := B.notSynchronized
  have hF : va_S (fun _ => False) s.heap s.heap [] := va_S.rf
  have hT : va_T .byte (adV 0) 19 (fun j => .int (mm_by.getD j 0)) (fun _ => False) s s.heap := (hE.1.1 0 (by decide)).2.2.2
  have hl := lv_entry [.ref (adK 0), .int (nI k)] (n := 2) (Nat.le_of_ble_eq_true rfl)
  rw [lg_entry_eq]
  generalize (lg_sl [.ref (adK 0), .int (nI k)] ++ List.replicate (2 - (lg_sl [.ref (adK 0), .int (nI k)]).length) Slot.unset).toArray = ls at hl ⊢
  have hl : lv_has ls 2 [(0, .ref (adK 0)), (1, .int (nI k))] := hl
  refine lv_aload_n hx hb d_J_ix1_0 rfl (lv_at hl 0 rfl) ?_
  refine lv_iload_n hx hb d_J_ix1_1 rfl (lv_at hl 1 rfl) ?_
  refine lv_iconst (v := 0) hx hb d_J_ix1_2 (by decide) ?_
  refine vp_callSi (W.runV (As := [.int (nI k), .int 0]) (rest := []) (b := adK 0) (C := "java/lang/String") ⟨hx, hb, hml, hown, hts⟩ (js_ix2 l adK adV k hk) ⟨js_CB hts ok_J_ix2 tw_323 (by decide) (by decide), hts _ tw_324, hts _ tw_325⟩ ⟨js_blind _ _ _, vk_recv hE.1 (i := 0) (by decide) hF, js_pre hE _⟩ rfl rfl hl.1 rfl (lv_room (Nat.le_of_ble_eq_true rfl)) d_J_ix1_3 ⟨Nat.le_refl _, Nat.le_refl _⟩) (fun r hr1 => ?_)
  subst hr1
  exact W.iret hx hb hr (fun t ht hW => ⟨_, rfl, rfl, ht⟩) (fun q h => by cases h) d_J_ix1_6
theorem js_small {x : Int32} (h1 : ¬ x ≤ 0) (h2 : ¬ (128 : Int32) ≤ x) : ∃ k : Nat, k < 128 ∧ x = nI k := by
  have h3 : ¬ x < 0 := fun q => h1 (Int32.le_of_lt q)
  obtain ⟨j, hj, rfl⟩ := nI_of h3
  refine ⟨j, ?_, rfl⟩
  rcases Nat.lt_or_ge j 128 with q | q
  · exact q
  · exact absurd (nI_le (a := 128) q hj) h2
theorem mm_str {M : mm_M} {d k0 kc ks pc : Nat} {post : Option Value → mm_H → Prop} {L : mm_L} {r : List Value} {w : mm_H} {j : Nat} (hj : j < 128) (hM : M.1 = "PatternBench") (hx : L[0]? = some (some (.int (nI j)))) (d1 : decode M.2.1 pc = .ok (.ldc 129, 2)) (d2 : decode M.2.1 (pc + 2) = .ok (.iload_n 0, 1)) (d3 : decode M.2.1 (pc + 2 + 1) = .ok (.i2c, 1)) (d4 : decode M.2.1 (pc + 2 + 1 + 1) = .ok (.invokevirtual 131, 3)) (hr8 : (r.map fun v => v.category).sum ≤ 8) (hd : 3 < d)
    (k : mm_V M d k0 post kc ks (pc + 2 + 1 + 1 + 3) L (.int (mm_ix (nI j).toInt8.toInt32 mm_by 0) :: r) w) : mm_V M d k0 post kc ks pc L r w := by
  intro p l e R s m args below meth c D cA A Q ρ0 mc ms hG ρ H locs ls st' cells slots ⟨h0, hw, hS, hl, hst, hb⟩
  obtain ⟨adK, adV, e1, e2, e3⟩ := hG.1.2.2.2.2.2.2.2.2.2.2
  have hown : s.vm.findClass "PatternBench" = some m.cls := by rw [← hM]; exact hG.1.2.2.2.1
  have hE : js_E adK adV s H := ⟨(e2.kept hS.2.1).narrow (fun q h => h.elim), (e3.kept hS.2.1).narrow (fun q h => h.elim)⟩
  have hts := hG.1.2.2.2.2.1
  have hrm := hG.1.2.2.2.2.2.2.2.1
  have hR := hG.2.1
  obtain ⟨v, hv1, hv2⟩ := hl.2.2.2 _ _ hx
  have hv2 : v = .int (nI j) := hv2
  subst hv2
  refine va_ldcS hG.1.1 hG.1.2.1 hown e1 d1 ?_
  refine lv_iload_n hG.1.1 hG.1.2.1 d2 rfl hv1 ?_
  refine lv_i2c hG.1.1 hG.1.2.1 d3 (v := nI j) (by rw [pk_char, pk_tn (by omega), Nat.mod_eq_of_lt (by omega)]) ?_
  have h8 := lv_room (m := m) (pc := pc + 2 + 1 + 1) (ls := ls) (rest := .int (nI j) :: .ref (adK 0) :: st') (st := st') (by rw [mm_vs_cat hst]; exact hr8)
  refine vp_callSi (W.runV (As := [.int (nI j)]) (rest := st') (b := adK 0) (C := "java/lang/String") ⟨hG.1.1, hG.1.2.1, hG.1.2.2.1, hown, hts⟩ (js_ix1 l adK adV j hj) ⟨js_CB hts ok_J_ix1 tw_319 (by omega) (by unfold mm_K at *; omega), hts _ tw_320, hts _ tw_321⟩ ⟨js_blind _ _ _, vk_recv e2 (i := 0) (by decide) hS, js_pre hE _⟩ rfl rfl hl.1 rfl h8 d4 (by omega)) (fun r1 hr1 => ?_)
  subst hr1
  exact k hG ⟨h0, hw, hS, hl, ⟨_, _, rfl, rfl, hst⟩, hb⟩
