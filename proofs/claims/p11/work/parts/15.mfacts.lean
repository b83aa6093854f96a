theorem fl_Model_35 : mm_fl r_Model 35 7 0 := ⟨_, _, _, rfl, by decide, Or.inl tw_685⟩
theorem fl_Model_50 : mm_fl r_Model 50 7 1 := ⟨_, _, _, rfl, by decide, Or.inl tw_686⟩
theorem fl_Model_7 : mm_fl r_Model 7 7 2 := ⟨_, _, _, rfl, by decide, Or.inl tw_687⟩
theorem fl_Model_83 : mm_fl r_Model 83 7 3 := ⟨_, _, _, rfl, by decide, Or.inl tw_688⟩
theorem fl_Model_87 : mm_fl r_Model 87 7 4 := ⟨_, _, _, rfl, by decide, Or.inl tw_689⟩
theorem fl_Model_90 : mm_fl r_Model 90 7 5 := ⟨_, _, _, rfl, by decide, Or.inl tw_690⟩
theorem fl_Model_93 : mm_fl r_Model 93 7 6 := ⟨_, _, _, rfl, by decide, Or.inl tw_691⟩
theorem fl_Model_13 : mm_fl r_Model 13 7 7 := ⟨_, _, _, rfl, by decide, Or.inl tw_692⟩
theorem fl_Model_99 : mm_fl r_Model 99 7 8 := ⟨_, _, _, rfl, by decide, Or.inl tw_693⟩
theorem fl_Model_16 : mm_fl r_Model 16 7 9 := ⟨_, _, _, rfl, by decide, Or.inl tw_694⟩
theorem fl_Model_173 : mm_fl r_Model 173 7 10 := ⟨_, _, _, rfl, by decide, Or.inl tw_695⟩
theorem fl_Model_96 : mm_fl r_Model 96 7 11 := ⟨_, _, _, rfl, by decide, Or.inl tw_696⟩
theorem fl_Model_220 : mm_fl r_Model 220 7 12 := ⟨_, _, _, rfl, by decide, Or.inl tw_697⟩
theorem fl_Model_223 : mm_fl r_Model 223 7 13 := ⟨_, _, _, rfl, by decide, Or.inl tw_698⟩
theorem fl_Model_226 : mm_fl r_Model 226 7 14 := ⟨_, _, _, rfl, by decide, Or.inl tw_699⟩
theorem fl_Model_19 : mm_fl r_Model 19 7 15 := ⟨_, _, _, rfl, by decide, Or.inl tw_700⟩
theorem fl_Model_114 : mm_fl r_Model 114 7 16 := ⟨_, _, _, rfl, by decide, Or.inl tw_701⟩
theorem fl_Model_22 : mm_fl r_Model 22 7 17 := ⟨_, _, _, rfl, by decide, Or.inl tw_702⟩
theorem fl_Model_26 : mm_fl r_Model 26 7 18 := ⟨_, _, _, rfl, by decide, Or.inl tw_703⟩
theorem fl_Model_117 : mm_fl r_Model 117 7 19 := ⟨_, _, _, rfl, by decide, Or.inl tw_704⟩
theorem fl_Model_29 : mm_fl r_Model 29 7 20 := ⟨_, _, _, rfl, by decide, Or.inl tw_705⟩
theorem fl_Model_32 : mm_fl r_Model 32 7 21 := ⟨_, _, _, rfl, by decide, Or.inl tw_706⟩
theorem fl_Model_127 : mm_fl r_Model 127 7 22 := ⟨_, _, _, rfl, by decide, Or.inl tw_707⟩
theorem fl_Model_130 : mm_fl r_Model 130 7 23 := ⟨_, _, _, rfl, by decide, Or.inl tw_708⟩
theorem fl_Model_120 : mm_fl r_Model 120 7 24 := ⟨_, _, _, rfl, by decide, Or.inl tw_709⟩
theorem fl_Model_133 : mm_fl r_Model 133 7 25 := ⟨_, _, _, rfl, by decide, Or.inl tw_710⟩
theorem fl_Model_123 : mm_fl r_Model 123 7 26 := ⟨_, _, _, rfl, by decide, Or.inl tw_711⟩
theorem ft_7_0 : mm_ft 7 0 .int := ⟨_, _, _, rfl, by decide +kernel⟩
theorem ft_7_1 : mm_ft 7 1 .int := ⟨_, _, _, rfl, by decide +kernel⟩
theorem ft_7_2 : mm_ft 7 2 (.array .int) := ⟨_, _, _, rfl, by decide +kernel⟩
theorem ft_7_3 : mm_ft 7 3 .boolean := ⟨_, _, _, rfl, by decide +kernel⟩
theorem ft_7_4 : mm_ft 7 4 .int := ⟨_, _, _, rfl, by decide +kernel⟩
theorem ft_7_5 : mm_ft 7 5 .int := ⟨_, _, _, rfl, by decide +kernel⟩
theorem ft_7_6 : mm_ft 7 6 .int := ⟨_, _, _, rfl, by decide +kernel⟩
theorem ft_7_7 : mm_ft 7 7 (.array .int) := ⟨_, _, _, rfl, by decide +kernel⟩
theorem ft_7_8 : mm_ft 7 8 .int := ⟨_, _, _, rfl, by decide +kernel⟩
theorem ft_7_9 : mm_ft 7 9 (.array .int) := ⟨_, _, _, rfl, by decide +kernel⟩
theorem ft_7_10 : mm_ft 7 10 .int := ⟨_, _, _, rfl, by decide +kernel⟩
theorem ft_7_11 : mm_ft 7 11 .boolean := ⟨_, _, _, rfl, by decide +kernel⟩
theorem ft_7_12 : mm_ft 7 12 .int := ⟨_, _, _, rfl, by decide +kernel⟩
theorem ft_7_13 : mm_ft 7 13 .int := ⟨_, _, _, rfl, by decide +kernel⟩
theorem ft_7_14 : mm_ft 7 14 .long := ⟨_, _, _, rfl, by decide +kernel⟩
theorem ft_7_15 : mm_ft 7 15 (.array .int) := ⟨_, _, _, rfl, by decide +kernel⟩
theorem ft_7_16 : mm_ft 7 16 .int := ⟨_, _, _, rfl, by decide +kernel⟩
theorem ft_7_17 : mm_ft 7 17 (.array .long) := ⟨_, _, _, rfl, by decide +kernel⟩
theorem ft_7_18 : mm_ft 7 18 (.array .long) := ⟨_, _, _, rfl, by decide +kernel⟩
theorem ft_7_19 : mm_ft 7 19 .int := ⟨_, _, _, rfl, by decide +kernel⟩
theorem ft_7_20 : mm_ft 7 20 (.array .long) := ⟨_, _, _, rfl, by decide +kernel⟩
theorem ft_7_21 : mm_ft 7 21 (.array .long) := ⟨_, _, _, rfl, by decide +kernel⟩
theorem ft_7_22 : mm_ft 7 22 .int := ⟨_, _, _, rfl, by decide +kernel⟩
theorem ft_7_23 : mm_ft 7 23 .int := ⟨_, _, _, rfl, by decide +kernel⟩
theorem ft_7_24 : mm_ft 7 24 .int := ⟨_, _, _, rfl, by decide +kernel⟩
theorem ft_7_25 : mm_ft 7 25 .int := ⟨_, _, _, rfl, by decide +kernel⟩
theorem ft_7_26 : mm_ft 7 26 .long := ⟨_, _, _, rfl, by decide +kernel⟩
theorem fp_Model_35 : mm_fp M_Model_init 35 7 0 := ⟨_, _, _, rfl, Or.inr ⟨⟨rfl, rfl⟩, tw_685⟩⟩
theorem fp_Model_50 {M : mm_M} : mm_fp M 50 7 1 := ⟨_, _, _, rfl, Or.inl rfl⟩
theorem fp_Model_7 : mm_fp M_Model_init 7 7 2 := ⟨_, _, _, rfl, Or.inr ⟨⟨rfl, rfl⟩, tw_687⟩⟩
theorem fp_Model_83 {M : mm_M} : mm_fp M 83 7 3 := ⟨_, _, _, rfl, Or.inl rfl⟩
theorem fp_Model_87 {M : mm_M} : mm_fp M 87 7 4 := ⟨_, _, _, rfl, Or.inl rfl⟩
theorem fp_Model_90 {M : mm_M} : mm_fp M 90 7 5 := ⟨_, _, _, rfl, Or.inl rfl⟩
theorem fp_Model_93 {M : mm_M} : mm_fp M 93 7 6 := ⟨_, _, _, rfl, Or.inl rfl⟩
theorem fp_Model_13 : mm_fp M_Model_init 13 7 7 := ⟨_, _, _, rfl, Or.inr ⟨⟨rfl, rfl⟩, tw_692⟩⟩
theorem fp_Model_99 {M : mm_M} : mm_fp M 99 7 8 := ⟨_, _, _, rfl, Or.inl rfl⟩
theorem fp_Model_16 : mm_fp M_Model_init 16 7 9 := ⟨_, _, _, rfl, Or.inr ⟨⟨rfl, rfl⟩, tw_694⟩⟩
theorem fp_Model_173 {M : mm_M} : mm_fp M 173 7 10 := ⟨_, _, _, rfl, Or.inl rfl⟩
theorem fp_Model_96 {M : mm_M} : mm_fp M 96 7 11 := ⟨_, _, _, rfl, Or.inl rfl⟩
theorem fp_Model_220 {M : mm_M} : mm_fp M 220 7 12 := ⟨_, _, _, rfl, Or.inl rfl⟩
theorem fp_Model_223 {M : mm_M} : mm_fp M 223 7 13 := ⟨_, _, _, rfl, Or.inl rfl⟩
theorem fp_Model_226 {M : mm_M} : mm_fp M 226 7 14 := ⟨_, _, _, rfl, Or.inl rfl⟩
theorem fp_Model_19 : mm_fp M_Model_init 19 7 15 := ⟨_, _, _, rfl, Or.inr ⟨⟨rfl, rfl⟩, tw_700⟩⟩
theorem fp_Model_114 {M : mm_M} : mm_fp M 114 7 16 := ⟨_, _, _, rfl, Or.inl rfl⟩
theorem fp_Model_22 : mm_fp M_Model_init 22 7 17 := ⟨_, _, _, rfl, Or.inr ⟨⟨rfl, rfl⟩, tw_702⟩⟩
theorem fp_Model_26 : mm_fp M_Model_init 26 7 18 := ⟨_, _, _, rfl, Or.inr ⟨⟨rfl, rfl⟩, tw_703⟩⟩
theorem fp_Model_117 {M : mm_M} : mm_fp M 117 7 19 := ⟨_, _, _, rfl, Or.inl rfl⟩
theorem fp_Model_29 : mm_fp M_Model_init 29 7 20 := ⟨_, _, _, rfl, Or.inr ⟨⟨rfl, rfl⟩, tw_705⟩⟩
theorem fp_Model_32 : mm_fp M_Model_init 32 7 21 := ⟨_, _, _, rfl, Or.inr ⟨⟨rfl, rfl⟩, tw_706⟩⟩
theorem fp_Model_127 {M : mm_M} : mm_fp M 127 7 22 := ⟨_, _, _, rfl, Or.inl rfl⟩
theorem fp_Model_130 {M : mm_M} : mm_fp M 130 7 23 := ⟨_, _, _, rfl, Or.inl rfl⟩
theorem fp_Model_120 {M : mm_M} : mm_fp M 120 7 24 := ⟨_, _, _, rfl, Or.inl rfl⟩
theorem fp_Model_133 {M : mm_M} : mm_fp M 133 7 25 := ⟨_, _, _, rfl, Or.inl rfl⟩
theorem fp_Model_123 {M : mm_M} : mm_fp M 123 7 26 := ⟨_, _, _, rfl, Or.inl rfl⟩
theorem ml_Model_43 : mm_ml r_Model 43 y_Model_letter := Or.inl tw_771
theorem ml_Model_39 : mm_ml r_Model 39 y_Model_in := Or.inl tw_774
theorem ml_Model_47 : mm_ml r_Model 47 y_Model_sign := Or.inl tw_777
theorem ml_Model_73 : mm_ml r_Model 73 y_Model_measure := Or.inl tw_784
theorem ml_Model_60 : mm_ml r_Model 60 y_Model_opener := Or.inl tw_788
theorem ml_Model_53 : mm_ml r_Model 53 y_Model_c := Or.inl tw_792
theorem ml_Model_63 : mm_ml r_Model 63 y_Model_behindPlain := Or.inl tw_796
theorem ml_Model_57 : mm_ml r_Model 57 y_Model_behindClass := Or.inl tw_800
theorem ml_Model_66 : mm_ml r_Model 66 y_Model_behindRepeat := Or.inl tw_804
theorem ml_Model_69 : mm_ml r_Model 69 y_Model_sized := Or.inl tw_808
theorem ml_Model_77 : mm_ml r_Model 77 y_Model_groupsOf := Or.inl tw_812
theorem ml_Model_80 : mm_ml r_Model 80 y_Model_namesGood := Or.inl tw_816
theorem ml_Model_229 : mm_ml r_Model 229 y_Model_seek := Or.inl tw_832
theorem ml_Model_217 : mm_ml r_Model 217 y_Model_walk := Or.inl tw_836
theorem ml_Model_163 : mm_ml r_Model 163 y_Model_go := Or.inl tw_840
theorem ml_Model_197 : mm_ml r_Model 197 y_Model_retreat := Or.inl tw_845
theorem ml_Model_108 : mm_ml r_Model 108 y_Model_rowEnds := Or.inl tw_849
theorem ml_Model_102 : mm_ml r_Model 102 y_Model_t := Or.inl tw_853
theorem ml_Model_201 : mm_ml r_Model 201 y_Model_item := Or.inl tw_857
theorem ml_Model_111 : mm_ml r_Model 111 y_Model_behindAtom := Or.inl tw_861
theorem ml_Model_105 : mm_ml r_Model 105 y_Model_closing := Or.inl tw_865
theorem ml_Model_159 : mm_ml r_Model 159 y_Model_push := Or.inl tw_869
theorem ml_Model_167 : mm_ml r_Model 167 y_Model_pushBack := Or.inl tw_873
theorem ml_Model_204 : mm_ml r_Model 204 y_Model_nextRow := Or.inl tw_877
theorem ml_Model_207 : mm_ml r_Model 207 y_Model_atom := Or.inl tw_881
theorem ml_Model_179 : mm_ml r_Model 179 y_Model_openChoice := Or.inl tw_885
theorem ml_Model_156 : mm_ml r_Model 156 y_Model_groupAt := Or.inl tw_889
theorem ml_Model_170 : mm_ml r_Model 170 y_Model_calls := Or.inl tw_893
theorem ml_Model_136 : mm_ml r_Model 136 y_Model_kindOf := Or.inl tw_897
theorem ml_Model_139 : mm_ml r_Model 139 y_Model_parentOf := Or.inl tw_901
theorem ml_Model_176 : mm_ml r_Model 176 y_Model_choiceOf := Or.inl tw_905
theorem ml_Model_183 : mm_ml r_Model 183 y_Model_plain := Or.inl tw_909
theorem ml_Model_150 : mm_ml r_Model 150 y_Model_repeats := Or.inl tw_913
theorem ml_Model_142 : mm_ml r_Model 142 y_Model_capture := Or.inl tw_917
theorem ml_Model_153 : mm_ml r_Model 153 y_Model_takesLetter := Or.inl tw_921
theorem ml_Model_146 : mm_ml r_Model 146 y_Model_inClass := Or.inl tw_925
theorem ml_Model_210 : mm_ml r_Model 210 y_Model_star := Or.inl tw_929
theorem ml_Model_214 : mm_ml r_Model 214 y_Model_carryOn := Or.inl tw_933
theorem ml_Model_186 : mm_ml r_Model 186 y_Model_placeOf := Or.inl tw_937
theorem ml_Model_189 : mm_ml r_Model 189 y_Model_numberOf := Or.inl tw_941
theorem ml_Model_232 : mm_ml r_Model 232 y_Model_bound := Or.inl tw_955
/-- the reference's world -/
def Wm (i : mm_i) (l : mm_j) (a : mm_a) (b : mm_b) : mm_H :=
  [.inr (7, [.int (i 0), .int (i 1), .ref 1, .int (i 3), .int (i 4), .int (i 5), .int (i 6), .ref 2, .int (i 8), .ref 3, .int (i 10), .int (i 11), .int (i 12), .int (i 13), .long (l 14), .ref 4, .int (i 16), .ref 5, .ref 6, .int (i 19), .ref 7, .ref 8, .int (i 22), .int (i 23), .int (i 24), .int (i 25), .long (l 26)]),
  .inl (.int, (32, .inl (a 1))),
  .inl (.int, (32, .inl (a 2))),
  .inl (.int, (40, .inl (a 3))),
  .inl (.int, (8, .inl (a 4))),
  .inl (.long, (7000, .inr (.inl (b 5)))),
  .inl (.long, (301, .inr (.inl (b 6)))),
  .inl (.long, (4000, .inr (.inl (b 7)))),
  .inl (.long, (4000, .inr (.inl (b 8))))]
def mx_PV (t : mm_H) (K : mm_i → mm_j → mm_a → mm_b → Prop) : Option Value → mm_H → Prop := fun v w => ∃ i l a b, v = none ∧ w = Wm i l a b ++ t ∧ K i l a b
def mx_PI (t : mm_H) (K : Int32 → mm_i → mm_j → mm_a → mm_b → Prop) : Option Value → mm_H → Prop := fun v w => ∃ r i l a b, v = some (.int r) ∧ w = Wm i l a b ++ t ∧ K r i l a b
def mx_PJ (t : mm_H) (K : Int64 → mm_i → mm_j → mm_a → mm_b → Prop) : Option Value → mm_H → Prop := fun v w => ∃ r i l a b, v = some (.long r) ∧ w = Wm i l a b ++ t ∧ K r i l a b
theorem mx_nb {x : Int32} (h : x = 0 ∨ x = 1) : narrow .boolean (.int x) = .int x := by
  rcases h with rfl | rfl <;> decide
theorem xg_0 {i : mm_i} {l : mm_j} {a : mm_a} {b : mm_b} {t : mm_H} : (Wm i l a b ++ t)[0]? = some (.inr (7, [.int (i 0), .int (i 1), .ref 1, .int (i 3), .int (i 4), .int (i 5), .int (i 6), .ref 2, .int (i 8), .ref 3, .int (i 10), .int (i 11), .int (i 12), .int (i 13), .long (l 14), .ref 4, .int (i 16), .ref 5, .ref 6, .int (i 19), .ref 7, .ref 8, .int (i 22), .int (i 23), .int (i 24), .int (i 25), .long (l 26)])) := rfl
theorem xs_0 {i : mm_i} {l : mm_j} {a : mm_a} {b : mm_b} {t : mm_H} {v : Int32} : (Wm i l a b ++ t).set 0 (.inr (7, List.set [.int (i 0), .int (i 1), .ref 1, .int (i 3), .int (i 4), .int (i 5), .int (i 6), .ref 2, .int (i 8), .ref 3, .int (i 10), .int (i 11), .int (i 12), .int (i 13), .long (l 14), .ref 4, .int (i 16), .ref 5, .ref 6, .int (i 19), .ref 7, .ref 8, .int (i 22), .int (i 23), .int (i 24), .int (i 25), .long (l 26)] 0 (.int v))) = Wm (upd i 0 v) l a b ++ t := rfl
theorem xs_1 {i : mm_i} {l : mm_j} {a : mm_a} {b : mm_b} {t : mm_H} {v : Int32} : (Wm i l a b ++ t).set 0 (.inr (7, List.set [.int (i 0), .int (i 1), .ref 1, .int (i 3), .int (i 4), .int (i 5), .int (i 6), .ref 2, .int (i 8), .ref 3, .int (i 10), .int (i 11), .int (i 12), .int (i 13), .long (l 14), .ref 4, .int (i 16), .ref 5, .ref 6, .int (i 19), .ref 7, .ref 8, .int (i 22), .int (i 23), .int (i 24), .int (i 25), .long (l 26)] 1 (.int v))) = Wm (upd i 1 v) l a b ++ t := rfl
theorem xs_3 {i : mm_i} {l : mm_j} {a : mm_a} {b : mm_b} {t : mm_H} {v : Int32} : (Wm i l a b ++ t).set 0 (.inr (7, List.set [.int (i 0), .int (i 1), .ref 1, .int (i 3), .int (i 4), .int (i 5), .int (i 6), .ref 2, .int (i 8), .ref 3, .int (i 10), .int (i 11), .int (i 12), .int (i 13), .long (l 14), .ref 4, .int (i 16), .ref 5, .ref 6, .int (i 19), .ref 7, .ref 8, .int (i 22), .int (i 23), .int (i 24), .int (i 25), .long (l 26)] 3 (.int v))) = Wm (upd i 3 v) l a b ++ t := rfl
theorem xs_4 {i : mm_i} {l : mm_j} {a : mm_a} {b : mm_b} {t : mm_H} {v : Int32} : (Wm i l a b ++ t).set 0 (.inr (7, List.set [.int (i 0), .int (i 1), .ref 1, .int (i 3), .int (i 4), .int (i 5), .int (i 6), .ref 2, .int (i 8), .ref 3, .int (i 10), .int (i 11), .int (i 12), .int (i 13), .long (l 14), .ref 4, .int (i 16), .ref 5, .ref 6, .int (i 19), .ref 7, .ref 8, .int (i 22), .int (i 23), .int (i 24), .int (i 25), .long (l 26)] 4 (.int v))) = Wm (upd i 4 v) l a b ++ t := rfl
theorem xs_5 {i : mm_i} {l : mm_j} {a : mm_a} {b : mm_b} {t : mm_H} {v : Int32} : (Wm i l a b ++ t).set 0 (.inr (7, List.set [.int (i 0), .int (i 1), .ref 1, .int (i 3), .int (i 4), .int (i 5), .int (i 6), .ref 2, .int (i 8), .ref 3, .int (i 10), .int (i 11), .int (i 12), .int (i 13), .long (l 14), .ref 4, .int (i 16), .ref 5, .ref 6, .int (i 19), .ref 7, .ref 8, .int (i 22), .int (i 23), .int (i 24), .int (i 25), .long (l 26)] 5 (.int v))) = Wm (upd i 5 v) l a b ++ t := rfl
theorem xs_6 {i : mm_i} {l : mm_j} {a : mm_a} {b : mm_b} {t : mm_H} {v : Int32} : (Wm i l a b ++ t).set 0 (.inr (7, List.set [.int (i 0), .int (i 1), .ref 1, .int (i 3), .int (i 4), .int (i 5), .int (i 6), .ref 2, .int (i 8), .ref 3, .int (i 10), .int (i 11), .int (i 12), .int (i 13), .long (l 14), .ref 4, .int (i 16), .ref 5, .ref 6, .int (i 19), .ref 7, .ref 8, .int (i 22), .int (i 23), .int (i 24), .int (i 25), .long (l 26)] 6 (.int v))) = Wm (upd i 6 v) l a b ++ t := rfl
theorem xs_8 {i : mm_i} {l : mm_j} {a : mm_a} {b : mm_b} {t : mm_H} {v : Int32} : (Wm i l a b ++ t).set 0 (.inr (7, List.set [.int (i 0), .int (i 1), .ref 1, .int (i 3), .int (i 4), .int (i 5), .int (i 6), .ref 2, .int (i 8), .ref 3, .int (i 10), .int (i 11), .int (i 12), .int (i 13), .long (l 14), .ref 4, .int (i 16), .ref 5, .ref 6, .int (i 19), .ref 7, .ref 8, .int (i 22), .int (i 23), .int (i 24), .int (i 25), .long (l 26)] 8 (.int v))) = Wm (upd i 8 v) l a b ++ t := rfl
theorem xs_10 {i : mm_i} {l : mm_j} {a : mm_a} {b : mm_b} {t : mm_H} {v : Int32} : (Wm i l a b ++ t).set 0 (.inr (7, List.set [.int (i 0), .int (i 1), .ref 1, .int (i 3), .int (i 4), .int (i 5), .int (i 6), .ref 2, .int (i 8), .ref 3, .int (i 10), .int (i 11), .int (i 12), .int (i 13), .long (l 14), .ref 4, .int (i 16), .ref 5, .ref 6, .int (i 19), .ref 7, .ref 8, .int (i 22), .int (i 23), .int (i 24), .int (i 25), .long (l 26)] 10 (.int v))) = Wm (upd i 10 v) l a b ++ t := rfl
theorem xs_11 {i : mm_i} {l : mm_j} {a : mm_a} {b : mm_b} {t : mm_H} {v : Int32} : (Wm i l a b ++ t).set 0 (.inr (7, List.set [.int (i 0), .int (i 1), .ref 1, .int (i 3), .int (i 4), .int (i 5), .int (i 6), .ref 2, .int (i 8), .ref 3, .int (i 10), .int (i 11), .int (i 12), .int (i 13), .long (l 14), .ref 4, .int (i 16), .ref 5, .ref 6, .int (i 19), .ref 7, .ref 8, .int (i 22), .int (i 23), .int (i 24), .int (i 25), .long (l 26)] 11 (.int v))) = Wm (upd i 11 v) l a b ++ t := rfl
theorem xs_12 {i : mm_i} {l : mm_j} {a : mm_a} {b : mm_b} {t : mm_H} {v : Int32} : (Wm i l a b ++ t).set 0 (.inr (7, List.set [.int (i 0), .int (i 1), .ref 1, .int (i 3), .int (i 4), .int (i 5), .int (i 6), .ref 2, .int (i 8), .ref 3, .int (i 10), .int (i 11), .int (i 12), .int (i 13), .long (l 14), .ref 4, .int (i 16), .ref 5, .ref 6, .int (i 19), .ref 7, .ref 8, .int (i 22), .int (i 23), .int (i 24), .int (i 25), .long (l 26)] 12 (.int v))) = Wm (upd i 12 v) l a b ++ t := rfl
theorem xs_13 {i : mm_i} {l : mm_j} {a : mm_a} {b : mm_b} {t : mm_H} {v : Int32} : (Wm i l a b ++ t).set 0 (.inr (7, List.set [.int (i 0), .int (i 1), .ref 1, .int (i 3), .int (i 4), .int (i 5), .int (i 6), .ref 2, .int (i 8), .ref 3, .int (i 10), .int (i 11), .int (i 12), .int (i 13), .long (l 14), .ref 4, .int (i 16), .ref 5, .ref 6, .int (i 19), .ref 7, .ref 8, .int (i 22), .int (i 23), .int (i 24), .int (i 25), .long (l 26)] 13 (.int v))) = Wm (upd i 13 v) l a b ++ t := rfl
theorem xs_14 {i : mm_i} {l : mm_j} {a : mm_a} {b : mm_b} {t : mm_H} {v : Int64} : (Wm i l a b ++ t).set 0 (.inr (7, List.set [.int (i 0), .int (i 1), .ref 1, .int (i 3), .int (i 4), .int (i 5), .int (i 6), .ref 2, .int (i 8), .ref 3, .int (i 10), .int (i 11), .int (i 12), .int (i 13), .long (l 14), .ref 4, .int (i 16), .ref 5, .ref 6, .int (i 19), .ref 7, .ref 8, .int (i 22), .int (i 23), .int (i 24), .int (i 25), .long (l 26)] 14 (.long v))) = Wm i (vp_updL l 14 v) a b ++ t := rfl
theorem xs_16 {i : mm_i} {l : mm_j} {a : mm_a} {b : mm_b} {t : mm_H} {v : Int32} : (Wm i l a b ++ t).set 0 (.inr (7, List.set [.int (i 0), .int (i 1), .ref 1, .int (i 3), .int (i 4), .int (i 5), .int (i 6), .ref 2, .int (i 8), .ref 3, .int (i 10), .int (i 11), .int (i 12), .int (i 13), .long (l 14), .ref 4, .int (i 16), .ref 5, .ref 6, .int (i 19), .ref 7, .ref 8, .int (i 22), .int (i 23), .int (i 24), .int (i 25), .long (l 26)] 16 (.int v))) = Wm (upd i 16 v) l a b ++ t := rfl
theorem xs_19 {i : mm_i} {l : mm_j} {a : mm_a} {b : mm_b} {t : mm_H} {v : Int32} : (Wm i l a b ++ t).set 0 (.inr (7, List.set [.int (i 0), .int (i 1), .ref 1, .int (i 3), .int (i 4), .int (i 5), .int (i 6), .ref 2, .int (i 8), .ref 3, .int (i 10), .int (i 11), .int (i 12), .int (i 13), .long (l 14), .ref 4, .int (i 16), .ref 5, .ref 6, .int (i 19), .ref 7, .ref 8, .int (i 22), .int (i 23), .int (i 24), .int (i 25), .long (l 26)] 19 (.int v))) = Wm (upd i 19 v) l a b ++ t := rfl
theorem xs_22 {i : mm_i} {l : mm_j} {a : mm_a} {b : mm_b} {t : mm_H} {v : Int32} : (Wm i l a b ++ t).set 0 (.inr (7, List.set [.int (i 0), .int (i 1), .ref 1, .int (i 3), .int (i 4), .int (i 5), .int (i 6), .ref 2, .int (i 8), .ref 3, .int (i 10), .int (i 11), .int (i 12), .int (i 13), .long (l 14), .ref 4, .int (i 16), .ref 5, .ref 6, .int (i 19), .ref 7, .ref 8, .int (i 22), .int (i 23), .int (i 24), .int (i 25), .long (l 26)] 22 (.int v))) = Wm (upd i 22 v) l a b ++ t := rfl
theorem xs_23 {i : mm_i} {l : mm_j} {a : mm_a} {b : mm_b} {t : mm_H} {v : Int32} : (Wm i l a b ++ t).set 0 (.inr (7, List.set [.int (i 0), .int (i 1), .ref 1, .int (i 3), .int (i 4), .int (i 5), .int (i 6), .ref 2, .int (i 8), .ref 3, .int (i 10), .int (i 11), .int (i 12), .int (i 13), .long (l 14), .ref 4, .int (i 16), .ref 5, .ref 6, .int (i 19), .ref 7, .ref 8, .int (i 22), .int (i 23), .int (i 24), .int (i 25), .long (l 26)] 23 (.int v))) = Wm (upd i 23 v) l a b ++ t := rfl
theorem xs_24 {i : mm_i} {l : mm_j} {a : mm_a} {b : mm_b} {t : mm_H} {v : Int32} : (Wm i l a b ++ t).set 0 (.inr (7, List.set [.int (i 0), .int (i 1), .ref 1, .int (i 3), .int (i 4), .int (i 5), .int (i 6), .ref 2, .int (i 8), .ref 3, .int (i 10), .int (i 11), .int (i 12), .int (i 13), .long (l 14), .ref 4, .int (i 16), .ref 5, .ref 6, .int (i 19), .ref 7, .ref 8, .int (i 22), .int (i 23), .int (i 24), .int (i 25), .long (l 26)] 24 (.int v))) = Wm (upd i 24 v) l a b ++ t := rfl
theorem xs_25 {i : mm_i} {l : mm_j} {a : mm_a} {b : mm_b} {t : mm_H} {v : Int32} : (Wm i l a b ++ t).set 0 (.inr (7, List.set [.int (i 0), .int (i 1), .ref 1, .int (i 3), .int (i 4), .int (i 5), .int (i 6), .ref 2, .int (i 8), .ref 3, .int (i 10), .int (i 11), .int (i 12), .int (i 13), .long (l 14), .ref 4, .int (i 16), .ref 5, .ref 6, .int (i 19), .ref 7, .ref 8, .int (i 22), .int (i 23), .int (i 24), .int (i 25), .long (l 26)] 25 (.int v))) = Wm (upd i 25 v) l a b ++ t := rfl
theorem xs_26 {i : mm_i} {l : mm_j} {a : mm_a} {b : mm_b} {t : mm_H} {v : Int64} : (Wm i l a b ++ t).set 0 (.inr (7, List.set [.int (i 0), .int (i 1), .ref 1, .int (i 3), .int (i 4), .int (i 5), .int (i 6), .ref 2, .int (i 8), .ref 3, .int (i 10), .int (i 11), .int (i 12), .int (i 13), .long (l 14), .ref 4, .int (i 16), .ref 5, .ref 6, .int (i 19), .ref 7, .ref 8, .int (i 22), .int (i 23), .int (i 24), .int (i 25), .long (l 26)] 26 (.long v))) = Wm i (vp_updL l 26 v) a b ++ t := rfl
theorem xg_1 {i : mm_i} {l : mm_j} {a : mm_a} {b : mm_b} {t : mm_H} : (Wm i l a b ++ t)[1]? = some (.inl (.int, (32, .inl (a 1)))) := rfl
theorem xa_1 {i : mm_i} {l : mm_j} {a : mm_a} {b : mm_b} {t : mm_H} {f : Nat → Int32} : (Wm i l a b ++ t).set 1 (.inl (.int, (32, .inl f))) = Wm i l (mm_ua a 1 f) b ++ t := rfl
theorem xg_2 {i : mm_i} {l : mm_j} {a : mm_a} {b : mm_b} {t : mm_H} : (Wm i l a b ++ t)[2]? = some (.inl (.int, (32, .inl (a 2)))) := rfl
theorem xa_2 {i : mm_i} {l : mm_j} {a : mm_a} {b : mm_b} {t : mm_H} {f : Nat → Int32} : (Wm i l a b ++ t).set 2 (.inl (.int, (32, .inl f))) = Wm i l (mm_ua a 2 f) b ++ t := rfl
theorem xg_3 {i : mm_i} {l : mm_j} {a : mm_a} {b : mm_b} {t : mm_H} : (Wm i l a b ++ t)[3]? = some (.inl (.int, (40, .inl (a 3)))) := rfl
theorem xa_3 {i : mm_i} {l : mm_j} {a : mm_a} {b : mm_b} {t : mm_H} {f : Nat → Int32} : (Wm i l a b ++ t).set 3 (.inl (.int, (40, .inl f))) = Wm i l (mm_ua a 3 f) b ++ t := rfl
theorem xg_4 {i : mm_i} {l : mm_j} {a : mm_a} {b : mm_b} {t : mm_H} : (Wm i l a b ++ t)[4]? = some (.inl (.int, (8, .inl (a 4)))) := rfl
theorem xa_4 {i : mm_i} {l : mm_j} {a : mm_a} {b : mm_b} {t : mm_H} {f : Nat → Int32} : (Wm i l a b ++ t).set 4 (.inl (.int, (8, .inl f))) = Wm i l (mm_ua a 4 f) b ++ t := rfl
theorem xg_5 {i : mm_i} {l : mm_j} {a : mm_a} {b : mm_b} {t : mm_H} : (Wm i l a b ++ t)[5]? = some (.inl (.long, (7000, .inr (.inl (b 5))))) := rfl
theorem xa_5 {i : mm_i} {l : mm_j} {a : mm_a} {b : mm_b} {t : mm_H} {f : Nat → Int64} : (Wm i l a b ++ t).set 5 (.inl (.long, (7000, .inr (.inl f)))) = Wm i l a (mm_ub b 5 f) ++ t := rfl
theorem xg_6 {i : mm_i} {l : mm_j} {a : mm_a} {b : mm_b} {t : mm_H} : (Wm i l a b ++ t)[6]? = some (.inl (.long, (301, .inr (.inl (b 6))))) := rfl
theorem xa_6 {i : mm_i} {l : mm_j} {a : mm_a} {b : mm_b} {t : mm_H} {f : Nat → Int64} : (Wm i l a b ++ t).set 6 (.inl (.long, (301, .inr (.inl f)))) = Wm i l a (mm_ub b 6 f) ++ t := rfl
theorem xg_7 {i : mm_i} {l : mm_j} {a : mm_a} {b : mm_b} {t : mm_H} : (Wm i l a b ++ t)[7]? = some (.inl (.long, (4000, .inr (.inl (b 7))))) := rfl
theorem xa_7 {i : mm_i} {l : mm_j} {a : mm_a} {b : mm_b} {t : mm_H} {f : Nat → Int64} : (Wm i l a b ++ t).set 7 (.inl (.long, (4000, .inr (.inl f)))) = Wm i l a (mm_ub b 7 f) ++ t := rfl
theorem xg_8 {i : mm_i} {l : mm_j} {a : mm_a} {b : mm_b} {t : mm_H} : (Wm i l a b ++ t)[8]? = some (.inl (.long, (4000, .inr (.inl (b 8))))) := rfl
theorem xa_8 {i : mm_i} {l : mm_j} {a : mm_a} {b : mm_b} {t : mm_H} {f : Nat → Int64} : (Wm i l a b ++ t).set 8 (.inl (.long, (4000, .inr (.inl f)))) = Wm i l a (mm_ub b 8 f) ++ t := rfl
