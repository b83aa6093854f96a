/-! fewer known locals -/
def mm_le : mm_L → mm_L → Prop
  | [], [] => True
  | none :: a, _ :: b => mm_le a b
  | some u :: a, v :: b => v = some u ∧ mm_le a b
  | _, _ => False
theorem mm_le_len : ∀ {a b : mm_L}, mm_le a b → a.length = b.length
  | [], [], _ => rfl
  | none :: a, _ :: b, h => congrArg (· + 1) (mm_le_len (a := a) (b := b) h)
  | some _ :: a, _ :: b, h => congrArg (· + 1) (mm_le_len (a := a) (b := b) h.2)
  | [], _ :: _, h => h.elim
  | none :: _, [], h => h.elim
  | some _ :: _, [], h => h.elim
theorem mm_le_get : ∀ {a b : mm_L}, mm_le a b → ∀ (i : Nat) (u : Value), a[i]? = some (some u) → b[i]? = some (some u)
  | [], [], _, _, _, hi => by simp at hi
  | none :: _, _ :: _, _, 0, _, hi => by cases hi
  | none :: a, _ :: b, h, i + 1, u, hi => mm_le_get (a := a) (b := b) h i u hi
  | some _ :: _, _ :: _, h, 0, u, hi => by cases hi; rw [h.1]; rfl
  | some _ :: a, _ :: b, h, i + 1, u, hi => mm_le_get (a := a) (b := b) h.2 i u hi
  | [], _ :: _, h, _, _, _ => h.elim
  | none :: _, [], h, _, _, _ => h.elim
  | some _ :: _, [], h, _, _, _ => h.elim
theorem mm_drop {M : mm_M} {d k0 kc ks pc : Nat} {post : Option Value → mm_H → Prop} {L L' : mm_L} {st : List Value} {w : mm_H} (h : mm_le L' L) (k : mm_V M d k0 post kc ks pc L' st w) : mm_V M d k0 post kc ks pc L st w := by
  intro p l e R s m args below meth c D cA A Q ρ0 mc ms hG ρ H locs ls st' cells slots ⟨h0, hw, hS, hl, hst, hb⟩
  exact k hG ⟨h0, hw, hS, ⟨hl.1, (mm_le_len h).trans hl.2.1, hl.2.2.1, fun i u hi => hl.2.2.2 i u (mm_le_get h i u hi)⟩, hst, hb⟩
/-! facts of links, fields, methods: by their places in the tables -/
abbrev mm_i : Type := Nat → Int32
abbrev mm_j : Type := Nat → Int64
abbrev mm_a : Type := Nat → Nat → Int32
abbrev mm_b : Type := Nat → Nat → Int64
def mm_ua (a : mm_a) (k : Nat) (f : Nat → Int32) : mm_a := fun j => if j = k then f else a j
def mm_ub (b : mm_b) (k : Nat) (f : Nat → Int64) : mm_b := fun j => if j = k then f else b j
theorem fl_Text_15 : mm_fl r_Text 15 0 0 := ⟨_, _, _, rfl, by decide, Or.inl tw_36⟩
theorem fl_Matcher_181 : mm_fl r_Matcher 181 0 0 := ⟨_, _, _, rfl, by decide, Or.inl tw_37⟩
theorem fl_Text_9 : mm_fl r_Text 9 0 1 := ⟨_, _, _, rfl, by decide, Or.inl tw_38⟩
theorem fl_Matcher_64 : mm_fl r_Matcher 64 0 1 := ⟨_, _, _, rfl, by decide, Or.inl tw_39⟩
theorem fl_Reader_67 : mm_fl r_Reader 67 0 1 := ⟨_, _, _, rfl, by decide, Or.inl tw_40⟩
theorem fl_Bench_76 : mm_fl r_Bench 76 0 1 := ⟨_, _, _, rfl, by decide, Or.inl tw_41⟩
theorem fl_Program_9 : mm_fl r_Program 9 1 0 := ⟨_, _, _, rfl, by decide, Or.inl tw_54⟩
theorem fl_Matcher_163 : mm_fl r_Matcher 163 1 0 := ⟨_, _, _, rfl, by decide, Or.inl tw_55⟩
theorem fl_Program_15 : mm_fl r_Program 15 1 1 := ⟨_, _, _, rfl, by decide, Or.inl tw_56⟩
theorem fl_Matcher_169 : mm_fl r_Matcher 169 1 1 := ⟨_, _, _, rfl, by decide, Or.inl tw_57⟩
theorem fl_Program_18 : mm_fl r_Program 18 1 2 := ⟨_, _, _, rfl, by decide, Or.inl tw_58⟩
theorem fl_Matcher_131 : mm_fl r_Matcher 131 1 2 := ⟨_, _, _, rfl, by decide, Or.inl tw_59⟩
theorem fl_Reader_168 : mm_fl r_Reader 168 1 2 := ⟨_, _, _, rfl, by decide, Or.inl tw_60⟩
theorem fl_Program_21 : mm_fl r_Program 21 1 3 := ⟨_, _, _, rfl, by decide, Or.inl tw_61⟩
theorem fl_Matcher_149 : mm_fl r_Matcher 149 1 3 := ⟨_, _, _, rfl, by decide, Or.inl tw_62⟩
theorem fl_Reader_165 : mm_fl r_Reader 165 1 3 := ⟨_, _, _, rfl, by decide, Or.inl tw_63⟩
theorem fl_Program_24 : mm_fl r_Program 24 1 4 := ⟨_, _, _, rfl, by decide, Or.inl tw_64⟩
theorem fl_Matcher_137 : mm_fl r_Matcher 137 1 4 := ⟨_, _, _, rfl, by decide, Or.inl tw_65⟩
theorem fl_Reader_171 : mm_fl r_Reader 171 1 4 := ⟨_, _, _, rfl, by decide, Or.inl tw_66⟩
theorem fl_Program_27 : mm_fl r_Program 27 1 5 := ⟨_, _, _, rfl, by decide, Or.inl tw_67⟩
theorem fl_Reader_131 : mm_fl r_Reader 131 1 5 := ⟨_, _, _, rfl, by decide, Or.inl tw_68⟩
theorem fl_Matcher_200 : mm_fl r_Matcher 200 1 5 := ⟨_, _, _, rfl, by decide, Or.inl tw_69⟩
theorem fl_Program_30 : mm_fl r_Program 30 1 6 := ⟨_, _, _, rfl, by decide, Or.inl tw_70⟩
theorem fl_Matcher_134 : mm_fl r_Matcher 134 1 6 := ⟨_, _, _, rfl, by decide, Or.inl tw_71⟩
theorem fl_Reader_155 : mm_fl r_Reader 155 1 6 := ⟨_, _, _, rfl, by decide, Or.inl tw_72⟩
theorem fl_Program_33 : mm_fl r_Program 33 1 7 := ⟨_, _, _, rfl, by decide, Or.inl tw_73⟩
theorem fl_Matcher_128 : mm_fl r_Matcher 128 1 7 := ⟨_, _, _, rfl, by decide, Or.inl tw_74⟩
theorem fl_Reader_152 : mm_fl r_Reader 152 1 7 := ⟨_, _, _, rfl, by decide, Or.inl tw_75⟩
theorem fl_Program_36 : mm_fl r_Program 36 1 8 := ⟨_, _, _, rfl, by decide, Or.inl tw_76⟩
theorem fl_Matcher_121 : mm_fl r_Matcher 121 1 8 := ⟨_, _, _, rfl, by decide, Or.inl tw_77⟩
theorem fl_Reader_118 : mm_fl r_Reader 118 1 8 := ⟨_, _, _, rfl, by decide, Or.inl tw_78⟩
theorem fl_Program_39 : mm_fl r_Program 39 1 9 := ⟨_, _, _, rfl, by decide, Or.inl tw_79⟩
theorem fl_Reader_64 : mm_fl r_Reader 64 1 9 := ⟨_, _, _, rfl, by decide, Or.inl tw_80⟩
theorem fl_Matcher_84 : mm_fl r_Matcher 84 1 9 := ⟨_, _, _, rfl, by decide, Or.inl tw_81⟩
theorem fl_Program_42 : mm_fl r_Program 42 1 10 := ⟨_, _, _, rfl, by decide, Or.inl tw_82⟩
theorem fl_Program_46 : mm_fl r_Program 46 1 11 := ⟨_, _, _, rfl, by decide, Or.inl tw_83⟩
theorem fl_Program_49 : mm_fl r_Program 49 1 12 := ⟨_, _, _, rfl, by decide, Or.inl tw_84⟩
theorem fl_Reader_80 : mm_fl r_Reader 80 1 12 := ⟨_, _, _, rfl, by decide, Or.inl tw_85⟩
theorem fl_Bench_89 : mm_fl r_Bench 89 1 12 := ⟨_, _, _, rfl, by decide, Or.inl tw_86⟩
theorem fl_Program_52 : mm_fl r_Program 52 1 13 := ⟨_, _, _, rfl, by decide, Or.inl tw_87⟩
theorem fl_Reader_77 : mm_fl r_Reader 77 1 13 := ⟨_, _, _, rfl, by decide, Or.inl tw_88⟩
theorem fl_Bench_83 : mm_fl r_Bench 83 1 13 := ⟨_, _, _, rfl, by decide, Or.inl tw_89⟩
theorem fl_Reader_14 : mm_fl r_Reader 14 2 0 := ⟨_, _, _, rfl, by decide, Or.inl tw_119⟩
theorem fl_Bench_59 : mm_fl r_Bench 59 2 0 := ⟨_, _, _, rfl, by decide, Or.inl tw_120⟩
theorem fl_Reader_23 : mm_fl r_Reader 23 2 1 := ⟨_, _, _, rfl, by decide, Or.inl tw_121⟩
theorem fl_Bench_79 : mm_fl r_Bench 79 2 1 := ⟨_, _, _, rfl, by decide, Or.inl tw_122⟩
theorem fl_Reader_27 : mm_fl r_Reader 27 2 2 := ⟨_, _, _, rfl, by decide, Or.inl tw_123⟩
theorem fl_Reader_31 : mm_fl r_Reader 31 2 3 := ⟨_, _, _, rfl, by decide, Or.inl tw_124⟩
theorem fl_Reader_34 : mm_fl r_Reader 34 2 4 := ⟨_, _, _, rfl, by decide, Or.inl tw_125⟩
theorem fl_Reader_37 : mm_fl r_Reader 37 2 5 := ⟨_, _, _, rfl, by decide, Or.inl tw_126⟩
theorem fl_Reader_40 : mm_fl r_Reader 40 2 6 := ⟨_, _, _, rfl, by decide, Or.inl tw_127⟩
theorem fl_Reader_44 : mm_fl r_Reader 44 2 7 := ⟨_, _, _, rfl, by decide, Or.inl tw_128⟩
theorem fl_Reader_47 : mm_fl r_Reader 47 2 8 := ⟨_, _, _, rfl, by decide, Or.inl tw_129⟩
theorem fl_Reader_50 : mm_fl r_Reader 50 2 9 := ⟨_, _, _, rfl, by decide, Or.inl tw_130⟩
theorem fl_Reader_53 : mm_fl r_Reader 53 2 10 := ⟨_, _, _, rfl, by decide, Or.inl tw_131⟩
theorem fl_Frames_13 : mm_fl r_Frames 13 3 0 := ⟨_, _, _, rfl, by decide, Or.inl tw_177⟩
theorem fl_Matcher_209 : mm_fl r_Matcher 209 3 0 := ⟨_, _, _, rfl, by decide, Or.inl tw_178⟩
theorem fl_Frames_17 : mm_fl r_Frames 17 3 1 := ⟨_, _, _, rfl, by decide, Or.inl tw_179⟩
theorem fl_Matcher_203 : mm_fl r_Matcher 203 3 1 := ⟨_, _, _, rfl, by decide, Or.inl tw_180⟩
theorem fl_Frames_20 : mm_fl r_Frames 20 3 2 := ⟨_, _, _, rfl, by decide, Or.inl tw_181⟩
theorem fl_Matcher_218 : mm_fl r_Matcher 218 3 2 := ⟨_, _, _, rfl, by decide, Or.inl tw_182⟩
theorem fl_Frames_23 : mm_fl r_Frames 23 3 3 := ⟨_, _, _, rfl, by decide, Or.inl tw_183⟩
theorem fl_Matcher_214 : mm_fl r_Matcher 214 3 3 := ⟨_, _, _, rfl, by decide, Or.inl tw_184⟩
theorem fl_Frames_26 : mm_fl r_Frames 26 3 4 := ⟨_, _, _, rfl, by decide, Or.inl tw_185⟩
theorem fl_Matcher_213 : mm_fl r_Matcher 213 3 4 := ⟨_, _, _, rfl, by decide, Or.inl tw_186⟩
theorem fl_Frames_30 : mm_fl r_Frames 30 3 5 := ⟨_, _, _, rfl, by decide, Or.inl tw_187⟩
theorem fl_Matcher_206 : mm_fl r_Matcher 206 3 5 := ⟨_, _, _, rfl, by decide, Or.inl tw_188⟩
theorem fl_Frames_33 : mm_fl r_Frames 33 3 6 := ⟨_, _, _, rfl, by decide, Or.inl tw_189⟩
theorem fl_Matcher_197 : mm_fl r_Matcher 197 3 6 := ⟨_, _, _, rfl, by decide, Or.inl tw_190⟩
theorem fl_Frames_7 : mm_fl r_Frames 7 3 7 := ⟨_, _, _, rfl, by decide, Or.inl tw_191⟩
theorem fl_Choices_13 : mm_fl r_Choices 13 4 0 := ⟨_, _, _, rfl, by decide, Or.inl tw_216⟩
theorem fl_Matcher_159 : mm_fl r_Matcher 159 4 0 := ⟨_, _, _, rfl, by decide, Or.inl tw_217⟩
theorem fl_Choices_17 : mm_fl r_Choices 17 4 1 := ⟨_, _, _, rfl, by decide, Or.inl tw_218⟩
theorem fl_Matcher_161 : mm_fl r_Matcher 161 4 1 := ⟨_, _, _, rfl, by decide, Or.inl tw_219⟩
theorem fl_Choices_20 : mm_fl r_Choices 20 4 2 := ⟨_, _, _, rfl, by decide, Or.inl tw_220⟩
theorem fl_Matcher_152 : mm_fl r_Matcher 152 4 2 := ⟨_, _, _, rfl, by decide, Or.inl tw_221⟩
theorem fl_Choices_23 : mm_fl r_Choices 23 4 3 := ⟨_, _, _, rfl, by decide, Or.inl tw_222⟩
theorem fl_Matcher_154 : mm_fl r_Matcher 154 4 3 := ⟨_, _, _, rfl, by decide, Or.inl tw_223⟩
theorem fl_Choices_27 : mm_fl r_Choices 27 4 4 := ⟨_, _, _, rfl, by decide, Or.inl tw_224⟩
theorem fl_Matcher_157 : mm_fl r_Matcher 157 4 4 := ⟨_, _, _, rfl, by decide, Or.inl tw_225⟩
theorem fl_Choices_7 : mm_fl r_Choices 7 4 5 := ⟨_, _, _, rfl, by decide, Or.inl tw_226⟩
theorem fl_Matcher_140 : mm_fl r_Matcher 140 4 5 := ⟨_, _, _, rfl, by decide, Or.inl tw_227⟩
theorem fl_Matcher_14 : mm_fl r_Matcher 14 5 0 := ⟨_, _, _, rfl, by decide, Or.inl tw_241⟩
theorem fl_Bench_95 : mm_fl r_Bench 95 5 0 := ⟨_, _, _, rfl, by decide, Or.inl tw_242⟩
theorem fl_Matcher_23 : mm_fl r_Matcher 23 5 1 := ⟨_, _, _, rfl, by decide, Or.inl tw_243⟩
theorem fl_Bench_88 : mm_fl r_Bench 88 5 1 := ⟨_, _, _, rfl, by decide, Or.inl tw_244⟩
theorem fl_Matcher_47 : mm_fl r_Matcher 47 5 2 := ⟨_, _, _, rfl, by decide, Or.inl tw_245⟩
theorem fl_Matcher_53 : mm_fl r_Matcher 53 5 3 := ⟨_, _, _, rfl, by decide, Or.inl tw_246⟩
theorem fl_Matcher_60 : mm_fl r_Matcher 60 5 4 := ⟨_, _, _, rfl, by decide, Or.inl tw_247⟩
theorem fl_Matcher_27 : mm_fl r_Matcher 27 5 5 := ⟨_, _, _, rfl, by decide, Or.inl tw_248⟩
theorem fl_Matcher_31 : mm_fl r_Matcher 31 5 6 := ⟨_, _, _, rfl, by decide, Or.inl tw_249⟩
theorem fl_Matcher_34 : mm_fl r_Matcher 34 5 7 := ⟨_, _, _, rfl, by decide, Or.inl tw_250⟩
theorem fl_Matcher_37 : mm_fl r_Matcher 37 5 8 := ⟨_, _, _, rfl, by decide, Or.inl tw_251⟩
theorem fl_Bench_117 : mm_fl r_Bench 117 5 8 := ⟨_, _, _, rfl, by decide, Or.inl tw_252⟩
theorem fl_Matcher_40 : mm_fl r_Matcher 40 5 9 := ⟨_, _, _, rfl, by decide, Or.inl tw_253⟩
theorem fl_Bench_120 : mm_fl r_Bench 120 5 9 := ⟨_, _, _, rfl, by decide, Or.inl tw_254⟩
theorem fl_Matcher_44 : mm_fl r_Matcher 44 5 10 := ⟨_, _, _, rfl, by decide, Or.inl tw_255⟩
theorem fl_Bench_123 : mm_fl r_Bench 123 5 10 := ⟨_, _, _, rfl, by decide, Or.inl tw_256⟩
theorem fl_Bench_10 : mm_fl r_Bench 10 6 0 := ⟨_, _, _, rfl, by decide, Or.inl tw_280⟩
theorem fl_Bench_51 : mm_fl r_Bench 51 6 1 := ⟨_, _, _, rfl, by decide, Or.inl tw_281⟩
theorem fl_Bench_16 : mm_fl r_Bench 16 6 2 := ⟨_, _, _, rfl, by decide, Or.inl tw_282⟩
theorem fl_Bench_20 : mm_fl r_Bench 20 6 3 := ⟨_, _, _, rfl, by decide, Or.inl tw_283⟩
theorem fl_Bench_23 : mm_fl r_Bench 23 6 4 := ⟨_, _, _, rfl, by decide, Or.inl tw_284⟩
theorem fl_Bench_27 : mm_fl r_Bench 27 6 5 := ⟨_, _, _, rfl, by decide, Or.inl tw_285⟩
theorem fl_Bench_30 : mm_fl r_Bench 30 6 6 := ⟨_, _, _, rfl, by decide, Or.inl tw_286⟩
theorem fl_Bench_34 : mm_fl r_Bench 34 6 7 := ⟨_, _, _, rfl, by decide, Or.inl tw_287⟩
theorem ft_0_0 : mm_ft 0 0 (.array .int) := ⟨_, _, _, rfl, by decide +kernel⟩
theorem ft_0_1 : mm_ft 0 1 .int := ⟨_, _, _, rfl, by decide +kernel⟩
theorem ft_1_0 : mm_ft 1 0 (.array .int) := ⟨_, _, _, rfl, by decide +kernel⟩
theorem ft_1_1 : mm_ft 1 1 (.array .int) := ⟨_, _, _, rfl, by decide +kernel⟩
theorem ft_1_2 : mm_ft 1 2 (.array .int) := ⟨_, _, _, rfl, by decide +kernel⟩
theorem ft_1_3 : mm_ft 1 3 (.array .int) := ⟨_, _, _, rfl, by decide +kernel⟩
theorem ft_1_4 : mm_ft 1 4 (.array .int) := ⟨_, _, _, rfl, by decide +kernel⟩
theorem ft_1_5 : mm_ft 1 5 (.array .int) := ⟨_, _, _, rfl, by decide +kernel⟩
theorem ft_1_6 : mm_ft 1 6 (.array .int) := ⟨_, _, _, rfl, by decide +kernel⟩
theorem ft_1_7 : mm_ft 1 7 (.array .int) := ⟨_, _, _, rfl, by decide +kernel⟩
theorem ft_1_8 : mm_ft 1 8 (.array .int) := ⟨_, _, _, rfl, by decide +kernel⟩
theorem ft_1_9 : mm_ft 1 9 (.array .int) := ⟨_, _, _, rfl, by decide +kernel⟩
theorem ft_1_10 : mm_ft 1 10 .int := ⟨_, _, _, rfl, by decide +kernel⟩
theorem ft_1_11 : mm_ft 1 11 .int := ⟨_, _, _, rfl, by decide +kernel⟩
theorem ft_1_12 : mm_ft 1 12 .int := ⟨_, _, _, rfl, by decide +kernel⟩
theorem ft_1_13 : mm_ft 1 13 .int := ⟨_, _, _, rfl, by decide +kernel⟩
theorem ft_2_0 : mm_ft 2 0 (.object "PatternBench$Text") := ⟨_, _, _, rfl, by decide +kernel⟩
theorem ft_2_1 : mm_ft 2 1 (.object "PatternBench$Program") := ⟨_, _, _, rfl, by decide +kernel⟩
theorem ft_2_2 : mm_ft 2 2 (.array .int) := ⟨_, _, _, rfl, by decide +kernel⟩
theorem ft_2_3 : mm_ft 2 3 (.array .int) := ⟨_, _, _, rfl, by decide +kernel⟩
theorem ft_2_4 : mm_ft 2 4 (.array .int) := ⟨_, _, _, rfl, by decide +kernel⟩
theorem ft_2_5 : mm_ft 2 5 (.array .int) := ⟨_, _, _, rfl, by decide +kernel⟩
theorem ft_2_6 : mm_ft 2 6 .int := ⟨_, _, _, rfl, by decide +kernel⟩
theorem ft_2_7 : mm_ft 2 7 .int := ⟨_, _, _, rfl, by decide +kernel⟩
theorem ft_2_8 : mm_ft 2 8 .int := ⟨_, _, _, rfl, by decide +kernel⟩
theorem ft_2_9 : mm_ft 2 9 .int := ⟨_, _, _, rfl, by decide +kernel⟩
theorem ft_2_10 : mm_ft 2 10 .boolean := ⟨_, _, _, rfl, by decide +kernel⟩
theorem ft_3_0 : mm_ft 3 0 (.array .int) := ⟨_, _, _, rfl, by decide +kernel⟩
theorem ft_3_1 : mm_ft 3 1 (.array .int) := ⟨_, _, _, rfl, by decide +kernel⟩
theorem ft_3_2 : mm_ft 3 2 (.array .int) := ⟨_, _, _, rfl, by decide +kernel⟩
theorem ft_3_3 : mm_ft 3 3 (.array .int) := ⟨_, _, _, rfl, by decide +kernel⟩
theorem ft_3_4 : mm_ft 3 4 (.array .long) := ⟨_, _, _, rfl, by decide +kernel⟩
theorem ft_3_5 : mm_ft 3 5 (.array .int) := ⟨_, _, _, rfl, by decide +kernel⟩
theorem ft_3_6 : mm_ft 3 6 (.array .int) := ⟨_, _, _, rfl, by decide +kernel⟩
theorem ft_3_7 : mm_ft 3 7 .int := ⟨_, _, _, rfl, by decide +kernel⟩
theorem ft_4_0 : mm_ft 4 0 (.array .int) := ⟨_, _, _, rfl, by decide +kernel⟩
theorem ft_4_1 : mm_ft 4 1 (.array .int) := ⟨_, _, _, rfl, by decide +kernel⟩
theorem ft_4_2 : mm_ft 4 2 (.array .int) := ⟨_, _, _, rfl, by decide +kernel⟩
theorem ft_4_3 : mm_ft 4 3 (.array .long) := ⟨_, _, _, rfl, by decide +kernel⟩
theorem ft_4_4 : mm_ft 4 4 (.array .int) := ⟨_, _, _, rfl, by decide +kernel⟩
theorem ft_4_5 : mm_ft 4 5 .int := ⟨_, _, _, rfl, by decide +kernel⟩
theorem ft_5_0 : mm_ft 5 0 (.object "PatternBench$Text") := ⟨_, _, _, rfl, by decide +kernel⟩
theorem ft_5_1 : mm_ft 5 1 (.object "PatternBench$Program") := ⟨_, _, _, rfl, by decide +kernel⟩
theorem ft_5_2 : mm_ft 5 2 .int := ⟨_, _, _, rfl, by decide +kernel⟩
theorem ft_5_3 : mm_ft 5 3 (.object "PatternBench$Frames") := ⟨_, _, _, rfl, by decide +kernel⟩
theorem ft_5_4 : mm_ft 5 4 (.object "PatternBench$Choices") := ⟨_, _, _, rfl, by decide +kernel⟩
theorem ft_5_5 : mm_ft 5 5 .int := ⟨_, _, _, rfl, by decide +kernel⟩
theorem ft_5_6 : mm_ft 5 6 .int := ⟨_, _, _, rfl, by decide +kernel⟩
theorem ft_5_7 : mm_ft 5 7 .int := ⟨_, _, _, rfl, by decide +kernel⟩
theorem ft_5_8 : mm_ft 5 8 .int := ⟨_, _, _, rfl, by decide +kernel⟩
theorem ft_5_9 : mm_ft 5 9 .long := ⟨_, _, _, rfl, by decide +kernel⟩
theorem ft_5_10 : mm_ft 5 10 .int := ⟨_, _, _, rfl, by decide +kernel⟩
theorem ft_6_0 : mm_ft 6 0 (.object "PatternBench$Reader") := ⟨_, _, _, rfl, by decide +kernel⟩
theorem ft_6_1 : mm_ft 6 1 (.object "PatternBench$Matcher") := ⟨_, _, _, rfl, by decide +kernel⟩
theorem ft_6_2 : mm_ft 6 2 .boolean := ⟨_, _, _, rfl, by decide +kernel⟩
theorem ft_6_3 : mm_ft 6 3 .boolean := ⟨_, _, _, rfl, by decide +kernel⟩
theorem ft_6_4 : mm_ft 6 4 .int := ⟨_, _, _, rfl, by decide +kernel⟩
theorem ft_6_5 : mm_ft 6 5 .int := ⟨_, _, _, rfl, by decide +kernel⟩
theorem ft_6_6 : mm_ft 6 6 .long := ⟨_, _, _, rfl, by decide +kernel⟩
theorem ft_6_7 : mm_ft 6 7 .int := ⟨_, _, _, rfl, by decide +kernel⟩
def M_Bench_init : mm_M := (r_Bench, c_Bench_init, 2, true, none)
theorem ok_Bench_init : mm_okM y_Bench_init M_Bench_init 1 := ⟨tw_20, tw_1, by decide +kernel, by decide +kernel, by decide +kernel⟩
def M_Reader_init : mm_M := (r_Reader, c_Reader_init, 1, true, none)
theorem ok_Reader_init : mm_okM y_Reader_init M_Reader_init 0 := ⟨tw_28, tw_2, by decide +kernel, by decide +kernel, by decide +kernel⟩
def M_Text_init : mm_M := (r_Text, c_Text_init, 2, true, none)
theorem ok_Text_init : mm_okM y_Text_init M_Text_init 1 := ⟨tw_34, tw_3, by decide +kernel, by decide +kernel, by decide +kernel⟩
def M_Program_init : mm_M := (r_Program, c_Program_init, 1, true, none)
theorem ok_Program_init : mm_okM y_Program_init M_Program_init 0 := ⟨tw_52, tw_4, by decide +kernel, by decide +kernel, by decide +kernel⟩
def M_Matcher_init : mm_M := (r_Matcher, c_Matcher_init, 2, true, none)
theorem ok_Matcher_init : mm_okM y_Matcher_init M_Matcher_init 1 := ⟨tw_165, tw_5, by decide +kernel, by decide +kernel, by decide +kernel⟩
def M_Frames_init : mm_M := (r_Frames, c_Frames_init, 2, true, none)
theorem ok_Frames_init : mm_okM y_Frames_init M_Frames_init 1 := ⟨tw_175, tw_7, by decide +kernel, by decide +kernel, by decide +kernel⟩
def M_Choices_init : mm_M := (r_Choices, c_Choices_init, 2, true, none)
theorem ok_Choices_init : mm_okM y_Choices_init M_Choices_init 1 := ⟨tw_214, tw_8, by decide +kernel, by decide +kernel, by decide +kernel⟩
def M_Bench_write : mm_M := (r_Bench, c_Bench_write, 2, false, some .int)
theorem ok_Bench_write : mm_okM y_Bench_write M_Bench_write 1 := ⟨tw_308, tw_1, by decide +kernel, by decide +kernel, by decide +kernel⟩
def M_Bench_mayStandInPattern : mm_M := (r_Bench, c_Bench_mayStandInPattern, 1, false, some .boolean)
theorem ok_Bench_mayStandInPattern : mm_okM y_Bench_mayStandInPattern M_Bench_mayStandInPattern 1 := ⟨tw_311, tw_1, by decide +kernel, by decide +kernel, by decide +kernel⟩
def M_Bench_isLetter : mm_M := (r_Bench, c_Bench_isLetter, 1, false, some .boolean)
theorem ok_Bench_isLetter : mm_okM y_Bench_isLetter M_Bench_isLetter 1 := ⟨tw_314, tw_1, by decide +kernel, by decide +kernel, by decide +kernel⟩
def M_Bench_isDigit : mm_M := (r_Bench, c_Bench_isDigit, 1, false, some .boolean)
theorem ok_Bench_isDigit : mm_okM y_Bench_isDigit M_Bench_isDigit 1 := ⟨tw_317, tw_1, by decide +kernel, by decide +kernel, by decide +kernel⟩
def M_Text_isFull : mm_M := (r_Text, c_Text_isFull, 1, false, some .boolean)
theorem ok_Text_isFull : mm_okM y_Text_isFull M_Text_isFull 0 := ⟨tw_404, tw_3, by decide +kernel, by decide +kernel, by decide +kernel⟩
def M_Text_add : mm_M := (r_Text, c_Text_add, 2, false, some .int)
theorem ok_Text_add : mm_okM y_Text_add M_Text_add 1 := ⟨tw_408, tw_3, by decide +kernel, by decide +kernel, by decide +kernel⟩
def M_Bench_compile : mm_M := (r_Bench, c_Bench_compile, 3, false, some .int)
theorem ok_Bench_compile : mm_okM y_Bench_compile M_Bench_compile 0 := ⟨tw_414, tw_1, by decide +kernel, by decide +kernel, by decide +kernel⟩
def M_Reader_read : mm_M := (r_Reader, c_Reader_read, 3, false, some .boolean)
theorem ok_Reader_read : mm_okM y_Reader_read M_Reader_read 0 := ⟨tw_418, tw_2, by decide +kernel, by decide +kernel, by decide +kernel⟩
def M_Program_empty : mm_M := (r_Program, c_Program_empty, 1, false, none)
theorem ok_Program_empty : mm_okM y_Program_empty M_Program_empty 0 := ⟨tw_422, tw_4, by decide +kernel, by decide +kernel, by decide +kernel⟩
def M_Reader_openLevel : mm_M := (r_Reader, c_Reader_openLevel, 3, false, none)
theorem ok_Reader_openLevel : mm_okM y_Reader_openLevel M_Reader_openLevel 2 := ⟨tw_426, tw_2, by decide +kernel, by decide +kernel, by decide +kernel⟩
def M_Program_addRow : mm_M := (r_Program, c_Program_addRow, 2, false, some .int)
theorem ok_Program_addRow : mm_okM y_Program_addRow M_Program_addRow 0 := ⟨tw_430, tw_4, by decide +kernel, by decide +kernel, by decide +kernel⟩
def M_Reader_readPart : mm_M := (r_Reader, c_Reader_readPart, 1, false, some .int)
theorem ok_Reader_readPart : mm_okM y_Reader_readPart M_Reader_readPart 0 := ⟨tw_434, tw_2, by decide +kernel, by decide +kernel, by decide +kernel⟩
def M_Reader_ahead : mm_M := (r_Reader, c_Reader_ahead, 2, false, some .int)
theorem ok_Reader_ahead : mm_okM y_Reader_ahead M_Reader_ahead 1 := ⟨tw_438, tw_2, by decide +kernel, by decide +kernel, by decide +kernel⟩
def M_Text_codeAt : mm_M := (r_Text, c_Text_codeAt, 2, false, some .int)
theorem ok_Text_codeAt : mm_okM y_Text_codeAt M_Text_codeAt 1 := ⟨tw_442, tw_3, by decide +kernel, by decide +kernel, by decide +kernel⟩
def M_Reader_openNextRow : mm_M := (r_Reader, c_Reader_openNextRow, 2, false, some .int)
theorem ok_Reader_openNextRow : mm_okM y_Reader_openNextRow M_Reader_openNextRow 0 := ⟨tw_446, tw_2, by decide +kernel, by decide +kernel, by decide +kernel⟩
def M_Reader_closeChoice : mm_M := (r_Reader, c_Reader_closeChoice, 2, false, some .int)
theorem ok_Reader_closeChoice : mm_okM y_Reader_closeChoice M_Reader_closeChoice 0 := ⟨tw_450, tw_2, by decide +kernel, by decide +kernel, by decide +kernel⟩
def M_Reader_refuse : mm_M := (r_Reader, c_Reader_refuse, 1, false, some .int)
theorem ok_Reader_refuse : mm_okM y_Reader_refuse M_Reader_refuse 0 := ⟨tw_454, tw_2, by decide +kernel, by decide +kernel, by decide +kernel⟩
def M_Reader_readCall : mm_M := (r_Reader, c_Reader_readCall, 2, false, some .int)
theorem ok_Reader_readCall : mm_okM y_Reader_readCall M_Reader_readCall 0 := ⟨tw_459, tw_2, by decide +kernel, by decide +kernel, by decide +kernel⟩
def M_Reader_appendItem : mm_M := (r_Reader, c_Reader_appendItem, 4, false, some .int)
theorem ok_Reader_appendItem : mm_okM y_Reader_appendItem M_Reader_appendItem 2 := ⟨tw_464, tw_2, by decide +kernel, by decide +kernel, by decide +kernel⟩
def M_Program_addItem : mm_M := (r_Program, c_Program_addItem, 4, false, some .int)
theorem ok_Program_addItem : mm_okM y_Program_addItem M_Program_addItem 2 := ⟨tw_468, tw_4, by decide +kernel, by decide +kernel, by decide +kernel⟩
def M_Reader_openChoice : mm_M := (r_Reader, c_Reader_openChoice, 4, false, some .int)
theorem ok_Reader_openChoice : mm_okM y_Reader_openChoice M_Reader_openChoice 0 := ⟨tw_472, tw_2, by decide +kernel, by decide +kernel, by decide +kernel⟩
def M_Reader_kindOfChoice : mm_M := (r_Reader, c_Reader_kindOfChoice, 1, false, some .int)
theorem ok_Reader_kindOfChoice : mm_okM y_Reader_kindOfChoice M_Reader_kindOfChoice 0 := ⟨tw_476, tw_2, by decide +kernel, by decide +kernel, by decide +kernel⟩
def M_Reader_readClass : mm_M := (r_Reader, c_Reader_readClass, 4, false, some .int)
theorem ok_Reader_readClass : mm_okM y_Reader_readClass M_Reader_readClass 0 := ⟨tw_480, tw_2, by decide +kernel, by decide +kernel, by decide +kernel⟩
def M_Reader_readClassPart : mm_M := (r_Reader, c_Reader_readClassPart, 3, false, some .int)
theorem ok_Reader_readClassPart : mm_okM y_Reader_readClassPart M_Reader_readClassPart 0 := ⟨tw_485, tw_2, by decide +kernel, by decide +kernel, by decide +kernel⟩
def M_Reader_lettersBetween : mm_M := (r_Reader, c_Reader_lettersBetween, 2, false, some .int)
theorem ok_Reader_lettersBetween : mm_okM y_Reader_lettersBetween M_Reader_lettersBetween 2 := ⟨tw_488, tw_2, by decide +kernel, by decide +kernel, by decide +kernel⟩
def M_Reader_readReference : mm_M := (r_Reader, c_Reader_readReference, 2, false, some .int)
theorem ok_Reader_readReference : mm_okM y_Reader_readReference M_Reader_readReference 0 := ⟨tw_493, tw_2, by decide +kernel, by decide +kernel, by decide +kernel⟩
def M_Reader_readSign : mm_M := (r_Reader, c_Reader_readSign, 2, false, some .int)
theorem ok_Reader_readSign : mm_okM y_Reader_readSign M_Reader_readSign 0 := ⟨tw_497, tw_2, by decide +kernel, by decide +kernel, by decide +kernel⟩
def M_Reader_readRepeat : mm_M := (r_Reader, c_Reader_readRepeat, 2, false, none)
theorem ok_Reader_readRepeat : mm_okM y_Reader_readRepeat M_Reader_readRepeat 1 := ⟨tw_501, tw_2, by decide +kernel, by decide +kernel, by decide +kernel⟩
def M_Reader_setRepeat : mm_M := (r_Reader, c_Reader_setRepeat, 5, false, none)
theorem ok_Reader_setRepeat : mm_okM y_Reader_setRepeat M_Reader_setRepeat 4 := ⟨tw_505, tw_2, by decide +kernel, by decide +kernel, by decide +kernel⟩
def M_Reader_readTimes : mm_M := (r_Reader, c_Reader_readTimes, 3, false, none)
theorem ok_Reader_readTimes : mm_okM y_Reader_readTimes M_Reader_readTimes 1 := ⟨tw_509, tw_2, by decide +kernel, by decide +kernel, by decide +kernel⟩
def M_Bench_feed : mm_M := (r_Bench, c_Bench_feed, 2, false, some .int)
theorem ok_Bench_feed : mm_okM y_Bench_feed M_Bench_feed 1 := ⟨tw_513, tw_1, by decide +kernel, by decide +kernel, by decide +kernel⟩
def M_Bench_clear : mm_M := (r_Bench, c_Bench_clear, 2, false, some .int)
theorem ok_Bench_clear : mm_okM y_Bench_clear M_Bench_clear 0 := ⟨tw_517, tw_1, by decide +kernel, by decide +kernel, by decide +kernel⟩
def M_Bench_search : mm_M := (r_Bench, c_Bench_search, 2, false, some .int)
theorem ok_Bench_search : mm_okM y_Bench_search M_Bench_search 1 := ⟨tw_521, tw_1, by decide +kernel, by decide +kernel, by decide +kernel⟩
def M_Bench_searchFrom : mm_M := (r_Bench, c_Bench_searchFrom, 3, false, some .int)
theorem ok_Bench_searchFrom : mm_okM y_Bench_searchFrom M_Bench_searchFrom 1 := ⟨tw_525, tw_1, by decide +kernel, by decide +kernel, by decide +kernel⟩
def M_Matcher_find : mm_M := (r_Matcher, c_Matcher_find, 4, false, some .int)
theorem ok_Matcher_find : mm_okM y_Matcher_find M_Matcher_find 1 := ⟨tw_529, tw_5, by decide +kernel, by decide +kernel, by decide +kernel⟩
def M_Matcher_beginAt : mm_M := (r_Matcher, c_Matcher_beginAt, 2, false, none)
theorem ok_Matcher_beginAt : mm_okM y_Matcher_beginAt M_Matcher_beginAt 1 := ⟨tw_533, tw_5, by decide +kernel, by decide +kernel, by decide +kernel⟩
def M_Frames_empty : mm_M := (r_Frames, c_Frames_empty, 1, false, none)
theorem ok_Frames_empty : mm_okM y_Frames_empty M_Frames_empty 0 := ⟨tw_537, tw_7, by decide +kernel, by decide +kernel, by decide +kernel⟩
def M_Choices_cutTo : mm_M := (r_Choices, c_Choices_cutTo, 2, false, none)
theorem ok_Choices_cutTo : mm_okM y_Choices_cutTo M_Choices_cutTo 1 := ⟨tw_541, tw_8, by decide +kernel, by decide +kernel, by decide +kernel⟩
def M_Matcher_go : mm_M := (r_Matcher, c_Matcher_go, 3, false, none)
theorem ok_Matcher_go : mm_okM y_Matcher_go M_Matcher_go 2 := ⟨tw_545, tw_5, by decide +kernel, by decide +kernel, by decide +kernel⟩
def M_Matcher_goesOn : mm_M := (r_Matcher, c_Matcher_goesOn, 1, false, some .boolean)
theorem ok_Matcher_goesOn : mm_okM y_Matcher_goesOn M_Matcher_goesOn 0 := ⟨tw_550, tw_5, by decide +kernel, by decide +kernel, by decide +kernel⟩
def M_Frames_hasRoom : mm_M := (r_Frames, c_Frames_hasRoom, 2, false, some .boolean)
theorem ok_Frames_hasRoom : mm_okM y_Frames_hasRoom M_Frames_hasRoom 1 := ⟨tw_554, tw_7, by decide +kernel, by decide +kernel, by decide +kernel⟩
def M_Choices_hasRoom : mm_M := (r_Choices, c_Choices_hasRoom, 2, false, some .boolean)
theorem ok_Choices_hasRoom : mm_okM y_Choices_hasRoom M_Choices_hasRoom 1 := ⟨tw_558, tw_8, by decide +kernel, by decide +kernel, by decide +kernel⟩
def M_Matcher_takeTurn : mm_M := (r_Matcher, c_Matcher_takeTurn, 1, false, none)
theorem ok_Matcher_takeTurn : mm_okM y_Matcher_takeTurn M_Matcher_takeTurn 0 := ⟨tw_562, tw_5, by decide +kernel, by decide +kernel, by decide +kernel⟩
def M_Matcher_enterRow : mm_M := (r_Matcher, c_Matcher_enterRow, 3, false, none)
theorem ok_Matcher_enterRow : mm_okM y_Matcher_enterRow M_Matcher_enterRow 1 := ⟨tw_566, tw_5, by decide +kernel, by decide +kernel, by decide +kernel⟩
def M_Choices_add : mm_M := (r_Choices, c_Choices_add, 7, false, none)
theorem ok_Choices_add : mm_okM y_Choices_add M_Choices_add 5 := ⟨tw_570, tw_8, by decide +kernel, by decide +kernel, by decide +kernel⟩
def M_Matcher_enterItem : mm_M := (r_Matcher, c_Matcher_enterItem, 3, false, none)
theorem ok_Matcher_enterItem : mm_okM y_Matcher_enterItem M_Matcher_enterItem 1 := ⟨tw_574, tw_5, by decide +kernel, by decide +kernel, by decide +kernel⟩
def M_Frames_add : mm_M := (r_Frames, c_Frames_add, 9, false, some .int)
theorem ok_Frames_add : mm_okM y_Frames_add M_Frames_add 6 := ⟨tw_578, tw_7, by decide +kernel, by decide +kernel, by decide +kernel⟩
def M_Matcher_fork : mm_M := (r_Matcher, c_Matcher_fork, 3, false, none)
theorem ok_Matcher_fork : mm_okM y_Matcher_fork M_Matcher_fork 1 := ⟨tw_582, tw_5, by decide +kernel, by decide +kernel, by decide +kernel⟩
def M_Matcher_tryAtom : mm_M := (r_Matcher, c_Matcher_tryAtom, 2, false, none)
theorem ok_Matcher_tryAtom : mm_okM y_Matcher_tryAtom M_Matcher_tryAtom 1 := ⟨tw_586, tw_5, by decide +kernel, by decide +kernel, by decide +kernel⟩
def M_Matcher_ask : mm_M := (r_Matcher, c_Matcher_ask, 2, false, none)
theorem ok_Matcher_ask : mm_okM y_Matcher_ask M_Matcher_ask 1 := ⟨tw_590, tw_5, by decide +kernel, by decide +kernel, by decide +kernel⟩
def M_Matcher_askLetter : mm_M := (r_Matcher, c_Matcher_askLetter, 2, false, none)
theorem ok_Matcher_askLetter : mm_okM y_Matcher_askLetter M_Matcher_askLetter 1 := ⟨tw_594, tw_5, by decide +kernel, by decide +kernel, by decide +kernel⟩
def M_Matcher_askSame : mm_M := (r_Matcher, c_Matcher_askSame, 4, false, none)
theorem ok_Matcher_askSame : mm_okM y_Matcher_askSame M_Matcher_askSame 1 := ⟨tw_598, tw_5, by decide +kernel, by decide +kernel, by decide +kernel⟩
def M_Captures_from : mm_M := (r_Captures, c_Captures_from, 4, false, some .int)
theorem ok_Captures_from : mm_okM y_Captures_from M_Captures_from 2 := ⟨tw_601, tw_15, by decide +kernel, by decide +kernel, by decide +kernel⟩
def M_Captures_to : mm_M := (r_Captures, c_Captures_to, 4, false, some .int)
theorem ok_Captures_to : mm_okM y_Captures_to M_Captures_to 2 := ⟨tw_604, tw_15, by decide +kernel, by decide +kernel, by decide +kernel⟩
def M_Matcher_standsHere : mm_M := (r_Matcher, c_Matcher_standsHere, 4, false, some .boolean)
theorem ok_Matcher_standsHere : mm_okM y_Matcher_standsHere M_Matcher_standsHere 2 := ⟨tw_608, tw_5, by decide +kernel, by decide +kernel, by decide +kernel⟩
def M_Matcher_askCall : mm_M := (r_Matcher, c_Matcher_askCall, 2, false, none)
theorem ok_Matcher_askCall : mm_okM y_Matcher_askCall M_Matcher_askCall 1 := ⟨tw_612, tw_5, by decide +kernel, by decide +kernel, by decide +kernel⟩
def M_Matcher_askBody : mm_M := (r_Matcher, c_Matcher_askBody, 3, false, none)
theorem ok_Matcher_askBody : mm_okM y_Matcher_askBody M_Matcher_askBody 1 := ⟨tw_616, tw_5, by decide +kernel, by decide +kernel, by decide +kernel⟩
def M_Matcher_goAfterAtom : mm_M := (r_Matcher, c_Matcher_goAfterAtom, 3, false, none)
theorem ok_Matcher_goAfterAtom : mm_okM y_Matcher_goAfterAtom M_Matcher_goAfterAtom 1 := ⟨tw_620, tw_5, by decide +kernel, by decide +kernel, by decide +kernel⟩
def M_Matcher_goAfterItem : mm_M := (r_Matcher, c_Matcher_goAfterItem, 2, false, none)
theorem ok_Matcher_goAfterItem : mm_okM y_Matcher_goAfterItem M_Matcher_goAfterItem 1 := ⟨tw_624, tw_5, by decide +kernel, by decide +kernel, by decide +kernel⟩
def M_Matcher_resume : mm_M := (r_Matcher, c_Matcher_resume, 3, false, none)
theorem ok_Matcher_resume : mm_okM y_Matcher_resume M_Matcher_resume 1 := ⟨tw_628, tw_5, by decide +kernel, by decide +kernel, by decide +kernel⟩
def M_Matcher_leaveBody : mm_M := (r_Matcher, c_Matcher_leaveBody, 4, false, none)
theorem ok_Matcher_leaveBody : mm_okM y_Matcher_leaveBody M_Matcher_leaveBody 2 := ⟨tw_632, tw_5, by decide +kernel, by decide +kernel, by decide +kernel⟩
def M_Captures_with : mm_M := (r_Captures, c_Captures_with, 8, false, some .long)
theorem ok_Captures_with : mm_okM y_Captures_with M_Captures_with 4 := ⟨tw_635, tw_15, by decide +kernel, by decide +kernel, by decide +kernel⟩
def M_Matcher_leaveTimesTurn : mm_M := (r_Matcher, c_Matcher_leaveTimesTurn, 4, false, none)
theorem ok_Matcher_leaveTimesTurn : mm_okM y_Matcher_leaveTimesTurn M_Matcher_leaveTimesTurn 2 := ⟨tw_641, tw_5, by decide +kernel, by decide +kernel, by decide +kernel⟩
def M_Matcher_takeChoice : mm_M := (r_Matcher, c_Matcher_takeChoice, 2, false, none)
theorem ok_Matcher_takeChoice : mm_okM y_Matcher_takeChoice M_Matcher_takeChoice 0 := ⟨tw_645, tw_5, by decide +kernel, by decide +kernel, by decide +kernel⟩
def M_Bench_again : mm_M := (r_Bench, c_Bench_again, 2, false, some .int)
theorem ok_Bench_again : mm_okM y_Bench_again M_Bench_again 0 := ⟨tw_649, tw_1, by decide +kernel, by decide +kernel, by decide +kernel⟩
def M_Bench_placeBehindMatch : mm_M := (r_Bench, c_Bench_placeBehindMatch, 1, false, some .int)
theorem ok_Bench_placeBehindMatch : mm_okM y_Bench_placeBehindMatch M_Bench_placeBehindMatch 0 := ⟨tw_653, tw_1, by decide +kernel, by decide +kernel, by decide +kernel⟩
def M_Bench_start : mm_M := (r_Bench, c_Bench_start, 2, false, some .int)
theorem ok_Bench_start : mm_okM y_Bench_start M_Bench_start 1 := ⟨tw_657, tw_1, by decide +kernel, by decide +kernel, by decide +kernel⟩
def M_Bench_end : mm_M := (r_Bench, c_Bench_end, 2, false, some .int)
theorem ok_Bench_end : mm_okM y_Bench_end M_Bench_end 1 := ⟨tw_662, tw_1, by decide +kernel, by decide +kernel, by decide +kernel⟩
def M_Bench_steps : mm_M := (r_Bench, c_Bench_steps, 1, false, some .int)
theorem ok_Bench_steps : mm_okM y_Bench_steps M_Bench_steps 0 := ⟨tw_667, tw_1, by decide +kernel, by decide +kernel, by decide +kernel⟩
def M_Bench_matches : mm_M := (r_Bench, c_Bench_matches, 5, false, some .int)
theorem ok_Bench_matches : mm_okM y_Bench_matches M_Bench_matches 0 := ⟨tw_671, tw_1, by decide +kernel, by decide +kernel, by decide +kernel⟩
def M_Bench_count : mm_M := (r_Bench, c_Bench_count, 2, false, some .int)
theorem ok_Bench_count : mm_okM y_Bench_count M_Bench_count 1 := ⟨tw_675, tw_1, by decide +kernel, by decide +kernel, by decide +kernel⟩
def M_Model_init : mm_M := (r_Model, c_Model_init, 2, true, none)
theorem ok_Model_init : mm_okM y_Model_init M_Model_init 1 := ⟨tw_683, tw_9, by decide +kernel, by decide +kernel, by decide +kernel⟩
def M_Model_write : mm_M := (r_Model, c_Model_write, 2, false, some .int)
theorem ok_Model_write : mm_okM y_Model_write M_Model_write 1 := ⟨tw_770, tw_9, by decide +kernel, by decide +kernel, by decide +kernel⟩
def M_Model_letter : mm_M := (r_Model, c_Model_letter, 1, false, some .boolean)
theorem ok_Model_letter : mm_okM y_Model_letter M_Model_letter 1 := ⟨tw_773, tw_9, by decide +kernel, by decide +kernel, by decide +kernel⟩
def M_Model_in : mm_M := (r_Model, c_Model_in, 3, false, some .boolean)
theorem ok_Model_in : mm_okM y_Model_in M_Model_in 3 := ⟨tw_776, tw_9, by decide +kernel, by decide +kernel, by decide +kernel⟩
def M_Model_sign : mm_M := (r_Model, c_Model_sign, 1, false, some .boolean)
theorem ok_Model_sign : mm_okM y_Model_sign M_Model_sign 1 := ⟨tw_779, tw_9, by decide +kernel, by decide +kernel, by decide +kernel⟩
def M_Model_compile : mm_M := (r_Model, c_Model_compile, 6, false, some .int)
theorem ok_Model_compile : mm_okM y_Model_compile M_Model_compile 0 := ⟨tw_783, tw_9, by decide +kernel, by decide +kernel, by decide +kernel⟩
def M_Model_measure : mm_M := (r_Model, c_Model_measure, 5, false, some .int)
theorem ok_Model_measure : mm_okM y_Model_measure M_Model_measure 0 := ⟨tw_787, tw_9, by decide +kernel, by decide +kernel, by decide +kernel⟩
def M_Model_opener : mm_M := (r_Model, c_Model_opener, 3, false, some .int)
theorem ok_Model_opener : mm_okM y_Model_opener M_Model_opener 1 := ⟨tw_791, tw_9, by decide +kernel, by decide +kernel, by decide +kernel⟩
def M_Model_c : mm_M := (r_Model, c_Model_c, 2, false, some .int)
theorem ok_Model_c : mm_okM y_Model_c M_Model_c 1 := ⟨tw_795, tw_9, by decide +kernel, by decide +kernel, by decide +kernel⟩
def M_Model_behindPlain : mm_M := (r_Model, c_Model_behindPlain, 4, false, some .int)
theorem ok_Model_behindPlain : mm_okM y_Model_behindPlain M_Model_behindPlain 1 := ⟨tw_799, tw_9, by decide +kernel, by decide +kernel, by decide +kernel⟩
def M_Model_behindClass : mm_M := (r_Model, c_Model_behindClass, 5, false, some .int)
theorem ok_Model_behindClass : mm_okM y_Model_behindClass M_Model_behindClass 1 := ⟨tw_803, tw_9, by decide +kernel, by decide +kernel, by decide +kernel⟩
def M_Model_behindRepeat : mm_M := (r_Model, c_Model_behindRepeat, 3, false, some .int)
theorem ok_Model_behindRepeat : mm_okM y_Model_behindRepeat M_Model_behindRepeat 1 := ⟨tw_807, tw_9, by decide +kernel, by decide +kernel, by decide +kernel⟩
def M_Model_sized : mm_M := (r_Model, c_Model_sized, 3, false, some .int)
theorem ok_Model_sized : mm_okM y_Model_sized M_Model_sized 2 := ⟨tw_811, tw_9, by decide +kernel, by decide +kernel, by decide +kernel⟩
def M_Model_groupsOf : mm_M := (r_Model, c_Model_groupsOf, 3, false, some .int)
theorem ok_Model_groupsOf : mm_okM y_Model_groupsOf M_Model_groupsOf 0 := ⟨tw_815, tw_9, by decide +kernel, by decide +kernel, by decide +kernel⟩
def M_Model_namesGood : mm_M := (r_Model, c_Model_namesGood, 4, false, some .boolean)
theorem ok_Model_namesGood : mm_okM y_Model_namesGood M_Model_namesGood 1 := ⟨tw_819, tw_9, by decide +kernel, by decide +kernel, by decide +kernel⟩
def M_Model_feed : mm_M := (r_Model, c_Model_feed, 2, false, some .int)
theorem ok_Model_feed : mm_okM y_Model_feed M_Model_feed 1 := ⟨tw_823, tw_9, by decide +kernel, by decide +kernel, by decide +kernel⟩
def M_Model_clear : mm_M := (r_Model, c_Model_clear, 2, false, some .int)
theorem ok_Model_clear : mm_okM y_Model_clear M_Model_clear 0 := ⟨tw_827, tw_9, by decide +kernel, by decide +kernel, by decide +kernel⟩
def M_Model_search : mm_M := (r_Model, c_Model_search, 2, false, some .int)
theorem ok_Model_search : mm_okM y_Model_search M_Model_search 1 := ⟨tw_831, tw_9, by decide +kernel, by decide +kernel, by decide +kernel⟩
def M_Model_seek : mm_M := (r_Model, c_Model_seek, 4, false, some .int)
theorem ok_Model_seek : mm_okM y_Model_seek M_Model_seek 1 := ⟨tw_835, tw_9, by decide +kernel, by decide +kernel, by decide +kernel⟩
def M_Model_walk : mm_M := (r_Model, c_Model_walk, 4, false, some .int)
theorem ok_Model_walk : mm_okM y_Model_walk M_Model_walk 1 := ⟨tw_839, tw_9, by decide +kernel, by decide +kernel, by decide +kernel⟩
def M_Model_go : mm_M := (r_Model, c_Model_go, 4, false, none)
theorem ok_Model_go : mm_okM y_Model_go M_Model_go 3 := ⟨tw_843, tw_9, by decide +kernel, by decide +kernel, by decide +kernel⟩
def M_Model_retreat : mm_M := (r_Model, c_Model_retreat, 3, false, some .boolean)
theorem ok_Model_retreat : mm_okM y_Model_retreat M_Model_retreat 0 := ⟨tw_848, tw_9, by decide +kernel, by decide +kernel, by decide +kernel⟩
def M_Model_rowEnds : mm_M := (r_Model, c_Model_rowEnds, 2, false, some .boolean)
theorem ok_Model_rowEnds : mm_okM y_Model_rowEnds M_Model_rowEnds 1 := ⟨tw_852, tw_9, by decide +kernel, by decide +kernel, by decide +kernel⟩
def M_Model_t : mm_M := (r_Model, c_Model_t, 2, false, some .int)
theorem ok_Model_t : mm_okM y_Model_t M_Model_t 1 := ⟨tw_856, tw_9, by decide +kernel, by decide +kernel, by decide +kernel⟩
def M_Model_item : mm_M := (r_Model, c_Model_item, 9, false, none)
theorem ok_Model_item : mm_okM y_Model_item M_Model_item 1 := ⟨tw_860, tw_9, by decide +kernel, by decide +kernel, by decide +kernel⟩
def M_Model_behindAtom : mm_M := (r_Model, c_Model_behindAtom, 3, false, some .int)
theorem ok_Model_behindAtom : mm_okM y_Model_behindAtom M_Model_behindAtom 1 := ⟨tw_864, tw_9, by decide +kernel, by decide +kernel, by decide +kernel⟩
def M_Model_closing : mm_M := (r_Model, c_Model_closing, 4, false, some .int)
theorem ok_Model_closing : mm_okM y_Model_closing M_Model_closing 1 := ⟨tw_868, tw_9, by decide +kernel, by decide +kernel, by decide +kernel⟩
def M_Model_push : mm_M := (r_Model, c_Model_push, 5, false, some .int)
theorem ok_Model_push : mm_okM y_Model_push M_Model_push 4 := ⟨tw_872, tw_9, by decide +kernel, by decide +kernel, by decide +kernel⟩
def M_Model_pushBack : mm_M := (r_Model, c_Model_pushBack, 4, false, none)
theorem ok_Model_pushBack : mm_okM y_Model_pushBack M_Model_pushBack 3 := ⟨tw_876, tw_9, by decide +kernel, by decide +kernel, by decide +kernel⟩
def M_Model_nextRow : mm_M := (r_Model, c_Model_nextRow, 3, false, some .int)
theorem ok_Model_nextRow : mm_okM y_Model_nextRow M_Model_nextRow 1 := ⟨tw_880, tw_9, by decide +kernel, by decide +kernel, by decide +kernel⟩
def M_Model_atom : mm_M := (r_Model, c_Model_atom, 1, false, none)
theorem ok_Model_atom : mm_okM y_Model_atom M_Model_atom 0 := ⟨tw_884, tw_9, by decide +kernel, by decide +kernel, by decide +kernel⟩
def M_Model_openChoice : mm_M := (r_Model, c_Model_openChoice, 4, false, none)
theorem ok_Model_openChoice : mm_okM y_Model_openChoice M_Model_openChoice 1 := ⟨tw_888, tw_9, by decide +kernel, by decide +kernel, by decide +kernel⟩
def M_Model_groupAt : mm_M := (r_Model, c_Model_groupAt, 4, false, some .int)
theorem ok_Model_groupAt : mm_okM y_Model_groupAt M_Model_groupAt 1 := ⟨tw_892, tw_9, by decide +kernel, by decide +kernel, by decide +kernel⟩
def M_Model_calls : mm_M := (r_Model, c_Model_calls, 3, false, some .int)
theorem ok_Model_calls : mm_okM y_Model_calls M_Model_calls 0 := ⟨tw_896, tw_9, by decide +kernel, by decide +kernel, by decide +kernel⟩
def M_Model_kindOf : mm_M := (r_Model, c_Model_kindOf, 2, false, some .int)
theorem ok_Model_kindOf : mm_okM y_Model_kindOf M_Model_kindOf 1 := ⟨tw_900, tw_9, by decide +kernel, by decide +kernel, by decide +kernel⟩
def M_Model_parentOf : mm_M := (r_Model, c_Model_parentOf, 2, false, some .int)
theorem ok_Model_parentOf : mm_okM y_Model_parentOf M_Model_parentOf 1 := ⟨tw_904, tw_9, by decide +kernel, by decide +kernel, by decide +kernel⟩
def M_Model_choiceOf : mm_M := (r_Model, c_Model_choiceOf, 4, false, some .int)
theorem ok_Model_choiceOf : mm_okM y_Model_choiceOf M_Model_choiceOf 1 := ⟨tw_908, tw_9, by decide +kernel, by decide +kernel, by decide +kernel⟩
def M_Model_plain : mm_M := (r_Model, c_Model_plain, 2, false, some .boolean)
theorem ok_Model_plain : mm_okM y_Model_plain M_Model_plain 1 := ⟨tw_912, tw_9, by decide +kernel, by decide +kernel, by decide +kernel⟩
def M_Model_repeats : mm_M := (r_Model, c_Model_repeats, 5, false, some .boolean)
theorem ok_Model_repeats : mm_okM y_Model_repeats M_Model_repeats 1 := ⟨tw_916, tw_9, by decide +kernel, by decide +kernel, by decide +kernel⟩
def M_Model_capture : mm_M := (r_Model, c_Model_capture, 6, false, some .int)
theorem ok_Model_capture : mm_okM y_Model_capture M_Model_capture 3 := ⟨tw_920, tw_9, by decide +kernel, by decide +kernel, by decide +kernel⟩
def M_Model_takesLetter : mm_M := (r_Model, c_Model_takesLetter, 4, false, some .boolean)
theorem ok_Model_takesLetter : mm_okM y_Model_takesLetter M_Model_takesLetter 1 := ⟨tw_924, tw_9, by decide +kernel, by decide +kernel, by decide +kernel⟩
def M_Model_inClass : mm_M := (r_Model, c_Model_inClass, 6, false, some .boolean)
theorem ok_Model_inClass : mm_okM y_Model_inClass M_Model_inClass 2 := ⟨tw_928, tw_9, by decide +kernel, by decide +kernel, by decide +kernel⟩
def M_Model_star : mm_M := (r_Model, c_Model_star, 3, false, none)
theorem ok_Model_star : mm_okM y_Model_star M_Model_star 1 := ⟨tw_932, tw_9, by decide +kernel, by decide +kernel, by decide +kernel⟩
def M_Model_carryOn : mm_M := (r_Model, c_Model_carryOn, 6, false, none)
theorem ok_Model_carryOn : mm_okM y_Model_carryOn M_Model_carryOn 0 := ⟨tw_936, tw_9, by decide +kernel, by decide +kernel, by decide +kernel⟩
def M_Model_placeOf : mm_M := (r_Model, c_Model_placeOf, 2, false, some .int)
theorem ok_Model_placeOf : mm_okM y_Model_placeOf M_Model_placeOf 1 := ⟨tw_940, tw_9, by decide +kernel, by decide +kernel, by decide +kernel⟩
def M_Model_numberOf : mm_M := (r_Model, c_Model_numberOf, 2, false, some .int)
theorem ok_Model_numberOf : mm_okM y_Model_numberOf M_Model_numberOf 1 := ⟨tw_944, tw_9, by decide +kernel, by decide +kernel, by decide +kernel⟩
def M_Model_again : mm_M := (r_Model, c_Model_again, 2, false, some .int)
theorem ok_Model_again : mm_okM y_Model_again M_Model_again 0 := ⟨tw_950, tw_9, by decide +kernel, by decide +kernel, by decide +kernel⟩
def M_Model_start : mm_M := (r_Model, c_Model_start, 2, false, some .int)
theorem ok_Model_start : mm_okM y_Model_start M_Model_start 1 := ⟨tw_954, tw_9, by decide +kernel, by decide +kernel, by decide +kernel⟩
def M_Model_bound : mm_M := (r_Model, c_Model_bound, 3, false, some .int)
theorem ok_Model_bound : mm_okM y_Model_bound M_Model_bound 2 := ⟨tw_958, tw_9, by decide +kernel, by decide +kernel, by decide +kernel⟩
def M_Model_end : mm_M := (r_Model, c_Model_end, 2, false, some .int)
theorem ok_Model_end : mm_okM y_Model_end M_Model_end 1 := ⟨tw_962, tw_9, by decide +kernel, by decide +kernel, by decide +kernel⟩
def M_Model_steps : mm_M := (r_Model, c_Model_steps, 1, false, some .int)
theorem ok_Model_steps : mm_okM y_Model_steps M_Model_steps 0 := ⟨tw_966, tw_9, by decide +kernel, by decide +kernel, by decide +kernel⟩
def M_Model_matches : mm_M := (r_Model, c_Model_matches, 4, false, some .int)
theorem ok_Model_matches : mm_okM y_Model_matches M_Model_matches 0 := ⟨tw_970, tw_9, by decide +kernel, by decide +kernel, by decide +kernel⟩
def M_Model_count : mm_M := (r_Model, c_Model_count, 2, false, some .int)
theorem ok_Model_count : mm_okM y_Model_count M_Model_count 1 := ⟨tw_974, tw_9, by decide +kernel, by decide +kernel, by decide +kernel⟩
theorem fp_Text_15 : mm_fp M_Text_init 15 0 0 := ⟨_, _, _, rfl, Or.inr ⟨⟨rfl, rfl⟩, tw_36⟩⟩
theorem fp_Text_9 {M : mm_M} : mm_fp M 9 0 1 := ⟨_, _, _, rfl, Or.inl rfl⟩
theorem fp_Matcher_64 {M : mm_M} : mm_fp M 64 0 1 := ⟨_, _, _, rfl, Or.inl rfl⟩
theorem fp_Reader_67 {M : mm_M} : mm_fp M 67 0 1 := ⟨_, _, _, rfl, Or.inl rfl⟩
theorem fp_Bench_76 {M : mm_M} : mm_fp M 76 0 1 := ⟨_, _, _, rfl, Or.inl rfl⟩
theorem fp_Program_9 : mm_fp M_Program_init 9 1 0 := ⟨_, _, _, rfl, Or.inr ⟨⟨rfl, rfl⟩, tw_54⟩⟩
theorem fp_Program_15 : mm_fp M_Program_init 15 1 1 := ⟨_, _, _, rfl, Or.inr ⟨⟨rfl, rfl⟩, tw_56⟩⟩
theorem fp_Program_18 : mm_fp M_Program_init 18 1 2 := ⟨_, _, _, rfl, Or.inr ⟨⟨rfl, rfl⟩, tw_58⟩⟩
theorem fp_Program_21 : mm_fp M_Program_init 21 1 3 := ⟨_, _, _, rfl, Or.inr ⟨⟨rfl, rfl⟩, tw_61⟩⟩
theorem fp_Program_24 : mm_fp M_Program_init 24 1 4 := ⟨_, _, _, rfl, Or.inr ⟨⟨rfl, rfl⟩, tw_64⟩⟩
theorem fp_Program_27 : mm_fp M_Program_init 27 1 5 := ⟨_, _, _, rfl, Or.inr ⟨⟨rfl, rfl⟩, tw_67⟩⟩
theorem fp_Program_30 : mm_fp M_Program_init 30 1 6 := ⟨_, _, _, rfl, Or.inr ⟨⟨rfl, rfl⟩, tw_70⟩⟩
theorem fp_Program_33 : mm_fp M_Program_init 33 1 7 := ⟨_, _, _, rfl, Or.inr ⟨⟨rfl, rfl⟩, tw_73⟩⟩
theorem fp_Program_36 : mm_fp M_Program_init 36 1 8 := ⟨_, _, _, rfl, Or.inr ⟨⟨rfl, rfl⟩, tw_76⟩⟩
theorem fp_Program_39 : mm_fp M_Program_init 39 1 9 := ⟨_, _, _, rfl, Or.inr ⟨⟨rfl, rfl⟩, tw_79⟩⟩
theorem fp_Program_42 {M : mm_M} : mm_fp M 42 1 10 := ⟨_, _, _, rfl, Or.inl rfl⟩
theorem fp_Program_46 {M : mm_M} : mm_fp M 46 1 11 := ⟨_, _, _, rfl, Or.inl rfl⟩
theorem fp_Program_49 {M : mm_M} : mm_fp M 49 1 12 := ⟨_, _, _, rfl, Or.inl rfl⟩
theorem fp_Reader_80 {M : mm_M} : mm_fp M 80 1 12 := ⟨_, _, _, rfl, Or.inl rfl⟩
theorem fp_Bench_89 {M : mm_M} : mm_fp M 89 1 12 := ⟨_, _, _, rfl, Or.inl rfl⟩
theorem fp_Program_52 {M : mm_M} : mm_fp M 52 1 13 := ⟨_, _, _, rfl, Or.inl rfl⟩
theorem fp_Reader_77 {M : mm_M} : mm_fp M 77 1 13 := ⟨_, _, _, rfl, Or.inl rfl⟩
theorem fp_Bench_83 {M : mm_M} : mm_fp M 83 1 13 := ⟨_, _, _, rfl, Or.inl rfl⟩
theorem fp_Reader_14 : mm_fp M_Reader_init 14 2 0 := ⟨_, _, _, rfl, Or.inr ⟨⟨rfl, rfl⟩, tw_119⟩⟩
theorem fp_Reader_23 {M : mm_M} : mm_fp M 23 2 1 := ⟨_, _, _, rfl, Or.inl rfl⟩
theorem fp_Bench_79 {M : mm_M} : mm_fp M 79 2 1 := ⟨_, _, _, rfl, Or.inl rfl⟩
theorem fp_Reader_27 : mm_fp M_Reader_init 27 2 2 := ⟨_, _, _, rfl, Or.inr ⟨⟨rfl, rfl⟩, tw_123⟩⟩
theorem fp_Reader_31 : mm_fp M_Reader_init 31 2 3 := ⟨_, _, _, rfl, Or.inr ⟨⟨rfl, rfl⟩, tw_124⟩⟩
theorem fp_Reader_34 : mm_fp M_Reader_init 34 2 4 := ⟨_, _, _, rfl, Or.inr ⟨⟨rfl, rfl⟩, tw_125⟩⟩
theorem fp_Reader_37 : mm_fp M_Reader_init 37 2 5 := ⟨_, _, _, rfl, Or.inr ⟨⟨rfl, rfl⟩, tw_126⟩⟩
theorem fp_Reader_40 {M : mm_M} : mm_fp M 40 2 6 := ⟨_, _, _, rfl, Or.inl rfl⟩
theorem fp_Reader_44 {M : mm_M} : mm_fp M 44 2 7 := ⟨_, _, _, rfl, Or.inl rfl⟩
theorem fp_Reader_47 {M : mm_M} : mm_fp M 47 2 8 := ⟨_, _, _, rfl, Or.inl rfl⟩
theorem fp_Reader_50 {M : mm_M} : mm_fp M 50 2 9 := ⟨_, _, _, rfl, Or.inl rfl⟩
theorem fp_Reader_53 {M : mm_M} : mm_fp M 53 2 10 := ⟨_, _, _, rfl, Or.inl rfl⟩
theorem fp_Frames_13 : mm_fp M_Frames_init 13 3 0 := ⟨_, _, _, rfl, Or.inr ⟨⟨rfl, rfl⟩, tw_177⟩⟩
theorem fp_Frames_17 : mm_fp M_Frames_init 17 3 1 := ⟨_, _, _, rfl, Or.inr ⟨⟨rfl, rfl⟩, tw_179⟩⟩
theorem fp_Frames_20 : mm_fp M_Frames_init 20 3 2 := ⟨_, _, _, rfl, Or.inr ⟨⟨rfl, rfl⟩, tw_181⟩⟩
theorem fp_Frames_23 : mm_fp M_Frames_init 23 3 3 := ⟨_, _, _, rfl, Or.inr ⟨⟨rfl, rfl⟩, tw_183⟩⟩
theorem fp_Frames_26 : mm_fp M_Frames_init 26 3 4 := ⟨_, _, _, rfl, Or.inr ⟨⟨rfl, rfl⟩, tw_185⟩⟩
theorem fp_Frames_30 : mm_fp M_Frames_init 30 3 5 := ⟨_, _, _, rfl, Or.inr ⟨⟨rfl, rfl⟩, tw_187⟩⟩
theorem fp_Frames_33 : mm_fp M_Frames_init 33 3 6 := ⟨_, _, _, rfl, Or.inr ⟨⟨rfl, rfl⟩, tw_189⟩⟩
theorem fp_Frames_7 {M : mm_M} : mm_fp M 7 3 7 := ⟨_, _, _, rfl, Or.inl rfl⟩
theorem fp_Choices_13 : mm_fp M_Choices_init 13 4 0 := ⟨_, _, _, rfl, Or.inr ⟨⟨rfl, rfl⟩, tw_216⟩⟩
theorem fp_Choices_17 : mm_fp M_Choices_init 17 4 1 := ⟨_, _, _, rfl, Or.inr ⟨⟨rfl, rfl⟩, tw_218⟩⟩
theorem fp_Choices_20 : mm_fp M_Choices_init 20 4 2 := ⟨_, _, _, rfl, Or.inr ⟨⟨rfl, rfl⟩, tw_220⟩⟩
theorem fp_Choices_23 : mm_fp M_Choices_init 23 4 3 := ⟨_, _, _, rfl, Or.inr ⟨⟨rfl, rfl⟩, tw_222⟩⟩
theorem fp_Choices_27 : mm_fp M_Choices_init 27 4 4 := ⟨_, _, _, rfl, Or.inr ⟨⟨rfl, rfl⟩, tw_224⟩⟩
theorem fp_Choices_7 {M : mm_M} : mm_fp M 7 4 5 := ⟨_, _, _, rfl, Or.inl rfl⟩
theorem fp_Matcher_140 {M : mm_M} : mm_fp M 140 4 5 := ⟨_, _, _, rfl, Or.inl rfl⟩
theorem fp_Matcher_14 : mm_fp M_Matcher_init 14 5 0 := ⟨_, _, _, rfl, Or.inr ⟨⟨rfl, rfl⟩, tw_241⟩⟩
theorem fp_Matcher_23 {M : mm_M} : mm_fp M 23 5 1 := ⟨_, _, _, rfl, Or.inl rfl⟩
theorem fp_Bench_88 {M : mm_M} : mm_fp M 88 5 1 := ⟨_, _, _, rfl, Or.inl rfl⟩
theorem fp_Matcher_47 : mm_fp M_Matcher_init 47 5 2 := ⟨_, _, _, rfl, Or.inr ⟨⟨rfl, rfl⟩, tw_245⟩⟩
theorem fp_Matcher_53 : mm_fp M_Matcher_init 53 5 3 := ⟨_, _, _, rfl, Or.inr ⟨⟨rfl, rfl⟩, tw_246⟩⟩
theorem fp_Matcher_60 : mm_fp M_Matcher_init 60 5 4 := ⟨_, _, _, rfl, Or.inr ⟨⟨rfl, rfl⟩, tw_247⟩⟩
theorem fp_Matcher_27 {M : mm_M} : mm_fp M 27 5 5 := ⟨_, _, _, rfl, Or.inl rfl⟩
theorem fp_Matcher_31 {M : mm_M} : mm_fp M 31 5 6 := ⟨_, _, _, rfl, Or.inl rfl⟩
theorem fp_Matcher_34 {M : mm_M} : mm_fp M 34 5 7 := ⟨_, _, _, rfl, Or.inl rfl⟩
theorem fp_Matcher_37 {M : mm_M} : mm_fp M 37 5 8 := ⟨_, _, _, rfl, Or.inl rfl⟩
theorem fp_Bench_117 {M : mm_M} : mm_fp M 117 5 8 := ⟨_, _, _, rfl, Or.inl rfl⟩
theorem fp_Matcher_40 {M : mm_M} : mm_fp M 40 5 9 := ⟨_, _, _, rfl, Or.inl rfl⟩
theorem fp_Bench_120 {M : mm_M} : mm_fp M 120 5 9 := ⟨_, _, _, rfl, Or.inl rfl⟩
theorem fp_Matcher_44 {M : mm_M} : mm_fp M 44 5 10 := ⟨_, _, _, rfl, Or.inl rfl⟩
theorem fp_Bench_123 {M : mm_M} : mm_fp M 123 5 10 := ⟨_, _, _, rfl, Or.inl rfl⟩
theorem fp_Bench_10 : mm_fp M_Bench_init 10 6 0 := ⟨_, _, _, rfl, Or.inr ⟨⟨rfl, rfl⟩, tw_280⟩⟩
theorem fp_Bench_51 : mm_fp M_Bench_init 51 6 1 := ⟨_, _, _, rfl, Or.inr ⟨⟨rfl, rfl⟩, tw_281⟩⟩
theorem fp_Bench_16 {M : mm_M} : mm_fp M 16 6 2 := ⟨_, _, _, rfl, Or.inl rfl⟩
theorem fp_Bench_20 {M : mm_M} : mm_fp M 20 6 3 := ⟨_, _, _, rfl, Or.inl rfl⟩
theorem fp_Bench_23 {M : mm_M} : mm_fp M 23 6 4 := ⟨_, _, _, rfl, Or.inl rfl⟩
theorem fp_Bench_27 {M : mm_M} : mm_fp M 27 6 5 := ⟨_, _, _, rfl, Or.inl rfl⟩
theorem fp_Bench_30 {M : mm_M} : mm_fp M 30 6 6 := ⟨_, _, _, rfl, Or.inl rfl⟩
theorem fp_Bench_34 {M : mm_M} : mm_fp M 34 6 7 := ⟨_, _, _, rfl, Or.inl rfl⟩
theorem ml_Bench_9 : mm_ml r_Bench 9 y_Reader_init := Or.inr ⟨_, tw_26⟩
theorem ml_Reader_11 : mm_ml r_Reader 11 y_Text_init := Or.inl tw_32
theorem ml_Reader_22 : mm_ml r_Reader 22 y_Program_init := Or.inr ⟨_, tw_50⟩
theorem ml_Bench_48 : mm_ml r_Bench 48 y_Matcher_init := Or.inl tw_163
theorem ml_Matcher_11 : mm_ml r_Matcher 11 y_Text_init := Or.inl tw_168
theorem ml_Matcher_22 : mm_ml r_Matcher 22 y_Program_init := Or.inr ⟨_, tw_170⟩
theorem ml_Matcher_52 : mm_ml r_Matcher 52 y_Frames_init := Or.inl tw_173
theorem ml_Matcher_59 : mm_ml r_Matcher 59 y_Choices_init := Or.inl tw_212
theorem ml_Bench_55 : mm_ml r_Bench 55 y_Bench_mayStandInPattern := Or.inl tw_309
theorem ml_Bench_92 : mm_ml r_Bench 92 y_Bench_isLetter := Or.inl tw_312
theorem ml_Bench_126 : mm_ml r_Bench 126 y_Bench_isDigit := Or.inl tw_315
theorem ml_Bench_63 : mm_ml r_Bench 63 y_Text_isFull := Or.inl tw_401
theorem ml_Bench_69 : mm_ml r_Bench 69 y_Text_add := Or.inl tw_405
theorem ml_Text_19 : mm_ml r_Text 19 y_Text_isFull := Or.inl tw_409
theorem ml_Bench_73 : mm_ml r_Bench 73 y_Reader_read := Or.inl tw_415
theorem ml_Reader_57 : mm_ml r_Reader 57 y_Program_empty := Or.inl tw_419
theorem ml_Reader_60 : mm_ml r_Reader 60 y_Reader_openLevel := Or.inl tw_423
theorem ml_Reader_115 : mm_ml r_Reader 115 y_Program_addRow := Or.inl tw_427
theorem ml_Reader_70 : mm_ml r_Reader 70 y_Reader_readPart := Or.inl tw_431
theorem ml_Reader_83 : mm_ml r_Reader 83 y_Reader_ahead := Or.inl tw_435
theorem ml_Reader_112 : mm_ml r_Reader 112 y_Text_codeAt := Or.inl tw_439
theorem ml_Reader_87 : mm_ml r_Reader 87 y_Reader_openNextRow := Or.inl tw_443
theorem ml_Reader_90 : mm_ml r_Reader 90 y_Reader_closeChoice := Or.inl tw_447
theorem ml_Reader_124 : mm_ml r_Reader 124 y_Reader_refuse := Or.inl tw_451
theorem ml_Reader_93 : mm_ml r_Reader 93 y_Bench_isDigit := Or.inr ⟨_, tw_455⟩
theorem ml_Reader_97 : mm_ml r_Reader 97 y_Reader_readCall := Or.inl tw_456
theorem ml_Reader_127 : mm_ml r_Reader 127 y_Reader_appendItem := Or.inl tw_461
theorem ml_Reader_149 : mm_ml r_Reader 149 y_Program_addItem := Or.inl tw_465
theorem ml_Reader_100 : mm_ml r_Reader 100 y_Reader_openChoice := Or.inl tw_469
theorem ml_Reader_121 : mm_ml r_Reader 121 y_Reader_kindOfChoice := Or.inl tw_473
theorem ml_Reader_103 : mm_ml r_Reader 103 y_Reader_readClass := Or.inl tw_477
theorem ml_Reader_139 : mm_ml r_Reader 139 y_Bench_isLetter := Or.inr ⟨_, tw_481⟩
theorem ml_Reader_146 : mm_ml r_Reader 146 y_Reader_readClassPart := Or.inl tw_482
theorem ml_Reader_142 : mm_ml r_Reader 142 y_Reader_lettersBetween := Or.inl tw_486
theorem ml_Reader_106 : mm_ml r_Reader 106 y_Reader_readReference := Or.inl tw_490
theorem ml_Reader_109 : mm_ml r_Reader 109 y_Reader_readSign := Or.inl tw_494
theorem ml_Reader_74 : mm_ml r_Reader 74 y_Reader_readRepeat := Or.inl tw_498
theorem ml_Reader_158 : mm_ml r_Reader 158 y_Reader_setRepeat := Or.inl tw_502
theorem ml_Reader_162 : mm_ml r_Reader 162 y_Reader_readTimes := Or.inl tw_506
theorem ml_Bench_98 : mm_ml r_Bench 98 y_Bench_searchFrom := Or.inl tw_522
theorem ml_Bench_114 : mm_ml r_Bench 114 y_Matcher_find := Or.inl tw_526
theorem ml_Matcher_67 : mm_ml r_Matcher 67 y_Matcher_beginAt := Or.inl tw_530
theorem ml_Matcher_78 : mm_ml r_Matcher 78 y_Frames_empty := Or.inl tw_534
theorem ml_Matcher_81 : mm_ml r_Matcher 81 y_Choices_cutTo := Or.inl tw_538
theorem ml_Matcher_88 : mm_ml r_Matcher 88 y_Matcher_go := Or.inl tw_542
theorem ml_Matcher_71 : mm_ml r_Matcher 71 y_Matcher_goesOn := Or.inl tw_547
theorem ml_Matcher_92 : mm_ml r_Matcher 92 y_Frames_hasRoom := Or.inl tw_551
theorem ml_Matcher_96 : mm_ml r_Matcher 96 y_Choices_hasRoom := Or.inl tw_555
theorem ml_Matcher_75 : mm_ml r_Matcher 75 y_Matcher_takeTurn := Or.inl tw_559
theorem ml_Matcher_97 : mm_ml r_Matcher 97 y_Matcher_enterRow := Or.inl tw_563
theorem ml_Matcher_124 : mm_ml r_Matcher 124 y_Choices_add := Or.inl tw_567
theorem ml_Matcher_100 : mm_ml r_Matcher 100 y_Matcher_enterItem := Or.inl tw_571
theorem ml_Matcher_143 : mm_ml r_Matcher 143 y_Frames_add := Or.inl tw_575
theorem ml_Matcher_146 : mm_ml r_Matcher 146 y_Matcher_fork := Or.inl tw_579
theorem ml_Matcher_103 : mm_ml r_Matcher 103 y_Matcher_tryAtom := Or.inl tw_583
theorem ml_Matcher_106 : mm_ml r_Matcher 106 y_Matcher_ask := Or.inl tw_587
theorem ml_Matcher_166 : mm_ml r_Matcher 166 y_Matcher_askLetter := Or.inl tw_591
theorem ml_Matcher_172 : mm_ml r_Matcher 172 y_Matcher_askSame := Or.inl tw_595
theorem ml_Matcher_184 : mm_ml r_Matcher 184 y_Captures_from := Or.inl tw_599
theorem ml_Matcher_190 : mm_ml r_Matcher 190 y_Captures_to := Or.inl tw_602
theorem ml_Matcher_193 : mm_ml r_Matcher 193 y_Matcher_standsHere := Or.inl tw_605
theorem ml_Matcher_175 : mm_ml r_Matcher 175 y_Matcher_askCall := Or.inl tw_609
theorem ml_Matcher_178 : mm_ml r_Matcher 178 y_Matcher_askBody := Or.inl tw_613
theorem ml_Matcher_109 : mm_ml r_Matcher 109 y_Matcher_goAfterAtom := Or.inl tw_617
theorem ml_Matcher_112 : mm_ml r_Matcher 112 y_Matcher_goAfterItem := Or.inl tw_621
theorem ml_Matcher_115 : mm_ml r_Matcher 115 y_Matcher_resume := Or.inl tw_625
theorem ml_Matcher_210 : mm_ml r_Matcher 210 y_Matcher_leaveBody := Or.inl tw_629
theorem ml_Matcher_221 : mm_ml r_Matcher 221 y_Captures_with := Or.inl tw_633
theorem ml_Matcher_215 : mm_ml r_Matcher 215 y_Matcher_leaveTimesTurn := Or.inl tw_638
theorem ml_Matcher_118 : mm_ml r_Matcher 118 y_Matcher_takeChoice := Or.inl tw_642
theorem ml_Bench_101 : mm_ml r_Bench 101 y_Bench_placeBehindMatch := Or.inl tw_650
theorem ml_Bench_105 : mm_ml r_Bench 105 y_Captures_from := Or.inl tw_658
theorem ml_Bench_111 : mm_ml r_Bench 111 y_Captures_to := Or.inl tw_663
/-- the class's world: p and q are where reader and matcher have their programs -/
def Wd (p q n1 n2 : Nat) (i : mm_i) (l : mm_j) (a : mm_a) (b : mm_b) : mm_H :=
  [.inr (6, [.ref 1, .ref 19, .int (i 2), .int (i 3), .int (i 4), .int (i 5), .long (l 6), .int (i 7)]),
  .inr (2, [.ref 2, .ref p, .ref 15, .ref 16, .ref 17, .ref 18, .int (i 22), .int (i 23), .int (i 24), .int (i 25), .int (i 26)]),
  .inr (0, [.ref 3, .int (i 33)]),
  .inl (.int, (32, .inl (a 3))),
  .inr (1, [.ref 5, .ref 6, .ref 7, .ref 8, .ref 9, .ref 10, .ref 11, .ref 12, .ref 13, .ref 14, .int (i 74), .int (i 75), .int (i 76), .int (i 77)]),
  .inl (.int, (32, .inl (a 5))),
  .inl (.int, (32, .inl (a 6))),
  .inl (.int, (32, .inl (a 7))),
  .inl (.int, (32, .inl (a 8))),
  .inl (.int, (32, .inl (a 9))),
  .inl (.int, (32, .inl (a 10))),
  .inl (.int, (32, .inl (a 11))),
  .inl (.int, (33, .inl (a 12))),
  .inl (.int, (33, .inl (a 13))),
  .inl (.int, (5, .inl (a 14))),
  .inl (.int, (7, .inl (a 15))),
  .inl (.int, (7, .inl (a 16))),
  .inl (.int, (7, .inl (a 17))),
  .inl (.int, (7, .inl (a 18))),
  .inr (5, [.ref 20, .ref q, .int (i 306), .ref 33, .ref 41, .int (i 309), .int (i 310), .int (i 311), .int (i 312), .long (l 313), .int (i 314)]),
  .inr (0, [.ref 21, .int (i 321)]),
  .inl (.int, (40, .inl (a 21))),
  .inr (1, [.ref 23, .ref 24, .ref 25, .ref 26, .ref 27, .ref 28, .ref 29, .ref 30, .ref 31, .ref 32, .int (i 362), .int (i 363), .int (i 364), .int (i 365)]),
  .inl (.int, (32, .inl (a 23))),
  .inl (.int, (32, .inl (a 24))),
  .inl (.int, (32, .inl (a 25))),
  .inl (.int, (32, .inl (a 26))),
  .inl (.int, (32, .inl (a 27))),
  .inl (.int, (32, .inl (a 28))),
  .inl (.int, (32, .inl (a 29))),
  .inl (.int, (33, .inl (a 30))),
  .inl (.int, (33, .inl (a 31))),
  .inl (.int, (5, .inl (a 32))),
  .inr (3, [.ref 34, .ref 35, .ref 36, .ref 37, .ref 38, .ref 39, .ref 40, .int (i 535)]),
  .inl (.int, (n1, .inl (a 34))),
  .inl (.int, (n1, .inl (a 35))),
  .inl (.int, (n1, .inl (a 36))),
  .inl (.int, (n1, .inl (a 37))),
  .inl (.long, (n1, .inr (.inl (b 38)))),
  .inl (.int, (n1, .inl (a 39))),
  .inl (.int, (n1, .inl (a 40))),
  .inr (4, [.ref 42, .ref 43, .ref 44, .ref 45, .ref 46, .int (i 661)]),
  .inl (.int, (n2, .inl (a 42))),
  .inl (.int, (n2, .inl (a 43))),
  .inl (.int, (n2, .inl (a 44))),
  .inl (.long, (n2, .inr (.inl (b 45)))),
  .inl (.int, (n2, .inl (a 46)))]
def mm_PV (n1 n2 : Nat) (t : mm_H) (K : mm_i → mm_j → mm_a → mm_b → Prop) : Option Value → mm_H → Prop := fun v w => ∃ i l a b, v = none ∧ w = Wd 4 22 n1 n2 i l a b ++ t ∧ K i l a b
def mm_PI (n1 n2 : Nat) (t : mm_H) (K : Int32 → mm_i → mm_j → mm_a → mm_b → Prop) : Option Value → mm_H → Prop := fun v w => ∃ r i l a b, v = some (.int r) ∧ w = Wd 4 22 n1 n2 i l a b ++ t ∧ K r i l a b
def mm_PJ (n1 n2 : Nat) (t : mm_H) (K : Int64 → mm_i → mm_j → mm_a → mm_b → Prop) : Option Value → mm_H → Prop := fun v w => ∃ r i l a b, v = some (.long r) ∧ w = Wd 4 22 n1 n2 i l a b ++ t ∧ K r i l a b
theorem wg_0 {p q n1 n2 : Nat} {i : mm_i} {l : mm_j} {a : mm_a} {b : mm_b} {t : mm_H} : (Wd p q n1 n2 i l a b ++ t)[0]? = some (.inr (6, [.ref 1, .ref 19, .int (i 2), .int (i 3), .int (i 4), .int (i 5), .long (l 6), .int (i 7)])) := rfl
theorem ws_2 {p q n1 n2 : Nat} {i : mm_i} {l : mm_j} {a : mm_a} {b : mm_b} {t : mm_H} {v : Int32} : (Wd p q n1 n2 i l a b ++ t).set 0 (.inr (6, List.set [.ref 1, .ref 19, .int (i 2), .int (i 3), .int (i 4), .int (i 5), .long (l 6), .int (i 7)] 2 (.int v))) = Wd p q n1 n2 (upd i 2 v) l a b ++ t := rfl
theorem ws_3 {p q n1 n2 : Nat} {i : mm_i} {l : mm_j} {a : mm_a} {b : mm_b} {t : mm_H} {v : Int32} : (Wd p q n1 n2 i l a b ++ t).set 0 (.inr (6, List.set [.ref 1, .ref 19, .int (i 2), .int (i 3), .int (i 4), .int (i 5), .long (l 6), .int (i 7)] 3 (.int v))) = Wd p q n1 n2 (upd i 3 v) l a b ++ t := rfl
theorem ws_4 {p q n1 n2 : Nat} {i : mm_i} {l : mm_j} {a : mm_a} {b : mm_b} {t : mm_H} {v : Int32} : (Wd p q n1 n2 i l a b ++ t).set 0 (.inr (6, List.set [.ref 1, .ref 19, .int (i 2), .int (i 3), .int (i 4), .int (i 5), .long (l 6), .int (i 7)] 4 (.int v))) = Wd p q n1 n2 (upd i 4 v) l a b ++ t := rfl
theorem ws_5 {p q n1 n2 : Nat} {i : mm_i} {l : mm_j} {a : mm_a} {b : mm_b} {t : mm_H} {v : Int32} : (Wd p q n1 n2 i l a b ++ t).set 0 (.inr (6, List.set [.ref 1, .ref 19, .int (i 2), .int (i 3), .int (i 4), .int (i 5), .long (l 6), .int (i 7)] 5 (.int v))) = Wd p q n1 n2 (upd i 5 v) l a b ++ t := rfl
theorem ws_6 {p q n1 n2 : Nat} {i : mm_i} {l : mm_j} {a : mm_a} {b : mm_b} {t : mm_H} {v : Int64} : (Wd p q n1 n2 i l a b ++ t).set 0 (.inr (6, List.set [.ref 1, .ref 19, .int (i 2), .int (i 3), .int (i 4), .int (i 5), .long (l 6), .int (i 7)] 6 (.long v))) = Wd p q n1 n2 i (vp_updL l 6 v) a b ++ t := rfl
theorem ws_7 {p q n1 n2 : Nat} {i : mm_i} {l : mm_j} {a : mm_a} {b : mm_b} {t : mm_H} {v : Int32} : (Wd p q n1 n2 i l a b ++ t).set 0 (.inr (6, List.set [.ref 1, .ref 19, .int (i 2), .int (i 3), .int (i 4), .int (i 5), .long (l 6), .int (i 7)] 7 (.int v))) = Wd p q n1 n2 (upd i 7 v) l a b ++ t := rfl
theorem wg_1 {p q n1 n2 : Nat} {i : mm_i} {l : mm_j} {a : mm_a} {b : mm_b} {t : mm_H} : (Wd p q n1 n2 i l a b ++ t)[1]? = some (.inr (2, [.ref 2, .ref p, .ref 15, .ref 16, .ref 17, .ref 18, .int (i 22), .int (i 23), .int (i 24), .int (i 25), .int (i 26)])) := rfl
theorem ws_17 {p q n1 n2 : Nat} {i : mm_i} {l : mm_j} {a : mm_a} {b : mm_b} {t : mm_H} {v : Nat} : (Wd p q n1 n2 i l a b ++ t).set 1 (.inr (2, List.set [.ref 2, .ref p, .ref 15, .ref 16, .ref 17, .ref 18, .int (i 22), .int (i 23), .int (i 24), .int (i 25), .int (i 26)] 1 (.ref v))) = Wd v q n1 n2 i l a b ++ t := rfl
theorem ws_22 {p q n1 n2 : Nat} {i : mm_i} {l : mm_j} {a : mm_a} {b : mm_b} {t : mm_H} {v : Int32} : (Wd p q n1 n2 i l a b ++ t).set 1 (.inr (2, List.set [.ref 2, .ref p, .ref 15, .ref 16, .ref 17, .ref 18, .int (i 22), .int (i 23), .int (i 24), .int (i 25), .int (i 26)] 6 (.int v))) = Wd p q n1 n2 (upd i 22 v) l a b ++ t := rfl
theorem ws_23 {p q n1 n2 : Nat} {i : mm_i} {l : mm_j} {a : mm_a} {b : mm_b} {t : mm_H} {v : Int32} : (Wd p q n1 n2 i l a b ++ t).set 1 (.inr (2, List.set [.ref 2, .ref p, .ref 15, .ref 16, .ref 17, .ref 18, .int (i 22), .int (i 23), .int (i 24), .int (i 25), .int (i 26)] 7 (.int v))) = Wd p q n1 n2 (upd i 23 v) l a b ++ t := rfl
theorem ws_24 {p q n1 n2 : Nat} {i : mm_i} {l : mm_j} {a : mm_a} {b : mm_b} {t : mm_H} {v : Int32} : (Wd p q n1 n2 i l a b ++ t).set 1 (.inr (2, List.set [.ref 2, .ref p, .ref 15, .ref 16, .ref 17, .ref 18, .int (i 22), .int (i 23), .int (i 24), .int (i 25), .int (i 26)] 8 (.int v))) = Wd p q n1 n2 (upd i 24 v) l a b ++ t := rfl
theorem ws_25 {p q n1 n2 : Nat} {i : mm_i} {l : mm_j} {a : mm_a} {b : mm_b} {t : mm_H} {v : Int32} : (Wd p q n1 n2 i l a b ++ t).set 1 (.inr (2, List.set [.ref 2, .ref p, .ref 15, .ref 16, .ref 17, .ref 18, .int (i 22), .int (i 23), .int (i 24), .int (i 25), .int (i 26)] 9 (.int v))) = Wd p q n1 n2 (upd i 25 v) l a b ++ t := rfl
theorem ws_26 {p q n1 n2 : Nat} {i : mm_i} {l : mm_j} {a : mm_a} {b : mm_b} {t : mm_H} {v : Int32} : (Wd p q n1 n2 i l a b ++ t).set 1 (.inr (2, List.set [.ref 2, .ref p, .ref 15, .ref 16, .ref 17, .ref 18, .int (i 22), .int (i 23), .int (i 24), .int (i 25), .int (i 26)] 10 (.int v))) = Wd p q n1 n2 (upd i 26 v) l a b ++ t := rfl
theorem wg_2 {p q n1 n2 : Nat} {i : mm_i} {l : mm_j} {a : mm_a} {b : mm_b} {t : mm_H} : (Wd p q n1 n2 i l a b ++ t)[2]? = some (.inr (0, [.ref 3, .int (i 33)])) := rfl
theorem ws_33 {p q n1 n2 : Nat} {i : mm_i} {l : mm_j} {a : mm_a} {b : mm_b} {t : mm_H} {v : Int32} : (Wd p q n1 n2 i l a b ++ t).set 2 (.inr (0, List.set [.ref 3, .int (i 33)] 1 (.int v))) = Wd p q n1 n2 (upd i 33 v) l a b ++ t := rfl
theorem wg_3 {p q n1 n2 : Nat} {i : mm_i} {l : mm_j} {a : mm_a} {b : mm_b} {t : mm_H} : (Wd p q n1 n2 i l a b ++ t)[3]? = some (.inl (.int, (32, .inl (a 3)))) := rfl
theorem wa_3 {p q n1 n2 : Nat} {i : mm_i} {l : mm_j} {a : mm_a} {b : mm_b} {t : mm_H} {f : Nat → Int32} : (Wd p q n1 n2 i l a b ++ t).set 3 (.inl (.int, (32, .inl f))) = Wd p q n1 n2 i l (mm_ua a 3 f) b ++ t := rfl
theorem wg_4 {p q n1 n2 : Nat} {i : mm_i} {l : mm_j} {a : mm_a} {b : mm_b} {t : mm_H} : (Wd p q n1 n2 i l a b ++ t)[4]? = some (.inr (1, [.ref 5, .ref 6, .ref 7, .ref 8, .ref 9, .ref 10, .ref 11, .ref 12, .ref 13, .ref 14, .int (i 74), .int (i 75), .int (i 76), .int (i 77)])) := rfl
theorem ws_74 {p q n1 n2 : Nat} {i : mm_i} {l : mm_j} {a : mm_a} {b : mm_b} {t : mm_H} {v : Int32} : (Wd p q n1 n2 i l a b ++ t).set 4 (.inr (1, List.set [.ref 5, .ref 6, .ref 7, .ref 8, .ref 9, .ref 10, .ref 11, .ref 12, .ref 13, .ref 14, .int (i 74), .int (i 75), .int (i 76), .int (i 77)] 10 (.int v))) = Wd p q n1 n2 (upd i 74 v) l a b ++ t := rfl
theorem ws_75 {p q n1 n2 : Nat} {i : mm_i} {l : mm_j} {a : mm_a} {b : mm_b} {t : mm_H} {v : Int32} : (Wd p q n1 n2 i l a b ++ t).set 4 (.inr (1, List.set [.ref 5, .ref 6, .ref 7, .ref 8, .ref 9, .ref 10, .ref 11, .ref 12, .ref 13, .ref 14, .int (i 74), .int (i 75), .int (i 76), .int (i 77)] 11 (.int v))) = Wd p q n1 n2 (upd i 75 v) l a b ++ t := rfl
theorem ws_76 {p q n1 n2 : Nat} {i : mm_i} {l : mm_j} {a : mm_a} {b : mm_b} {t : mm_H} {v : Int32} : (Wd p q n1 n2 i l a b ++ t).set 4 (.inr (1, List.set [.ref 5, .ref 6, .ref 7, .ref 8, .ref 9, .ref 10, .ref 11, .ref 12, .ref 13, .ref 14, .int (i 74), .int (i 75), .int (i 76), .int (i 77)] 12 (.int v))) = Wd p q n1 n2 (upd i 76 v) l a b ++ t := rfl
theorem ws_77 {p q n1 n2 : Nat} {i : mm_i} {l : mm_j} {a : mm_a} {b : mm_b} {t : mm_H} {v : Int32} : (Wd p q n1 n2 i l a b ++ t).set 4 (.inr (1, List.set [.ref 5, .ref 6, .ref 7, .ref 8, .ref 9, .ref 10, .ref 11, .ref 12, .ref 13, .ref 14, .int (i 74), .int (i 75), .int (i 76), .int (i 77)] 13 (.int v))) = Wd p q n1 n2 (upd i 77 v) l a b ++ t := rfl
theorem wg_5 {p q n1 n2 : Nat} {i : mm_i} {l : mm_j} {a : mm_a} {b : mm_b} {t : mm_H} : (Wd p q n1 n2 i l a b ++ t)[5]? = some (.inl (.int, (32, .inl (a 5)))) := rfl
theorem wa_5 {p q n1 n2 : Nat} {i : mm_i} {l : mm_j} {a : mm_a} {b : mm_b} {t : mm_H} {f : Nat → Int32} : (Wd p q n1 n2 i l a b ++ t).set 5 (.inl (.int, (32, .inl f))) = Wd p q n1 n2 i l (mm_ua a 5 f) b ++ t := rfl
theorem wg_6 {p q n1 n2 : Nat} {i : mm_i} {l : mm_j} {a : mm_a} {b : mm_b} {t : mm_H} : (Wd p q n1 n2 i l a b ++ t)[6]? = some (.inl (.int, (32, .inl (a 6)))) := rfl
theorem wa_6 {p q n1 n2 : Nat} {i : mm_i} {l : mm_j} {a : mm_a} {b : mm_b} {t : mm_H} {f : Nat → Int32} : (Wd p q n1 n2 i l a b ++ t).set 6 (.inl (.int, (32, .inl f))) = Wd p q n1 n2 i l (mm_ua a 6 f) b ++ t := rfl
theorem wg_7 {p q n1 n2 : Nat} {i : mm_i} {l : mm_j} {a : mm_a} {b : mm_b} {t : mm_H} : (Wd p q n1 n2 i l a b ++ t)[7]? = some (.inl (.int, (32, .inl (a 7)))) := rfl
theorem wa_7 {p q n1 n2 : Nat} {i : mm_i} {l : mm_j} {a : mm_a} {b : mm_b} {t : mm_H} {f : Nat → Int32} : (Wd p q n1 n2 i l a b ++ t).set 7 (.inl (.int, (32, .inl f))) = Wd p q n1 n2 i l (mm_ua a 7 f) b ++ t := rfl
theorem wg_8 {p q n1 n2 : Nat} {i : mm_i} {l : mm_j} {a : mm_a} {b : mm_b} {t : mm_H} : (Wd p q n1 n2 i l a b ++ t)[8]? = some (.inl (.int, (32, .inl (a 8)))) := rfl
theorem wa_8 {p q n1 n2 : Nat} {i : mm_i} {l : mm_j} {a : mm_a} {b : mm_b} {t : mm_H} {f : Nat → Int32} : (Wd p q n1 n2 i l a b ++ t).set 8 (.inl (.int, (32, .inl f))) = Wd p q n1 n2 i l (mm_ua a 8 f) b ++ t := rfl
theorem wg_9 {p q n1 n2 : Nat} {i : mm_i} {l : mm_j} {a : mm_a} {b : mm_b} {t : mm_H} : (Wd p q n1 n2 i l a b ++ t)[9]? = some (.inl (.int, (32, .inl (a 9)))) := rfl
theorem wa_9 {p q n1 n2 : Nat} {i : mm_i} {l : mm_j} {a : mm_a} {b : mm_b} {t : mm_H} {f : Nat → Int32} : (Wd p q n1 n2 i l a b ++ t).set 9 (.inl (.int, (32, .inl f))) = Wd p q n1 n2 i l (mm_ua a 9 f) b ++ t := rfl
theorem wg_10 {p q n1 n2 : Nat} {i : mm_i} {l : mm_j} {a : mm_a} {b : mm_b} {t : mm_H} : (Wd p q n1 n2 i l a b ++ t)[10]? = some (.inl (.int, (32, .inl (a 10)))) := rfl
theorem wa_10 {p q n1 n2 : Nat} {i : mm_i} {l : mm_j} {a : mm_a} {b : mm_b} {t : mm_H} {f : Nat → Int32} : (Wd p q n1 n2 i l a b ++ t).set 10 (.inl (.int, (32, .inl f))) = Wd p q n1 n2 i l (mm_ua a 10 f) b ++ t := rfl
theorem wg_11 {p q n1 n2 : Nat} {i : mm_i} {l : mm_j} {a : mm_a} {b : mm_b} {t : mm_H} : (Wd p q n1 n2 i l a b ++ t)[11]? = some (.inl (.int, (32, .inl (a 11)))) := rfl
theorem wa_11 {p q n1 n2 : Nat} {i : mm_i} {l : mm_j} {a : mm_a} {b : mm_b} {t : mm_H} {f : Nat → Int32} : (Wd p q n1 n2 i l a b ++ t).set 11 (.inl (.int, (32, .inl f))) = Wd p q n1 n2 i l (mm_ua a 11 f) b ++ t := rfl
theorem wg_12 {p q n1 n2 : Nat} {i : mm_i} {l : mm_j} {a : mm_a} {b : mm_b} {t : mm_H} : (Wd p q n1 n2 i l a b ++ t)[12]? = some (.inl (.int, (33, .inl (a 12)))) := rfl
theorem wa_12 {p q n1 n2 : Nat} {i : mm_i} {l : mm_j} {a : mm_a} {b : mm_b} {t : mm_H} {f : Nat → Int32} : (Wd p q n1 n2 i l a b ++ t).set 12 (.inl (.int, (33, .inl f))) = Wd p q n1 n2 i l (mm_ua a 12 f) b ++ t := rfl
theorem wg_13 {p q n1 n2 : Nat} {i : mm_i} {l : mm_j} {a : mm_a} {b : mm_b} {t : mm_H} : (Wd p q n1 n2 i l a b ++ t)[13]? = some (.inl (.int, (33, .inl (a 13)))) := rfl
theorem wa_13 {p q n1 n2 : Nat} {i : mm_i} {l : mm_j} {a : mm_a} {b : mm_b} {t : mm_H} {f : Nat → Int32} : (Wd p q n1 n2 i l a b ++ t).set 13 (.inl (.int, (33, .inl f))) = Wd p q n1 n2 i l (mm_ua a 13 f) b ++ t := rfl
theorem wg_14 {p q n1 n2 : Nat} {i : mm_i} {l : mm_j} {a : mm_a} {b : mm_b} {t : mm_H} : (Wd p q n1 n2 i l a b ++ t)[14]? = some (.inl (.int, (5, .inl (a 14)))) := rfl
theorem wa_14 {p q n1 n2 : Nat} {i : mm_i} {l : mm_j} {a : mm_a} {b : mm_b} {t : mm_H} {f : Nat → Int32} : (Wd p q n1 n2 i l a b ++ t).set 14 (.inl (.int, (5, .inl f))) = Wd p q n1 n2 i l (mm_ua a 14 f) b ++ t := rfl
theorem wg_15 {p q n1 n2 : Nat} {i : mm_i} {l : mm_j} {a : mm_a} {b : mm_b} {t : mm_H} : (Wd p q n1 n2 i l a b ++ t)[15]? = some (.inl (.int, (7, .inl (a 15)))) := rfl
theorem wa_15 {p q n1 n2 : Nat} {i : mm_i} {l : mm_j} {a : mm_a} {b : mm_b} {t : mm_H} {f : Nat → Int32} : (Wd p q n1 n2 i l a b ++ t).set 15 (.inl (.int, (7, .inl f))) = Wd p q n1 n2 i l (mm_ua a 15 f) b ++ t := rfl
theorem wg_16 {p q n1 n2 : Nat} {i : mm_i} {l : mm_j} {a : mm_a} {b : mm_b} {t : mm_H} : (Wd p q n1 n2 i l a b ++ t)[16]? = some (.inl (.int, (7, .inl (a 16)))) := rfl
theorem wa_16 {p q n1 n2 : Nat} {i : mm_i} {l : mm_j} {a : mm_a} {b : mm_b} {t : mm_H} {f : Nat → Int32} : (Wd p q n1 n2 i l a b ++ t).set 16 (.inl (.int, (7, .inl f))) = Wd p q n1 n2 i l (mm_ua a 16 f) b ++ t := rfl
theorem wg_17 {p q n1 n2 : Nat} {i : mm_i} {l : mm_j} {a : mm_a} {b : mm_b} {t : mm_H} : (Wd p q n1 n2 i l a b ++ t)[17]? = some (.inl (.int, (7, .inl (a 17)))) := rfl
theorem wa_17 {p q n1 n2 : Nat} {i : mm_i} {l : mm_j} {a : mm_a} {b : mm_b} {t : mm_H} {f : Nat → Int32} : (Wd p q n1 n2 i l a b ++ t).set 17 (.inl (.int, (7, .inl f))) = Wd p q n1 n2 i l (mm_ua a 17 f) b ++ t := rfl
theorem wg_18 {p q n1 n2 : Nat} {i : mm_i} {l : mm_j} {a : mm_a} {b : mm_b} {t : mm_H} : (Wd p q n1 n2 i l a b ++ t)[18]? = some (.inl (.int, (7, .inl (a 18)))) := rfl
theorem wa_18 {p q n1 n2 : Nat} {i : mm_i} {l : mm_j} {a : mm_a} {b : mm_b} {t : mm_H} {f : Nat → Int32} : (Wd p q n1 n2 i l a b ++ t).set 18 (.inl (.int, (7, .inl f))) = Wd p q n1 n2 i l (mm_ua a 18 f) b ++ t := rfl
theorem wg_19 {p q n1 n2 : Nat} {i : mm_i} {l : mm_j} {a : mm_a} {b : mm_b} {t : mm_H} : (Wd p q n1 n2 i l a b ++ t)[19]? = some (.inr (5, [.ref 20, .ref q, .int (i 306), .ref 33, .ref 41, .int (i 309), .int (i 310), .int (i 311), .int (i 312), .long (l 313), .int (i 314)])) := rfl
theorem ws_305 {p q n1 n2 : Nat} {i : mm_i} {l : mm_j} {a : mm_a} {b : mm_b} {t : mm_H} {v : Nat} : (Wd p q n1 n2 i l a b ++ t).set 19 (.inr (5, List.set [.ref 20, .ref q, .int (i 306), .ref 33, .ref 41, .int (i 309), .int (i 310), .int (i 311), .int (i 312), .long (l 313), .int (i 314)] 1 (.ref v))) = Wd p v n1 n2 i l a b ++ t := rfl
theorem ws_306 {p q n1 n2 : Nat} {i : mm_i} {l : mm_j} {a : mm_a} {b : mm_b} {t : mm_H} {v : Int32} : (Wd p q n1 n2 i l a b ++ t).set 19 (.inr (5, List.set [.ref 20, .ref q, .int (i 306), .ref 33, .ref 41, .int (i 309), .int (i 310), .int (i 311), .int (i 312), .long (l 313), .int (i 314)] 2 (.int v))) = Wd p q n1 n2 (upd i 306 v) l a b ++ t := rfl
theorem ws_309 {p q n1 n2 : Nat} {i : mm_i} {l : mm_j} {a : mm_a} {b : mm_b} {t : mm_H} {v : Int32} : (Wd p q n1 n2 i l a b ++ t).set 19 (.inr (5, List.set [.ref 20, .ref q, .int (i 306), .ref 33, .ref 41, .int (i 309), .int (i 310), .int (i 311), .int (i 312), .long (l 313), .int (i 314)] 5 (.int v))) = Wd p q n1 n2 (upd i 309 v) l a b ++ t := rfl
theorem ws_310 {p q n1 n2 : Nat} {i : mm_i} {l : mm_j} {a : mm_a} {b : mm_b} {t : mm_H} {v : Int32} : (Wd p q n1 n2 i l a b ++ t).set 19 (.inr (5, List.set [.ref 20, .ref q, .int (i 306), .ref 33, .ref 41, .int (i 309), .int (i 310), .int (i 311), .int (i 312), .long (l 313), .int (i 314)] 6 (.int v))) = Wd p q n1 n2 (upd i 310 v) l a b ++ t := rfl
theorem ws_311 {p q n1 n2 : Nat} {i : mm_i} {l : mm_j} {a : mm_a} {b : mm_b} {t : mm_H} {v : Int32} : (Wd p q n1 n2 i l a b ++ t).set 19 (.inr (5, List.set [.ref 20, .ref q, .int (i 306), .ref 33, .ref 41, .int (i 309), .int (i 310), .int (i 311), .int (i 312), .long (l 313), .int (i 314)] 7 (.int v))) = Wd p q n1 n2 (upd i 311 v) l a b ++ t := rfl
theorem ws_312 {p q n1 n2 : Nat} {i : mm_i} {l : mm_j} {a : mm_a} {b : mm_b} {t : mm_H} {v : Int32} : (Wd p q n1 n2 i l a b ++ t).set 19 (.inr (5, List.set [.ref 20, .ref q, .int (i 306), .ref 33, .ref 41, .int (i 309), .int (i 310), .int (i 311), .int (i 312), .long (l 313), .int (i 314)] 8 (.int v))) = Wd p q n1 n2 (upd i 312 v) l a b ++ t := rfl
theorem ws_313 {p q n1 n2 : Nat} {i : mm_i} {l : mm_j} {a : mm_a} {b : mm_b} {t : mm_H} {v : Int64} : (Wd p q n1 n2 i l a b ++ t).set 19 (.inr (5, List.set [.ref 20, .ref q, .int (i 306), .ref 33, .ref 41, .int (i 309), .int (i 310), .int (i 311), .int (i 312), .long (l 313), .int (i 314)] 9 (.long v))) = Wd p q n1 n2 i (vp_updL l 313 v) a b ++ t := rfl
theorem ws_314 {p q n1 n2 : Nat} {i : mm_i} {l : mm_j} {a : mm_a} {b : mm_b} {t : mm_H} {v : Int32} : (Wd p q n1 n2 i l a b ++ t).set 19 (.inr (5, List.set [.ref 20, .ref q, .int (i 306), .ref 33, .ref 41, .int (i 309), .int (i 310), .int (i 311), .int (i 312), .long (l 313), .int (i 314)] 10 (.int v))) = Wd p q n1 n2 (upd i 314 v) l a b ++ t := rfl
theorem wg_20 {p q n1 n2 : Nat} {i : mm_i} {l : mm_j} {a : mm_a} {b : mm_b} {t : mm_H} : (Wd p q n1 n2 i l a b ++ t)[20]? = some (.inr (0, [.ref 21, .int (i 321)])) := rfl
theorem ws_321 {p q n1 n2 : Nat} {i : mm_i} {l : mm_j} {a : mm_a} {b : mm_b} {t : mm_H} {v : Int32} : (Wd p q n1 n2 i l a b ++ t).set 20 (.inr (0, List.set [.ref 21, .int (i 321)] 1 (.int v))) = Wd p q n1 n2 (upd i 321 v) l a b ++ t := rfl
theorem wg_21 {p q n1 n2 : Nat} {i : mm_i} {l : mm_j} {a : mm_a} {b : mm_b} {t : mm_H} : (Wd p q n1 n2 i l a b ++ t)[21]? = some (.inl (.int, (40, .inl (a 21)))) := rfl
theorem wa_21 {p q n1 n2 : Nat} {i : mm_i} {l : mm_j} {a : mm_a} {b : mm_b} {t : mm_H} {f : Nat → Int32} : (Wd p q n1 n2 i l a b ++ t).set 21 (.inl (.int, (40, .inl f))) = Wd p q n1 n2 i l (mm_ua a 21 f) b ++ t := rfl
theorem wg_22 {p q n1 n2 : Nat} {i : mm_i} {l : mm_j} {a : mm_a} {b : mm_b} {t : mm_H} : (Wd p q n1 n2 i l a b ++ t)[22]? = some (.inr (1, [.ref 23, .ref 24, .ref 25, .ref 26, .ref 27, .ref 28, .ref 29, .ref 30, .ref 31, .ref 32, .int (i 362), .int (i 363), .int (i 364), .int (i 365)])) := rfl
theorem ws_362 {p q n1 n2 : Nat} {i : mm_i} {l : mm_j} {a : mm_a} {b : mm_b} {t : mm_H} {v : Int32} : (Wd p q n1 n2 i l a b ++ t).set 22 (.inr (1, List.set [.ref 23, .ref 24, .ref 25, .ref 26, .ref 27, .ref 28, .ref 29, .ref 30, .ref 31, .ref 32, .int (i 362), .int (i 363), .int (i 364), .int (i 365)] 10 (.int v))) = Wd p q n1 n2 (upd i 362 v) l a b ++ t := rfl
theorem ws_363 {p q n1 n2 : Nat} {i : mm_i} {l : mm_j} {a : mm_a} {b : mm_b} {t : mm_H} {v : Int32} : (Wd p q n1 n2 i l a b ++ t).set 22 (.inr (1, List.set [.ref 23, .ref 24, .ref 25, .ref 26, .ref 27, .ref 28, .ref 29, .ref 30, .ref 31, .ref 32, .int (i 362), .int (i 363), .int (i 364), .int (i 365)] 11 (.int v))) = Wd p q n1 n2 (upd i 363 v) l a b ++ t := rfl
theorem ws_364 {p q n1 n2 : Nat} {i : mm_i} {l : mm_j} {a : mm_a} {b : mm_b} {t : mm_H} {v : Int32} : (Wd p q n1 n2 i l a b ++ t).set 22 (.inr (1, List.set [.ref 23, .ref 24, .ref 25, .ref 26, .ref 27, .ref 28, .ref 29, .ref 30, .ref 31, .ref 32, .int (i 362), .int (i 363), .int (i 364), .int (i 365)] 12 (.int v))) = Wd p q n1 n2 (upd i 364 v) l a b ++ t := rfl
theorem ws_365 {p q n1 n2 : Nat} {i : mm_i} {l : mm_j} {a : mm_a} {b : mm_b} {t : mm_H} {v : Int32} : (Wd p q n1 n2 i l a b ++ t).set 22 (.inr (1, List.set [.ref 23, .ref 24, .ref 25, .ref 26, .ref 27, .ref 28, .ref 29, .ref 30, .ref 31, .ref 32, .int (i 362), .int (i 363), .int (i 364), .int (i 365)] 13 (.int v))) = Wd p q n1 n2 (upd i 365 v) l a b ++ t := rfl
theorem wg_23 {p q n1 n2 : Nat} {i : mm_i} {l : mm_j} {a : mm_a} {b : mm_b} {t : mm_H} : (Wd p q n1 n2 i l a b ++ t)[23]? = some (.inl (.int, (32, .inl (a 23)))) := rfl
theorem wa_23 {p q n1 n2 : Nat} {i : mm_i} {l : mm_j} {a : mm_a} {b : mm_b} {t : mm_H} {f : Nat → Int32} : (Wd p q n1 n2 i l a b ++ t).set 23 (.inl (.int, (32, .inl f))) = Wd p q n1 n2 i l (mm_ua a 23 f) b ++ t := rfl
theorem wg_24 {p q n1 n2 : Nat} {i : mm_i} {l : mm_j} {a : mm_a} {b : mm_b} {t : mm_H} : (Wd p q n1 n2 i l a b ++ t)[24]? = some (.inl (.int, (32, .inl (a 24)))) := rfl
theorem wa_24 {p q n1 n2 : Nat} {i : mm_i} {l : mm_j} {a : mm_a} {b : mm_b} {t : mm_H} {f : Nat → Int32} : (Wd p q n1 n2 i l a b ++ t).set 24 (.inl (.int, (32, .inl f))) = Wd p q n1 n2 i l (mm_ua a 24 f) b ++ t := rfl
theorem wg_25 {p q n1 n2 : Nat} {i : mm_i} {l : mm_j} {a : mm_a} {b : mm_b} {t : mm_H} : (Wd p q n1 n2 i l a b ++ t)[25]? = some (.inl (.int, (32, .inl (a 25)))) := rfl
theorem wa_25 {p q n1 n2 : Nat} {i : mm_i} {l : mm_j} {a : mm_a} {b : mm_b} {t : mm_H} {f : Nat → Int32} : (Wd p q n1 n2 i l a b ++ t).set 25 (.inl (.int, (32, .inl f))) = Wd p q n1 n2 i l (mm_ua a 25 f) b ++ t := rfl
theorem wg_26 {p q n1 n2 : Nat} {i : mm_i} {l : mm_j} {a : mm_a} {b : mm_b} {t : mm_H} : (Wd p q n1 n2 i l a b ++ t)[26]? = some (.inl (.int, (32, .inl (a 26)))) := rfl
theorem wa_26 {p q n1 n2 : Nat} {i : mm_i} {l : mm_j} {a : mm_a} {b : mm_b} {t : mm_H} {f : Nat → Int32} : (Wd p q n1 n2 i l a b ++ t).set 26 (.inl (.int, (32, .inl f))) = Wd p q n1 n2 i l (mm_ua a 26 f) b ++ t := rfl
theorem wg_27 {p q n1 n2 : Nat} {i : mm_i} {l : mm_j} {a : mm_a} {b : mm_b} {t : mm_H} : (Wd p q n1 n2 i l a b ++ t)[27]? = some (.inl (.int, (32, .inl (a 27)))) := rfl
theorem wa_27 {p q n1 n2 : Nat} {i : mm_i} {l : mm_j} {a : mm_a} {b : mm_b} {t : mm_H} {f : Nat → Int32} : (Wd p q n1 n2 i l a b ++ t).set 27 (.inl (.int, (32, .inl f))) = Wd p q n1 n2 i l (mm_ua a 27 f) b ++ t := rfl
theorem wg_28 {p q n1 n2 : Nat} {i : mm_i} {l : mm_j} {a : mm_a} {b : mm_b} {t : mm_H} : (Wd p q n1 n2 i l a b ++ t)[28]? = some (.inl (.int, (32, .inl (a 28)))) := rfl
theorem wa_28 {p q n1 n2 : Nat} {i : mm_i} {l : mm_j} {a : mm_a} {b : mm_b} {t : mm_H} {f : Nat → Int32} : (Wd p q n1 n2 i l a b ++ t).set 28 (.inl (.int, (32, .inl f))) = Wd p q n1 n2 i l (mm_ua a 28 f) b ++ t := rfl
theorem wg_29 {p q n1 n2 : Nat} {i : mm_i} {l : mm_j} {a : mm_a} {b : mm_b} {t : mm_H} : (Wd p q n1 n2 i l a b ++ t)[29]? = some (.inl (.int, (32, .inl (a 29)))) := rfl
theorem wa_29 {p q n1 n2 : Nat} {i : mm_i} {l : mm_j} {a : mm_a} {b : mm_b} {t : mm_H} {f : Nat → Int32} : (Wd p q n1 n2 i l a b ++ t).set 29 (.inl (.int, (32, .inl f))) = Wd p q n1 n2 i l (mm_ua a 29 f) b ++ t := rfl
theorem wg_30 {p q n1 n2 : Nat} {i : mm_i} {l : mm_j} {a : mm_a} {b : mm_b} {t : mm_H} : (Wd p q n1 n2 i l a b ++ t)[30]? = some (.inl (.int, (33, .inl (a 30)))) := rfl
theorem wa_30 {p q n1 n2 : Nat} {i : mm_i} {l : mm_j} {a : mm_a} {b : mm_b} {t : mm_H} {f : Nat → Int32} : (Wd p q n1 n2 i l a b ++ t).set 30 (.inl (.int, (33, .inl f))) = Wd p q n1 n2 i l (mm_ua a 30 f) b ++ t := rfl
theorem wg_31 {p q n1 n2 : Nat} {i : mm_i} {l : mm_j} {a : mm_a} {b : mm_b} {t : mm_H} : (Wd p q n1 n2 i l a b ++ t)[31]? = some (.inl (.int, (33, .inl (a 31)))) := rfl
theorem wa_31 {p q n1 n2 : Nat} {i : mm_i} {l : mm_j} {a : mm_a} {b : mm_b} {t : mm_H} {f : Nat → Int32} : (Wd p q n1 n2 i l a b ++ t).set 31 (.inl (.int, (33, .inl f))) = Wd p q n1 n2 i l (mm_ua a 31 f) b ++ t := rfl
theorem wg_32 {p q n1 n2 : Nat} {i : mm_i} {l : mm_j} {a : mm_a} {b : mm_b} {t : mm_H} : (Wd p q n1 n2 i l a b ++ t)[32]? = some (.inl (.int, (5, .inl (a 32)))) := rfl
theorem wa_32 {p q n1 n2 : Nat} {i : mm_i} {l : mm_j} {a : mm_a} {b : mm_b} {t : mm_H} {f : Nat → Int32} : (Wd p q n1 n2 i l a b ++ t).set 32 (.inl (.int, (5, .inl f))) = Wd p q n1 n2 i l (mm_ua a 32 f) b ++ t := rfl
theorem wg_33 {p q n1 n2 : Nat} {i : mm_i} {l : mm_j} {a : mm_a} {b : mm_b} {t : mm_H} : (Wd p q n1 n2 i l a b ++ t)[33]? = some (.inr (3, [.ref 34, .ref 35, .ref 36, .ref 37, .ref 38, .ref 39, .ref 40, .int (i 535)])) := rfl
theorem ws_535 {p q n1 n2 : Nat} {i : mm_i} {l : mm_j} {a : mm_a} {b : mm_b} {t : mm_H} {v : Int32} : (Wd p q n1 n2 i l a b ++ t).set 33 (.inr (3, List.set [.ref 34, .ref 35, .ref 36, .ref 37, .ref 38, .ref 39, .ref 40, .int (i 535)] 7 (.int v))) = Wd p q n1 n2 (upd i 535 v) l a b ++ t := rfl
theorem wg_34 {p q n1 n2 : Nat} {i : mm_i} {l : mm_j} {a : mm_a} {b : mm_b} {t : mm_H} : (Wd p q n1 n2 i l a b ++ t)[34]? = some (.inl (.int, (n1, .inl (a 34)))) := rfl
theorem wa_34 {p q n1 n2 : Nat} {i : mm_i} {l : mm_j} {a : mm_a} {b : mm_b} {t : mm_H} {f : Nat → Int32} : (Wd p q n1 n2 i l a b ++ t).set 34 (.inl (.int, (n1, .inl f))) = Wd p q n1 n2 i l (mm_ua a 34 f) b ++ t := rfl
theorem wg_35 {p q n1 n2 : Nat} {i : mm_i} {l : mm_j} {a : mm_a} {b : mm_b} {t : mm_H} : (Wd p q n1 n2 i l a b ++ t)[35]? = some (.inl (.int, (n1, .inl (a 35)))) := rfl
theorem wa_35 {p q n1 n2 : Nat} {i : mm_i} {l : mm_j} {a : mm_a} {b : mm_b} {t : mm_H} {f : Nat → Int32} : (Wd p q n1 n2 i l a b ++ t).set 35 (.inl (.int, (n1, .inl f))) = Wd p q n1 n2 i l (mm_ua a 35 f) b ++ t := rfl
theorem wg_36 {p q n1 n2 : Nat} {i : mm_i} {l : mm_j} {a : mm_a} {b : mm_b} {t : mm_H} : (Wd p q n1 n2 i l a b ++ t)[36]? = some (.inl (.int, (n1, .inl (a 36)))) := rfl
theorem wa_36 {p q n1 n2 : Nat} {i : mm_i} {l : mm_j} {a : mm_a} {b : mm_b} {t : mm_H} {f : Nat → Int32} : (Wd p q n1 n2 i l a b ++ t).set 36 (.inl (.int, (n1, .inl f))) = Wd p q n1 n2 i l (mm_ua a 36 f) b ++ t := rfl
theorem wg_37 {p q n1 n2 : Nat} {i : mm_i} {l : mm_j} {a : mm_a} {b : mm_b} {t : mm_H} : (Wd p q n1 n2 i l a b ++ t)[37]? = some (.inl (.int, (n1, .inl (a 37)))) := rfl
theorem wa_37 {p q n1 n2 : Nat} {i : mm_i} {l : mm_j} {a : mm_a} {b : mm_b} {t : mm_H} {f : Nat → Int32} : (Wd p q n1 n2 i l a b ++ t).set 37 (.inl (.int, (n1, .inl f))) = Wd p q n1 n2 i l (mm_ua a 37 f) b ++ t := rfl
theorem wg_38 {p q n1 n2 : Nat} {i : mm_i} {l : mm_j} {a : mm_a} {b : mm_b} {t : mm_H} : (Wd p q n1 n2 i l a b ++ t)[38]? = some (.inl (.long, (n1, .inr (.inl (b 38))))) := rfl
theorem wa_38 {p q n1 n2 : Nat} {i : mm_i} {l : mm_j} {a : mm_a} {b : mm_b} {t : mm_H} {f : Nat → Int64} : (Wd p q n1 n2 i l a b ++ t).set 38 (.inl (.long, (n1, .inr (.inl f)))) = Wd p q n1 n2 i l a (mm_ub b 38 f) ++ t := rfl
theorem wg_39 {p q n1 n2 : Nat} {i : mm_i} {l : mm_j} {a : mm_a} {b : mm_b} {t : mm_H} : (Wd p q n1 n2 i l a b ++ t)[39]? = some (.inl (.int, (n1, .inl (a 39)))) := rfl
theorem wa_39 {p q n1 n2 : Nat} {i : mm_i} {l : mm_j} {a : mm_a} {b : mm_b} {t : mm_H} {f : Nat → Int32} : (Wd p q n1 n2 i l a b ++ t).set 39 (.inl (.int, (n1, .inl f))) = Wd p q n1 n2 i l (mm_ua a 39 f) b ++ t := rfl
theorem wg_40 {p q n1 n2 : Nat} {i : mm_i} {l : mm_j} {a : mm_a} {b : mm_b} {t : mm_H} : (Wd p q n1 n2 i l a b ++ t)[40]? = some (.inl (.int, (n1, .inl (a 40)))) := rfl
theorem wa_40 {p q n1 n2 : Nat} {i : mm_i} {l : mm_j} {a : mm_a} {b : mm_b} {t : mm_H} {f : Nat → Int32} : (Wd p q n1 n2 i l a b ++ t).set 40 (.inl (.int, (n1, .inl f))) = Wd p q n1 n2 i l (mm_ua a 40 f) b ++ t := rfl
theorem wg_41 {p q n1 n2 : Nat} {i : mm_i} {l : mm_j} {a : mm_a} {b : mm_b} {t : mm_H} : (Wd p q n1 n2 i l a b ++ t)[41]? = some (.inr (4, [.ref 42, .ref 43, .ref 44, .ref 45, .ref 46, .int (i 661)])) := rfl
theorem ws_661 {p q n1 n2 : Nat} {i : mm_i} {l : mm_j} {a : mm_a} {b : mm_b} {t : mm_H} {v : Int32} : (Wd p q n1 n2 i l a b ++ t).set 41 (.inr (4, List.set [.ref 42, .ref 43, .ref 44, .ref 45, .ref 46, .int (i 661)] 5 (.int v))) = Wd p q n1 n2 (upd i 661 v) l a b ++ t := rfl
theorem wg_42 {p q n1 n2 : Nat} {i : mm_i} {l : mm_j} {a : mm_a} {b : mm_b} {t : mm_H} : (Wd p q n1 n2 i l a b ++ t)[42]? = some (.inl (.int, (n2, .inl (a 42)))) := rfl
theorem wa_42 {p q n1 n2 : Nat} {i : mm_i} {l : mm_j} {a : mm_a} {b : mm_b} {t : mm_H} {f : Nat → Int32} : (Wd p q n1 n2 i l a b ++ t).set 42 (.inl (.int, (n2, .inl f))) = Wd p q n1 n2 i l (mm_ua a 42 f) b ++ t := rfl
theorem wg_43 {p q n1 n2 : Nat} {i : mm_i} {l : mm_j} {a : mm_a} {b : mm_b} {t : mm_H} : (Wd p q n1 n2 i l a b ++ t)[43]? = some (.inl (.int, (n2, .inl (a 43)))) := rfl
theorem wa_43 {p q n1 n2 : Nat} {i : mm_i} {l : mm_j} {a : mm_a} {b : mm_b} {t : mm_H} {f : Nat → Int32} : (Wd p q n1 n2 i l a b ++ t).set 43 (.inl (.int, (n2, .inl f))) = Wd p q n1 n2 i l (mm_ua a 43 f) b ++ t := rfl
theorem wg_44 {p q n1 n2 : Nat} {i : mm_i} {l : mm_j} {a : mm_a} {b : mm_b} {t : mm_H} : (Wd p q n1 n2 i l a b ++ t)[44]? = some (.inl (.int, (n2, .inl (a 44)))) := rfl
theorem wa_44 {p q n1 n2 : Nat} {i : mm_i} {l : mm_j} {a : mm_a} {b : mm_b} {t : mm_H} {f : Nat → Int32} : (Wd p q n1 n2 i l a b ++ t).set 44 (.inl (.int, (n2, .inl f))) = Wd p q n1 n2 i l (mm_ua a 44 f) b ++ t := rfl
theorem wg_45 {p q n1 n2 : Nat} {i : mm_i} {l : mm_j} {a : mm_a} {b : mm_b} {t : mm_H} : (Wd p q n1 n2 i l a b ++ t)[45]? = some (.inl (.long, (n2, .inr (.inl (b 45))))) := rfl
theorem wa_45 {p q n1 n2 : Nat} {i : mm_i} {l : mm_j} {a : mm_a} {b : mm_b} {t : mm_H} {f : Nat → Int64} : (Wd p q n1 n2 i l a b ++ t).set 45 (.inl (.long, (n2, .inr (.inl f)))) = Wd p q n1 n2 i l a (mm_ub b 45 f) ++ t := rfl
theorem wg_46 {p q n1 n2 : Nat} {i : mm_i} {l : mm_j} {a : mm_a} {b : mm_b} {t : mm_H} : (Wd p q n1 n2 i l a b ++ t)[46]? = some (.inl (.int, (n2, .inl (a 46)))) := rfl
theorem wa_46 {p q n1 n2 : Nat} {i : mm_i} {l : mm_j} {a : mm_a} {b : mm_b} {t : mm_H} {f : Nat → Int32} : (Wd p q n1 n2 i l a b ++ t).set 46 (.inl (.int, (n2, .inl f))) = Wd p q n1 n2 i l (mm_ua a 46 f) b ++ t := rfl
