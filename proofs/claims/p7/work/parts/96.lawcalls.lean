/-! what a call does to what both share, and what it answers; LT: draft's length, draft, subject's length, subject, ready pattern, steps, match -/
abbrev LR : Type := Nat → LT → Int32 → LT → Prop
def JC (n1 n2 lim : Nat) (t : LT) (i : mm_i) (l : mm_j) (a : mm_a) (b : mm_b) : Prop := IC n1 n2 lim t.1 t.2.1 t.2.2.1 t.2.2.2.1 t.2.2.2.2.1 t.2.2.2.2.2.1 t.2.2.2.2.2.2 i l a b
def JM (lim : Nat) (t : LT) (i : mm_i) (l : mm_j) (a : mm_a) (b : mm_b) : Prop := IM lim t.1 t.2.1 t.2.2.1 t.2.2.2.1 t.2.2.2.2.1 t.2.2.2.2.2.1 t.2.2.2.2.2.2 i l a b
def R_write (x : Int32) (_lim : Nat) (t : LT) (r : Int32) (t' : LT) : Prop := (¬ yOK x ∧ r = -1 ∧ t' = t) ∨ (yOK x ∧ t.1 = 32 ∧ r = -2 ∧ t' = t) ∨ (yOK x ∧ ¬ t.1 = 32 ∧ r = nI (t.1 + 1) ∧ t' = (t.1 + 1, va_up t.2.1 t.1 x.toNatClampNeg, t.2.2))
def R_feed (x : Int32) (_lim : Nat) (t : LT) (r : Int32) (t' : LT) : Prop := (¬ (97 ≤ x ∧ x ≤ 122) ∧ r = -1 ∧ t' = t) ∨ ((97 ≤ x ∧ x ≤ 122) ∧ t.2.2.1 = 40 ∧ r = -2 ∧ t' = t) ∨ ((97 ≤ x ∧ x ≤ 122) ∧ ¬ t.2.2.1 = 40 ∧ r = nI (t.2.2.1 + 1) ∧ t' = (t.1, t.2.1, t.2.2.1 + 1, va_up t.2.2.2.1 t.2.2.1 x.toNatClampNeg, t.2.2.2.2.1, t.2.2.2.2.2.1, none))
def R_clear (_lim : Nat) (t : LT) (r : Int32) (t' : LT) : Prop := r = nI t.2.2.1 ∧ t' = (t.1, t.2.1, 0, t.2.2.2.1, t.2.2.2.2.1, t.2.2.2.2.2.1, none)
def R_comp (_lim : Nat) (t : LT) (r : Int32) (t' : LT) : Prop := (¬ y_good t.2.1 t.1 ∧ r = -3 ∧ t' = (0, t.2)) ∨ (y_good t.2.1 t.1 ∧ ¬ y_m0 t.2.1 t.1 ≤ 60 ∧ r = -2 ∧ t' = (0, t.2)) ∨ (y_good t.2.1 t.1 ∧ y_m0 t.2.1 t.1 ≤ 60 ∧ r = nI (x_gc t.2.1 t.1 t.1) ∧ t' = (0, t.2.1, t.2.2.1, t.2.2.2.1, some (t.1, t.2.1), t.2.2.2.2.2.1, none))
def c_cnt (x : Int32) (t : LT) : Int32 := if x = 0 then nI t.1 else if x = 1 then nI t.2.2.1 else if x = 2 then c_gn t.2.2.2.2.1 else if x = 3 then c_sn t.2.2.2.2.1 else -1
def R_count (x : Int32) (_lim : Nat) (t : LT) (r : Int32) (t' : LT) : Prop := r = c_cnt x t ∧ t' = t
def R_steps (_lim : Nat) (t : LT) (r : Int32) (t' : LT) : Prop := r = nI t.2.2.2.2.2.1 ∧ t' = t
/-- the state behind a search from s -/
def c_aft (lim : Nat) (t : LT) (p : Nat × (Nat → Nat)) (s : Nat) : LT := (t.1, t.2.1, t.2.2.1, t.2.2.2.1, t.2.2.2.2.1, (s_fnd lim p t.2.2.2.1 t.2.2.1 s).2.1, (s_fnd lim p t.2.2.2.1 t.2.2.1 s).2.2)
def R_search (x : Int32) (lim : Nat) (t : LT) (r : Int32) (t' : LT) : Prop := ((t.2.2.2.2.1 = none ∨ ¬ (0 ≤ x ∧ x ≤ nI t.2.2.1)) ∧ r = -1 ∧ t' = t) ∨ (∃ p s, t.2.2.2.2.1 = some p ∧ s ≤ t.2.2.1 ∧ t.2.2.1 ≤ 40 ∧ x = nI s ∧ r = (s_fnd lim p t.2.2.2.1 t.2.2.1 s).1 ∧ t' = c_aft lim t p s)
def R_again (lim : Nat) (t : LT) (r : Int32) (t' : LT) : Prop := ((∀ z, t.2.2.2.2.2.2 = some z → t.2.2.1 < s_nx z) ∧ r = -4 ∧ t' = (t.1, t.2.1, t.2.2.1, t.2.2.2.1, t.2.2.2.2.1, 0, none)) ∨ (∃ z p, t.2.2.2.2.2.2 = some z ∧ t.2.2.2.2.1 = some p ∧ s_nx z ≤ t.2.2.1 ∧ r = (s_fnd lim p t.2.2.2.1 t.2.2.1 (s_nx z)).1 ∧ t' = c_aft lim t p (s_nx z))
def R_matches (lim : Nat) (t : LT) (r : Int32) (t' : LT) : Prop := (t.2.2.2.2.1 = none ∧ r = -1 ∧ t' = t) ∨ (∃ p, t.2.2.2.2.1 = some p ∧ r = (s_mt lim p t.2.2.2.1 t.2.2.1 42 0 0 t.2.2.2.2.2.1).1 ∧ t' = (t.1, t.2.1, t.2.2.1, t.2.2.2.1, t.2.2.2.2.1, (s_mt lim p t.2.2.2.1 t.2.2.1 42 0 0 t.2.2.2.2.2.1).2, none))
def R_any (_lim : Nat) (t : LT) (_r : Int32) (t' : LT) : Prop := t' = t
def R_det (R : LR) : Prop := ∀ lim t r r2 t1 t2, R lim t r t1 → R lim t r2 t2 → t1 = t2
def R_ans (R : LR) : Prop := ∀ lim t r r2 t1 t2, R lim t r t1 → R lim t r2 t2 → r = r2
theorem det_write {x : Int32} : R_det (R_write x) ∧ R_ans (R_write x) := by
  refine ⟨fun lim t r r2 t1 t2 h1 h2 => ?_, fun lim t r r2 t1 t2 h1 h2 => ?_⟩ <;> rcases h1 with h1 | h1 | h1 <;> rcases h2 with h2 | h2 | h2
  all_goals first | exact absurd h2.1 h1.1 | exact absurd h1.1 h2.1 | exact absurd h1.2.1 h2.2.1 | exact absurd h2.2.1 h1.2.1 | exact h1.2.2.trans h2.2.2.symm | exact h1.2.2.2.trans h2.2.2.2.symm | exact h1.2.1.trans h2.2.1.symm | exact h1.2.2.1.trans h2.2.2.1.symm
theorem det_feed {x : Int32} : R_det (R_feed x) ∧ R_ans (R_feed x) := by
  refine ⟨fun lim t r r2 t1 t2 h1 h2 => ?_, fun lim t r r2 t1 t2 h1 h2 => ?_⟩ <;> rcases h1 with h1 | h1 | h1 <;> rcases h2 with h2 | h2 | h2
  all_goals first | exact absurd h2.1 h1.1 | exact absurd h1.1 h2.1 | exact absurd h1.2.1 h2.2.1 | exact absurd h2.2.1 h1.2.1 | exact h1.2.2.trans h2.2.2.symm | exact h1.2.2.2.trans h2.2.2.2.symm | exact h1.2.1.trans h2.2.1.symm | exact h1.2.2.1.trans h2.2.2.1.symm
theorem det_comp : R_det R_comp ∧ R_ans R_comp := by
  refine ⟨fun lim t r r2 t1 t2 h1 h2 => ?_, fun lim t r r2 t1 t2 h1 h2 => ?_⟩ <;> rcases h1 with h1 | h1 | h1 <;> rcases h2 with h2 | h2 | h2
  all_goals first | exact absurd h2.1 h1.1 | exact absurd h1.1 h2.1 | exact absurd h1.2.1 h2.2.1 | exact absurd h2.2.1 h1.2.1 | exact h1.2.2.trans h2.2.2.symm | exact h1.2.2.2.trans h2.2.2.2.symm | exact h1.2.1.trans h2.2.1.symm | exact h1.2.2.1.trans h2.2.2.1.symm
theorem det_clear : R_det R_clear ∧ R_ans R_clear := ⟨fun lim t r r2 t1 t2 h1 h2 => h1.2.trans h2.2.symm, fun lim t r r2 t1 t2 h1 h2 => h1.1.trans h2.1.symm⟩
theorem det_count {x : Int32} : R_det (R_count x) ∧ R_ans (R_count x) := ⟨fun lim t r r2 t1 t2 h1 h2 => h1.2.trans h2.2.symm, fun lim t r r2 t1 t2 h1 h2 => h1.1.trans h2.1.symm⟩
theorem det_steps : R_det R_steps ∧ R_ans R_steps := ⟨fun lim t r r2 t1 t2 h1 h2 => h1.2.trans h2.2.symm, fun lim t r r2 t1 t2 h1 h2 => h1.1.trans h2.1.symm⟩
theorem both_search {x : Int32} {lim : Nat} {t : LT} {r r2 : Int32} {t1 t2 : LT} (h1 : R_search x lim t r t1) (h2 : R_search x lim t r2 t2) : t1 = t2 ∧ r = r2 := by
  have no : ∀ {p : Nat × (Nat → Nat)} {s : Nat}, t.2.2.2.2.1 = some p → s ≤ t.2.2.1 → t.2.2.1 ≤ 40 → x = nI s → ¬ (t.2.2.2.2.1 = none ∨ ¬ (0 ≤ x ∧ x ≤ nI t.2.2.1)) := by
    intro p s a1 a2 a3 a4 w
    rcases w with w | w
    · rw [a1] at w; cases w
    · exact w ⟨by rw [a4]; exact nI_pos' (by omega), by rw [a4]; exact (nI_leI (by omega) (by omega)).mpr a2⟩
  rcases h1 with ⟨a1, a2, a3⟩ | ⟨p, s, a1, a2, a3, a4, a5, a6⟩ <;> rcases h2 with ⟨b1, b2, b3⟩ | ⟨p', s', b1, b2, b3, b4, b5, b6⟩
  · exact ⟨a3.trans b3.symm, a2.trans b2.symm⟩
  · exact absurd a1 (no b1 b2 b3 b4)
  · exact absurd b1 (no a1 a2 a3 a4)
  · have ep : p = p' := Option.some.inj (a1.symm.trans b1)
    have es : s = s' := (nI_eq (by omega) (by omega)).mp (a4.symm.trans b4)
    subst ep; subst es
    exact ⟨a6.trans b6.symm, a5.trans b5.symm⟩
theorem det_search {x : Int32} : R_det (R_search x) ∧ R_ans (R_search x) := ⟨fun lim t r r2 t1 t2 h1 h2 => (both_search h1 h2).1, fun lim t r r2 t1 t2 h1 h2 => (both_search h1 h2).2⟩
theorem both_again {lim : Nat} {t : LT} {r r2 : Int32} {t1 t2 : LT} (h1 : R_again lim t r t1) (h2 : R_again lim t r2 t2) : t1 = t2 ∧ r = r2 := by
  rcases h1 with ⟨a1, a2, a3⟩ | ⟨z, p, a1, a2, a3, a4, a5⟩ <;> rcases h2 with ⟨b1, b2, b3⟩ | ⟨z', p', b1, b2, b3, b4, b5⟩
  · exact ⟨a3.trans b3.symm, a2.trans b2.symm⟩
  · exact absurd (a1 _ b1) (by omega)
  · exact absurd (b1 _ a1) (by omega)
  · have ez : z = z' := Option.some.inj (a1.symm.trans b1)
    have ep : p = p' := Option.some.inj (a2.symm.trans b2)
    subst ez; subst ep
    exact ⟨a5.trans b5.symm, a4.trans b4.symm⟩
theorem det_again : R_det R_again ∧ R_ans R_again := ⟨fun lim t r r2 t1 t2 h1 h2 => (both_again h1 h2).1, fun lim t r r2 t1 t2 h1 h2 => (both_again h1 h2).2⟩
theorem both_matches {lim : Nat} {t : LT} {r r2 : Int32} {t1 t2 : LT} (h1 : R_matches lim t r t1) (h2 : R_matches lim t r2 t2) : t1 = t2 ∧ r = r2 := by
  rcases h1 with ⟨a1, a2, a3⟩ | ⟨p, a1, a2, a3⟩ <;> rcases h2 with ⟨b1, b2, b3⟩ | ⟨p', b1, b2, b3⟩
  · exact ⟨a3.trans b3.symm, a2.trans b2.symm⟩
  · rw [a1] at b1; cases b1
  · rw [b1] at a1; cases a1
  · have ep : p = p' := Option.some.inj (a1.symm.trans b1)
    subst ep
    exact ⟨a3.trans b3.symm, a2.trans b2.symm⟩
theorem det_matches : R_det R_matches ∧ R_ans R_matches := ⟨fun lim t r r2 t1 t2 h1 h2 => (both_matches h1 h2).1, fun lim t r r2 t1 t2 h1 h2 => (both_matches h1 h2).2⟩
theorem det_any : R_det R_any := fun lim t r r2 t1 t2 h1 h2 => h1.trans h2.symm
theorem cnt_0 {x : Int32} {t : LT} (h : x = 0) : nI t.1 = c_cnt x t := (if_pos h).symm
theorem cnt_1 {x : Int32} {t : LT} (h : x = 1) : nI t.2.2.1 = c_cnt x t := by subst h; rfl
theorem cnt_2 {x : Int32} {t : LT} (h : x = 2) : c_gn t.2.2.2.2.1 = c_cnt x t := by subst h; rfl
theorem cnt_3 {x : Int32} {t : LT} (h : x = 3) : c_sn t.2.2.2.2.1 = c_cnt x t := by subst h; rfl
theorem cnt_4 {x : Int32} {t : LT} (h : ¬ (0 ≤ x ∧ x ≤ 3)) : -1 = c_cnt x t := by
  unfold c_cnt
  rw [if_neg (fun w => h (by rw [w]; decide)), if_neg (fun w => h (by rw [w]; decide)), if_neg (fun w => h (by rw [w]; decide)), if_neg (fun w => h (by rw [w]; decide))]
def cC (y : MethodName) (M' : mm_M) (d' : Nat) (av : List Value) (R : LR) : Prop := ∀ (n1 n2 lim : Nat) (t : LT) (i : mm_i) (l : mm_j) (a : mm_a) (b : mm_b), JC n1 n2 lim t i l a b → mm_Ct y M' d' 0 0 (.ref 0 :: av) (Wd 4 22 n1 n2 i l a b) (fun v w => ∃ r i' l' a' b' t', v = some (.int r) ∧ R lim t r t' ∧ ((w = Wd 4 22 n1 n2 i' l' a' b' ∧ JC n1 n2 lim t' i' l' a' b') ∨ (w = Wd 22 4 n1 n2 i' l' a' b' ∧ JC n1 n2 lim t' (sw_i i') l' (sw_a a') b')))
def cM (y : MethodName) (M' : mm_M) (d' : Nat) (av : List Value) (R : LR) : Prop := ∀ (lim : Nat) (t : LT) (i : mm_i) (l : mm_j) (a : mm_a) (b : mm_b), JM lim t i l a b → mm_Ct y M' d' 0 0 (.ref 0 :: av) (Wm i l a b) (fun v w => ∃ r i' l' a' b' t', v = some (.int r) ∧ R lim t r t' ∧ w = Wm i' l' a' b' ∧ JM lim t' i' l' a' b')
theorem cC_of {y : MethodName} {M' : mm_M} {d' : Nat} {av : List Value} {R : LR} (h : ∀ (n1 n2 lim : Nat) (t : LT) (i : mm_i) (l : mm_j) (a : mm_a) (b : mm_b), JC n1 n2 lim t i l a b → mm_Ct y M' d' 0 0 (.ref 0 :: av) (Wd 4 22 n1 n2 i l a b ++ []) (mm_PI n1 n2 [] (fun r i' l' a' b' => ∃ t', R lim t r t' ∧ JC n1 n2 lim t' i' l' a' b'))) : cC y M' d' av R := by
  intro n1 n2 lim t i l a b hI
  have h1 := h n1 n2 lim t i l a b hI
  rw [List.append_nil] at h1
  refine h1.imp (fun v w hv => ?_)
  obtain ⟨r, i', l', a', b', e1, e2, t', q1, q2⟩ := hv
  exact ⟨r, i', l', a', b', t', e1, q1, Or.inl ⟨by rw [e2, List.append_nil], q2⟩⟩
theorem cM_of {y : MethodName} {M' : mm_M} {d' : Nat} {av : List Value} {R : LR} (h : ∀ (lim : Nat) (t : LT) (i : mm_i) (l : mm_j) (a : mm_a) (b : mm_b), JM lim t i l a b → mm_Ct y M' d' 0 0 (.ref 0 :: av) (Wm i l a b ++ []) (mx_PI [] (fun r i' l' a' b' => ∃ t', R lim t r t' ∧ JM lim t' i' l' a' b'))) : cM y M' d' av R := by
  intro lim t i l a b hI
  have h1 := h lim t i l a b hI
  rw [List.append_nil] at h1
  refine h1.imp (fun v w hv => ?_)
  obtain ⟨r, i', l', a', b', e1, e2, t', q1, q2⟩ := hv
  exact ⟨r, i', l', a', b', t', e1, q1, by rw [e2, List.append_nil], q2⟩
theorem lk_C_write (x : Int32) : cC y_Bench_write M_Bench_write 5 [.int x] (R_write x) := cC_of (fun n1 n2 lim t i l a b hI => ct_Bench_write_0 (t := []) (cm_write hI (fun q => ⟨t, Or.inl ⟨q, rfl, rfl⟩, hI⟩) (fun q q2 => ⟨t, Or.inr (Or.inl ⟨q, q2, rfl, rfl⟩), hI⟩) (fun q q2 i' a' hI => ⟨_, Or.inr (Or.inr ⟨q, q2, rfl, rfl⟩), hI⟩)))
theorem lk_M_write (x : Int32) : cM y_Model_write M_Model_write 2 [.int x] (R_write x) := cM_of (fun lim t i l a b hI => ct_Model_write_0 (t := []) (xm_write hI (fun q => ⟨t, Or.inl ⟨q, rfl, rfl⟩, hI⟩) (fun q q2 => ⟨t, Or.inr (Or.inl ⟨q, q2, rfl, rfl⟩), hI⟩) (fun q q2 i' a' hI => ⟨_, Or.inr (Or.inr ⟨q, q2, rfl, rfl⟩), hI⟩)))
theorem lk_C_compile : cC y_Bench_compile M_Bench_compile 6 [] R_comp := by
  intro n1 n2 lim t i l a b hI
  have h1 := ct_Bench_compile_0 (t := []) (cm_compile (K := fun r i' l' a' b' => ∃ t', R_comp lim t r t' ∧ JC n1 n2 lim t' i' l' a' b') (K2 := fun r i' l' a' b' => ∃ t', R_comp lim t r t' ∧ JC n1 n2 lim t' (sw_i i') l' (sw_a a') b') hI (fun q i' l' a' h' => ⟨_, Or.inl ⟨q, rfl, rfl⟩, h'⟩) (fun q q2 i' l' a' h' => ⟨_, Or.inr (Or.inl ⟨q, q2, rfl, rfl⟩), h'⟩) (fun q q2 i' l' a' h' => ⟨_, Or.inr (Or.inr ⟨q, q2, rfl, rfl⟩), h'⟩))
  rw [List.append_nil] at h1
  refine h1.imp (fun v w hv => ?_)
  rcases hv with ⟨r, i', l', a', b', e1, e2, t', q1, q⟩ | ⟨r, i', l', a', b', e1, e2, t', q1, q⟩
  · exact ⟨r, i', l', a', b', t', e1, q1, Or.inl ⟨by rw [e2, List.append_nil], q⟩⟩
  · exact ⟨r, i', l', a', b', t', e1, q1, Or.inr ⟨by rw [e2, List.append_nil], q⟩⟩
theorem lk_M_compile : cM y_Model_compile M_Model_compile 5 [] R_comp := cM_of (fun lim t i l a b hI => ct_Model_compile_0 (t := []) (xm_compile hI (fun q i' l' a' h' => ⟨_, Or.inl ⟨q, rfl, rfl⟩, h'⟩) (fun q q2 i' l' a' h' => ⟨_, Or.inr (Or.inl ⟨q, q2, rfl, rfl⟩), h'⟩) (fun q q2 i' l' a' h' => ⟨_, Or.inr (Or.inr ⟨q, q2, rfl, rfl⟩), h'⟩)))
theorem lk_C_feed (x : Int32) : cC y_Bench_feed M_Bench_feed 2 [.int x] (R_feed x) := cC_of (fun n1 n2 lim t i l a b hI => ct_Bench_feed_0 (t := []) (cm_feed hI (fun q => ⟨t, Or.inl ⟨q, rfl, rfl⟩, hI⟩) (fun q q2 => ⟨t, Or.inr (Or.inl ⟨q, q2, rfl, rfl⟩), hI⟩) (fun q q2 i' a' hI => ⟨_, Or.inr (Or.inr ⟨q, q2, rfl, rfl⟩), hI⟩)))
theorem lk_M_feed (x : Int32) : cM y_Model_feed M_Model_feed 2 [.int x] (R_feed x) := cM_of (fun lim t i l a b hI => ct_Model_feed_0 (t := []) (xm_feed hI (fun q => ⟨t, Or.inl ⟨q, rfl, rfl⟩, hI⟩) (fun q q2 => ⟨t, Or.inr (Or.inl ⟨q, q2, rfl, rfl⟩), hI⟩) (fun q q2 i' a' hI => ⟨_, Or.inr (Or.inr ⟨q, q2, rfl, rfl⟩), hI⟩)))
theorem lk_C_clear : cC y_Bench_clear M_Bench_clear 0 [] R_clear := cC_of (fun n1 n2 lim t i l a b hI => ct_Bench_clear_0 (t := []) (cm_clear hI (fun i' h' => ⟨_, ⟨rfl, rfl⟩, h'⟩)))
theorem lk_M_clear : cM y_Model_clear M_Model_clear 0 [] R_clear := cM_of (fun lim t i l a b hI => ct_Model_clear_0 (t := []) (xm_clear hI (fun i' h' => ⟨_, ⟨rfl, rfl⟩, h'⟩)))
theorem lk_C_search (x : Int32) : cC y_Bench_search M_Bench_search 6 [.int x] (R_search x) := cC_of (fun n1 n2 lim t i l a b hI => ct_Bench_search_0 (t := []) (cm_search hI (fun q => ⟨t, Or.inl ⟨q, rfl, rfl⟩, hI⟩) (fun p s q hs e i' l' a' b' y => ⟨_, Or.inr ⟨p, s, q, hs, (IC_p hI).1, e, rfl, rfl⟩, y⟩)))
theorem lk_M_search (x : Int32) : cM y_Model_search M_Model_search 7 [.int x] (R_search x) := cM_of (fun lim t i l a b hI => ct_Model_search_0 (t := []) (xm_search hI (fun q => ⟨t, Or.inl ⟨q, rfl, rfl⟩, hI⟩) (fun p s q hs e i' l' b' y => ⟨_, Or.inr ⟨p, s, q, hs, (IM_p hI).1, e, rfl, rfl⟩, y⟩)))
theorem lk_C_again : cC y_Bench_again M_Bench_again 6 [] R_again := cC_of (fun n1 n2 lim t i l a b hI => ct_Bench_again_0 (t := []) (cm_again hI (fun q i' y => ⟨_, Or.inl ⟨q, rfl, rfl⟩, y⟩) (fun z p q q2 q3 i' l' a' b' y => ⟨_, Or.inr ⟨z, p, q, q2, q3, rfl, rfl⟩, y⟩)))
theorem lk_M_again : cM y_Model_again M_Model_again 7 [] R_again := cM_of (fun lim t i l a b hI => ct_Model_again_0 (t := []) (xm_again hI (fun q i' y => ⟨_, Or.inl ⟨q, rfl, rfl⟩, y⟩) (fun z p q q2 q3 i' l' b' y => ⟨_, Or.inr ⟨z, p, q, q2, q3, rfl, rfl⟩, y⟩)))
theorem lk_C_start (x : Int32) : cC y_Bench_start M_Bench_start 1 [.int x] R_any := cC_of (fun n1 n2 lim t i l a b hI => ct_Bench_start_0 (t := []) (cm_start hI (fun ans => ⟨t, rfl, hI⟩)))
theorem lk_M_start (x : Int32) : cM y_Model_start M_Model_start 2 [.int x] R_any := cM_of (fun lim t i l a b hI => ct_Model_start_0 (t := []) (xm_start hI (fun ans => ⟨t, rfl, hI⟩)))
theorem lk_C_end (x : Int32) : cC y_Bench_end M_Bench_end 1 [.int x] R_any := cC_of (fun n1 n2 lim t i l a b hI => ct_Bench_end_0 (t := []) (cm_end hI (fun ans => ⟨t, rfl, hI⟩)))
theorem lk_M_end (x : Int32) : cM y_Model_end M_Model_end 2 [.int x] R_any := cM_of (fun lim t i l a b hI => ct_Model_end_0 (t := []) (xm_end hI (fun ans => ⟨t, rfl, hI⟩)))
theorem lk_C_steps : cC y_Bench_steps M_Bench_steps 0 [] R_steps := cC_of (fun n1 n2 lim t i l a b hI => ct_Bench_steps_0 (t := []) (cm_steps hI ⟨t, ⟨rfl, rfl⟩, hI⟩))
theorem lk_M_steps : cM y_Model_steps M_Model_steps 0 [] R_steps := cM_of (fun lim t i l a b hI => ct_Model_steps_0 (t := []) (xm_steps hI ⟨t, ⟨rfl, rfl⟩, hI⟩))
theorem lk_C_matches : cC y_Bench_matches M_Bench_matches 6 [] R_matches := cC_of (fun n1 n2 lim t i l a b hI => ct_Bench_matches_0 (t := []) (cm_matches hI (fun q => ⟨t, Or.inl ⟨q, rfl, rfl⟩, hI⟩) (fun p q i' l' a' b' y => ⟨_, Or.inr ⟨p, q, rfl, rfl⟩, y⟩)))
theorem lk_M_matches : cM y_Model_matches M_Model_matches 7 [] R_matches := cM_of (fun lim t i l a b hI => ct_Model_matches_0 (t := []) (xm_matches hI (fun q => ⟨t, Or.inl ⟨q, rfl, rfl⟩, hI⟩) (fun p q i' l' b' y => ⟨_, Or.inr ⟨p, q, rfl, rfl⟩, y⟩)))
theorem lk_C_count (x : Int32) : cC y_Bench_count M_Bench_count 0 [.int x] (R_count x) := cC_of (fun n1 n2 lim t i l a b hI => ct_Bench_count_0 (t := []) (cm_count hI (fun w => ⟨t, ⟨cnt_0 w, rfl⟩, hI⟩) (fun w => ⟨t, ⟨cnt_1 w, rfl⟩, hI⟩) (fun w => ⟨t, ⟨cnt_2 w, rfl⟩, hI⟩) (fun w => ⟨t, ⟨cnt_3 w, rfl⟩, hI⟩) (fun w => ⟨t, ⟨cnt_4 w, rfl⟩, hI⟩)))
theorem lk_M_count (x : Int32) : cM y_Model_count M_Model_count 1 [.int x] (R_count x) := cM_of (fun lim t i l a b hI => ct_Model_count_0 (t := []) (xm_count hI (fun w => ⟨t, ⟨cnt_0 w, rfl⟩, hI⟩) (fun w => ⟨t, ⟨cnt_1 w, rfl⟩, hI⟩) (fun w => ⟨t, ⟨cnt_2 w, rfl⟩, hI⟩) (fun w => ⟨t, ⟨cnt_3 w, rfl⟩, hI⟩) (fun w => ⟨t, ⟨cnt_4 w, rfl⟩, hI⟩)))
/-- both objects in the heap, each with its own state -/
def lws (s : State) (D : va_G) (cA : FieldType → ClassId) (n1 n2 lim q1 q2 : Nat) (tC tM : LT) (H : Heap) : Prop := ∃ i l a b im lm am bm ρ1 ws1 ρ2 ws2, JC n1 n2 lim tC i l a b ∧ JM lim tM im lm am bm ∧ la_w D cA (la_A s) ρ1 (Wd 4 22 n1 n2 i l a b) ws1 H ∧ la_w D cA (la_A s) ρ2 (Wm im lm am bm) ws2 H ∧ la_dis ws1 ws2 ∧ ρ1[0]? = some q1 ∧ ρ2[0]? = some q2
section LC
variable {p : Program} {e : Env} {s : State} {m : MethodId} {below : List Frame} {meth : Method} {c : Code} {l : Launch} {b L : Nat} {xs : Nat → Int32} {D : va_G} {cA : FieldType → ClassId} {Q : State → Prop} {H : Heap} {locs : List Loc} {ls : Array Slot} {cells slots pc idx n d' : Nat} {y : MethodName} {M' : mm_M} {av r' : List Value} {R : LR} {n1 n2 lim q1 q2 : Nat} {tC tM : LT}
theorem lc_class (C0 : lw_At p s m meth c b L xs) (hC : la_C s b D cA) (hct : cC y M' d' av R) (hd : decode code pc = .ok (.invokevirtual idx, 3)) (hM : mm_okM y M' n) (hlk : Cond.methodLink R_law idx y ∈ mm_T) (hd1 : d' < 11) (hn : av.length = n) (hr8 : (r'.map fun v => v.category).sum ≤ 8) (hi : Cond.instanceMethod y ∈ mm_T ∧ Cond.selects y.cls y y ∈ mm_T) (hcl : y.cls = r_Bench) (hls : ls.size = 4) (hav : ∀ ρ, mm_vs ρ av av) (hcs : cells ≤ 600000 ∧ slots ≤ 7302250) (hL : lws s D cA n1 n2 lim q1 q2 tC tM H) (hS : va_S (la_A s) s.heap H locs)
    (k : ∀ r t2 H' locs', R lim tC r t2 → lws s D cA n1 n2 lim q1 q2 t2 tM H' → va_S (la_A s) s.heap H' locs' → W p l e room_1 s m #[Value.ref b] below meth c H' locs' cells slots Q (F0 m (pc + 3) ls (.int r :: r'))) : W p l e room_1 s m #[Value.ref b] below meth c H locs cells slots Q (F0 m pc ls (av.reverse ++ .ref q1 :: r')) := by
  obtain ⟨i, lj, a, bb, im, lm, am, bm, ρ1, ws1, ρ2, ws2, hI, hJ, hw1, hw2, hdis, hq1, hq2⟩ := hL
  refine la_callV C0 hC (ci := 6) (a := 0) hd hM hlk hd1 hn hr8 hi (by rfl) (by rw [hcl]; rfl) (hct n1 n2 lim tC i lj a bb hI) hls hw1 hw2.2.1 hdis hS hq1 (hav ρ1) hcs (fun v v' w' ρ' ws' H' locs' hp hov hpre hw' hPo' hdis' hS' => ?_)
  obtain ⟨r, i', l', a', b', t2, e1, e2, e3⟩ := hp
  subst e1
  obtain ⟨v2, e4, e5⟩ := hov
  have e5 : v2 = .int r := e5
  subst e4; subst e5
  have hq1' : ρ'[0]? = some q1 := by rw [hpre 0 (Nat.zero_lt_succ _)]; exact hq1
  rcases e3 with ⟨f1, f2⟩ | ⟨f1, f2⟩
  · rw [f1] at hw'
    exact k r t2 H' locs' e2 ⟨i', l', a', b', im, lm, am, bm, ρ', ws', ρ2, ws2, f2, hJ, hw', ⟨hw2.1, hPo', hw2.2.2⟩, hdis', hq1', hq2⟩ hS'
  · rw [f1] at hw'
    obtain ⟨ρ3, ws3, g1, g2, g3⟩ := la_sw hw' hdis' hq1'
    exact k r t2 H' locs' e2 ⟨_, _, _, _, im, lm, am, bm, ρ3, ws3, ρ2, ws2, f2, hJ, g1, ⟨hw2.1, hPo', hw2.2.2⟩, g2, g3, hq2⟩ hS'
theorem la_dis_sy {ws wo : va_W} (h : la_dis ws wo) : la_dis wo ws := fun i j x y hx hy he => h j i y x hy hx he.symm
theorem lc_model (C0 : lw_At p s m meth c b L xs) (hC : la_C s b D cA) (hct : cM y M' d' av R) (hd : decode code pc = .ok (.invokevirtual idx, 3)) (hM : mm_okM y M' n) (hlk : Cond.methodLink R_law idx y ∈ mm_T) (hd1 : d' < 11) (hn : av.length = n) (hr8 : (r'.map fun v => v.category).sum ≤ 8) (hi : Cond.instanceMethod y ∈ mm_T ∧ Cond.selects y.cls y y ∈ mm_T) (hcl : y.cls = r_Model) (hls : ls.size = 4) (hav : ∀ ρ, mm_vs ρ av av) (hcs : cells ≤ 600000 ∧ slots ≤ 7302250) (hL : lws s D cA n1 n2 lim q1 q2 tC tM H) (hS : va_S (la_A s) s.heap H locs)
    (k : ∀ r t2 H' locs', R lim tM r t2 → lws s D cA n1 n2 lim q1 q2 tC t2 H' → va_S (la_A s) s.heap H' locs' → W p l e room_1 s m #[Value.ref b] below meth c H' locs' cells slots Q (F0 m (pc + 3) ls (.int r :: r'))) : W p l e room_1 s m #[Value.ref b] below meth c H locs cells slots Q (F0 m pc ls (av.reverse ++ .ref q2 :: r')) := by
  obtain ⟨i, lj, a, bb, im, lm, am, bm, ρ1, ws1, ρ2, ws2, hI, hJ, hw1, hw2, hdis, hq1, hq2⟩ := hL
  refine la_callV C0 hC (ci := 7) (a := 0) hd hM hlk hd1 hn hr8 hi (by rfl) (by rw [hcl]; rfl) (hct lim tM im lm am bm hJ) hls hw2 hw1.2.1 (la_dis_sy hdis) hS hq2 (hav ρ2) hcs (fun v v' w' ρ' ws' H' locs' hp hov hpre hw' hPo' hdis' hS' => ?_)
  obtain ⟨r, i', l', a', b', t2, e1, e2, e3, e6⟩ := hp
  subst e1
  obtain ⟨v2, e4, e5⟩ := hov
  have e5 : v2 = .int r := e5
  subst e4; subst e5
  have hq2' : ρ'[0]? = some q2 := by rw [hpre 0 (Nat.zero_lt_succ _)]; exact hq2
  rw [e3] at hw'
  exact k r t2 H' locs' e2 ⟨i, lj, a, bb, i', l', a', b', ρ1, ws1, ρ', ws', hI, e6, ⟨hw1.1, hPo', hw1.2.2⟩, hw', la_dis_sy hdis', hq1, hq2'⟩ hS'
end LC
/-! the law's own cell -/
def y_cell : MethodName := ⟨"PatternBenchLaw", "cell", "([II)I"⟩
def M_cell : mm_M := ("PatternBenchLaw", method_2_code, 2, false, some .int)
theorem ok_cell : mm_okM y_cell M_cell 2 := ⟨tw_678, tw_0, by decide +kernel, by decide +kernel, by decide +kernel⟩
set_option maxHeartbeats 4000000 in
set_option maxRecDepth 100000 in
theorem c_cell (l : Launch) (b L : Nat) (xs : Nat → Int32) (hL : L < 2 ^ 31) : Met l y_cell (.code y_cell M_cell.2.1 M_cell.2.2.1 M_cell.2.2.2.2 :: mm_T) { frames := 0, cells := 0, slots := 0, locals := mm_K * 0 } (va_Pc [.ref b, .int 0] (fun U => va_X b L xs U U.heap ∧ b < U.heap.size)) (va_Qi (fun r (_ : Unit) => r = if 0 < L then xs 0 else 0) (fun _ _ => True) (fun _ => False)) 0 0 (fun _ => False) := by
  refine Met.ofW (cc := method_2_code) (maxL := 2) (ret := some .int) (by decide) rfl ?_
  intro p e s m args below meth c s₁ B hml hv
  obtain ⟨rfl, hX, hbl⟩ := hv
  have hx := B.exec
  have hb := B.bytes
  have hr := B.returns
  have hbA : ¬ (fun _ : Nat => False) b := fun h => h
  have hS : va_S (fun _ : Nat => False) s.heap s.heap [] := va_S.rf
  have hl := lv_entry ([.ref b, .int 0]) (n := 2) (Nat.le_of_ble_eq_true rfl)
  rw [lg_entry_eq]
  generalize (lg_sl ([.ref b, .int 0]) ++ List.replicate (2 - (lg_sl ([.ref b, .int 0])).length) Slot.unset).toArray = ls at hl ⊢
  have hl : lv_has ls 2 [(0, .ref b), (1, .int 0)] := hl
  refine lv_iload_n hx hb d_cell_0 rfl (lv_at hl 1 rfl) ?_
  refine lv_aload_n hx hb d_cell_1 rfl (lv_at hl 0 rfl) ?_
  refine va_slen hx hb hX hbl hbA hS d_cell_2 ?_
  refine lv_icmp_ge (tgt := 12) hx hb d_cell_3 (by decide) (fun c1 => ?_) (fun c1 => ?_)
  · refine lv_iconst (v := 0) hx hb d_cell_12 (by decide) ?_
    refine W.iret (v := 0) hx hb hr (fun t ht hW => ⟨⟨0, (), rfl, ?_, trivial⟩, hS.F ht⟩) hS.2.2 d_cell_13
    have : L ≤ 0 := (nI_leI (a := L) (b := 0) hL (by decide)).mp c1
    rw [if_neg (by omega)]
  · have hlt : 0 < L := by
      rcases Nat.eq_zero_or_pos L with q | q
      · exact absurd (by rw [q]; exact Int32.le_refl _) c1
      · exact q
    refine lv_aload_n hx hb d_cell_6 rfl (lv_at hl 0 rfl) ?_
    refine lv_iload_n hx hb d_cell_7 rfl (lv_at hl 1 rfl) ?_
    refine va_sld hx hb hX hbl hbA hS (vp_in_nI (n := 0) hlt hL) d_cell_8 ?_
    refine lv_goto (tgt := 13) hx hb d_cell_9 (by decide) ?_
    refine W.iret (v := xs (0 : Int32).toNatClampNeg) hx hb hr (fun t ht hW => ⟨⟨_, (), rfl, ?_, trivial⟩, hS.F ht⟩) hS.2.2 d_cell_13
    rw [if_pos hlt]
    rfl
section LC
variable {p : Program} {e : Env} {s : State} {m : MethodId} {below : List Frame} {meth : Method} {c : Code} {l : Launch} {b L : Nat} {xs : Nat → Int32} {D : va_G} {cA : FieldType → ClassId} {Q : State → Prop} {H : Heap} {locs : List Loc} {ls : Array Slot} {cells slots pc : Nat} {r' : List Value}
theorem la_cell (C0 : lw_At p s m meth c b L xs) (hC : la_C s b D cA) (hL : L < 2 ^ 31) (hd : decode code pc = .ok (.invokestatic 9, 3)) (hr8 : (r'.map fun v => v.category).sum ≤ 8) (hls : ls.size = 4) (hS : va_S (la_A s) s.heap H locs) (hcs : cells ≤ 600000 ∧ slots ≤ 7302250)
    (k : ∀ H' locs', (∀ q : Nat, q < H.size → H'[q]? = H[q]?) → va_S (la_A s) s.heap H' locs' → W p l e room_1 s m #[Value.ref b] below meth c H' locs' cells slots Q (F0 m (pc + 3) ls (.int (if 0 < L then xs 0 else 0) :: r'))) : W p l e room_1 s m #[Value.ref b] below meth c H locs cells slots Q (F0 m pc ls (.int 0 :: .ref b :: r')) := by
  have hG := la_G (Q := Q) (l := l) (e := e) (below := below) C0 hC
  obtain ⟨hx, hb, hr, hml, hown, hts, hX, hbl, hlocks, hgv⟩ := id C0
  have hB := mm_callB (kc' := 0) (ks' := 0) (d' := 0) hG ok_cell (by decide)
  have hT := hC.1
  have h8 := lv_room (m := m) (pc := pc) (ls := ls) (rest := .int 0 :: .ref b :: r') (st := r') hr8
  have hbH : b < H.size := Nat.lt_of_lt_of_le hbl hS.1
  have hXH : va_X b L xs s H := hX.kept (hS.2.1 b hbl (Nat.not_le.mpr hbl))
  refine va_calli (va_runS (As := [.ref b, .int 0]) (rest := r') ⟨hx, hb, hml, hown, hT⟩ (c_cell l b L xs hL) ⟨⟨hB.1.1, hB.1.2.1, hB.1.2.2.1, hB.1.2.2.2.1, hB.1.2.2.2.2.1, hB.1.2.2.2.2.2, hB.2.1, hB.2.2.1, hB.2.2.2.1, hB.2.2.2.2, hT _ tw_676⟩, hT _ tw_677⟩ ⟨fun a U g mk q => ⟨q.1, va_X.moved (u := U) (U := U.calling g mk a) (Vm.Alike.refl U.vm) q.2.1, q.2.2⟩, fun U hU hW => ⟨rfl, by rw [hU]; exact va_X.moved hW.alike hXH, by rw [hU]; exact hbH⟩⟩ rfl rfl hls rfl h8 hd ⟨hcs.1, hcs.2⟩) hS (fun q _ h => h.elim) (fun q h => h.elim) (fun r u t H1 locs1 ht hvm hw hB1 hz1 hk1 hS1 => ?_)
  rw [hw]
  exact k H1 locs1 (fun q hq => hk1 q hq (fun h => h)) hS1
end LC
