/-! THE MATCHER AS A MACHINE OVER NUMBERS
frame: kind, item, mark, place, captures, outer, calls; choice: task, number, place, captures, frame -/
abbrev mF : Type := Nat × Nat × Nat × Nat × (Nat → Nat) × Nat × Nat
abbrev mC : Type := Nat × Nat × Nat × (Nat → Nat) × Nat
def rN (x : Option Nat) : Int32 := match x with
  | none => -1
  | some k => nI k
def rF (fs : List mF) (a : mm_a) (b : mm_b) : Prop := ∀ (f : Nat) (x : mF), fs[f]? = some x → a 34 f = nI x.1 ∧ a 35 f = nI x.2.1 ∧ a 36 f = nI x.2.2.1 ∧ a 37 f = nI x.2.2.2.1 ∧ b 38 f = lN (cp_enc x.2.2.2.2.1) ∧ a 39 f = nI x.2.2.2.2.2.1 ∧ a 40 f = nI x.2.2.2.2.2.2
def rC (cs : List mC) (a : mm_a) (b : mm_b) : Prop := ∀ (c : Nat) (x : mC), cs[c]? = some x → a 42 c = nI x.1 ∧ a 43 c = nI x.2.1 ∧ a 44 c = nI x.2.2.1 ∧ b 45 c = lN (cp_enc x.2.2.2.1) ∧ a 46 c = nI x.2.2.2.2
theorem rF_same {fs : List mF} {a a' : mm_a} {b b' : mm_b} (h : rF fs a b) (ha : ∀ t, 34 ≤ t → t ≤ 40 → a' t = a t) (hb : b' 38 = b 38) : rF fs a' b' := fun f x hx => by
  obtain ⟨h1, h2, h3, h4, h5, h6, h7⟩ := h f x hx
  rw [ha 34 (by decide) (by decide), ha 35 (by decide) (by decide), ha 36 (by decide) (by decide), ha 37 (by decide) (by decide), ha 39 (by decide) (by decide), ha 40 (by decide) (by decide), hb]
  exact ⟨h1, h2, h3, h4, h5, h6, h7⟩
theorem rC_same {cs : List mC} {a a' : mm_a} {b b' : mm_b} (h : rC cs a b) (ha : ∀ t, 42 ≤ t → t ≤ 46 → a' t = a t) (hb : b' 45 = b 45) : rC cs a' b' := fun c x hx => by
  obtain ⟨h1, h2, h3, h4, h5⟩ := h c x hx
  rw [ha 42 (by decide) (by decide), ha 43 (by decide) (by decide), ha 44 (by decide) (by decide), ha 46 (by decide) (by decide), hb]
  exact ⟨h1, h2, h3, h4, h5⟩
theorem rC_take {cs : List mC} {a : mm_a} {b : mm_b} (h : rC cs a b) (k : Nat) : rC (cs.take k) a b := fun c x hx => by
  rw [List.getElem?_take] at hx
  split at hx
  · exact h c x hx
  · cases hx
theorem mu_s {a : mm_a} {k : Nat} {f : Nat → Int32} : mm_ua a k f k = f := by simp [mm_ua]
theorem mu_n {a : mm_a} {k j : Nat} {f : Nat → Int32} (h : j ≠ k) : mm_ua a k f j = a j := by simp [mm_ua, h]
theorem mb_s {a : mm_b} {k : Nat} {f : Nat → Int64} : mm_ub a k f k = f := by simp [mm_ub]
theorem mb_n {a : mm_b} {k j : Nat} {f : Nat → Int64} (h : j ≠ k) : mm_ub a k f j = a j := by simp [mm_ub, h]
theorem w_Cadd {n1 n2 : Nat} {i : mm_i} {l : mm_j} {a : mm_a} {b : mm_b} {K : mm_i → mm_j → mm_a → mm_b → Prop} {cs : List mC} (hu : i 661 = nI cs.length) (hlt : cs.length < n2) (hn : n2 < 2 ^ 31) (hC : rC cs a b) (x : mC) {x1 x2 x3 x5 : Int32} {x4 : Int64} (e1 : x1 = nI x.1) (e2 : x2 = nI x.2.1) (e3 : x3 = nI x.2.2.1) (e4 : x4 = lN (cp_enc x.2.2.2.1)) (e5 : x5 = nI x.2.2.2.2)
    (hK : ∀ (a' : mm_a) (b' : mm_b), rC (cs ++ [x]) a' b' → (∀ t, t < 42 → a' t = a t) → (∀ t, ¬ t = 45 → b' t = b t) → K (upd i 661 (nI (cs ++ [x]).length)) l a' b') : wp_Choices_add_41 n1 n2 i l a b x1 x2 x3 x4 x5 K := by
  unfold wp_Choices_add_41
  have hin : vp_in (i 661) n2 := by rw [hu]; exact vp_in_nI hlt hn
  refine ⟨hin, hin, hin, hin, hin, ?_⟩
  have e : i 661 + (1 : Int32) = nI (cs ++ [x]).length := by rw [hu, nI_1, List.length_append]; rfl
  rw [e]
  have hc : (i 661).toNatClampNeg = cs.length := by rw [hu]; exact nI_clamp (by omega)
  refine hK _ _ (fun c y hy => ?_) (fun t ht => ?_) (fun t ht => ?_)
  · rw [hc, e1, e2, e3, e4, e5]
    by_cases hlt2 : c < cs.length
    · rw [List.getElem?_append_left hlt2] at hy
      obtain ⟨h1, h2, h3, h4, h5⟩ := hC c y hy
      have hne : ¬ c = cs.length := by omega
      simp only [mm_ua, mm_ub, upd, vp_updL]
      simp [upd, vp_updL, hne, h1, h2, h3, h4, h5]
    · rw [List.getElem?_append_right (by omega)] at hy
      have hc2 : c = cs.length := by
        have := (List.getElem?_eq_some_iff.mp hy).1
        simp at this
        omega
      subst hc2
      rw [Nat.sub_self] at hy
      cases hy
      simp only [mm_ua, mm_ub, upd, vp_updL]
      simp [upd, vp_updL]
  · simp only [mm_ua]
    have q1 : ¬ t = 42 := by omega
    have q2 : ¬ t = 43 := by omega
    have q3 : ¬ t = 44 := by omega
    have q4 : ¬ t = 46 := by omega
    simp [q1, q2, q3, q4]
  · simp [mm_ub, ht]
theorem w_Fadd {n1 n2 : Nat} {i : mm_i} {l : mm_j} {a : mm_a} {b : mm_b} {K : Int32 → mm_i → mm_j → mm_a → mm_b → Prop} {fs : List mF} (hu : i 535 = nI fs.length) (hlt : fs.length < n1) (hn : n1 < 2 ^ 31) (hF : rF fs a b) {y : mF} {o : Nat} (ho : fs[o]? = some y) (x : mF) {x1 x2 x3 x4 x6 : Int32} {x5 : Int64} (hk : x.1 < 2 ^ 31) (e1 : x1 = nI x.1) (e2 : x2 = nI x.2.1) (e3 : x3 = nI x.2.2.1) (e4 : x4 = nI x.2.2.2.1) (e5 : x5 = lN (cp_enc x.2.2.2.2.1)) (e6 : x6 = nI o) (e7 : x.2.2.2.2.2.1 = o) (e8 : x.2.2.2.2.2.2 = if x.1 = 2 then y.2.2.2.2.2.2 + 1 else y.2.2.2.2.2.2)
    (hK : ∀ (a' : mm_a) (b' : mm_b), rF (fs ++ [x]) a' b' → (∀ t, t < 34 ∨ 40 < t → a' t = a t) → (∀ t, ¬ t = 38 → b' t = b t) → K (nI fs.length) (upd i 535 (nI (fs ++ [x]).length)) l a' b') : wp_Frames_add_33 n1 n2 i l a b x1 x2 x3 x4 x5 x6 K := by
  unfold wp_Frames_add_33
  have hol : o < fs.length := (List.getElem?_eq_some_iff.mp ho).1
  have hin : vp_in (i 535) n1 := by rw [hu]; exact vp_in_nI hlt hn
  have hio : vp_in x6 n1 := by rw [e6]; exact vp_in_nI (by omega) hn
  have e : i 535 + (1 : Int32) = nI (fs ++ [x]).length := by rw [hu, nI_1, List.length_append]; rfl
  have hc : (i 535).toNatClampNeg = fs.length := by rw [hu]; exact nI_clamp (by omega)
  have hoc : x6.toNatClampNeg = o := by rw [e6]; exact nI_clamp (by omega)
  obtain ⟨y1, y2, y3, y4, y5, y6, y7⟩ := hF o y ho
  have core : ∀ z : Int32, z = nI x.2.2.2.2.2.2 → K (i 535) (upd i 535 (i 535 + (1 : Int32))) l (mm_ua (mm_ua (mm_ua (mm_ua (mm_ua (mm_ua a 34 (upd (a 34) (i 535).toNatClampNeg x1)) 35 (upd (a 35) (i 535).toNatClampNeg x2)) 36 (upd (a 36) (i 535).toNatClampNeg x3)) 37 (upd (a 37) (i 535).toNatClampNeg x4)) 39 (upd (a 39) (i 535).toNatClampNeg x6)) 40 (upd (a 40) (i 535).toNatClampNeg z)) (mm_ub b 38 (vp_updL (b 38) (i 535).toNatClampNeg x5)) := by
    intro z hz
    rw [e]
    conv => arg 1; rw [hu]
    refine hK _ _ (fun c w hw => ?_) (fun t ht => ?_) (fun t ht => ?_)
    · rw [hc, hz, e1, e2, e3, e4, e5, e6]
      by_cases hlt2 : c < fs.length
      · rw [List.getElem?_append_left hlt2] at hw
        obtain ⟨h1, h2, h3, h4, h5, h6, h7⟩ := hF c w hw
        have hne : ¬ c = fs.length := by omega
        simp only [mm_ua, mm_ub, upd, vp_updL]
        simp [upd, vp_updL, hne, h1, h2, h3, h4, h5, h6, h7]
      · rw [List.getElem?_append_right (by omega)] at hw
        have hc2 : c = fs.length := by
          have := (List.getElem?_eq_some_iff.mp hw).1
          simp at this
          omega
        subst hc2
        rw [Nat.sub_self] at hw
        cases hw
        simp only [mm_ua, mm_ub, upd, vp_updL]
        simp [upd, vp_updL, e7]
    · simp only [mm_ua]
      have q1 : ¬ t = 34 := by omega
      have q2 : ¬ t = 35 := by omega
      have q3 : ¬ t = 36 := by omega
      have q4 : ¬ t = 37 := by omega
      have q5 : ¬ t = 39 := by omega
      have q6 : ¬ t = 40 := by omega
      simp [q1, q2, q3, q4, q5, q6]
    · simp [mm_ub, ht]
  refine ⟨hin, hin, hin, hin, hin, hin, fun q => ?_, fun q => ?_⟩
  · refine ⟨hio, hin, core _ ?_⟩
    rw [hoc, y7, e8, if_neg]
    intro z
    exact q (by rw [e1, z]; rfl)
  · refine ⟨hio, hin, core _ ?_⟩
    rw [hoc, y7, e8, if_pos, nI_1]
    have := (nI_eq hk (b := 2) (by decide)).mp (by rw [← e1, q]; rfl)
    exact this
