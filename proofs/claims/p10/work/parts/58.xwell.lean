/-! the reference's walk: what holds at every turn -/
def c_A (tx : Nat → Nat) (n Q : Nat) (fs : List xF) (M A k : Nat) : Nat := (if M = 0 then 2 * x_lz tx n A else if M = 1 then 2 * Q else if M = 4 then 1 else 0) + (xg fs k).2.2.2.2.2.1
def c_B (tx : Nat → Nat) (n Q : Nat) (fs : List xF) (M A k : Nat) : Nat := (if M = 0 then x_lz tx n A else if M = 1 then 1 + Q else if M = 4 then 1 else 0) + (xg fs k).2.2.2.2.2.2.1
def p_A (tx : Nat → Nat) (n M A : Nat) : Nat := if M = 2 then (if x_how tx n A = 43 then 3 else 2) else if M = 3 then (if x_how tx n A = 43 then 2 else 1) else 0
def p_B (M : Nat) : Nat := if M = 2 then 1 else 0
/-- what is known of a good text -/
def xG (tx : Nat → Nat) (n Q : Nat) : Prop := n ≤ 32 ∧ (∀ k, xt tx n k = 92 → 49 ≤ xt tx n (k + 1) ∧ xt tx n (k + 1) ≤ 52) ∧ (∀ k, xt tx n k = 123 → 48 ≤ xt tx n (k + 1)) ∧ (∀ m, x_gc tx n m ≤ 4) ∧ (∀ k, xt tx n k = 40 → xt tx n (k + 1) = 63 → x_x tx n k = 58 ∨ x_x tx n k = 62 ∨ x_x tx n k = 61 ∨ x_x tx n k = 33 ∨ (48 ≤ x_x tx n k ∧ x_x tx n k ≤ 52)) ∧ (∀ k, x_lz tx n k ≤ Q) ∧ Q ≤ 10 ∧ (∀ k, xt tx n k = 40 → x_how tx n k = 43 → Q ≤ 9) ∧ (∀ k, xt tx n k = 40 → 48 ≤ x_x tx n k → x_x tx n k ≤ 52 → Q ≤ 9)
def w_x (tx : Nat → Nat) (n sl : Nat) (fs : List xF) (f : Nat) (x : xF) : Prop :=
  x = x_mk tx n fs x.1 x.2.1 x.2.2.1 x.2.2.2.1 x.2.2.2.2.1 ∧ (1 ≤ x.1 ∧ x.1 ≤ 11) ∧ x.2.2.2.1 < f ∧ x.2.2.2.2.1 ≤ sl ∧ (xg fs x.2.2.2.1).2.2.2.2.1 ≤ x.2.2.2.2.1 ∧ x.2.2.2.2.2.2.2.1 ≤ 12 ∧ (x.1 = 7 ∨ x.1 = 8 ∨ x.1 = 9 → (xg fs x.2.2.2.1).2.2.2.2.2.2.2.2 ≤ x.2.2.1) ∧ (x.1 = 2 → (1 ≤ x.2.1 ∧ x.2.1 ≤ 4) ∧ x.2.2.1 = x.2.2.2.2.1) ∧ (x.1 = 3 → x.2.2.1 ≤ 300) ∧ (x.1 = 8 → x.2.1 = x.2.2.2.2.1) ∧ (x.1 = 4 ∨ x.1 = 5 ∨ x.1 = 6 ∨ x.1 = 10 ∨ x.1 = 11 → x.2.1 < n) ∧ x.2.1 ≤ 40
def w_Fs (tx : Nat → Nat) (n sl : Nat) (fs : List xF) : Prop := (∃ s0, fs[0]? = some (0, 0, 0, 0, s0, 0, 0, 0, 0)) ∧ ∀ (f : Nat) (x : xF), fs[f]? = some x → 1 ≤ f → w_x tx n sl fs f x
def w_B (tx : Nat → Nat) (n Q sl : Nat) (fs : List xF) (st e j : Nat) (y : xB) : Prop :=
  ((y.1 = 1 ∧ y.2.1 ≤ n) ∨ (y.1 = 2 ∧ y.2.1 < n) ∨ (y.1 = 5 ∧ y.2.1 < 64)) ∧ y.2.2.1 ≤ sl ∧ y.2.2.2.2.1 + 1 ≤ fs.length ∧ y.2.2.2.1 < y.2.2.2.2.1 + 1 ∧ (xg fs y.2.2.2.1).2.2.2.2.1 ≤ y.2.2.1 ∧ cx_in 40 y.2.2.2.2.2 ∧ (xg fs y.2.2.2.1).2.2.2.2.2.2.2.2 ≤ j ∧ y.2.2.2.2.1 + 1 + c_A tx n Q fs y.1 y.2.1 y.2.2.2.1 ≤ 21 + 23 * st + p_A tx n y.1 y.2.1 + 3 * e ∧ j + c_B tx n Q fs y.1 y.2.1 y.2.2.2.1 ≤ 11 + 13 * st + p_B y.1 + e
def w_Bs (tx : Nat → Nat) (n Q sl : Nat) (fs : List xF) (st e : Nat) (bs : List xB) : Prop := (∀ (j : Nat) (y : xB), bs[j]? = some y → w_B tx n Q sl fs st e j y) ∧ ∀ (j j' : Nat) (y y' : xB), j < j' → bs[j]? = some y → bs[j']? = some y' → y.2.2.2.2.1 ≤ y'.2.2.2.2.1
/-- the state but for mode and place in the text; e: an ask is due -/
def w_R (tx : Nat → Nat) (n Q sl lim e p k : Nat) (C : Nat → Nat) (st : Nat) (fs : List xF) (bs : List xB) (kp : Nat → Nat → Nat) : Prop :=
  w_Fs tx n sl fs ∧ k < fs.length ∧ (xg fs k).2.2.2.2.1 ≤ p ∧ p ≤ sl ∧ cx_in 40 C ∧ (xg fs k).2.2.2.2.2.2.2.2 ≤ bs.length ∧ w_Bs tx n Q sl fs st e bs ∧ (∀ s, cx_in 40 (kp s)) ∧ st ≤ lim ∧ fs.length ≤ 24 + 23 * st ∧ bs.length ≤ 12 + 13 * st
def w_A (n M A : Nat) : Prop := M ≤ 6 ∧ (M = 0 → A ≤ 40) ∧ (M = 1 → A ≤ n) ∧ (M = 2 ∨ M = 3 ∨ M = 4 → A < n) ∧ A < 64
def xW (tx : Nat → Nat) (n Q sl lim : Nat) (m : xS) : Prop := match m with
  | (M, A, p, k, C, st, fs, bs, kp) => w_A n M A ∧ w_R tx n Q sl lim (if M = 2 then 1 else 0) p k C st fs bs kp ∧ (¬ M = 6 → fs.length + c_A tx n Q fs M A k ≤ 21 + 23 * st + p_A tx n M A ∧ bs.length + c_B tx n Q fs M A k ≤ 11 + 13 * st + p_B M)
theorem xg_app {fs : List xF} {x : xF} {k : Nat} (h : k < fs.length) : xg (fs ++ [x]) k = xg fs k := by
  unfold xg
  rw [List.getElem?_append_left h]
theorem xg_new {fs : List xF} {x : xF} : xg (fs ++ [x]) fs.length = x := by
  unfold xg
  rw [List.getElem?_append_right (Nat.le_refl _), Nat.sub_self]
  rfl
theorem xg_take {fs : List xF} {m k : Nat} (h : k < m) : xg (fs.take m) k = xg fs k := by
  unfold xg
  rw [List.getElem?_take, if_pos h]
theorem x_mk_app {tx : Nat → Nat} {n : Nat} {fs : List xF} {y : xF} {kd wh nm pr gp : Nat} (h : pr < fs.length) : x_mk tx n (fs ++ [y]) kd wh nm pr gp = x_mk tx n fs kd wh nm pr gp := by
  unfold x_mk
  rw [xg_app h]
theorem x_mk_take {tx : Nat → Nat} {n : Nat} {fs : List xF} {m kd wh nm pr gp : Nat} (h : pr < m) : x_mk tx n (fs.take m) kd wh nm pr gp = x_mk tx n fs kd wh nm pr gp := by
  unfold x_mk
  rw [xg_take h]
theorem cA_app {tx : Nat → Nat} {n Q : Nat} {fs : List xF} {y : xF} {M A k : Nat} (h : k < fs.length) : c_A tx n Q (fs ++ [y]) M A k = c_A tx n Q fs M A k := by
  unfold c_A
  rw [xg_app h]
theorem cB_app {tx : Nat → Nat} {n Q : Nat} {fs : List xF} {y : xF} {M A k : Nat} (h : k < fs.length) : c_B tx n Q (fs ++ [y]) M A k = c_B tx n Q fs M A k := by
  unfold c_B
  rw [xg_app h]
section XW
variable {tx : Nat → Nat} {n Q sl lim : Nat}
variable {M A p k st e : Nat} {C : Nat → Nat} {fs : List xF} {bs : List xB} {kp : Nat → Nat → Nat}
theorem w_Fs_len (h : w_Fs tx n sl fs) : 1 ≤ fs.length := (List.getElem?_eq_some_iff.mp h.1.choose_spec).1
theorem w_Fs_push (h : w_Fs tx n sl fs) (hk : k < fs.length) {kd wh nm gp : Nat} (h1 : 1 ≤ kd) (h11 : kd ≤ 11) (hg : gp ≤ sl) (hgp : (xg fs k).2.2.2.2.1 ≤ gp) (hN : (if kd = 3 then 1 else 0) + (xg fs k).2.2.2.2.2.2.2.1 ≤ 12) (h7 : kd = 7 ∨ kd = 8 ∨ kd = 9 → (xg fs k).2.2.2.2.2.2.2.2 ≤ nm) (h2 : kd = 2 → (1 ≤ wh ∧ wh ≤ 4) ∧ nm = gp) (h3 : kd = 3 → nm ≤ 300) (h8 : kd = 8 → wh = gp) (h4 : kd = 4 ∨ kd = 5 ∨ kd = 6 ∨ kd = 10 ∨ kd = 11 → wh < n) (hw : wh ≤ 40) : w_Fs tx n sl (fs ++ [x_mk tx n fs kd wh nm k gp]) := by
  have hl := w_Fs_len h
  refine ⟨h.1.imp (fun s0 h0 => by rw [List.getElem?_append_left (by omega)]; exact h0), fun f x hx hf => ?_⟩
  by_cases q : f < fs.length
  · rw [List.getElem?_append_left q] at hx
    obtain ⟨g0, g1, g2, g3, g4, g5, g6, g7, g8⟩ := h.2 f x hx hf
    refine ⟨by rw [x_mk_app (by omega)]; exact g0, g1, g2, g3, by rw [xg_app (by omega)]; exact g4, g5, fun w => by rw [xg_app (by omega)]; exact g6 w, g7, g8⟩
  · rw [List.getElem?_append_right (by omega)] at hx
    have hf2 : f = fs.length := by
      have := (List.getElem?_eq_some_iff.mp hx).1
      simp at this
      omega
    subst hf2
    rw [Nat.sub_self] at hx
    cases hx
    refine ⟨?_, ⟨h1, h11⟩, hk, hg, ?_, hN, ?_, h2, h3, h8, h4, hw⟩
    · show x_mk tx n fs kd wh nm k gp = x_mk tx n (fs ++ [_]) kd wh nm k gp
      rw [x_mk_app hk]
    · show (xg (fs ++ [_]) k).2.2.2.2.1 ≤ gp
      rw [xg_app hk]; exact hgp
    · intro w
      show (xg (fs ++ [_]) k).2.2.2.2.2.2.2.2 ≤ nm
      rw [xg_app hk]; exact h7 w
theorem w_Fs_take (h : w_Fs tx n sl fs) {m : Nat} (hm : 1 ≤ m) : w_Fs tx n sl (fs.take m) := by
  refine ⟨h.1.imp (fun s0 h0 => by rw [List.getElem?_take, if_pos (by omega)]; exact h0), fun f x hx hf => ?_⟩
  rw [List.getElem?_take] at hx
  split at hx
  · rename_i q
    obtain ⟨g0, g1, g2, g3, g4, g5, g6, g7, g8⟩ := h.2 f x hx hf
    exact ⟨by rw [x_mk_take (by omega)]; exact g0, g1, g2, g3, by rw [xg_take (by omega)]; exact g4, g5, fun w => by rw [xg_take (by omega)]; exact g6 w, g7, g8⟩
  · cases hx
theorem w_Fs_N (h : w_Fs tx n sl fs) (hk : k < fs.length) : (xg fs k).2.2.2.2.2.2.2.1 ≤ 12 := by
  have hx : fs[k]? = some fs[k] := List.getElem?_eq_getElem hk
  rw [xg_of hx]
  rcases Nat.eq_zero_or_pos k with q | q
  · subst q
    obtain ⟨s0, this⟩ := h.1
    rw [hx] at this
    rw [Option.some.inj this]
    exact Nat.zero_le _
  · exact (h.2 k _ hx q).2.2.2.2.2.1
/-- no frame lies before the first one's place -/
theorem w_Fs_gp (h : w_Fs tx n sl fs) {s0 : Nat} (h0 : fs[0]? = some (0, 0, 0, 0, s0, 0, 0, 0, 0)) : ∀ (r k : Nat), k ≤ r → k < fs.length → s0 ≤ (xg fs k).2.2.2.2.1
  | 0, k, hr, hk => by
    rw [show k = 0 by omega, xg_of h0]
    exact Nat.le_refl _
  | r + 1, k, hr, hk => by
    rcases Nat.eq_zero_or_pos k with q | q
    · rw [q, xg_of h0]
      exact Nat.le_refl _
    · have hx : fs[k]? = some fs[k] := List.getElem?_eq_getElem hk
      obtain ⟨g0, g1, g2, g3, g4, g5⟩ := h.2 k _ hx q
      have := w_Fs_gp h h0 r fs[k].2.2.2.1 (by omega) (by omega)
      rw [xg_of hx]
      omega
theorem w_Fs_ch (h : w_Fs tx n sl fs) : x_ch fs := by
  refine ⟨by rw [xg_of h.1.choose_spec], fun f x hx hf => ?_⟩
  obtain ⟨g0, g1, g2, g3⟩ := h.2 f x hx hf
  refine ⟨g2, ?_⟩
  conv => lhs; rw [g0]
  rfl
theorem w_B_push {y : xB} {j : Nat} {x : xF} (h : w_B tx n Q sl fs st e j y) : w_B tx n Q sl (fs ++ [x]) st e j y := by
  obtain ⟨h1, h2, h3, h4, h5, h6, h7, h8, h9⟩ := h
  refine ⟨h1, h2, by rw [List.length_append]; omega, h4, by rw [xg_app (by omega)]; exact h5, h6, by rw [xg_app (by omega)]; exact h7, by rw [cA_app (by omega)]; exact h8, by rw [cB_app (by omega)]; exact h9⟩
theorem w_B_st {y : xB} {j st' e' : Nat} (hs : 23 * st + 3 * e ≤ 23 * st' + 3 * e') (hs2 : 13 * st + e ≤ 13 * st' + e') (h : w_B tx n Q sl fs st e j y) : w_B tx n Q sl fs st' e' j y := by
  obtain ⟨h1, h2, h3, h4, h5, h6, h7, h8, h9⟩ := h
  exact ⟨h1, h2, h3, h4, h5, h6, h7, by omega, by omega⟩
theorem w_Bs_push {x : xF} (h : w_Bs tx n Q sl fs st e bs) : w_Bs tx n Q sl (fs ++ [x]) st e bs := ⟨fun j y hy => w_B_push (h.1 j y hy), h.2⟩
theorem w_Bs_st {st' e' : Nat} (hs : 23 * st + 3 * e ≤ 23 * st' + 3 * e') (hs2 : 13 * st + e ≤ 13 * st' + e') (h : w_Bs tx n Q sl fs st e bs) : w_Bs tx n Q sl fs st' e' bs := ⟨fun j y hy => w_B_st hs hs2 (h.1 j y hy), h.2⟩
theorem w_Bs_take (h : w_Bs tx n Q sl fs st e bs) (m : Nat) : w_Bs tx n Q sl fs st e (bs.take m) := by
  have g : ∀ (j : Nat) (y : xB), (bs.take m)[j]? = some y → bs[j]? = some y := fun j y hy => by
    rw [List.getElem?_take] at hy
    split at hy
    · exact hy
    · cases hy
  exact ⟨fun j y hy => h.1 j y (g j y hy), fun j j' y y' hj hy hy' => h.2 j j' y y' hj (g j y hy) (g j' y' hy')⟩
theorem w_Bs_app (h : w_Bs tx n Q sl fs st e bs) {md wh fr : Nat} (hm : (md = 1 ∧ wh ≤ n) ∨ (md = 2 ∧ wh < n) ∨ (md = 5 ∧ wh < 64)) (hp : p ≤ sl) (hf : 1 ≤ fs.length) (hk : fr < fs.length) (hgp : (xg fs fr).2.2.2.2.1 ≤ p) (hC : cx_in 40 C) (hM : (xg fs fr).2.2.2.2.2.2.2.2 ≤ bs.length) (hA : fs.length + c_A tx n Q fs md wh fr ≤ 21 + 23 * st + p_A tx n md wh + 3 * e) (hB : bs.length + c_B tx n Q fs md wh fr ≤ 11 + 13 * st + p_B md + e) : w_Bs tx n Q sl fs st e (bs ++ [(md, wh, p, fr, fs.length - 1, C)]) := by
  have g : ∀ (j : Nat) (y : xB), (bs ++ [(md, wh, p, fr, fs.length - 1, C)])[j]? = some y → bs[j]? = some y ∨ (j = bs.length ∧ y = (md, wh, p, fr, fs.length - 1, C)) := fun j y hy => by
    by_cases q : j < bs.length
    · rw [List.getElem?_append_left q] at hy
      exact Or.inl hy
    · rw [List.getElem?_append_right (by omega)] at hy
      have hj : j = bs.length := by
        have := (List.getElem?_eq_some_iff.mp hy).1
        simp at this
        omega
      subst hj
      rw [Nat.sub_self] at hy
      cases hy
      exact Or.inr ⟨rfl, rfl⟩
  refine ⟨fun j y hy => ?_, fun j j' y y' hj hy hy' => ?_⟩
  · rcases g j y hy with q | ⟨q1, q2⟩
    · exact h.1 j y q
    · subst q1; subst q2
      refine ⟨hm, hp, by show fs.length - 1 + 1 ≤ fs.length; omega, by show fr < fs.length - 1 + 1; omega, hgp, hC, hM, ?_, hB⟩
      show fs.length - 1 + 1 + c_A tx n Q fs md wh fr ≤ _
      rw [show fs.length - 1 + 1 = fs.length by omega]
      exact hA
  · rcases g j' y' hy' with q | ⟨q1, q2⟩
    · rcases g j y hy with r | ⟨r1, r2⟩
      · exact h.2 j j' y y' hj r q
      · have := (List.getElem?_eq_some_iff.mp q).1
        omega
    · subst q2
      rcases g j y hy with r | ⟨r1, r2⟩
      · have := (h.1 j y r).2.2.1
        show y.2.2.2.2.1 ≤ fs.length - 1
        omega
      · omega
theorem w_B_take {y : xB} {j m : Nat} (h : w_B tx n Q sl fs st e j y) (hm : y.2.2.2.2.1 + 1 ≤ m) : w_B tx n Q sl (fs.take m) st e j y := by
  obtain ⟨h1, h2, h3, h4, h5, h6, h7, h8, h9⟩ := h
  have e1 : xg (fs.take m) y.2.2.2.1 = xg fs y.2.2.2.1 := xg_take (by omega)
  refine ⟨h1, h2, by rw [List.length_take]; omega, h4, by rw [e1]; exact h5, h6, by rw [e1]; exact h7, ?_, ?_⟩
  · unfold c_A at h8 ⊢; rw [e1]; exact h8
  · unfold c_B at h9 ⊢; rw [e1]; exact h9
end XW
