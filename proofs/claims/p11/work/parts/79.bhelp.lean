/-! the two machines: helpers -/
def EV (e : bE) (su : Nat → Nat) (Q sl lim : Nat) : Prop := ST e.1 e.2.1 e.2.2.1 e.2.2.2.1 e.2.2.2.2.1 e.2.2.2.2.2.1 e.2.2.2.2.2.2 ∧ xG e.1 e.2.1 Q ∧ e.2.1 ≤ 32 ∧ sl ≤ 40 ∧ lim ≤ 300 ∧ (∀ k, k < sl → 97 ≤ su k ∧ su k ≤ 122) ∧ wP e.2.2.1 e.2.2.2.1 e.2.2.2.2.1 ∧ ∀ k, k < e.2.2.2.1 → q_kd e.2.2.1 k ≤ 9 ∧ q_tm e.2.2.1 k ≤ 9
section BW
variable {tx : Nat → Nat} {n : Nat} {su : Nat → Nat} {sl lim : Nat}
theorem wk_act {x : xS} (h6 : ¬ x.1 = 6) (h5 : ¬ (x.1 = 5 ∧ x.2.2.2.1 = 0)) (h2 : ¬ (x.1 = 2 ∧ x.2.2.2.2.2.1 = lim)) (f : Nat) : x_wk tx n su sl lim (f + 1) x = x_wk tx n su sl lim f (x_act tx n su sl x) := by
  show (match (if x.1 = 6 then x_ret x.2.2.2.2.2.1 x.2.2.2.2.2.2.1 x.2.2.2.2.2.2.2.1 x.2.2.2.2.2.2.2.2 else some x) with
    | none => (0, x)
    | some m1 => if m1.1 = 5 ∧ m1.2.2.2.1 = 0 then (1, m1) else if m1.1 = 2 ∧ m1.2.2.2.2.2.1 = lim then (2, m1) else x_wk tx n su sl lim f (x_act tx n su sl m1)) = _
  rw [if_neg h6]
  show (if x.1 = 5 ∧ x.2.2.2.1 = 0 then (1, x) else if x.1 = 2 ∧ x.2.2.2.2.2.1 = lim then (2, x) else x_wk tx n su sl lim f (x_act tx n su sl x)) = _
  rw [if_neg h5, if_neg h2]
theorem wk_found {x : xS} (h5 : x.1 = 5 ∧ x.2.2.2.1 = 0) (f : Nat) : x_wk tx n su sl lim (f + 1) x = (1, x) := by
  show (match (if x.1 = 6 then x_ret x.2.2.2.2.2.1 x.2.2.2.2.2.2.1 x.2.2.2.2.2.2.2.1 x.2.2.2.2.2.2.2.2 else some x) with
    | none => (0, x)
    | some m1 => if m1.1 = 5 ∧ m1.2.2.2.1 = 0 then (1, m1) else if m1.1 = 2 ∧ m1.2.2.2.2.2.1 = lim then (2, m1) else x_wk tx n su sl lim f (x_act tx n su sl m1)) = _
  rw [if_neg (by omega)]
  exact if_pos h5
theorem wk_stop {x : xS} (h2 : x.1 = 2 ∧ x.2.2.2.2.2.1 = lim) (f : Nat) : x_wk tx n su sl lim (f + 1) x = (2, x) := by
  show (match (if x.1 = 6 then x_ret x.2.2.2.2.2.1 x.2.2.2.2.2.2.1 x.2.2.2.2.2.2.2.1 x.2.2.2.2.2.2.2.2 else some x) with
    | none => (0, x)
    | some m1 => if m1.1 = 5 ∧ m1.2.2.2.1 = 0 then (1, m1) else if m1.1 = 2 ∧ m1.2.2.2.2.2.1 = lim then (2, m1) else x_wk tx n su sl lim f (x_act tx n su sl m1)) = _
  rw [if_neg (by omega)]
  show (if x.1 = 5 ∧ x.2.2.2.1 = 0 then _ else if x.1 = 2 ∧ x.2.2.2.2.2.1 = lim then (2, x) else _) = _
  rw [if_neg (by omega), if_pos h2]
theorem wk_none {x : xS} (h6 : x.1 = 6) (hr : x_ret x.2.2.2.2.2.1 x.2.2.2.2.2.2.1 x.2.2.2.2.2.2.2.1 x.2.2.2.2.2.2.2.2 = none) (f : Nat) : x_wk tx n su sl lim (f + 1) x = (0, x) := by
  show (match (if x.1 = 6 then x_ret x.2.2.2.2.2.1 x.2.2.2.2.2.2.1 x.2.2.2.2.2.2.2.1 x.2.2.2.2.2.2.2.2 else some x) with
    | none => (0, x)
    | some m1 => if m1.1 = 5 ∧ m1.2.2.2.1 = 0 then (1, m1) else if m1.1 = 2 ∧ m1.2.2.2.2.2.1 = lim then (2, m1) else x_wk tx n su sl lim f (x_act tx n su sl m1)) = _
  rw [if_pos h6, hr]
theorem wk_pop {x y : xS} (h6 : x.1 = 6) (hr : x_ret x.2.2.2.2.2.1 x.2.2.2.2.2.2.1 x.2.2.2.2.2.2.2.1 x.2.2.2.2.2.2.2.2 = some y) (hy : ¬ y.1 = 6) (f : Nat) : x_wk tx n su sl lim (f + 1) x = x_wk tx n su sl lim (f + 1) y := by
  show (match (if x.1 = 6 then x_ret x.2.2.2.2.2.1 x.2.2.2.2.2.2.1 x.2.2.2.2.2.2.2.1 x.2.2.2.2.2.2.2.2 else some x) with
    | none => (0, x)
    | some m1 => if m1.1 = 5 ∧ m1.2.2.2.1 = 0 then (1, m1) else if m1.1 = 2 ∧ m1.2.2.2.2.2.1 = lim then (2, m1) else x_wk tx n su sl lim f (x_act tx n su sl m1)) = (match (if y.1 = 6 then x_ret y.2.2.2.2.2.1 y.2.2.2.2.2.2.1 y.2.2.2.2.2.2.2.1 y.2.2.2.2.2.2.2.2 else some y) with
    | none => (0, y)
    | some m1 => if m1.1 = 5 ∧ m1.2.2.2.1 = 0 then (1, m1) else if m1.1 = 2 ∧ m1.2.2.2.2.2.1 = lim then (2, m1) else x_wk tx n su sl lim f (x_act tx n su sl m1))
  rw [if_pos h6, hr, if_neg hy]
end BW
section BP
variable {e : bE} {fs a : List mF} {xs b : List xF} {cs c : List mC} {kp : Nat → Nat → Nat} {S : Nat} {bs : List xB}
def fiO (fs : List mF) : Prop := ∀ (i : Nat) (y : mF), fs[i]? = some y → ∀ j, j = y.2.2.2.2.2.1 → j < fs.length
theorem bX_app (hfi : fiO fs) : bX (fs, xs, cs, kp, S) (fs ++ a, xs ++ b, cs ++ c, kp, S) xs.length cs.length := ⟨fun i y h => by
    show (fs ++ a)[i]? = some y
    rw [List.getElem?_append_left (List.getElem?_eq_some_iff.mp h).1]; exact h, hfi, fun _ _ => rfl, Nat.le_refl _, fun i hi => List.getElem?_append_left hi, fun i hi => List.getElem?_append_left hi⟩
theorem bX_fx (hfi : fiO fs) : bX (fs, xs, cs, kp, S) (fs ++ a, xs ++ b, cs, kp, S) xs.length cs.length := by
  have := bX_app (a := a) (b := b) (c := []) (xs := xs) (cs := cs) (kp := kp) (S := S) hfi
  rw [List.append_nil] at this
  exact this
theorem bX_c (hfi : fiO fs) : bX (fs, xs, cs, kp, S) (fs, xs, cs ++ c, kp, S) xs.length cs.length := by
  have := bX_app (a := []) (b := []) (c := c) (xs := xs) (cs := cs) (kp := kp) (S := S) hfi
  rw [List.append_nil, List.append_nil] at this
  exact this
theorem bX_f (hfi : fiO fs) : bX (fs, xs, cs, kp, S) (fs ++ a, xs, cs, kp, S) xs.length cs.length := by
  have := bX_app (a := a) (b := []) (c := []) (xs := xs) (cs := cs) (kp := kp) (S := S) hfi
  rw [List.append_nil, List.append_nil] at this
  exact this
theorem bX_x (hfi : fiO fs) : bX (fs, xs, cs, kp, S) (fs, xs ++ b, cs, kp, S) xs.length cs.length := by
  have := bX_app (a := []) (b := b) (c := []) (xs := xs) (cs := cs) (kp := kp) (S := S) hfi
  rw [List.append_nil, List.append_nil] at this
  exact this
theorem fiO_push (hfi : fiO fs) {y : mF} (hy : y.2.2.2.2.2.1 < fs.length) : fiO (fs ++ [y]) := by
  intro i z hz j hj
  rw [List.length_append, List.length_singleton]
  rcases Nat.lt_or_ge i fs.length with q | q
  · rw [List.getElem?_append_left q] at hz
    have := hfi i z hz j hj
    omega
  · have hi := (List.getElem?_eq_some_iff.mp hz).1
    rw [List.length_append, List.length_singleton] at hi
    have ei : i = fs.length := by omega
    subst ei
    rw [List.getElem?_append_right (Nat.le_refl _), Nat.sub_self] at hz
    cases Option.some.inj hz
    omega
theorem mcl_app {F : Nat} (h : F < fs.length) : m_cl (fs ++ a) F = m_cl fs F := by
  unfold m_cl
  rw [List.getElem?_append_left h]
theorem get_new {α : Type} {l : List α} {y : α} : (l ++ [y])[l.length]? = some y := by
  rw [List.getElem?_append_right (Nat.le_refl _), Nat.sub_self]
  rfl
theorem get_app {α : Type} {l m : List α} {i : Nat} {y : α} (h : l[i]? = some y) : (l ++ m)[i]? = some y := by
  rw [List.getElem?_append_left (List.getElem?_eq_some_iff.mp h).1]
  exact h
theorem bR_F {r F K L : Nat} (h : bR e (fs, xs, cs, kp, S) r F K L) : F < fs.length ∧ m_cl fs F = (xg xs K).2.2.2.2.2.2.2.1 := by
  obtain ⟨y, h1, h2⟩ := RK_in h
  exact ⟨(List.getElem?_eq_some_iff.mp h1).1, by rw [mcl_eq h1]; exact h2⟩
theorem bDk_F (hch : x_ch xs) {r it F K L : Nat} (h : bDk e (fs, xs, cs, kp, S) r it F K L) : F < fs.length ∧ m_cl fs F = (xg xs K).2.2.2.2.2.2.2.1 ∧ 1 ≤ K ∧ K < xs.length := by
  rcases h with ⟨h1, h2, y, h3, h4, h5⟩ | ⟨h1, x, h2, h3, h4, h5, h6⟩
  · obtain ⟨a1, a2⟩ := bR_F h2
    refine ⟨a1, a2, ?_⟩
    cases r with
    | zero => exact h2.elim
    | succ r =>
      obtain ⟨y', c1, c2, c3, c4⟩ := h2
      have : y' = y := Option.some.inj (c1.symm.trans h3)
      subst this
      rcases c4 with c | c | ⟨x, d1, d2, _⟩
      · omega
      · omega
      · exact ⟨d2, (List.getElem?_eq_some_iff.mp d1).1⟩
  · obtain ⟨a1, a2⟩ := bR_F h6.1
    have hx := hch.2 K x h2 (by omega)
    refine ⟨a1, ?_, by omega, (List.getElem?_eq_some_iff.mp h2).1⟩
    have e1 : xg xs K = x := by
      have h2' : xs[K]? = some x := h2
      unfold xg
      rw [h2']
      rfl
    rw [e1, hx.2, if_neg (by omega), Nat.zero_add]
    exact a2
theorem bAk_F (hch : x_ch xs) {r it F K L : Nat} (h : bAk e (fs, xs, cs, kp, S) r it F K L) : F < fs.length ∧ m_cl fs F = (xg xs K).2.2.2.2.2.2.2.1 ∧ 1 ≤ K ∧ K < xs.length := by
  rcases h with ⟨h1, h2⟩ | ⟨h1, h2, y, h3, h4, h5⟩
  · exact bDk_F hch h2
  · obtain ⟨a1, a2⟩ := bR_F h2
    refine ⟨a1, a2, ?_⟩
    cases r with
    | zero => exact h2.elim
    | succ r =>
      obtain ⟨y', c1, c2, c3, c4⟩ := h2
      have : y' = y := Option.some.inj (c1.symm.trans h3)
      subst this
      rcases c4 with c | c | ⟨x, d1, d2, _⟩
      · omega
      · omega
      · exact ⟨d2, (List.getElem?_eq_some_iff.mp d1).1⟩
theorem nA_app {z : mC} (hz : ¬ z.1 = 4) : nA (cs ++ [z]) = nA cs := by
  unfold nA
  rw [List.countP_append]
  simp [List.countP_cons, hz]
theorem nA_4 {z : mC} (hz : z.1 = 4) : nA (cs ++ [z]) = nA cs + 1 := by
  unfold nA
  rw [List.countP_append]
  simp [List.countP_cons, hz]
theorem nA_take (m : Nat) : nA (cs.take m) ≤ nA cs := List.Sublist.countP_le (List.take_sublist m cs)
theorem nA_cut {m : Nat} {z : mC} (h : cs[m]? = some z) (hz : z.1 = 4) : nA (cs.take m) + 1 ≤ nA cs := by
  have hm := (List.getElem?_eq_some_iff.mp h).1
  have e1 : cs.take (m + 1) = cs.take m ++ [z] := by
    rw [List.take_add_one, h]
    rfl
  have := nA_take (cs := cs) (m + 1)
  rw [e1, nA_4 hz] at this
  exact this
end BP
