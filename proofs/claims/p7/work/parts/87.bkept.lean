/-! what is kept of earlier searches doesn't matter -/
def skp (m : xS) (kp : Nat → Nat → Nat) : xS := (m.1, m.2.1, m.2.2.1, m.2.2.2.1, m.2.2.2.2.1, m.2.2.2.2.2.1, m.2.2.2.2.2.2.1, m.2.2.2.2.2.2.2.1, kp)
def kpR (xs : List xF) (kp kp' : Nat → Nat → Nat) : Prop := ∀ (f : Nat) (x : xF), xs[f]? = some x → x.1 = 3 → kp x.2.2.1 = kp' x.2.2.1
section KP
variable {tx : Nat → Nat} {n : Nat} {su : Nat → Nat} {sl lim : Nat}
variable {A p k st : Nat} {C : Nat → Nat} {xs : List xF} {bs : List xB} {kp kp' : Nat → Nat → Nat}
theorem kpR_app (h : kpR xs kp kp') {y : xF} (hy : ¬ y.1 = 3) : kpR (xs ++ [y]) kp kp' := by
  intro f x hx h3
  rcases Nat.lt_or_ge f xs.length with q | q
  · rw [List.getElem?_append_left q] at hx
    exact h f x hx h3
  · have hl := (List.getElem?_eq_some_iff.mp hx).1
    rw [List.length_append, List.length_singleton] at hl
    have ef : f = xs.length := by omega
    subst ef
    rw [get_new] at hx
    cases Option.some.inj hx
    exact absurd h3 hy
theorem kpR_take (h : kpR xs kp kp') (m : Nat) : kpR (xs.take m) kp kp' := by
  intro f x hx h3
  have hl := (List.getElem?_eq_some_iff.mp hx).1
  rw [List.length_take] at hl
  rw [List.getElem?_take_of_lt (by omega)] at hx
  exact h f x hx h3
theorem kp_item2 {nx : Nat} : x_item2 tx n A nx p C st xs bs kp' = skp (x_item2 tx n A nx p C st xs bs kp) kp' := by
  unfold x_item2
  repeat' split
  all_goals rfl
theorem kp_item2f {nx : Nat} (h : kpR xs kp kp') : kpR (x_item2 tx n A nx p C st xs bs kp).2.2.2.2.2.2.1 kp kp' ∧ (x_item2 tx n A nx p C st xs bs kp).2.2.2.2.2.2.2.2 = kp := by
  unfold x_item2
  repeat' split
  all_goals first | exact ⟨h, rfl⟩ | exact ⟨kpR_app h (show ¬ (11 : Nat) = 3 by decide), rfl⟩ | exact ⟨kpR_app h (show ¬ (10 : Nat) = 3 by decide), rfl⟩ | exact ⟨kpR_app h (show ¬ (6 : Nat) = 3 by decide), rfl⟩
theorem kp_act (h : kpR xs kp kp') {M : Nat} : ∃ kp2, x_act tx n su sl (M, A, p, k, C, st, xs, bs, kp') = skp (x_act tx n su sl (M, A, p, k, C, st, xs, bs, kp)) kp2 ∧ kpR (x_act tx n su sl (M, A, p, k, C, st, xs, bs, kp)).2.2.2.2.2.2.1 (x_act tx n su sl (M, A, p, k, C, st, xs, bs, kp)).2.2.2.2.2.2.2.2 kp2 := by
  have ea : ∀ kp, x_act tx n su sl (M, A, p, k, C, st, xs, bs, kp) = if M = 0 then (if x_re tx n A then (5, 0, p, k, C, st, xs, bs, kp) else x_item tx n A p k C st xs bs kp)
    else if M = 1 then (0, A, p, k, C, st, xs, (match x_nr tx n A with
      | none => bs
      | some j => bs ++ [(1, j, p, k, xs.length - 1, C)]), kp)
    else if M = 2 then x_atom tx n su sl A p k C st xs bs kp
    else if M = 3 then x_st tx n false A p k C st xs bs kp
    else if M = 4 then x_st tx n true A p k C st xs bs kp
    else if M = 5 then x_carry tx n (xg xs k) p C st xs bs kp
    else (M, A, p, k, C, st, xs, bs, kp) := fun kp => rfl
  rw [ea kp, ea kp']
  by_cases m0 : M = 0
  · rw [if_pos m0, if_pos m0]
    by_cases hre : x_re tx n A
    · rw [if_pos hre, if_pos hre]
      exact ⟨kp', rfl, h⟩
    · rw [if_neg hre, if_neg hre]
      refine ⟨kp', ?_⟩
      unfold x_item
      by_cases q1 : x_r tx n A = 123 ∧ xt tx n (x_ba tx n A + 1) = 48
      · rw [if_pos q1, if_pos q1]
        exact ⟨rfl, h⟩
      · rw [if_neg q1, if_neg q1]
        have h1 : kpR (xs ++ [x_mk tx n xs 1 (x_bh tx n A) 0 k p]) kp kp' := kpR_app h (show ¬ (1 : Nat) = 3 by decide)
        by_cases q2 : x_how tx n A = 43
        · rw [if_pos q2, if_pos q2]
          have h2 := kpR_app (y := x_mk tx n (xs ++ [x_mk tx n xs 1 (x_bh tx n A) 0 k p]) 7 0 bs.length xs.length p) h1 (show ¬ (7 : Nat) = 3 by decide)
          obtain ⟨a1, a2⟩ := kp_item2f (tx := tx) (n := n) (A := A) (p := p) (C := C) (st := st) (bs := bs) (nx := xs.length + 1) h2
          exact ⟨kp_item2, by rw [a2]; exact a1⟩
        · rw [if_neg q2, if_neg q2]
          obtain ⟨a1, a2⟩ := kp_item2f (tx := tx) (n := n) (A := A) (p := p) (C := C) (st := st) (bs := bs) (nx := xs.length) h1
          exact ⟨kp_item2, by rw [a2]; exact a1⟩
  rw [if_neg m0, if_neg m0]
  by_cases m1 : M = 1
  · rw [if_pos m1, if_pos m1]
    exact ⟨kp', rfl, h⟩
  rw [if_neg m1, if_neg m1]
  by_cases m2 : M = 2
  · rw [if_pos m2, if_pos m2]
    unfold x_atom
    by_cases h40 : xt tx n A = 40
    · rw [if_pos h40, if_pos h40]
      unfold x_open
      by_cases c0 : x_x tx n A = 0
      · rw [if_pos c0, if_pos c0]
        exact ⟨kp', rfl, kpR_app h (show ¬ (2 : Nat) = 3 by decide)⟩
      rw [if_neg c0, if_neg c0]
      by_cases c1 : x_x tx n A = 58
      · rw [if_pos c1, if_pos c1]
        exact ⟨kp', rfl, h⟩
      rw [if_neg c1, if_neg c1]
      by_cases c2 : x_x tx n A = 62
      · rw [if_pos c2, if_pos c2]
        exact ⟨kp', rfl, kpR_app h (show ¬ (7 : Nat) = 3 by decide)⟩
      rw [if_neg c2, if_neg c2]
      by_cases c3 : x_x tx n A = 61
      · rw [if_pos c3, if_pos c3]
        exact ⟨kp', rfl, kpR_app h (show ¬ (8 : Nat) = 3 by decide)⟩
      rw [if_neg c3, if_neg c3]
      by_cases c4 : x_x tx n A = 33
      · rw [if_pos c4, if_pos c4]
        exact ⟨kp', rfl, kpR_app h (show ¬ (9 : Nat) = 3 by decide)⟩
      rw [if_neg c4, if_neg c4]
      by_cases c5 : 12 ≤ (xg xs k).2.2.2.2.2.2.2.1
      · rw [if_pos c5, if_pos c5]
        exact ⟨kp', rfl, h⟩
      rw [if_neg c5, if_neg c5]
      refine ⟨fun s => if s = st + 1 then C else kp' s, rfl, ?_⟩
      intro f x hx h3
      show (if x.2.2.1 = st + 1 then C else kp x.2.2.1) = (if x.2.2.1 = st + 1 then C else kp' x.2.2.1)
      by_cases hs : x.2.2.1 = st + 1
      · rw [if_pos hs, if_pos hs]
      · rw [if_neg hs, if_neg hs]
        have hx : (xs ++ [x_mk tx n xs 3 0 (st + 1) k p])[f]? = some x := hx
        rcases Nat.lt_or_ge f xs.length with q | q
        · rw [List.getElem?_append_left q] at hx
          exact h f x hx h3
        · have hl := (List.getElem?_eq_some_iff.mp hx).1
          rw [List.length_append, List.length_singleton] at hl
          have ef : f = xs.length := by omega
          subst ef
          rw [get_new] at hx
          cases Option.some.inj hx
          exact absurd rfl hs
    · rw [if_neg h40, if_neg h40]
      refine ⟨kp', ?_⟩
      split
      · exact ⟨rfl, h⟩
      · exact ⟨rfl, h⟩
  rw [if_neg m2, if_neg m2]
  by_cases m3 : M = 3
  · rw [if_pos m3, if_pos m3]
    exact ⟨kp', rfl, kpR_app h (show ¬ (4 : Nat) = 3 by decide)⟩
  rw [if_neg m3, if_neg m3]
  by_cases m4 : M = 4
  · rw [if_pos m4, if_pos m4]
    exact ⟨kp', rfl, kpR_app h (show ¬ (5 : Nat) = 3 by decide)⟩
  rw [if_neg m4, if_neg m4]
  by_cases m5 : M = 5
  · rw [if_pos m5, if_pos m5]
    refine ⟨kp', ?_⟩
    unfold x_carry
    by_cases k1 : (xg xs k).1 = 1
    · rw [if_pos k1, if_pos k1]; exact ⟨rfl, h⟩
    rw [if_neg k1, if_neg k1]
    by_cases k2 : (xg xs k).1 = 2
    · rw [if_pos k2, if_pos k2]; exact ⟨rfl, h⟩
    rw [if_neg k2, if_neg k2]
    by_cases k3 : (xg xs k).1 = 3
    · rw [if_pos k3, if_pos k3]
      have hk : xs[k]? = some (xg xs k) := by
        cases hx : xs[k]? with
        | none =>
          exfalso
          unfold xg at k3
          rw [hx] at k3
          cases k3
        | some x => rw [xg_at hx]
      refine ⟨?_, h⟩
      show (_, _, _, _, kp' (xg xs k).2.2.1, _) = (_, _, _, _, kp (xg xs k).2.2.1, _)
      rw [h k _ hk k3]
    rw [if_neg k3, if_neg k3]
    by_cases k4 : (xg xs k).1 = 4 ∨ (xg xs k).1 = 5
    · rw [if_pos k4, if_pos k4]; exact ⟨rfl, h⟩
    rw [if_neg k4, if_neg k4]
    by_cases k6 : (xg xs k).1 = 6
    · rw [if_pos k6, if_pos k6]
      by_cases z : (xg xs k).2.2.1 = 0
      · rw [if_pos z, if_pos z]; exact ⟨rfl, h⟩
      · rw [if_neg z, if_neg z]; exact ⟨rfl, kpR_app h (show ¬ (6 : Nat) = 3 by decide)⟩
    rw [if_neg k6, if_neg k6]
    by_cases k7 : (xg xs k).1 = 7
    · rw [if_pos k7, if_pos k7]; exact ⟨rfl, h⟩
    rw [if_neg k7, if_neg k7]
    by_cases k8 : (xg xs k).1 = 8
    · rw [if_pos k8, if_pos k8]; exact ⟨rfl, h⟩
    rw [if_neg k8, if_neg k8]
    by_cases k9 : (xg xs k).1 = 9
    · rw [if_pos k9, if_pos k9]; exact ⟨rfl, h⟩
    rw [if_neg k9, if_neg k9]
    exact ⟨rfl, h⟩
  · rw [if_neg m5, if_neg m5]
    exact ⟨kp', rfl, h⟩
theorem kp_wk : ∀ (f : Nat) (m : xS) (kp' : Nat → Nat → Nat), kpR m.2.2.2.2.2.2.1 m.2.2.2.2.2.2.2.2 kp' → ∃ kp2, x_wk tx n su sl lim f (skp m kp') = ((x_wk tx n su sl lim f m).1, skp (x_wk tx n su sl lim f m).2 kp2)
  | 0, m, kp', h => ⟨kp', rfl⟩
  | f + 1, m, kp', h => by
    obtain ⟨M, A, p, k, C, st, xs, bs, kp⟩ := m
    have h : kpR xs kp kp' := h
    have key : ∀ (M A p k : Nat) (C : Nat → Nat) (xs : List xF) (bs : List xB) (kp kp' : Nat → Nat → Nat), kpR xs kp kp' → ∃ kp2, (if M = 5 ∧ k = 0 then (1, (M, A, p, k, C, st, xs, bs, kp')) else if M = 2 ∧ st = lim then (2, (M, A, p, k, C, st, xs, bs, kp')) else x_wk tx n su sl lim f (x_act tx n su sl (M, A, p, k, C, st, xs, bs, kp'))) = ((if M = 5 ∧ k = 0 then (1, (M, A, p, k, C, st, xs, bs, kp)) else if M = 2 ∧ st = lim then (2, (M, A, p, k, C, st, xs, bs, kp)) else x_wk tx n su sl lim f (x_act tx n su sl (M, A, p, k, C, st, xs, bs, kp))).1, skp (if M = 5 ∧ k = 0 then (1, (M, A, p, k, C, st, xs, bs, kp)) else if M = 2 ∧ st = lim then (2, (M, A, p, k, C, st, xs, bs, kp)) else x_wk tx n su sl lim f (x_act tx n su sl (M, A, p, k, C, st, xs, bs, kp))).2 kp2) := by
      intro M A p k C xs bs kp kp' h
      by_cases q1 : M = 5 ∧ k = 0
      · rw [if_pos q1, if_pos q1]
        exact ⟨kp', rfl⟩
      · rw [if_neg q1, if_neg q1]
        by_cases q2 : M = 2 ∧ st = lim
        · rw [if_pos q2, if_pos q2]
          exact ⟨kp', rfl⟩
        · rw [if_neg q2, if_neg q2]
          obtain ⟨kp2, a1, a2⟩ := kp_act (tx := tx) (n := n) (su := su) (sl := sl) (A := A) (p := p) (k := k) (st := st) (C := C) (bs := bs) (M := M) h
          rw [a1]
          exact kp_wk f _ kp2 a2
    have ew : ∀ kp, x_wk tx n su sl lim (f + 1) (M, A, p, k, C, st, xs, bs, kp) = match (if M = 6 then x_ret st xs bs kp else some (M, A, p, k, C, st, xs, bs, kp)) with
      | none => (0, (M, A, p, k, C, st, xs, bs, kp))
      | some m1 => if m1.1 = 5 ∧ m1.2.2.2.1 = 0 then (1, m1) else if m1.1 = 2 ∧ m1.2.2.2.2.2.1 = lim then (2, m1) else x_wk tx n su sl lim f (x_act tx n su sl m1) := fun kp => rfl
    show ∃ kp2, x_wk tx n su sl lim (f + 1) (M, A, p, k, C, st, xs, bs, kp') = _
    rw [ew kp, ew kp']
    by_cases h6 : M = 6
    · rw [if_pos h6, if_pos h6]
      unfold x_ret
      cases hb : bs[bs.length - 1]? with
      | none => exact ⟨kp', rfl⟩
      | some y => exact key y.1 y.2.1 y.2.2.1 y.2.2.2.1 y.2.2.2.2.2 (xs.take (y.2.2.2.2.1 + 1)) (bs.take (bs.length - 1)) kp kp' (kpR_take h _)
    · rw [if_neg h6, if_neg h6]
      exact key M A p k C xs bs kp kp' h
theorem kp_sk : ∀ (f s st : Nat) (kp kp' : Nat → Nat → Nat), (x_sk tx n su sl lim f s st kp').1 = (x_sk tx n su sl lim f s st kp).1 ∧ (x_sk tx n su sl lim f s st kp').2.1 = (x_sk tx n su sl lim f s st kp).2.1 ∧ (x_sk tx n su sl lim f s st kp').2.2.1 = (x_sk tx n su sl lim f s st kp).2.2.1
  | 0, s, st, kp, kp' => ⟨rfl, rfl, rfl⟩
  | f + 1, s, st, kp, kp' => by
    have es : ∀ kp, x_sk tx n su sl lim (f + 1) s st kp = if (x_wk tx n su sl lim 1000000 (x_beg s st kp)).1 = 2 then (-5, (x_wk tx n su sl lim 1000000 (x_beg s st kp)).2.2.2.2.2.2.1, none, (x_wk tx n su sl lim 1000000 (x_beg s st kp)).2.2.2.2.2.2.2.2.2) else if (x_wk tx n su sl lim 1000000 (x_beg s st kp)).1 = 1 then (nI s, (x_wk tx n su sl lim 1000000 (x_beg s st kp)).2.2.2.2.2.2.1, some (s, (x_wk tx n su sl lim 1000000 (x_beg s st kp)).2.2.2.1, (x_wk tx n su sl lim 1000000 (x_beg s st kp)).2.2.2.2.2.1), (x_wk tx n su sl lim 1000000 (x_beg s st kp)).2.2.2.2.2.2.2.2.2) else x_sk tx n su sl lim f (s + 1) (x_wk tx n su sl lim 1000000 (x_beg s st kp)).2.2.2.2.2.2.1 (x_wk tx n su sl lim 1000000 (x_beg s st kp)).2.2.2.2.2.2.2.2.2 := fun kp => rfl
    have hb : kpR (x_beg s st kp).2.2.2.2.2.2.1 (x_beg s st kp).2.2.2.2.2.2.2.2 kp' := by
      intro g x hx h3
      have hx : [((0, 0, 0, 0, s, 0, 0, 0, 0) : xF)][g]? = some x := hx
      match g, hx with
      | 0, hx => cases hx; cases h3
      | g + 1, hx => simp at hx
    obtain ⟨kp2, hw⟩ := kp_wk (tx := tx) (n := n) (su := su) (sl := sl) (lim := lim) 1000000 (x_beg s st kp) kp' hb
    have e0 : skp (x_beg s st kp) kp' = x_beg s st kp' := rfl
    rw [e0] at hw
    rw [es kp, es kp', hw]
    generalize x_wk tx n su sl lim 1000000 (x_beg s st kp) = r
    obtain ⟨c, m⟩ := r
    show (if c = 2 then (-5, m.2.2.2.2.2.1, none, kp2) else if c = 1 then (nI s, m.2.2.2.2.2.1, some (s, m.2.2.1, m.2.2.2.2.1), kp2) else x_sk tx n su sl lim f (s + 1) m.2.2.2.2.2.1 kp2 : xR).1 = (if c = 2 then (-5, m.2.2.2.2.2.1, none, m.2.2.2.2.2.2.2.2) else if c = 1 then (nI s, m.2.2.2.2.2.1, some (s, m.2.2.1, m.2.2.2.2.1), m.2.2.2.2.2.2.2.2) else x_sk tx n su sl lim f (s + 1) m.2.2.2.2.2.1 m.2.2.2.2.2.2.2.2 : xR).1 ∧ (if c = 2 then (-5, m.2.2.2.2.2.1, none, kp2) else if c = 1 then (nI s, m.2.2.2.2.2.1, some (s, m.2.2.1, m.2.2.2.2.1), kp2) else x_sk tx n su sl lim f (s + 1) m.2.2.2.2.2.1 kp2 : xR).2.1 = (if c = 2 then (-5, m.2.2.2.2.2.1, none, m.2.2.2.2.2.2.2.2) else if c = 1 then (nI s, m.2.2.2.2.2.1, some (s, m.2.2.1, m.2.2.2.2.1), m.2.2.2.2.2.2.2.2) else x_sk tx n su sl lim f (s + 1) m.2.2.2.2.2.1 m.2.2.2.2.2.2.2.2 : xR).2.1 ∧ (if c = 2 then (-5, m.2.2.2.2.2.1, none, kp2) else if c = 1 then (nI s, m.2.2.2.2.2.1, some (s, m.2.2.1, m.2.2.2.2.1), kp2) else x_sk tx n su sl lim f (s + 1) m.2.2.2.2.2.1 kp2 : xR).2.2.1 = (if c = 2 then (-5, m.2.2.2.2.2.1, none, m.2.2.2.2.2.2.2.2) else if c = 1 then (nI s, m.2.2.2.2.2.1, some (s, m.2.2.1, m.2.2.2.2.1), m.2.2.2.2.2.2.2.2) else x_sk tx n su sl lim f (s + 1) m.2.2.2.2.2.1 m.2.2.2.2.2.2.2.2 : xR).2.2.1
    by_cases c2 : c = 2
    · rw [if_pos c2, if_pos c2]; exact ⟨rfl, rfl, rfl⟩
    · rw [if_neg c2, if_neg c2]
      by_cases c1 : c = 1
      · rw [if_pos c1, if_pos c1]; exact ⟨rfl, rfl, rfl⟩
      · rw [if_neg c1, if_neg c1]
        exact kp_sk f _ _ _ _
end KP
