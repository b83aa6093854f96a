/-! the walk, as a run of acts -/
def x_wk (tx : Nat → Nat) (n : Nat) (su : Nat → Nat) (sl lim : Nat) : Nat → xS → Nat × xS
  | 0, m => (2, m)
  | f + 1, m => match (if m.1 = 6 then x_ret m.2.2.2.2.2.1 m.2.2.2.2.2.2.1 m.2.2.2.2.2.2.2.1 m.2.2.2.2.2.2.2.2 else some m) with
    | none => (0, m)
    | some m1 => if m1.1 = 5 ∧ m1.2.2.2.1 = 0 then (1, m1) else if m1.1 = 2 ∧ m1.2.2.2.2.2.1 = lim then (2, m1) else x_wk tx n su sl lim f (x_act tx n su sl m1)
section XW
variable {tx : Nat → Nat} {n Q sl lim : Nat} {su : Nat → Nat} {i : mm_i} {l : mm_j} {a : mm_a} {b : mm_b}
variable {M A p k st e : Nat} {C : Nat → Nat} {fs : List xF} {bs : List xB} {kp : Nat → Nat → Nat}
theorem xW_room (hlim : lim ≤ 300) (h : xW tx n Q sl lim (M, A, p, k, C, st, fs, bs, kp)) : 1 ≤ fs.length ∧ fs.length + 3 ≤ 7000 ∧ bs.length < 4000 ∧ st ≤ 300 ∧ k < fs.length := by
  obtain ⟨w1, ⟨r1, r2, r3, r4, r5, r6, r7, r8, r9, r10, r11⟩, w3⟩ := h
  exact ⟨w_Fs_len r1, by omega, by omega, by omega, r2⟩
theorem x_91 {X : mm_i → mm_j → mm_a → mm_b → Int32 → Prop} {K : Int32 → mm_i → mm_j → mm_a → mm_b → Prop} (hG : xG tx n Q) (h : rX tx n su sl lim (M, A, p, k, C, st, fs, bs, kp) i l a b) (hw : xW tx n Q sl lim (M, A, p, k, C, st, fs, bs, kp)) (h6 : ¬ M = 6) (h5 : ¬ (M = 5 ∧ k = 0)) (h2 : ¬ (M = 2 ∧ st = lim)) {z2 : Int32}
    (hX : ∀ i' l' b', rX tx n su sl lim (x_act tx n su sl (M, A, p, k, C, st, fs, bs, kp)) i' l' a b' → rV i l i' l' → X i' l' a b' (z2 + 1)) : wq_Model_walk_0_91 X K i l a b z2 := by
  have hY := h.1
  have hlim : lim ≤ 300 := hY.2.2.2.2.2.1
  have hsl : sl ≤ 40 := hY.2.2.2.2.1
  have hT := hY.2.2.1
  have hn := hT.1
  obtain ⟨o1, o2, o3, o4, o5⟩ := xW_room hlim hw
  have g22 : i 22 = nI M := h.2.1
  have g23 : i 23 = nI A := h.2.2.1
  have g25 : i 25 = nI k := h.2.2.2.2.1
  obtain ⟨wA, wR, wc⟩ := hw
  have hps := wR.2.2.2.1
  have hC := wR.2.2.2.2.1
  have hFs := wR.1
  have hst := wR.2.2.2.2.2.2.2.2.1
  have hM := wA.1
  unfold wq_Model_walk_0_91 wq_Model_walk_0_240
  rw [g22]
  have ye : ∀ (c : Nat) (v : Int32), v = nI c → c < 2 ^ 31 → nI M = v → M = c := fun c v hv hc q => (x_is c hv (by omega) hc).mp q
  have no : ∀ (c : Nat) (v : Int32), v = nI c → ¬ nI M = v → ¬ M = c := fun c v hv q w => q (by rw [w, hv])
  refine ⟨fun q => ?_, fun q0 => ⟨fun q => ?_, fun q1 => ⟨fun q => ?_, fun q2 => ⟨fun q => ⟨fun q4 => ?_, fun q4 => ?_⟩, fun q3 => ⟨fun q => ⟨fun q4 => absurd q q4, fun _ => ?_⟩, fun q4 => ⟨fun q => ?_, fun q5 => ?_⟩⟩⟩⟩⟩⟩
  · have e := ye 0 0 rfl (by decide) q
    subst e
    have hA : A ≤ 40 := wA.2.1 rfl
    refine x_rowEnds hT (k := A) (by omega) g23 (fun r => ⟨fun z => absurd z (by decide), fun _ => ?_⟩) (fun r => ⟨fun _ => ?_, fun z => absurd rfl z⟩)
    · refine x_go h 5 0 k rfl rfl g25 (fun i' y1 y2 => hX _ _ _ ?_ y2)
      rw [x_act, if_pos rfl, if_pos r]
      exact y1
    · have hA2 : A < n := by
        rcases Nat.lt_or_ge A n with w | w
        · exact w
        · exact absurd (Or.inl w) r
      refine x_itemL h o1 (by omega) o3 (by omega) (by omega) hA2 (hG.2.2.1 _) g23 (fun i' b' y1 y2 => hX _ _ _ ?_ y2)
      rw [x_act, if_pos rfl, if_neg r]
      exact y1
  · have e := ye 1 1 rfl (by decide) q
    subst e
    have hA : A ≤ n := wA.2.2.1 rfl
    refine x_nextRow hT (j := A) (by omega) g23 ?_
    have ea : x_act tx n su sl (1, A, p, k, C, st, fs, bs, kp) = (0, A, p, k, C, st, fs, (match x_nr tx n A with
      | none => bs
      | some j => bs ++ [(1, j, p, k, fs.length - 1, C)]), kp) := rfl
    rw [ea] at hX
    cases hr : x_nr tx n A with
    | none =>
      rw [hr] at hX
      refine ⟨fun _ => ?_, fun z => absurd (by decide) z⟩
      exact x_go h 0 A k rfl g23 g25 (fun i' y1 y2 => hX _ _ _ y1 y2)
    | some j =>
      rw [hr] at hX
      have hj : j ≤ n := by
        unfold x_nr at hr
        split at hr
        · rename_i q
          have := (x_in q (by decide)).1
          cases hr
          omega
        · cases hr
      refine ⟨fun z => absurd z (nI_pos (by omega)), fun _ => ?_⟩
      refine x_pushB h o3 o1 (by omega) (by omega) 1 j k (by decide) (by omega) (by omega) rfl rfl g25 (fun i' b' y1 y2 y3 => ?_)
      exact x_go y1 0 A k rfl (by rw [y3 23 (by decide)]; exact g23) (by rw [y3 25 (by decide)]; exact g25) (fun i2 v1 v2 => hX _ _ _ v1 (rV_tr y2 v2))
  · have e := ye 2 2 rfl (by decide) q
    subst e
    have hA : A < n := wA.2.2.2.1 (Or.inl rfl)
    have hg := hG.2.2.2.1 (A + 1)
    refine x_atomL h o1 (by omega) o3 hps hC o5 (by omega) (w_Fs_ch hFs) (w_Fs_N hFs o5) hA (by omega) (hG.2.1 A) (fun r z0 z1 z2 z3 z4 => ?_) (fun i' b' y1 y2 => hX _ _ _ y1 y2)
    have hx63 : xt tx n (A + 1) = 63 := by
      unfold x_x at z0
      split at z0
      · assumption
      · exact absurd rfl z0
    have := hG.2.2.2.2.1 A r hx63
    omega
  · have e := ye 3 3 rfl (by decide) q
    subst e
    exact x_starL h o1 (by omega) o3 (by omega) wA.2.2.2.2 (by omega) false rfl (fun i' b' y1 y2 => hX _ _ _ y1 y2)
  · exact absurd (ye 4 4 rfl (by decide) q4) (by have := ye 3 3 rfl (by decide) q; omega)
  · have e := ye 4 4 rfl (by decide) q
    subst e
    exact x_starL h o1 (by omega) o3 (by omega) wA.2.2.2.2 (by omega) true rfl (fun i' b' y1 y2 => hX _ _ _ y1 y2)
  · have e := ye 5 5 rfl (by decide) q
    subst e
    have hx : fs[k]? = some fs[k] := List.getElem?_eq_getElem o5
    generalize fs[k] = x at hx
    have hk1 : 1 ≤ k := by omega
    obtain ⟨g0, g1, g2, g3, g4, g5, g6, g7, g8, g9, g10, g11⟩ := hFs.2 k x hx hk1
    have r6 := wR.2.2.2.2.2.1
    rw [xg_of hx] at r6
    have eM : x.2.2.2.2.2.2.2.2 = if 7 ≤ x.1 ∧ x.1 ≤ 9 then x.2.2.1 else (xg fs x.2.2.2.1).2.2.2.2.2.2.2.2 := by
      conv => lhs; rw [g0]
      rfl
    refine x_carryL h o1 (by omega) hps hC hx g1.1 g1.2 (fun w => ?_) g8 (fun w => ?_) (by omega) (fun i' l' b' y1 y2 => hX _ _ _ ?_ y2)
    · obtain ⟨b1, b2⟩ := g7 w
      omega
    · rw [eM, if_pos (by omega)] at r6
      exact r6
    · have ea : x_act tx n su sl (5, A, p, k, C, st, fs, bs, kp) = x_carry tx n (xg fs k) p C st fs bs kp := rfl
      rw [ea, xg_of hx]
      exact y1
  · have n0 := no 0 0 rfl q0
    have n1 := no 1 1 rfl q1
    have n2 := no 2 2 rfl q2
    have n3 := no 3 3 rfl q3
    have n4 := no 4 4 rfl q4
    have n5 := no 5 5 rfl q5
    omega
theorem x_walkL {K : Int32 → mm_i → mm_j → mm_a → mm_b → Prop} (hG : xG tx n Q) : ∀ (r t : Nat), t + r = 1000000 → ∀ {i : mm_i} {l : mm_j} {b : mm_b} {m : xS}, rX tx n su sl lim m i l a b → xW tx n Q sl lim m →
    (∀ i' l' b' c m', x_wk tx n su sl lim r m = (c, m') → rX tx n su sl lim m' i' l' a b' → xW tx n Q sl lim m' → rV i l i' l' → K (nI c) i' l' a b') → wl_Model_walk_0 K (r + 1) i l a b (nI t) := by
  intro r
  induction r with
  | zero =>
    intro t ht i l b m h hw hK
    show wt_Model_walk_0 _ K i l a b (nI t)
    unfold wt_Model_walk_0
    exact ⟨fun _ => hK i l b 2 m rfl h hw rV_rf, fun z => absurd ((nI_leI (a := 1000000) (by decide) (by omega)).mpr (by omega)) z⟩
  | succ r ih =>
    intro t ht i l b m h hw hK
    show wt_Model_walk_0 (wl_Model_walk_0 K (r + 1)) K i l a b (nI t)
    unfold wt_Model_walk_0
    refine ⟨fun z => absurd ((nI_leI (a := 1000000) (by decide) (by omega)).mp z) (by omega), fun _ => ?_⟩
    have hlim : lim ≤ 300 := h.1.2.2.2.2.2.1
    have hsl : sl ≤ 40 := h.1.2.2.2.2.1
    -- behind the way back
    have rest : ∀ {i1 : mm_i} {l1 : mm_j} {b1 : mm_b} {m1 : xS}, rX tx n su sl lim m1 i1 l1 a b1 → xW tx n Q sl lim m1 → ¬ m1.1 = 6 → rV i l i1 l1 → (if m.1 = 6 then x_ret m.2.2.2.2.2.1 m.2.2.2.2.2.2.1 m.2.2.2.2.2.2.2.1 m.2.2.2.2.2.2.2.2 else some m) = some m1 → wq_Model_walk_0_53 (wl_Model_walk_0 K (r + 1)) K i1 l1 a b1 (nI t) := by
      intro i1 l1 b1 m1 h1 hw1 h6 hV he
      have hK1 : ∀ i' l' b' c m', (if m1.1 = 5 ∧ m1.2.2.2.1 = 0 then (1, m1) else if m1.1 = 2 ∧ m1.2.2.2.2.2.1 = lim then (2, m1) else x_wk tx n su sl lim r (x_act tx n su sl m1)) = (c, m') → rX tx n su sl lim m' i' l' a b' → xW tx n Q sl lim m' → rV i l i' l' → K (nI c) i' l' a b' := by
        intro i' l' b' c m' e2 e3 e4 e5
        refine hK i' l' b' c m' ?_ e3 e4 e5
        show (match (if m.1 = 6 then x_ret m.2.2.2.2.2.1 m.2.2.2.2.2.2.1 m.2.2.2.2.2.2.2.1 m.2.2.2.2.2.2.2.2 else some m) with
          | none => (0, m)
          | some m1 => if m1.1 = 5 ∧ m1.2.2.2.1 = 0 then (1, m1) else if m1.1 = 2 ∧ m1.2.2.2.2.2.1 = lim then (2, m1) else x_wk tx n su sl lim r (x_act tx n su sl m1)) = (c, m')
        rw [he]
        exact e2
      obtain ⟨M1, A1, p1, k1, C1, st1, fs1, bs1, kp1⟩ := m1
      have g22 : i1 22 = nI M1 := h1.2.1
      have g25 : i1 25 = nI k1 := h1.2.2.2.2.1
      have g10 : i1 10 = nI st1 := h1.2.2.2.2.2.2.1
      have g0 : i1 0 = nI lim := h1.1.1
      have hM1 := hw1.1.1
      obtain ⟨o1, o2, o3, o4, o5⟩ := xW_room hlim hw1
      have go : ¬ (M1 = 5 ∧ k1 = 0) → ¬ (M1 = 2 ∧ st1 = lim) → wq_Model_walk_0_91 (wl_Model_walk_0 K (r + 1)) K i1 l1 a b1 (nI t) := by
        intro n5 n2
        refine x_91 hG h1 hw1 h6 n5 n2 (fun i' l' b' y1 y2 => ?_)
        rw [nI_1]
        refine ih (t + 1) (by omega) y1 (k_act hG hsl hlim hw1 h6 n5 n2) (fun i2 l2 b2 c m2 v1 v2 v3 v4 => ?_)
        exact hK1 i2 l2 b2 c m2 (by rw [if_neg n5, if_neg n2]; exact v1) v2 v3 (rV_tr hV (rV_tr y2 v4))
      unfold wq_Model_walk_0_53 wq_Model_walk_0_70
      rw [g22, g25, g10, g0]
      refine ⟨fun q => ⟨fun q2 => go (fun w => q (by rw [w.1]; rfl)) (fun w => q2 (by rw [w.1]; rfl)), fun q2 => ⟨fun q3 => go (fun w => q (by rw [w.1]; rfl)) (fun w => q3 (by rw [w.2])), fun q3 => ?_⟩⟩, fun q => ⟨fun q2 => ⟨fun q3 => go (fun w => q2 (by rw [w.2]; rfl)) (fun w => q3 (by rw [w.1]; rfl)), fun q3 => ⟨fun q4 => go (fun w => q2 (by rw [w.2]; rfl)) (fun w => q4 (by rw [w.2])), fun q4 => ?_⟩⟩, fun q2 => ?_⟩⟩
      · have e2 := (x_is 2 rfl (by omega) (by decide)).mp q2
        have e3 := (nI_eq (by omega) (by omega)).mp q3
        exact hK1 i1 l1 b1 2 _ (by rw [if_neg (fun w => by have := w.1; omega), if_pos ⟨e2, e3⟩]) h1 hw1 hV
      · have e2 := (x_is 2 rfl (by omega) (by decide)).mp q3
        have e5 := (x_is 5 rfl (by omega) (by decide)).mp q
        omega
      · have e5 := (x_is 5 rfl (by omega) (by decide)).mp q
        have e0 := (x_is 0 rfl (by omega) (by decide)).mp q2
        exact hK1 i1 l1 b1 1 _ (by rw [if_pos ⟨e5, e0⟩]) h1 hw1 hV
    obtain ⟨M, A, p, k, C, st, fs, bs, kp⟩ := m
    have g22 : i 22 = nI M := h.2.1
    have hM := hw.1.1
    obtain ⟨o1, o2, o3, o4, o5⟩ := xW_room hlim hw
    rw [g22]
    refine ⟨fun q => ?_, fun q => ?_⟩
    · have q6 : ¬ M = 6 := fun w => q (by rw [w]; rfl)
      exact rest h hw q6 rV_rf (by rw [if_neg q6])
    · have q6 := (x_is 6 rfl (by omega) (by decide)).mp q
      subst q6
      refine x_retL h (by omega) (fun y hy => ?_) (fun e => ⟨fun z => absurd rfl z, fun _ => ?_⟩) (fun m1 i1 l1 e y1 y2 => ⟨fun _ => ?_, fun z => absurd z (by decide)⟩)
      · exact (hw.2.1.2.2.2.2.2.2.1.1 _ y hy).2.2.1
      · refine hK i l b 0 _ ?_ h hw rV_rf
        show (match (if (6 : Nat) = 6 then x_ret st fs bs kp else _) with
          | none => _
          | some m1 => _) = _
        rw [if_pos rfl, e]
      · have hk := k_ret h.1.2.2.1.1 hw e
        exact rest y1 hk.1 hk.2 y2 (by rw [if_pos rfl]; exact e)
end XW
