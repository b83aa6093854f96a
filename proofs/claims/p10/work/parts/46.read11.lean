/-! what stands at the head of a part is kept -/
theorem q_cls_p {tx : Nat → Nat} {tl : Nat} : ∀ n p z g, p ≤ (q_cls tx tl n p z g).2.1 ∧ (q_cls tx tl n p z g).2.1 ≤ p + 3 * n := by
  intro n
  induction n with
  | zero => intro p z g; exact ⟨Nat.le_refl _, Nat.le_refl _⟩
  | succ n ih =>
    intro p z g
    rw [q_cls]
    split
    · exact ⟨Nat.le_refl _, by show p ≤ _; omega⟩
    · split
      · rename_i c _
        have h := ih (q_prt tx tl p c g).2.1 (z ||| (q_prt tx tl p c g).1) (q_prt tx tl p c g).2.2
        have h2 := q_prt_p (tx := tx) (tl := tl) (p := p) (c := c) (g := g)
        omega
      · exact ⟨Nat.le_refl _, by show p ≤ _; omega⟩
theorem q_cls_g {tx : Nat → Nat} {tl : Nat} : ∀ n p z g, g ≤ 1 → (q_cls tx tl n p z g).2.2 ≤ 1 := by
  intro n
  induction n with
  | zero => intro p z g hg; exact hg
  | succ n ih =>
    intro p z g hg
    rw [q_cls]
    split
    · exact hg
    · split
      · exact ih _ _ _ (q_prt_g hg)
      · exact hg
theorem q_class_p {tx : Nat → Nat} {tl p g : Nat} : p + 1 ≤ (q_class tx tl p g).2.1 ∧ (q_class tx tl p g).2.1 ≤ p + 98 := by
  have h := q_cls_p (tx := tx) (tl := tl) 32 (q_inv tx tl p).2 0 g
  have h2 : p + 1 ≤ (q_inv tx tl p).2 ∧ (q_inv tx tl p).2 ≤ p + 2 := by
    unfold q_inv
    split
    · exact ⟨by show p + 1 ≤ p + 2; omega, Nat.le_refl _⟩
    · exact ⟨Nat.le_refl _, by show p + 1 ≤ p + 2; omega⟩
  unfold q_class
  omega
theorem d_mann_p {tx : Nat → Nat} {tl p it : Nat} {P : pg} : p ≤ (d_mann tx tl p P it).2 ∧ (d_mann tx tl p P it).2 ≤ p + 1 := by
  unfold d_mann
  split
  · exact ⟨by show p ≤ p + 1; omega, Nat.le_refl _⟩
  · split
    · exact ⟨by show p ≤ p + 1; omega, Nat.le_refl _⟩
    · exact ⟨Nat.le_refl _, by show p ≤ p + 1; omega⟩
/-- the levels name items and rows that are there -/
def wL (Lv : Nat → dL) (lv ni nr : Nat) : Prop := ∀ k, k ≤ lv → (Lv k).2.1 < nr ∧ (∀ j, (Lv k).2.2.1 = some j → j < ni) ∧ (∀ j, (Lv k).1 = some j → j < ni)
theorem wL_up {Lv : Nat → dL} {lv ni nr lv' ni' nr' : Nat} (h : wL Lv lv ni nr) (h1 : lv' ≤ lv + 1) (h2 : ni ≤ ni') (h3 : nr ≤ nr') {x : dL} (x1 : x.2.1 < nr') (x2 : ∀ j, x.2.2.1 = some j → j < ni') (x3 : ∀ j, x.1 = some j → j < ni') {m : Nat} (hm : lv' ≤ lv ∨ m = lv + 1) : wL (va_up Lv m x) lv' ni' nr' := by
  intro k hk
  by_cases q : k = m
  · subst q
    simp only [va_up, if_true]
    exact ⟨x1, x2, x3⟩
  · simp only [va_up, if_neg q]
    obtain ⟨g1, g2, g3⟩ := h k (by omega)
    exact ⟨by omega, fun j hj => by have := g2 j hj; omega, fun j hj => by have := g3 j hj; omega⟩
section READ
variable {tl : Nat} {tx : Nat → Nat}
variable {ap lv hn gd ni nr gr : Nat} {az : Int32} {P : pg} {Lv : Nat → dL}
theorem wD_mk {P' : pg} {az' : Int32} (h1 : ap ≤ 200) (h2 : lv ≤ 6) (h3 : hn ≤ 4) (h4 : gd ≤ 1) (h5 : ni ≤ ap) (h6 : nr ≤ ap + 1) (h7 : gr ≤ 4) (h8 : wL Lv lv ni nr) : wD (ap, lv, az', hn, gd, P', ni, nr, gr, Lv) := ⟨h1, h2, h3, h4, h5, h6, h7, h8⟩
theorem wD_bad (h : wD (ap, lv, az, hn, gd, P, ni, nr, gr, Lv)) {p : Nat} (h1 : ap ≤ p) (h2 : p ≤ 200) : wD (d_bad (ap, lv, az, hn, gd, P, ni, nr, gr, Lv) p) := by
  obtain ⟨w1, w2, w3, w4, w5, w6, w7, w8⟩ := h
  simp only at w1 w2 w3 w4 w5 w6 w7
  exact wD_mk h2 w2 w3 (by decide) (by omega) (by omega) w7 w8
theorem wD_one (h : wD (ap, lv, az, hn, gd, P, ni, nr, gr, Lv)) {p hn' gd' kd : Nat} {v : Int32} (h1 : ap + 1 ≤ p) (h2 : p ≤ 200) (h3 : hn' ≤ 4) (h4 : gd' ≤ 1) : wD (d_one p lv hn' gd' P ni nr gr Lv kd v) := by
  obtain ⟨w1, w2, w3, w4, w5, w6, w7, w8⟩ := h
  simp only at w1 w2 w3 w4 w5 w6 w7
  obtain ⟨v1, v2, v3⟩ := w8 lv (Nat.le_refl _)
  refine wD_mk h2 w2 h3 h4 (by omega) (by omega) w7 (wL_up (Lv := Lv) (lv := lv) (ni := ni) (nr := nr) (lv' := lv) (ni' := ni + 1) (nr' := nr) (x := ((Lv lv).1, (Lv lv).2.1, some ni, (Lv lv).2.2.2)) (m := lv) w8 (by omega) (by omega) (by omega) v1 (fun j hj => ?_) (fun j hj => ?_) (Or.inl (Nat.le_refl _)))
  · injection hj with hj; omega
  · have := v3 j hj; simp only at this; omega
theorem wD_open (h : wD (ap, lv, az, hn, gd, P, ni, nr, gr, Lv)) (ha : ap < 32) : wD (d_pOpen tx tl (ap, lv, az, hn, gd, P, ni, nr, gr, Lv)).2 := by
  unfold d_pOpen
  simp only
  split
  · exact wD_bad h (Nat.le_refl _) (by omega)
  · rename_i kd _
    split
    · exact wD_bad h (Nat.le_refl _) (by omega)
    · rename_i hc
      obtain ⟨w1, w2, w3, w4, w5, w6, w7, w8⟩ := h
      simp only at w1 w2 w3 w4 w5 w6 w7
      obtain ⟨v1, v2, v3⟩ := w8 lv (Nat.le_refl _)
      simp only at v1 v2 v3
      have hlv : lv < 6 := by omega
      have hL : wL (d_lvo Lv lv ni nr) (lv + 1) (ni + 1) (nr + 1) := by
        refine wL_up (lv := lv) (ni := ni + 1) (nr := nr + 1) (wL_up (lv := lv) (ni := ni) (nr := nr) (lv' := lv) (ni' := ni + 1) (nr' := nr + 1) w8 (by omega) (by omega) (by omega) (by show (Lv lv).2.1 < nr + 1; omega) (fun j hj => ?_) (fun j hj => ?_) (Or.inl (Nat.le_refl _))) (by omega) (by omega) (by omega) (by show nr < nr + 1; omega) (fun j hj => ?_) (fun j hj => ?_) (Or.inr rfl)
        · injection hj with hj; omega
        · have := v3 j hj; omega
        · cases hj
        · injection hj with hj; omega
      show wD (d_opn ap lv hn gd P ni nr gr Lv kd)
      unfold d_opn
      split
      · exact wD_mk (by omega) (by omega) w3 w4 (by omega) (by omega) (by omega) hL
      · exact wD_mk (by omega) (by omega) w3 w4 (by omega) (by omega) w7 hL
theorem wD_part (h : wD (ap, lv, az, hn, gd, P, ni, nr, gr, Lv)) (ha : ap < 32) : wD (d_part tx tl (ap, lv, az, hn, gd, P, ni, nr, gr, Lv)).2 := by
  have h0 := h
  obtain ⟨w1, w2, w3, w4, w5, w6, w7, w8⟩ := h
  simp only at w1 w2 w3 w4 w5 w6 w7
  obtain ⟨v1, v2, v3⟩ := w8 lv (Nat.le_refl _)
  simp only at v1 v2 v3
  unfold d_part
  simp only
  split
  · unfold d_pParen
    simp only
    split
    · split
      · rename_i g _
        unfold d_pCall
        simp only
        split
        · exact wD_one h0 (by omega) (by omega) (by omega) w4
        · exact wD_bad h0 (Nat.le_refl _) (by omega)
      · exact wD_open h0 ha
    · exact wD_open h0 ha
  · split
    · unfold d_pClose
      simp only
      split
      · exact wD_bad h0 (Nat.le_refl _) (by omega)
      · exact wD_mk (by omega) (by omega) w3 w4 (by omega) (by omega) w7 (fun k hk => w8 k (by show k ≤ lv; omega))
    · split
      · unfold d_pClass
        simp only
        have hc := q_class_p (tx := tx) (tl := tl) (p := ap) (g := gd)
        split
        · exact wD_bad h0 (by omega) (by omega)
        · exact wD_one h0 (by omega) (by omega) w3 (q_cls_g _ _ _ _ w4)
      · split
        · unfold d_pRef
          simp only
          split
          · split
            · exact wD_one h0 (by omega) (by omega) (by omega) w4
            · exact wD_bad h0 (Nat.le_refl _) (by omega)
          · exact wD_bad h0 (Nat.le_refl _) (by omega)
        · split
          · have hL : wL (va_up Lv lv ((Lv lv).1, nr, none, (Lv lv).2.2.2 + 1)) lv ni (nr + 1) := wL_up (Lv := Lv) (lv := lv) (ni := ni) (nr := nr) (lv' := lv) (ni' := ni) (nr' := nr + 1) (x := ((Lv lv).1, nr, none, (Lv lv).2.2.2 + 1)) (m := lv) w8 (by omega) (by omega) (by omega) (by show nr < nr + 1; omega) (fun j hj => by cases hj) v3 (Or.inl (Nat.le_refl _))
            exact wD_mk (ap := ap + 1) (ni := ni) (nr := nr + 1) (by omega) w2 w3 w4 (by omega) (by omega) w7 hL
          · unfold d_pSign
            simp only
            split
            · exact wD_bad h0 (by omega) (by omega)
            · exact wD_one h0 (by omega) (by omega) w3 w4
/-- the item that a part names is there -/
theorem d_part_it (h : wD (ap, lv, az, hn, gd, P, ni, nr, gr, Lv)) {it : Nat} (hit : (d_part tx tl (ap, lv, az, hn, gd, P, ni, nr, gr, Lv)).1 = some it) : it < (d_part tx tl (ap, lv, az, hn, gd, P, ni, nr, gr, Lv)).2.2.2.2.2.2.2.1 := by
  obtain ⟨w1, w2, w3, w4, w5, w6, w7, w8⟩ := h
  obtain ⟨v1, v2, v3⟩ := w8 lv (Nat.le_refl _)
  simp only at v1 v2 v3
  have ho : ∀ {tx : Nat → Nat} {tl : Nat}, (d_pOpen tx tl (ap, lv, az, hn, gd, P, ni, nr, gr, Lv)).1 = none := by
    intro tx tl
    unfold d_pOpen
    split
    · rfl
    · split
      · rfl
      · rfl
  revert hit
  unfold d_part
  simp only
  split
  · unfold d_pParen
    simp only
    split
    · split
      · unfold d_pCall
        simp only
        split
        · intro e; injection e with e; show it < ni + 1; omega
        · intro e; cases e
      · intro e; rw [ho] at e; cases e
    · intro e; rw [ho] at e; cases e
  · split
    · unfold d_pClose
      simp only
      split
      · intro e; cases e
      · intro e; exact v3 it e
    · split
      · unfold d_pClass
        simp only
        split
        · intro e; cases e
        · intro e; injection e with e; show it < ni + 1; omega
      · split
        · unfold d_pRef
          simp only
          split
          · split
            · intro e; injection e with e; show it < ni + 1; omega
            · intro e; cases e
          · intro e; cases e
        · split
          · intro e; cases e
          · unfold d_pSign
            simp only
            split
            · intro e; cases e
            · intro e; injection e with e; show it < ni + 1; omega
end READ
