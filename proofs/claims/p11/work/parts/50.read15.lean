def wQ2 (P : pg) (ni nr gr hn nb : Nat) : Prop := (∀ k, k < ni → (∀ j, q_nx P k = some j → j < ni) ∧ (5 ≤ q_kd P k → ∃ r, q_bd P k = some r ∧ r < nb) ∧ (q_kd P k = 3 ∨ q_kd P k = 5 → ∃ g, g < 4 ∧ q_vl P k = nI (g + 1)) ∧ (q_kd P k = 4 → ∃ g, g < 5 ∧ q_vl P k = nI g ∧ g ≤ hn) ∧ (q_rp P k = 5 → 1 ≤ q_tm P k)) ∧ (∀ r, r < nr → (∀ j, q_fi P r = some j → j < ni) ∧ (∀ o, q_nr P r = some o → o < nr)) ∧ (∀ g, g ≤ gr → q_gb P g < nr)
theorem wQ2_fi {P : pg} {ni nr gr hn nb row n : Nat} (h : wQ2 P ni nr gr hn nb) (hx : n < ni) : wQ2 (P_fi P row n) ni nr gr hn nb := by
  refine ⟨h.1, fun r hr => ⟨fun j hj => ?_, (h.2.1 r hr).2⟩, h.2.2⟩
  have hj : va_up P.2.2.2.2.2.2.2.1 row (some n) r = some j := hj
  by_cases e : r = row
  · simp [va_up, e] at hj; omega
  · simp [va_up, e] at hj; exact (h.2.1 r hr).1 j hj
theorem wQ2_nx {P : pg} {ni nr gr hn nb k n : Nat} (h : wQ2 P ni nr gr hn nb) (hx : n < ni) : wQ2 (P_nx P k n) ni nr gr hn nb := by
  refine ⟨fun m hm => ?_, h.2⟩
  obtain ⟨g1, g2⟩ := h.1 m hm
  refine ⟨fun j hj => ?_, g2⟩
  have hj : va_up P.2.2.2.2.2.2.1 k (some n) m = some j := hj
  by_cases e : m = k
  · simp [va_up, e] at hj; omega
  · simp [va_up, e] at hj; exact g1 j hj
theorem wQ2_item {P : pg} {ni nr gr hn kd : Nat} {v : Int32} (h : wQ P ni nr gr hn) (hk : 5 ≤ kd) (h5 : kd = 5 → ∃ g, g < 4 ∧ v = nI (g + 1)) : wQ2 (P_bd (P_item P ni kd v) ni nr) (ni + 1) nr gr hn (nr + 1) := by
  refine ⟨fun k hk1 => ?_, fun r hr => ⟨fun j hj => ?_, (h.2.1 r hr).2⟩, h.2.2⟩
  · show (∀ j, va_up P.2.2.2.2.2.2.1 ni none k = some j → j < ni + 1) ∧ (5 ≤ va_up P.1 ni kd k → ∃ r, va_up (va_up P.2.2.2.2.2.1 ni none) ni (some nr) k = some r ∧ r < nr + 1) ∧ (va_up P.1 ni kd k = 3 ∨ va_up P.1 ni kd k = 5 → ∃ g, g < 4 ∧ va_up P.2.1 ni v k = nI (g + 1)) ∧ (va_up P.1 ni kd k = 4 → ∃ g, g < 5 ∧ va_up P.2.1 ni v k = nI g ∧ g ≤ hn) ∧ (va_up P.2.2.1 ni 0 k = 5 → 1 ≤ va_up P.2.2.2.1 ni 1 k)
    by_cases e : k = ni
    · simp only [va_up, if_pos e]
      exact ⟨fun j hj => by (cases hj), fun _ => ⟨nr, rfl, by omega⟩, fun q => h5 (by omega), fun q => absurd q (by omega), fun q => absurd q (by decide)⟩
    · simp only [va_up, if_neg e]
      obtain ⟨g1, g2, g3, g4, g5⟩ := h.1 k (by omega)
      refine ⟨fun j hj => Nat.lt_succ_of_lt (g1 j hj), fun q => ?_, g3, g4, g5⟩
      obtain ⟨r, x1, x2⟩ := g2 q
      exact ⟨r, x1, by omega⟩
  · exact Nat.lt_succ_of_lt ((h.2.1 r hr).1 j hj)
theorem wQ2_row {P : pg} {ni nr gr hn : Nat} (h : wQ2 P ni nr gr hn (nr + 1)) : wQ (P_row P nr) ni (nr + 1) gr hn := by
  refine ⟨h.1, fun r hr => ?_, fun g hg => Nat.lt_succ_of_lt (h.2.2 g hg)⟩
  show (∀ j, va_up P.2.2.2.2.2.2.2.1 nr none r = some j → j < ni) ∧ (∀ o, va_up P.2.2.2.2.2.2.2.2.1 nr none r = some o → o < nr + 1)
  by_cases e : r = nr
  · simp only [va_up, if_pos e]
    exact ⟨fun j hj => by (cases hj), fun j hj => by (cases hj)⟩
  · simp only [va_up, if_neg e]
    obtain ⟨g1, g2⟩ := h.2.1 r (by omega)
    exact ⟨g1, fun o ho => Nat.lt_succ_of_lt (g2 o ho)⟩
theorem wQ_wk {P : pg} {ni nr gr hn : Nat} (h : wQ P ni nr gr hn) : wQ2 P ni nr gr hn (nr + 1) := by
  refine ⟨fun k hk => ?_, h.2⟩
  obtain ⟨g1, g2, g3⟩ := h.1 k hk
  refine ⟨g1, fun q => ?_, g3⟩
  obtain ⟨r, x1, x2⟩ := g2 q
  exact ⟨r, x1, by omega⟩
theorem wQ_opP {P : pg} {ni nr gr hn kd row : Nat} {v : Int32} {last : Option Nat} (h : wQ P ni nr gr hn) (hk : 5 ≤ kd) (h5 : kd = 5 → ∃ g, g < 4 ∧ v = nI (g + 1)) : wQ (d_opP P ni nr kd v row last) (ni + 1) (nr + 1) gr hn := by
  cases last with
  | none => exact wQ2_row (P := P_fi (P_bd (P_item P ni kd v) ni nr) row ni) (wQ2_fi (wQ2_item h hk h5) (by omega))
  | some k => exact wQ2_row (P := P_nx (P_bd (P_item P ni kd v) ni nr) k ni) (wQ2_nx (wQ2_item h hk h5) (by omega))
theorem wQ_gb {P : pg} {ni nr gr hn n : Nat} (h : wQ P ni nr gr hn) (hx : n < nr) : wQ (P_gb P (gr + 1) n) ni nr (gr + 1) hn := by
  refine ⟨h.1, h.2.1, fun g hg => ?_⟩
  show va_up P.2.2.2.2.2.2.2.2.2 (gr + 1) n g < nr
  by_cases e : g = gr + 1
  · simp only [va_up, if_pos e]; exact hx
  · simp only [va_up, if_neg e]; exact h.2.2 g (by omega)
theorem wQ_nr {P : pg} {ni nr gr hn k n : Nat} (h : wQ P ni nr gr hn) (hx : n < nr) : wQ (P_nr P k n) ni nr gr hn := by
  refine ⟨h.1, fun r hr => ⟨(h.2.1 r hr).1, fun o ho => ?_⟩, h.2.2⟩
  have ho : va_up P.2.2.2.2.2.2.2.2.1 k (some n) r = some o := ho
  by_cases e : r = k
  · simp [va_up, e] at ho; omega
  · simp [va_up, e] at ho; exact (h.2.1 r hr).2 o ho
def wG (d : dS) : Prop := wQ d.2.2.2.2.2.1 d.2.2.2.2.2.2.1 d.2.2.2.2.2.2.2.1 d.2.2.2.2.2.2.2.2.1 d.2.2.2.1
section READ
variable {tl : Nat} {tx : Nat → Nat}
variable {ap lv hn gd ni nr gr : Nat} {az : Int32} {P : pg} {Lv : Nat → dL}
theorem q_sign_k {x : Option Nat} {y : Nat × Int32} (h : q_sign x = some y) : y.1 < 3 := by
  unfold q_sign at h
  split at h
  · injection h with h; subst h; show 0 < 3; decide
  · split at h
    · injection h with h; subst h; decide
    · split at h
      · injection h with h; subst h; decide
      · split at h
        · injection h with h; subst h; decide
        · cases h
theorem wG_open (h : wG (ap, lv, az, hn, gd, P, ni, nr, gr, Lv)) (hg : gr ≤ 4) : wG (d_pOpen tx tl (ap, lv, az, hn, gd, P, ni, nr, gr, Lv)).2 := by
  have h : wQ P ni nr gr hn := h
  unfold d_pOpen
  simp only
  split
  · exact h
  · rename_i kd hk
    have hkd := q_kind_le hk
    split
    · exact h
    · rename_i hc
      show wG (d_opn ap lv hn gd P ni nr gr Lv kd)
      unfold d_opn
      split
      · exact wQ_gb (wQ_opP h (by decide) (fun _ => ⟨gr, by omega, rfl⟩)) (by show nr < nr + 1; omega)
      · rename_i h5
        exact wQ_opP h hkd.1 (fun q => absurd q h5)
theorem wG_part (h : wG (ap, lv, az, hn, gd, P, ni, nr, gr, Lv)) (hg : gr ≤ 4) : wG (d_part tx tl (ap, lv, az, hn, gd, P, ni, nr, gr, Lv)).2 := by
  have h0 := h
  have h : wQ P ni nr gr hn := h
  unfold d_part
  simp only
  split
  · unfold d_pParen
    simp only
    split
    · split
      · rename_i g _
        unfold d_pCall
        simp only
        split
        · rename_i hc
          exact wQ_put h (Nat.le_max_left _ _) (by decide) (fun q => absurd q (by decide)) (fun _ => ⟨g, by omega, rfl, Nat.le_max_right _ _⟩)
        · exact h
      · exact wG_open h0 hg
    · exact wG_open h0 hg
  · split
    · unfold d_pClose
      simp only
      split
      · exact h
      · exact h
    · split
      · unfold d_pClass
        simp only
        split
        · exact h
        · exact wQ_put h (Nat.le_refl _) (by decide) (fun q => absurd q (by decide)) (fun q => absurd q (by decide))
      · split
        · unfold d_pRef
          simp only
          split
          · rename_i g _
            split
            · rename_i hc
              exact wQ_put h (Nat.le_max_left _ _) (by decide) (fun _ => ⟨g - 1, by omega, by rw [Nat.sub_add_cancel hc.1]⟩) (fun q => absurd q (by decide))
            · exact h
          · exact h
        · split
          · exact wQ_nr (wQ2_row (wQ_wk h)) (by show nr < nr + 1; omega)
          · unfold d_pSign
            simp only
            split
            · exact h
            · rename_i x hx
              have := q_sign_k hx
              exact wQ_put h (Nat.le_refl _) (by omega) (fun q => absurd q (by omega)) (fun q => absurd q (by omega))
theorem wG_rep {it : Nat} (h : wG (ap, lv, az, hn, gd, P, ni, nr, gr, Lv)) : wG (d_rep tx tl ap lv az hn gd P ni nr gr Lv it) := by
  have h : wQ P ni nr gr hn := h
  unfold d_rep
  split
  · exact wQ_mann (wQ_rp h (by decide))
  · split
    · exact wQ_mann (wQ_rp h (by decide))
    · split
      · exact wQ_mann (wQ_rp h (by decide))
      · split
        · unfold d_tms
          split
          · split
            · exact wQ_mann (wQ_tm h)
            · exact h
          · exact h
        · exact h
theorem wG_turn {d : dS} (h : wG d) (hg : d.2.2.2.2.2.2.2.2.1 ≤ 4) : wG (d_turn tx tl d) := by
  obtain ⟨ap, lv, az, hn, gd, P, ni, nr, gr, Lv⟩ := d
  have h2 := wG_part (tx := tx) (tl := tl) h hg
  unfold d_turn
  split
  · exact h2
  · exact wG_rep h2
theorem wG_loop (htl : tl ≤ 32) : ∀ (n : Nat) (d : dS), wE d → wG d → wG (d_loop tx tl n d) := by
  intro n
  induction n with
  | zero => intro d _ h; exact h
  | succ n ih =>
    intro d hw h
    rw [d_loop]
    split
    · exact h
    · rename_i hc
      exact ih _ (wE_turn hw (by omega)) (wG_turn h hw.2.2.2.2.2.2.1)
theorem wG_ini {G : Nat → Nat} {az : Int32} : wG (d_ini G az) := by
  refine ⟨fun k hk => absurd hk (by show ¬ k < 0; omega), fun r hr => ?_, fun g hg => ?_⟩
  · have hr : r < 1 := hr
    have e : r = 0 := by omega
    subst e
    exact ⟨fun j hj => by (cases hj), fun j hj => by (cases hj)⟩
  · have hg : g ≤ 0 := hg
    have e : g = 0 := by omega
    subst e
    show 0 < 1
    decide
/-- a good pattern's program is well formed -/
theorem d_good (htl : tl ≤ 32) {G : Nat → Nat} {az : Int32} (h : d_ok (d_loop tx tl 32 (d_ini G az))) : wP (d_loop tx tl 32 (d_ini G az)).2.2.2.2.2.1 (d_loop tx tl 32 (d_ini G az)).2.2.2.2.2.2.1 (d_loop tx tl 32 (d_ini G az)).2.2.2.2.2.2.2.1 := wQ_wP (wG_loop htl 32 _ wE_ini wG_ini) h.2.2
end READ
