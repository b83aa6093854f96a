/-! the program that is being made is well formed (calls up to hn) -/
def wQ (P : pg) (ni nr gr hn : Nat) : Prop := (∀ k, k < ni → (∀ j, q_nx P k = some j → j < ni) ∧ (5 ≤ q_kd P k → ∃ r, q_bd P k = some r ∧ r < nr) ∧ (q_kd P k = 3 ∨ q_kd P k = 5 → ∃ g, g < 4 ∧ q_vl P k = nI (g + 1)) ∧ (q_kd P k = 4 → ∃ g, g < 5 ∧ q_vl P k = nI g ∧ g ≤ hn) ∧ (q_rp P k = 5 → 1 ≤ q_tm P k)) ∧ (∀ r, r < nr → (∀ j, q_fi P r = some j → j < ni) ∧ (∀ o, q_nr P r = some o → o < nr)) ∧ (∀ g, g ≤ gr → q_gb P g < nr)
theorem wQ_wP {P : pg} {ni nr gr hn : Nat} (h : wQ P ni nr gr hn) (hh : hn ≤ gr) : wP P ni nr := by
  refine ⟨fun k hk => ?_, h.2.1, h.2.2 0 (Nat.zero_le _)⟩
  obtain ⟨g1, g2, g3, g4, g5⟩ := h.1 k hk
  refine ⟨g1, g2, g3, fun q => ?_, g5⟩
  obtain ⟨g, x1, x2, x3⟩ := g4 q
  exact ⟨g, x1, x2, h.2.2 g (by omega)⟩
theorem wQ_mn {P : pg} {ni nr gr hn it m : Nat} (h : wQ P ni nr gr hn) : wQ (P_mn P it m) ni nr gr hn := h
theorem wQ_mann {tx : Nat → Nat} {tl p : Nat} {P : pg} {ni nr gr hn it : Nat} (h : wQ P ni nr gr hn) : wQ (d_mann tx tl p P it).1 ni nr gr hn := by
  unfold d_mann
  split
  · exact h
  · split
    · exact h
    · exact h
theorem wQ_rp {P : pg} {ni nr gr hn it rp : Nat} (h : wQ P ni nr gr hn) (hr : ¬ rp = 5) : wQ (P_rp P it rp) ni nr gr hn := by
  refine ⟨fun k hk => ?_, h.2⟩
  obtain ⟨g1, g2, g3, g4, g5⟩ := h.1 k hk
  refine ⟨g1, g2, g3, g4, fun q => ?_⟩
  have q : va_up P.2.2.1 it rp k = 5 := q
  by_cases e : k = it
  · simp [va_up, e] at q; exact absurd q hr
  · simp [va_up, e] at q; exact g5 q
theorem wQ_tm {P : pg} {ni nr gr hn it g : Nat} (h : wQ P ni nr gr hn) : wQ (P_rp (P_tm P it g) it (if g = 0 then 1 else 5)) ni nr gr hn := by
  refine ⟨fun k hk => ?_, h.2⟩
  obtain ⟨g1, g2, g3, g4, g5⟩ := h.1 k hk
  refine ⟨g1, g2, g3, g4, fun q => ?_⟩
  have q : va_up P.2.2.1 it (if g = 0 then 1 else 5) k = 5 := q
  show 1 ≤ va_up P.2.2.2.1 it g k
  by_cases e : k = it
  · simp [va_up, e] at q ⊢
    omega
  · simp [va_up, e] at q ⊢
    exact g5 q
theorem wQ_item {P : pg} {ni nr gr hn hn' kd : Nat} {v : Int32} (h : wQ P ni nr gr hn) (hh : hn ≤ hn') (hk : kd < 5) (h3 : kd = 3 → ∃ g, g < 4 ∧ v = nI (g + 1)) (h4 : kd = 4 → ∃ g, g < 5 ∧ v = nI g ∧ g ≤ hn') : wQ (P_item P ni kd v) (ni + 1) nr gr hn' := by
  refine ⟨fun k hk1 => ?_, fun r hr => ⟨fun j hj => ?_, (h.2.1 r hr).2⟩, h.2.2⟩
  · show (∀ j, va_up P.2.2.2.2.2.2.1 ni none k = some j → j < ni + 1) ∧ (5 ≤ va_up P.1 ni kd k → ∃ r, va_up P.2.2.2.2.2.1 ni none k = some r ∧ r < nr) ∧ (va_up P.1 ni kd k = 3 ∨ va_up P.1 ni kd k = 5 → ∃ g, g < 4 ∧ va_up P.2.1 ni v k = nI (g + 1)) ∧ (va_up P.1 ni kd k = 4 → ∃ g, g < 5 ∧ va_up P.2.1 ni v k = nI g ∧ g ≤ hn') ∧ (va_up P.2.2.1 ni 0 k = 5 → 1 ≤ va_up P.2.2.2.1 ni 1 k)
    by_cases e : k = ni
    · simp only [va_up, if_pos e]
      exact ⟨fun j hj => by (cases hj), fun q => absurd q (by omega), fun q => h3 (by omega), h4, fun q => absurd q (by decide)⟩
    · simp only [va_up, if_neg e]
      obtain ⟨g1, g2, g3, g4, g5⟩ := h.1 k (by omega)
      refine ⟨fun j hj => Nat.lt_succ_of_lt (g1 j hj), g2, g3, fun q => ?_, g5⟩
      obtain ⟨g, x1, x2, x3⟩ := g4 q
      exact ⟨g, x1, x2, by omega⟩
  · exact Nat.lt_succ_of_lt ((h.2.1 r hr).1 j hj)
theorem wQ_fi {P : pg} {ni nr gr hn row n : Nat} (h : wQ P ni nr gr hn) (hx : n < ni) : wQ (P_fi P row n) ni nr gr hn := by
  refine ⟨h.1, fun r hr => ⟨fun j hj => ?_, (h.2.1 r hr).2⟩, h.2.2⟩
  have hj : va_up P.2.2.2.2.2.2.2.1 row (some n) r = some j := hj
  by_cases e : r = row
  · simp [va_up, e] at hj; omega
  · simp [va_up, e] at hj; exact (h.2.1 r hr).1 j hj
theorem wQ_nx {P : pg} {ni nr gr hn k n : Nat} (h : wQ P ni nr gr hn) (hx : n < ni) : wQ (P_nx P k n) ni nr gr hn := by
  refine ⟨fun m hm => ?_, h.2⟩
  obtain ⟨g1, g2⟩ := h.1 m hm
  refine ⟨fun j hj => ?_, g2⟩
  have hj : va_up P.2.2.2.2.2.2.1 k (some n) m = some j := hj
  by_cases e : m = k
  · simp [va_up, e] at hj; omega
  · simp [va_up, e] at hj; exact g1 j hj
theorem wQ_put {P : pg} {ni nr gr hn hn' kd : Nat} {v : Int32} {row : Nat} {last : Option Nat} (h : wQ P ni nr gr hn) (hh : hn ≤ hn') (hk : kd < 5) (h3 : kd = 3 → ∃ g, g < 4 ∧ v = nI (g + 1)) (h4 : kd = 4 → ∃ g, g < 5 ∧ v = nI g ∧ g ≤ hn') : wQ (d_put P ni kd v row last) (ni + 1) nr gr hn' := by
  unfold d_put
  split
  · exact wQ_fi (wQ_item h hh hk h3 h4) (by omega)
  · exact wQ_nx (wQ_item h hh hk h3 h4) (by omega)
