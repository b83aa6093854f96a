/-! how many frames: three a step, and what a step that is due has put ahead of it -/
def b_pd (T : Nat) : Nat := if T = 2 then 1 else if T = 3 then 2 else 0
def b_F (m : mS) : Prop := m.2.2.2.2.2.2.1.length ≤ 1 + 3 * m.2.2.2.2.2.1 + b_pd m.1
section BND
variable {n1 n2 ni nr sl lim : Nat} {P : pg} {su : Nat → Nat}
variable {T F Pl tk : Nat} {N : Option Nat} {C : Nat → Nat} {fs : List mF} {cs : List mC}
theorem b_fork0 (h : fs.length ≤ 1 + 3 * tk) {it : Nat} : b_F (m_fork P it F Pl C tk fs cs) := by
  unfold m_fork
  split
  · show fs.length ≤ 1 + 3 * tk + b_pd 5
    omega
  · show fs.length ≤ 1 + 3 * tk + b_pd 2
    omega
theorem b_item2 (h : fs.length ≤ 1 + 3 * tk) {it : Nat} : b_F (m_item2 P it F Pl C tk fs cs) := by
  unfold m_item2
  split
  · exact b_fork0 h
  · split
    · show (m_push fs F 4 it 0 Pl C).length ≤ 1 + 3 * tk + 2
      rw [m_push_len]; omega
    · split
      · show (m_push fs F 5 it (q_tm P it) Pl C).length ≤ 1 + 3 * tk + 2
        rw [m_push_len]; omega
      · show fs.length ≤ 1 + 3 * tk + 2
        omega
theorem b_item2H (h : fs.length ≤ 2 + 3 * tk) {it : Nat} (hm : ¬ q_mn P it = 1) : b_F (m_item2 P it F Pl C tk fs cs) := by
  unfold m_item2
  split
  · unfold m_fork
    rw [if_neg hm]
    show fs.length ≤ 1 + 3 * tk + 1
    omega
  · split
    · show (m_push fs F 4 it 0 Pl C).length ≤ 1 + 3 * tk + 2
      rw [m_push_len]; omega
    · split
      · show (m_push fs F 5 it (q_tm P it) Pl C).length ≤ 1 + 3 * tk + 2
        rw [m_push_len]; omega
      · show fs.length ≤ 1 + 3 * tk + 2
        omega
theorem b_turn (hw : wM P ni nr sl lim (T, N, F, Pl, C, tk, fs, cs)) (hT : T < 8) (hk : ∀ k, k < ni → q_kd P k ≤ 9) (hb : b_F (T, N, F, Pl, C, tk, fs, cs)) {m' : mS} (hm : m_turn P su sl lim (T, N, F, Pl, C, tk, fs, cs) m') : b_F m' ∨ (m'.1 = 10 ∧ m'.2.2.2.2.2.2.1.length ≤ 3 + 3 * m'.2.2.2.2.2.1) := by
  obtain ⟨w1, w2, w3, w4, w5⟩ := hw
  obtain ⟨t0, t1, t2, t3, t4, t5, t6, t7⟩ := hm
  have hb : fs.length ≤ 1 + 3 * tk + b_pd T := hb
  rcases (by omega : T = 0 ∨ T = 1 ∨ T = 2 ∨ T = 3 ∨ T = 4 ∨ T = 5 ∨ T = 6 ∨ T = 7) with e | e | e | e | e | e | e | e
  · obtain ⟨r, hr, hr2⟩ := w2 e
    rw [t0 e r hr]
    subst e
    exact Or.inl hb
  · subst e
    have hb : fs.length ≤ 1 + 3 * tk := hb
    cases hN : N with
    | none => rw [(t1 rfl).1 hN]; exact Or.inl hb
    | some it =>
      rw [(t1 rfl).2 it hN]
      left
      unfold m_item
      split
      · exact hb
      · split
        · rename_i q
          exact b_item2H (by rw [m_push_len]; omega) (by omega)
        · exact b_item2 hb
  · subst e
    have hb : fs.length ≤ 1 + 3 * tk + 1 := hb
    obtain ⟨it, hN, hi⟩ := w4 (by omega) (by omega)
    rw [t2 rfl it hN]
    left
    unfold m_try
    split
    · show fs.length ≤ 1 + 3 * tk + 2
      omega
    · show (m_push fs F 3 it 0 Pl C).length ≤ 1 + 3 * tk + 2
      rw [m_push_len]; omega
  · subst e
    have hb : fs.length ≤ 1 + 3 * tk + 2 := hb
    obtain ⟨it, hN, hi⟩ := w4 (by omega) (by omega)
    have hm := t3 rfl it hN
    by_cases q : tk < lim
    · left
      obtain ⟨c0, c1, c2, c3, c4, c5⟩ := hm.2 q
      have := hk it hi
      have z : ∀ T' : Nat, fs.length ≤ 1 + 3 * (tk + 1) + b_pd T' := fun T' => by omega
      have zp : ∀ {T' kind mark : Nat}, (m_push fs F kind it mark Pl C).length ≤ 1 + 3 * (tk + 1) + b_pd T' := by
        intro T' kind mark
        rw [m_push_len]; omega
      rcases (by omega : q_kd P it = 0 ∨ q_kd P it = 1 ∨ q_kd P it = 2 ∨ q_kd P it = 3 ∨ q_kd P it = 4 ∨ 5 ≤ q_kd P it) with e | e | e | e | e | e
      · have c := c0 e
        by_cases q2 : Pl < sl ∧ q_hit (q_vl P it) (su Pl)
        · rw [c.1 q2]; exact z _
        · rw [c.2 q2]; exact z _
      · rw [c1 e]; exact z _
      · rw [c2 e]; exact z _
      · have c := c3 e
        by_cases q2 : C (q_g P it) % 64 = 0
        · rw [c.1 q2]; exact z _
        · by_cases q3 : q_same su sl (C (q_g P it) % 64 - 1) (C (q_g P it) / 64 - C (q_g P it) % 64) Pl
          · rw [(c.2 q2).1 q3]; exact z _
          · rw [(c.2 q2).2 q3]; exact z _
      · rw [c4 e]
        unfold m_call
        split
        · exact zp
        · exact z _
      · rw [c5 e]
        exact zp
    · rw [hm.1 q]
      right
      exact ⟨rfl, by show fs.length ≤ 3 + 3 * tk; omega⟩
  · subst e
    have hb : fs.length ≤ 1 + 3 * tk := hb
    obtain ⟨it, hN, hi⟩ := w4 (by omega) (by omega)
    rw [t4 rfl it hN]
    left
    unfold m_aa m_ai
    split
    · split <;> exact hb
    · exact hb
  · subst e
    have hb : fs.length ≤ 1 + 3 * tk := hb
    obtain ⟨it, hN, hi⟩ := w4 (by omega) (by omega)
    rw [t5 rfl it hN]
    left
    unfold m_ai
    split <;> exact hb
  · subst e
    have hb : fs.length ≤ 1 + 3 * tk := hb
    obtain ⟨y, hy, -⟩ := w5.1
    rw [t6 rfl y hy]
    left
    unfold m_resume
    split
    · unfold m_leave
      split
      · exact hb
      · split
        · exact hb
        · split
          · exact hb
          · split <;> exact hb
    · split
      · exact hb
      · split
        · split
          · exact hb
          · exact b_fork0 hb
        · split
          · exact b_fork0 hb
          · split
            · unfold m_times
              split
              · show (m_push _ _ _ _ _ _ _).length ≤ 1 + 3 * tk + 2
                rw [m_push_len]; omega
              · exact hb
            · split <;> exact hb
  · subst e
    have hb : fs.length ≤ 1 + 3 * tk := hb
    rw [t7 rfl]
    left
    unfold m_choice
    split
    · exact hb
    · rename_i x hx
      show fs.length ≤ 1 + 3 * tk + b_pd x.1
      omega
end BND
