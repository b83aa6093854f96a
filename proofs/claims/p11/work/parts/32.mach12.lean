/-- frame 0: as Java makes it -/
def f0 : mF := (0, 0, 0, 0, fun _ => 0, 0, 0)
def z_0 (m : mS) : Prop := m.2.2.2.2.2.2.1[0]? = some f0
section MACH
variable {n1 n2 ni nr sl lim : Nat} {P : pg} {su : Nat → Nat}
variable {T F Pl tk : Nat} {N : Option Nat} {C : Nat → Nat} {fs : List mF} {cs : List mC}
theorem z_fork (hf : fs[0]? = some f0) {it : Nat} : z_0 (m_fork P it F Pl C tk fs cs) := by
  unfold m_fork
  split <;> exact hf
theorem z_item2 (hf : fs[0]? = some f0) {it : Nat} : z_0 (m_item2 P it F Pl C tk fs cs) := by
  unfold m_item2
  split
  · exact z_fork hf
  · split
    · exact m_push_old hf
    · split
      · exact m_push_old hf
      · exact hf
theorem z_turn (h0 : fs[0]? = some f0) (hw : wM P ni nr sl lim (T, N, F, Pl, C, tk, fs, cs)) (hT : T < 8) (hk : ∀ k, k < ni → q_kd P k ≤ 9) {m' : mS} (hm : m_turn P su sl lim (T, N, F, Pl, C, tk, fs, cs) m') : z_0 m' := by
  obtain ⟨w1, w2, w3, w4, w5⟩ := hw
  obtain ⟨t0, t1, t2, t3, t4, t5, t6, t7⟩ := hm
  have zp : ∀ {F' kind it mark Pl' : Nat} {C' : Nat → Nat}, (m_push fs F' kind it mark Pl' C')[0]? = some f0 := fun {_ _ _ _ _ _} => m_push_old h0
  rcases (by omega : T = 0 ∨ T = 1 ∨ T = 2 ∨ T = 3 ∨ T = 4 ∨ T = 5 ∨ T = 6 ∨ T = 7) with e | e | e | e | e | e | e | e
  · obtain ⟨r, hr, hr2⟩ := w2 e
    rw [t0 e r hr]
    exact h0
  · cases hN : N with
    | none => rw [(t1 e).1 hN]; exact h0
    | some it =>
      rw [(t1 e).2 it hN]
      unfold m_item
      split
      · exact h0
      · split
        · exact z_item2 (m_push_old h0)
        · exact z_item2 h0
  · obtain ⟨it, hN, hi⟩ := w4 (by omega) (by omega)
    rw [t2 e it hN]
    unfold m_try
    split
    · exact h0
    · exact zp
  · obtain ⟨it, hN, hi⟩ := w4 (by omega) (by omega)
    have hm := t3 e it hN
    by_cases q : tk < lim
    · obtain ⟨c0, c1, c2, c3, c4, c5⟩ := hm.2 q
      have := hk it hi
      rcases (by omega : q_kd P it = 0 ∨ q_kd P it = 1 ∨ q_kd P it = 2 ∨ q_kd P it = 3 ∨ q_kd P it = 4 ∨ 5 ≤ q_kd P it) with e | e | e | e | e | e
      · have c := c0 e
        by_cases q2 : Pl < sl ∧ q_hit (q_vl P it) (su Pl)
        · rw [c.1 q2]; exact h0
        · rw [c.2 q2]; exact h0
      · rw [c1 e]; exact h0
      · rw [c2 e]; exact h0
      · have c := c3 e
        by_cases q2 : C (q_g P it) % 64 = 0
        · rw [c.1 q2]; exact h0
        · by_cases q3 : q_same su sl (C (q_g P it) % 64 - 1) (C (q_g P it) / 64 - C (q_g P it) % 64) Pl
          · rw [(c.2 q2).1 q3]; exact h0
          · rw [(c.2 q2).2 q3]; exact h0
      · rw [c4 e]
        unfold m_call
        split
        · exact zp
        · exact h0
      · rw [c5 e]
        exact zp
    · rw [hm.1 q]; exact h0
  · obtain ⟨it, hN, hi⟩ := w4 (by omega) (by omega)
    rw [t4 e it hN]
    unfold m_aa m_ai
    split
    · split <;> exact h0
    · exact h0
  · obtain ⟨it, hN, hi⟩ := w4 (by omega) (by omega)
    rw [t5 e it hN]
    unfold m_ai
    split <;> exact h0
  · obtain ⟨y, hy, -⟩ := w5.1
    rw [t6 e y hy]
    unfold m_resume
    split
    · unfold m_leave
      split
      · exact h0
      · split
        · exact h0
        · split
          · exact h0
          · split
            · exact h0
            · exact h0
    · split
      · exact h0
      · split
        · split
          · exact h0
          · exact z_fork h0
        · split
          · exact z_fork h0
          · split
            · unfold m_times
              split
              · exact zp
              · exact h0
            · split
              · exact h0
              · exact h0
  · rw [t7 e]
    unfold m_choice
    split
    · exact h0
    · exact h0
end MACH
