section MACH
variable {n1 n2 ni nr sl lim : Nat} {P : pg} {su : Nat → Nat}
variable {T F Pl tk : Nat} {N : Option Nat} {C : Nat → Nat} {fs : List mF} {cs : List mC}
theorem p_ask (hP : wP P ni nr) (h : wR P ni nr sl lim F Pl C tk fs cs) (hcs : cs.length < 2 ^ 20) {it : Nat} (hi : it < ni) (hk : q_kd P it ≤ 9) {m : mS} (hm : m_ask P su sl lim it (some it) F Pl C tk fs cs m) : wM P ni nr sl lim m := by
  by_cases q : tk < lim
  · obtain ⟨c0, c1, c2, c3, c4, c5⟩ := hm.2 q
    have h' : wR P ni nr sl lim F Pl C (tk + 1) fs cs := ⟨h.1, h.2.1, h.2.2.1, q, h.2.2.2.2⟩
    rcases (by omega : q_kd P it = 0 ∨ q_kd P it = 1 ∨ q_kd P it = 2 ∨ q_kd P it = 3 ∨ q_kd P it = 4 ∨ 5 ≤ q_kd P it) with e | e | e | e | e | e
    · exact p_letter h' hi (c0 e)
    · rw [c1 e]
      split
      · exact wM_25 h' (by decide) (by decide) hi
      · exact wM_6 h' (by decide) (by decide)
    · rw [c2 e]
      split
      · exact wM_25 h' (by decide) (by decide) hi
      · exact wM_6 h' (by decide) (by decide)
    · exact p_same h' hi (c3 e)
    · rw [c4 e]
      obtain ⟨g, hg, hvl, hgb⟩ := (hP.1 it hi).2.2.2.1 e
      have hgg : (q_vl P it).toNatClampNeg = g := by rw [hvl]; exact nI_clamp (by omega)
      rw [hgg]
      unfold m_call
      split
      · rename_i q2
        exact wM_0 (wR_push h' (by decide) (by decide) hi (by decide) (fun v => absurd v (by decide)) (fun v => absurd v (by decide)) (fun _ => q2)) hgb
      · exact wM_6 h' (by decide) (by decide)
    · rw [c5 e]
      obtain ⟨r, hr, hr2⟩ := (hP.1 it hi).2.1 e
      unfold m_body
      rw [hr]
      refine wM_0 ?_ hr2
      have hp := wR_push h' (kind := 1) (mark := cs.length) (by decide) (by decide) hi hcs (fun v => absurd v (by decide)) (fun _ => e) (fun v => absurd v (by decide))
      split
      · refine ⟨hp.1, hp.2.1, hp.2.2.1, hp.2.2.2.1, hp.2.2.2.2.1, wCs_app hp.2.2.2.2.2 ⟨Or.inr ⟨Or.inr (Or.inl rfl), hi⟩, h'.2.1, h'.2.2.1, ?_⟩⟩
        exact wH_old h'.1
      · exact hp
  · rw [hm.1 q]
    exact wM_6 h (by decide) (by decide)
theorem p_resume (hsl : sl ≤ 40) (hP : wP P ni nr) (h : wR P ni nr sl lim F Pl C tk fs cs) {y : mF} (hy : fs[F]? = some y) : wM P ni nr sl lim (m_resume P y N Pl C tk fs cs) := by
  obtain ⟨⟨w1, w2, w3, w4, w5, w6, w7, w8, w9⟩, wo⟩ := h.2.2.2.2.1 F y hy
  have hyP : y.2.2.2.1 ≤ Pl := by
    obtain ⟨z, z1, z2⟩ := h.1
    rw [hy] at z1
    cases z1
    exact z2
  have ho : fs[y.2.2.2.2.2.1]? = some (fs[y.2.2.2.2.2.1]'w3) := List.getElem?_eq_getElem w3
  have ho2 := wo _ ho
  have hH : wH fs y.2.2.2.2.2.1 Pl := ⟨_, ho, by omega⟩
  have hR : wR P ni nr sl lim y.2.2.2.2.2.1 Pl C tk fs cs := ⟨hH, h.2⟩
  unfold m_resume
  split
  · rename_i e
    have hi := w2 (by omega)
    unfold m_leave
    split
    · refine wM_25 ⟨hH, h.2.1, cp_in_upd h.2.2.1 hsl hyP h.2.1, h.2.2.2⟩ (by decide) (by decide) hi
    · split
      · refine wM_25 ⟨⟨_, ho, ho2⟩, w4, h.2.2.1, h.2.2.2.1, h.2.2.2.2.1, wCs_take h.2.2.2.2.2 _⟩ (by decide) (by decide) hi
      · split
        · exact wM_6 (wR_take hR _) (by decide) (by decide)
        · split
          · exact wM_25 (wR_take hR _) (by decide) (by decide) hi
          · exact wM_25 hR (by decide) (by decide) hi
  · split
    · rename_i e
      exact wM_25 ⟨hH, h.2.1, w8, h.2.2.2⟩ (by decide) (by decide) (w2 (by omega))
    · split
      · rename_i e
        split
        · exact wM_25 hR (by decide) (by decide) (w2 (by omega))
        · exact p_fork hR (w2 (by omega))
      · split
        · rename_i e
          exact p_fork hR (w2 (by omega))
        · split
          · rename_i e
            have hi := w2 (by omega)
            unfold m_times
            split
            · exact wM_25 (wR_push hR (by decide) (by decide) hi (by omega) (fun _ => by omega) (fun v => absurd v (by decide)) (fun v => absurd v (by decide))) (by decide) (by decide) hi
            · exact wM_25 hR (by decide) (by decide) hi
          · split
            · rename_i e
              exact wM_1 (wR_take hR _) (hP.1 _ (w2 (by omega))).1
            · exact wM_6 hR (by decide) (by decide)
theorem p_turn (hsl : sl ≤ 40) (hP : wP P ni nr) (hq : ∀ k, k < ni → q_kd P k ≤ 9 ∧ q_tm P k ≤ 9) (hw : wM P ni nr sl lim (T, N, F, Pl, C, tk, fs, cs)) (hT : T < 8) (hcs : cs.length < 2 ^ 20) {m' : mS} (hm : m_turn P su sl lim (T, N, F, Pl, C, tk, fs, cs) m') : wM P ni nr sl lim m' := by
  obtain ⟨w1, w2, w3, w4, w5⟩ := hw
  have hR : wR P ni nr sl lim F Pl C tk fs cs := w5
  obtain ⟨t0, t1, t2, t3, t4, t5, t6, t7⟩ := hm
  rcases (by omega : T = 0 ∨ T = 1 ∨ T = 2 ∨ T = 3 ∨ T = 4 ∨ T = 5 ∨ T = 6 ∨ T = 7) with e | e | e | e | e | e | e | e
  · obtain ⟨r, hr, hr2⟩ := w2 e
    rw [t0 e r hr]; exact p_row hP hR hr2
  · cases hN : N with
    | none => rw [(t1 e).1 hN]; exact wM_6 hR (by decide) (by decide)
    | some it => rw [(t1 e).2 it hN]; exact p_item hP (fun k hk => (hq k hk).2) hR hcs (w3 e it hN)
  · obtain ⟨it, hN, hi⟩ := w4 (by omega) (by omega)
    rw [t2 e it hN]; exact p_try hR hi
  · obtain ⟨it, hN, hi⟩ := w4 (by omega) (by omega)
    have := t3 e it hN
    rw [hN] at this
    exact p_ask hP hR hcs hi (hq it hi).1 this
  · obtain ⟨it, hN, hi⟩ := w4 (by omega) (by omega)
    rw [t4 e it hN]; exact p_aa hP hR hi
  · obtain ⟨it, hN, hi⟩ := w4 (by omega) (by omega)
    rw [t5 e it hN]; exact p_ai hP hR hi
  · obtain ⟨y, hy, -⟩ := hR.1
    rw [t6 e y hy]; exact p_resume hsl hP hR hy
  · rw [t7 e]; exact p_choice hR
/-- how much a turn may add -/
def l_le (fs : List mF) (cs : List mC) (m : mS) : Prop := m.2.2.2.2.2.2.1.length ≤ fs.length + 2 ∧ m.2.2.2.2.2.2.2.length ≤ cs.length + 1
theorem l_fork {fs0 : List mF} (hf : fs.length ≤ fs0.length + 2) {it : Nat} : l_le fs0 cs (m_fork P it F Pl C tk fs cs) := by
  unfold m_fork l_le
  split <;> simp <;> omega
theorem l_item2 {fs0 : List mF} (hf : fs.length ≤ fs0.length + 1) {it : Nat} : l_le fs0 cs (m_item2 P it F Pl C tk fs cs) := by
  unfold m_item2
  split
  · exact l_fork (by omega)
  · split
    · exact ⟨by show (m_push _ _ _ _ _ _ _).length ≤ _; rw [m_push_len]; omega, Nat.le_succ _⟩
    · split
      · exact ⟨by show (m_push _ _ _ _ _ _ _).length ≤ _; rw [m_push_len]; omega, Nat.le_succ _⟩
      · exact ⟨by show fs.length ≤ _; omega, Nat.le_succ _⟩
theorem l_turn (hw : wM P ni nr sl lim (T, N, F, Pl, C, tk, fs, cs)) (hT : T < 8) (hk : ∀ k, k < ni → q_kd P k ≤ 9) {m' : mS} (hm : m_turn P su sl lim (T, N, F, Pl, C, tk, fs, cs) m') : l_le fs cs m' := by
  obtain ⟨w1, w2, w3, w4, w5⟩ := hw
  obtain ⟨t0, t1, t2, t3, t4, t5, t6, t7⟩ := hm
  have z1 : fs.length ≤ fs.length + 2 := by omega
  have z2 : cs.length ≤ cs.length + 1 := by omega
  have zt : ∀ k, (cs.take k).length ≤ cs.length + 1 := fun k => by rw [List.length_take]; omega
  have zp : ∀ {F' kind it mark Pl' : Nat} {C' : Nat → Nat}, (m_push fs F' kind it mark Pl' C').length ≤ fs.length + 2 := by
    intros
    rw [m_push_len]; omega
  rcases (by omega : T = 0 ∨ T = 1 ∨ T = 2 ∨ T = 3 ∨ T = 4 ∨ T = 5 ∨ T = 6 ∨ T = 7) with e | e | e | e | e | e | e | e
  · obtain ⟨r, hr, hr2⟩ := w2 e
    rw [t0 e r hr]
    refine ⟨z1, ?_⟩
    show (match q_nr P r with | none => cs | some o => cs ++ [(0, o, Pl, C, F)]).length ≤ _
    split <;> simp
  · cases hN : N with
    | none => rw [(t1 e).1 hN]; exact ⟨z1, z2⟩
    | some it =>
      rw [(t1 e).2 it hN]
      unfold m_item
      split
      · exact ⟨z1, z2⟩
      · split
        · exact l_item2 (by rw [m_push_len]; omega)
        · exact l_item2 (by omega)
  · obtain ⟨it, hN, hi⟩ := w4 (by omega) (by omega)
    rw [t2 e it hN]
    unfold m_try
    split
    · exact ⟨z1, z2⟩
    · exact ⟨zp, z2⟩
  · obtain ⟨it, hN, hi⟩ := w4 (by omega) (by omega)
    have hm := t3 e it hN
    by_cases q : tk < lim
    · obtain ⟨c0, c1, c2, c3, c4, c5⟩ := hm.2 q
      have := hk it hi
      rcases (by omega : q_kd P it = 0 ∨ q_kd P it = 1 ∨ q_kd P it = 2 ∨ q_kd P it = 3 ∨ q_kd P it = 4 ∨ 5 ≤ q_kd P it) with e | e | e | e | e | e
      · have c := c0 e
        by_cases q2 : Pl < sl ∧ q_hit (q_vl P it) (su Pl)
        · rw [c.1 q2]; exact ⟨z1, z2⟩
        · rw [c.2 q2]; exact ⟨z1, z2⟩
      · rw [c1 e]; exact ⟨z1, z2⟩
      · rw [c2 e]; exact ⟨z1, z2⟩
      · have c := c3 e
        by_cases q2 : C (q_g P it) % 64 = 0
        · rw [c.1 q2]; exact ⟨z1, z2⟩
        · by_cases q3 : q_same su sl (C (q_g P it) % 64 - 1) (C (q_g P it) / 64 - C (q_g P it) % 64) Pl
          · rw [(c.2 q2).1 q3]; exact ⟨z1, z2⟩
          · rw [(c.2 q2).2 q3]; exact ⟨z1, z2⟩
      · rw [c4 e]
        unfold m_call
        split
        · exact ⟨zp, z2⟩
        · exact ⟨z1, z2⟩
      · rw [c5 e]
        refine ⟨zp, ?_⟩
        show (if q_kd P it = 8 then cs ++ [(4, it, Pl, C, F)] else cs).length ≤ _
        split <;> simp
    · rw [hm.1 q]; exact ⟨z1, z2⟩
  · obtain ⟨it, hN, hi⟩ := w4 (by omega) (by omega)
    rw [t4 e it hN]
    unfold m_aa m_ai
    split
    · split <;> exact ⟨z1, z2⟩
    · exact ⟨z1, z2⟩
  · obtain ⟨it, hN, hi⟩ := w4 (by omega) (by omega)
    rw [t5 e it hN]
    unfold m_ai
    split <;> exact ⟨z1, z2⟩
  · obtain ⟨y, hy, -⟩ := w5.1
    rw [t6 e y hy]
    unfold m_resume
    split
    · unfold m_leave
      split
      · exact ⟨z1, z2⟩
      · split
        · exact ⟨z1, zt _⟩
        · split
          · exact ⟨z1, zt _⟩
          · split
            · exact ⟨z1, zt _⟩
            · exact ⟨z1, z2⟩
    · split
      · exact ⟨z1, z2⟩
      · split
        · split
          · exact ⟨z1, z2⟩
          · exact l_fork z1
        · split
          · exact l_fork z1
          · split
            · unfold m_times
              split
              · exact ⟨zp, z2⟩
              · exact ⟨z1, z2⟩
            · split
              · exact ⟨z1, zt _⟩
              · exact ⟨z1, z2⟩
  · rw [t7 e]
    unfold m_choice
    split
    · exact ⟨z1, z2⟩
    · exact ⟨z1, zt _⟩
end MACH
