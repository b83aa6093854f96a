section MACH
variable {n1 n2 ni nr sl lim : Nat} {P : pg} {su : Nat → Nat}
variable {T F Pl tk : Nat} {N : Option Nat} {C : Nat → Nat} {fs : List mF} {cs : List mC}
theorem m_push_old {f kind it mark : Nat} {y : mF} (h : fs[f]? = some y) : (m_push fs F kind it mark Pl C)[f]? = some y := by
  rw [m_push, List.getElem?_append_left (List.getElem?_eq_some_iff.mp h).1]
  exact h
theorem m_push_new {kind it mark : Nat} : (m_push fs F kind it mark Pl C)[fs.length]? = some (kind, it, mark, Pl, C, F, if kind = 2 then m_cl fs F + 1 else m_cl fs F) := by
  rw [m_push, List.getElem?_append_right (Nat.le_refl _), Nat.sub_self]
  rfl
theorem m_push_get {f kind it mark : Nat} {y : mF} (h : (m_push fs F kind it mark Pl C)[f]? = some y) : fs[f]? = some y ∨ (f = fs.length ∧ y = (kind, it, mark, Pl, C, F, if kind = 2 then m_cl fs F + 1 else m_cl fs F)) := by
  by_cases hf : f < fs.length
  · rw [m_push, List.getElem?_append_left hf] at h
    exact Or.inl h
  · have hlt := (List.getElem?_eq_some_iff.mp h).1
    rw [m_push_len] at hlt
    have e : f = fs.length := by omega
    subst e
    rw [m_push_new] at h
    exact Or.inr ⟨rfl, (Option.some.inj h).symm⟩
theorem wF_mono {len len' : Nat} (h : len ≤ len') {y : mF} (hw : wF P ni sl len y) : wF P ni sl len' y := by
  obtain ⟨w1, w2, w3, w4⟩ := hw
  exact ⟨w1, w2, by omega, w4⟩
theorem wFs_push (hw : wFs P ni sl fs) (hH : wH fs F Pl) (hPl : Pl ≤ sl) (hC : cp_in sl C) {kind it mark : Nat} (hk : 1 ≤ kind) (hk6 : kind ≤ 6) (hi : it < ni) (hm : mark < 2 ^ 20) (h5 : kind = 5 → 1 ≤ mark) (h1 : kind = 1 → 5 ≤ q_kd P it) (h2 : kind = 2 → m_cl fs F < 12) : wFs P ni sl (m_push fs F kind it mark Pl C) := by
  have hF := wH_lt hH
  have hcl := m_cl_le hw hF
  intro f y hy
  rcases m_push_get hy with h | ⟨e, h⟩
  · obtain ⟨g1, g2⟩ := hw f y h
    refine ⟨wF_mono (by rw [m_push_len]; omega) g1, fun z hz => ?_⟩
    have hlt := g1.2.2.1
    rw [m_push, List.getElem?_append_left hlt] at hz
    exact g2 z hz
  · subst h
    refine ⟨⟨hk6, fun _ => hi, ?_, hPl, hm, h5, h1, hC, ?_⟩, fun z hz => ?_⟩
    · show F < _
      rw [m_push_len]; omega
    · show (if kind = 2 then m_cl fs F + 1 else m_cl fs F) ≤ 12
      split
      · rename_i q; have := h2 q; omega
      · exact hcl
    · have hz : (m_push fs F kind it mark Pl C)[F]? = some z := hz
      rw [m_push, List.getElem?_append_left hF] at hz
      obtain ⟨y, hy1, hy2⟩ := hH
      rw [hz] at hy1
      cases hy1
      exact hy2
theorem wCs_push (hw : wCs ni nr sl fs cs) {kind it mark : Nat} {F' Pl' : Nat} {C' : Nat → Nat} : wCs ni nr sl (m_push fs F' kind it mark Pl' C') cs := by
  intro c x hx
  obtain ⟨g1, g2, g3, y, g4, g5⟩ := hw c x hx
  exact ⟨g1, g2, g3, y, m_push_old g4, g5⟩
theorem wCs_app (hw : wCs ni nr sl fs cs) {x : mC} (hx : wC ni nr sl fs x) : wCs ni nr sl fs (cs ++ [x]) := by
  intro c y hy
  by_cases hc : c < cs.length
  · rw [List.getElem?_append_left hc] at hy
    exact hw c y hy
  · rw [List.getElem?_append_right (by omega)] at hy
    have hlt := (List.getElem?_eq_some_iff.mp hy).1
    simp at hlt
    rw [show c - cs.length = 0 by omega] at hy
    cases hy
    exact hx
theorem wCs_take (hw : wCs ni nr sl fs cs) (k : Nat) : wCs ni nr sl fs (cs.take k) := fun c x hx => by
  rw [List.getElem?_take] at hx
  split at hx
  · exact hw c x hx
  · cases hx
theorem wH_new {kind it mark : Nat} : wH (m_push fs F kind it mark Pl C) fs.length Pl := ⟨_, m_push_new, Nat.le_refl _⟩
theorem wH_old (h : wH fs F Pl) {kind it mark : Nat} {F' Pl' : Nat} {C' : Nat → Nat} : wH (m_push fs F' kind it mark Pl' C') F Pl := by
  obtain ⟨y, h1, h2⟩ := h
  exact ⟨y, m_push_old h1, h2⟩
/-- the state but for task and number -/
def wR (P : pg) (ni nr sl lim : Nat) (F Pl : Nat) (C : Nat → Nat) (tk : Nat) (fs : List mF) (cs : List mC) : Prop := wH fs F Pl ∧ Pl ≤ sl ∧ cp_in sl C ∧ tk ≤ lim ∧ wFs P ni sl fs ∧ wCs ni nr sl fs cs
theorem wM_0 (h : wR P ni nr sl lim F Pl C tk fs cs) {r : Nat} (hr : r < nr) : wM P ni nr sl lim (0, some r, F, Pl, C, tk, fs, cs) := ⟨by decide, fun _ => ⟨r, rfl, hr⟩, fun v => absurd v (by decide), fun v => absurd v (by decide), h⟩
theorem wM_1 (h : wR P ni nr sl lim F Pl C tk fs cs) (hN : ∀ it, N = some it → it < ni) : wM P ni nr sl lim (1, N, F, Pl, C, tk, fs, cs) := ⟨by decide, fun v => absurd v (by decide), fun _ => hN, fun v => absurd v (by decide), h⟩
theorem wM_25 (h : wR P ni nr sl lim F Pl C tk fs cs) {T it : Nat} (h2 : 2 ≤ T) (h5 : T ≤ 5) (hi : it < ni) : wM P ni nr sl lim (T, some it, F, Pl, C, tk, fs, cs) := ⟨by omega, fun v => absurd v (by omega), fun v => absurd v (by omega), fun _ _ => ⟨it, rfl, hi⟩, h⟩
theorem wM_6 (h : wR P ni nr sl lim F Pl C tk fs cs) {T : Nat} (h6 : 6 ≤ T) (h10 : T ≤ 10) : wM P ni nr sl lim (T, N, F, Pl, C, tk, fs, cs) := ⟨h10, fun v => absurd v (by omega), fun v => absurd v (by omega), fun _ v => absurd v (by omega), h⟩
theorem wR_c (h : wR P ni nr sl lim F Pl C tk fs cs) {t n : Nat} (ht : (t = 0 ∧ n < nr) ∨ ((t = 2 ∨ t = 4 ∨ t = 5) ∧ n < ni)) : wR P ni nr sl lim F Pl C tk fs (cs ++ [(t, n, Pl, C, F)]) := ⟨h.1, h.2.1, h.2.2.1, h.2.2.2.1, h.2.2.2.2.1, wCs_app h.2.2.2.2.2 ⟨ht, h.2.1, h.2.2.1, h.1⟩⟩
theorem wR_take (h : wR P ni nr sl lim F Pl C tk fs cs) (k : Nat) : wR P ni nr sl lim F Pl C tk fs (cs.take k) := ⟨h.1, h.2.1, h.2.2.1, h.2.2.2.1, h.2.2.2.2.1, wCs_take h.2.2.2.2.2 k⟩
theorem wR_push (h : wR P ni nr sl lim F Pl C tk fs cs) {kind it mark : Nat} (hk : 1 ≤ kind) (hk6 : kind ≤ 6) (hi : it < ni) (hm : mark < 2 ^ 20) (h5 : kind = 5 → 1 ≤ mark) (h1 : kind = 1 → 5 ≤ q_kd P it) (h2 : kind = 2 → m_cl fs F < 12) : wR P ni nr sl lim fs.length Pl C tk (m_push fs F kind it mark Pl C) cs := ⟨wH_new, h.2.1, h.2.2.1, h.2.2.2.1, wFs_push h.2.2.2.2.1 h.1 h.2.1 h.2.2.1 hk hk6 hi hm h5 h1 h2, wCs_push h.2.2.2.2.2⟩
theorem p_fork (h : wR P ni nr sl lim F Pl C tk fs cs) {it : Nat} (hi : it < ni) : wM P ni nr sl lim (m_fork P it F Pl C tk fs cs) := by
  unfold m_fork
  split
  · exact wM_25 (wR_c h (Or.inr ⟨Or.inl rfl, hi⟩)) (by decide) (by decide) hi
  · exact wM_25 (wR_c h (Or.inr ⟨Or.inr (Or.inr rfl), hi⟩)) (by decide) (by decide) hi
theorem p_ai (hP : wP P ni nr) (h : wR P ni nr sl lim F Pl C tk fs cs) {it : Nat} (hi : it < ni) : wM P ni nr sl lim (m_ai P it N F Pl C tk fs cs) := by
  unfold m_ai
  split
  · exact wM_6 h (by decide) (by decide)
  · exact wM_1 h (hP.1 it hi).1
theorem p_aa (hP : wP P ni nr) (h : wR P ni nr sl lim F Pl C tk fs cs) {it : Nat} (hi : it < ni) : wM P ni nr sl lim (m_aa P it N F Pl C tk fs cs) := by
  unfold m_aa
  split
  · exact p_ai hP h hi
  · exact wM_6 h (by decide) (by decide)
theorem p_try (h : wR P ni nr sl lim F Pl C tk fs cs) {it : Nat} (hi : it < ni) : wM P ni nr sl lim (m_try P it F Pl C tk fs cs) := by
  unfold m_try
  split
  · exact wM_25 h (by decide) (by decide) hi
  · exact wM_25 (wR_push h (by decide) (by decide) hi (by decide) (fun v => absurd v (by decide)) (fun v => absurd v (by decide)) (fun v => absurd v (by decide))) (by decide) (by decide) hi
theorem p_row (hP : wP P ni nr) (h : wR P ni nr sl lim F Pl C tk fs cs) {r : Nat} (hr : r < nr) : wM P ni nr sl lim (m_row P r F Pl C tk fs cs) := by
  unfold m_row
  refine wM_1 ?_ (hP.2.1 r hr).1
  cases hq : q_nr P r with
  | none => exact h
  | some o => exact wR_c h (Or.inl ⟨rfl, (hP.2.1 r hr).2 o hq⟩)
theorem p_item2 (hP : wP P ni nr) (htm : ∀ k, k < ni → q_tm P k ≤ 9) (h : wR P ni nr sl lim F Pl C tk fs cs) {it : Nat} (hi : it < ni) : wM P ni nr sl lim (m_item2 P it F Pl C tk fs cs) := by
  unfold m_item2
  split
  · exact p_fork h hi
  · split
    · exact wM_25 (wR_push h (by decide) (by decide) hi (by decide) (fun v => absurd v (by decide)) (fun v => absurd v (by decide)) (fun v => absurd v (by decide))) (by decide) (by decide) hi
    · split
      · rename_i q
        have := htm it hi
        exact wM_25 (wR_push h (by decide) (by decide) hi (by omega) (fun _ => (hP.1 it hi).2.2.2.2 q) (fun v => absurd v (by decide)) (fun v => absurd v (by decide))) (by decide) (by decide) hi
      · exact wM_25 h (by decide) (by decide) hi
theorem p_item (hP : wP P ni nr) (htm : ∀ k, k < ni → q_tm P k ≤ 9) (h : wR P ni nr sl lim F Pl C tk fs cs) (hcs : cs.length < 2 ^ 20) {it : Nat} (hi : it < ni) : wM P ni nr sl lim (m_item P it F Pl C tk fs cs) := by
  unfold m_item
  split
  · exact wM_1 h (hP.1 it hi).1
  · split
    · exact p_item2 hP htm (wR_push h (by decide) (by decide) hi hcs (fun v => absurd v (by decide)) (fun v => absurd v (by decide)) (fun v => absurd v (by decide))) hi
    · exact p_item2 hP htm h hi
theorem p_choice (h : wR P ni nr sl lim F Pl C tk fs cs) : wM P ni nr sl lim (m_choice N F Pl C tk fs cs) := by
  unfold m_choice
  split
  · exact wM_6 h (by decide) (by decide)
  · rename_i x hx
    obtain ⟨g1, g2, g3, g4⟩ := h.2.2.2.2.2 _ x hx
    have hR : wR P ni nr sl lim x.2.2.2.2 x.2.2.1 x.2.2.2.1 tk fs (cs.take (cs.length - 1)) := ⟨g4, g2, g3, h.2.2.2.1, h.2.2.2.2.1, wCs_take h.2.2.2.2.2 _⟩
    rcases g1 with ⟨e, e2⟩ | ⟨e, e2⟩
    · rw [e]; exact wM_0 hR e2
    · exact wM_25 hR (by omega) (by omega) e2
theorem p_letter (h : wR P ni nr sl lim F Pl C tk fs cs) {it : Nat} {m : mS} {N0 : Nat} (hN : N0 < ni) (hm : m_letter P su sl it (some N0) F Pl C tk fs cs m) : wM P ni nr sl lim m := by
  by_cases q : Pl < sl ∧ q_hit (q_vl P it) (su Pl)
  · rw [hm.1 q]
    refine wM_25 ⟨?_, q.1, h.2.2⟩ (by decide) (by decide) hN
    obtain ⟨y, y1, y2⟩ := h.1
    exact ⟨y, y1, by omega⟩
  · rw [hm.2 q]
    exact wM_6 h (by decide) (by decide)
theorem p_same (h : wR P ni nr sl lim F Pl C tk fs cs) {g : Nat} {m : mS} {N0 : Nat} (hN : N0 < ni) (hm : m_same su sl g (some N0) F Pl C tk fs cs m) : wM P ni nr sl lim m := by
  by_cases q : C g % 64 = 0
  · rw [hm.1 q]; exact wM_6 h (by decide) (by decide)
  · by_cases q2 : q_same su sl (C g % 64 - 1) (C g / 64 - C g % 64) Pl
    · rw [(hm.2 q).1 q2]
      refine wM_25 ⟨?_, q2.1, h.2.2⟩ (by decide) (by decide) hN
      obtain ⟨y, y1, y2⟩ := h.1
      exact ⟨y, y1, by omega⟩
    · rw [(hm.2 q).2 q2]; exact wM_6 h (by decide) (by decide)
end MACH
