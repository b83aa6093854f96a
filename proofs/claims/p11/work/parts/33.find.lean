/-! find: the runs of turns -/
def g_on (n1 n2 : Nat) (m : mS) : Prop := m.1 < 8 ∧ m.2.2.2.2.2.2.1.length + 2 ≤ n1 ∧ m.2.2.2.2.2.2.2.length + 1 ≤ n2
def m_run (n1 n2 : Nat) (P : pg) (su : Nat → Nat) (sl lim : Nat) : Nat → mS → mS → Prop
  | 0, m, m' => m' = m
  | k + 1, m, m' => g_on n1 n2 m ∧ ∃ m1, m_turn P su sl lim m m1 ∧ m_run n1 n2 P su sl lim k m1 m'
def rI (n1 n2 : Nat) (P : pg) (ni nr : Nat) (su : Nat → Nat) (sl lim : Nat) (m : mS) (i : mm_i) (l : mm_j) (a : mm_a) (b : mm_b) : Prop := rM P ni nr su sl lim m i l a b ∧ wM P ni nr sl lim m ∧ z_0 m ∧ m.2.2.2.2.2.2.1.length ≤ n1 ∧ m.2.2.2.2.2.2.2.length ≤ n2
/-- all that stays as it is over a search -/
def rQ (n1 n2 : Nat) (P : pg) (ni nr : Nat) (su : Nat → Nat) (sl lim : Nat) : Prop := 1 ≤ n1 ∧ n1 < 2 ^ 19 ∧ n2 < 2 ^ 19 ∧ sl ≤ 40 ∧ (∀ k, su k < 2 ^ 31) ∧ lim ≤ 300 ∧ wP P ni nr ∧ ∀ k, k < ni → q_kd P k ≤ 9 ∧ q_tm P k ≤ 9
section FIND
variable {n1 n2 ni nr sl lim : Nat} {P : pg} {su : Nat → Nat} {i : mm_i} {l : mm_j} {a : mm_a} {b : mm_b}
theorem t_goes {K : Int32 → mm_i → mm_j → mm_a → mm_b → Prop} (hq : rQ n1 n2 P ni nr su sl lim) {m : mS} (h : rI n1 n2 P ni nr su sl lim m i l a b) (h1 : g_on n1 n2 m → K 1 i l a b) (h0 : ¬ g_on n1 n2 m → K 0 i l a b) : wp_Matcher_goesOn_19 n1 n2 i l a b K := by
  obtain ⟨hn0, hn1, hn2, -⟩ := hq
  obtain ⟨hM, hW, -, hf, hc⟩ := h
  have gT : i 309 = nI m.1 := hM.2.1
  have g7 : i 535 = nI m.2.2.2.2.2.2.1.length := hM.2.2.2.2.2.2.2.1
  have g8 : i 661 = nI m.2.2.2.2.2.2.2.length := hM.2.2.2.2.2.2.2.2.1
  have hT : m.1 ≤ 10 := hW.1
  have e7 : i 535 + (2 : Int32) = nI (m.2.2.2.2.2.2.1.length + 2) := by rw [g7, show (2 : Int32) = nI 2 from rfl, nI_add]
  have e8 : i 661 + (1 : Int32) = nI (m.2.2.2.2.2.2.2.length + 1) := by rw [g8, nI_1]
  unfold wp_Matcher_goesOn_19 wp_Frames_hasRoom_33 wp_Choices_hasRoom_41
  dsimp only
  rw [e7, e8, gT]
  refine ⟨fun q => ?_, fun q => ⟨fun q1 => ⟨fun _ => ?_, fun z => absurd rfl z⟩, fun q1 => ⟨fun z => absurd z (by decide), fun _ => ⟨fun q2 => ⟨fun _ => ?_, fun z => absurd rfl z⟩, fun q2 => ⟨fun z => absurd z (by decide), fun _ => ?_⟩⟩⟩⟩⟩
  · exact h0 (fun z => absurd ((nI_leI (a := 8) (by decide) (by omega)).mp q) (by have := z.1; omega))
  · exact h0 (fun z => absurd ((nI_ltI (by omega) (by omega)).mp q1) (by have := z.2.1; omega))
  · exact h0 (fun z => absurd ((nI_ltI (by omega) (by omega)).mp q2) (by have := z.2.2; omega))
  · refine h1 ⟨?_, ?_, ?_⟩
    · rcases Nat.lt_or_ge m.1 8 with y | y
      · exact y
      · exact absurd ((nI_leI (a := 8) (by decide) (by omega)).mpr y) q
    · rcases Nat.lt_or_ge n1 (m.2.2.2.2.2.2.1.length + 2) with y | y
      · exact absurd ((nI_ltI (by omega) (by omega)).mpr y) q1
      · exact y
    · rcases Nat.lt_or_ge n2 (m.2.2.2.2.2.2.2.length + 1) with y | y
      · exact absurd ((nI_ltI (by omega) (by omega)).mpr y) q2
      · exact y
theorem rI_turn (hq : rQ n1 n2 P ni nr su sl lim) {m m' : mS} {i' : mm_i} {l' : mm_j} {a' : mm_a} {b' : mm_b} (h : rI n1 n2 P ni nr su sl lim m i l a b) (hg : g_on n1 n2 m) (ht : m_turn P su sl lim m m') (hM : rM P ni nr su sl lim m' i' l' a' b') : rI n1 n2 P ni nr su sl lim m' i' l' a' b' := by
  obtain ⟨hn0, hn1, hn2, hsl, hsu, hlim, hP, hk⟩ := hq
  obtain ⟨T, N, F, Pl, C, tk, fs, cs⟩ := m
  have hl := l_turn h.2.1 hg.1 (fun k hk' => (hk k hk').1) ht
  have hc : cs.length ≤ n2 := h.2.2.2.2
  have g1 : fs.length + 2 ≤ n1 := hg.2.1
  have g2 : cs.length + 1 ≤ n2 := hg.2.2
  exact ⟨hM, p_turn hsl hP hk h.2.1 hg.1 (by omega) ht, z_turn h.2.2.1 h.2.1 hg.1 (fun k hk' => (hk k hk').1) ht, by have := hl.1; omega, by have := hl.2; omega⟩
theorem t_inner {E : mm_i → mm_j → mm_a → mm_b → Int32 → Prop} (hq : rQ n1 n2 P ni nr su sl lim) {z2 : Int32} : ∀ (r t : Nat), t + r = 1000000 → ∀ {i : mm_i} {l : mm_j} {a : mm_a} {b : mm_b} {m : mS}, rI n1 n2 P ni nr su sl lim m i l a b →
    (∀ i' l' a' b' m' k, m_run n1 n2 P su sl lim k m m' → k ≤ r → (k = r ∨ ¬ g_on n1 n2 m') → rI n1 n2 P ni nr su sl lim m' i' l' a' b' → rU i l a i' l' a' → E i' l' a' b' z2) → wi_Matcher_find_19 n1 n2 E (r + 1) i l a b z2 (nI t) := by
  intro r
  induction r with
  | zero =>
    intro t ht i l a b m h hE
    show wj_Matcher_find_19 n1 n2 _ E i l a b z2 (nI t)
    unfold wj_Matcher_find_19
    refine ⟨fun _ => hE i l a b m 0 rfl (Nat.le_refl _) (Or.inl rfl) h rU_rf, fun z => absurd ((nI_leI (a := 1000000) (by decide) (by omega)).mpr (by omega)) z⟩
  | succ r ih =>
    intro t ht i l a b m h hE
    show wj_Matcher_find_19 n1 n2 (wi_Matcher_find_19 n1 n2 E (r + 1)) E i l a b z2 (nI t)
    unfold wj_Matcher_find_19
    refine ⟨fun z => absurd ((nI_leI (a := 1000000) (by decide) (by omega)).mp z) (by omega), fun _ => ?_⟩
    refine t_goes hq h (fun hg => ⟨fun z => absurd z (by decide), fun _ => ?_⟩) (fun hg => ⟨fun _ => hE i l a b m 0 rfl (Nat.zero_le _) (Or.inr hg) h rU_rf, fun z => absurd rfl z⟩)
    obtain ⟨hn0, hn1, hn2, hsl, hsu, hlim, hP, hk⟩ := id hq
    obtain ⟨T, N, F, Pl, C, tk, fs, cs⟩ := m
    have g1 : fs.length + 2 ≤ n1 := hg.2.1
    have g2 : cs.length + 1 ≤ n2 := hg.2.2
    refine t_turn (by omega) (by omega) hsl hsu hlim hP h.1 h.2.1 hg.1 (by omega) (by omega) (fun i' l' a' b' m' ht' r1 r2 => ?_)
    rw [nI_1]
    refine ih (t + 1) (by omega) (rI_turn hq h hg ht' r1) (fun i2 l2 a2 b2 m2 k hr hk2 he hI hU => ?_)
    exact hE i2 l2 a2 b2 m2 (k + 1) ⟨hg, m', ht', hr⟩ (by omega) (by rcases he with e | e; exact Or.inl (by omega); exact Or.inr e) hI (rU_tr r2 hU)
end FIND
