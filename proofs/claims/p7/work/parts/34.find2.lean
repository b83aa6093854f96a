/-- between two searches -/
def rB (n2 : Nat) (P : pg) (ni nr : Nat) (su : Nat → Nat) (sl lim tk : Nat) (i : mm_i) (a : mm_a) (b : mm_b) : Prop := (i 306 = nI lim ∧ i 321 = nI sl ∧ rP P ni nr a ∧ (∀ k, k < sl → a 21 k = nI (su k))) ∧ i 314 = nI tk ∧ tk ≤ lim ∧ rF [f0] a b ∧ ∃ cu, cu ≤ n2 ∧ i 661 = nI cu
def m_beg (P : pg) (p tk : Nat) : mS := (0, some (q_gb P 0), 0, p, fun _ => 0, tk, [f0], [])
def m_fnd (n1 n2 : Nat) (P : pg) (su : Nat → Nat) (sl lim : Nat) : Nat → Nat → Nat → Int32 → Option mS → Nat → Prop
  | 0, tk, p, ans, mo, tk' => sl < p ∧ ans = -4 ∧ mo = none ∧ tk' = tk
  | r + 1, tk, p, ans, mo, tk' => p ≤ sl ∧ ∃ m' k, m_run n1 n2 P su sl lim k (m_beg P p tk) m' ∧ k ≤ 1000000 ∧ (k = 1000000 ∨ ¬ g_on n1 n2 m') ∧ (m'.1 = 9 → m_fnd n1 n2 P su sl lim r m'.2.2.2.2.2.1 (p + 1) ans mo tk') ∧ (¬ m'.1 = 9 → ¬ m'.1 = 8 → ans = -5 ∧ mo = none ∧ tk' = m'.2.2.2.2.2.1) ∧ (m'.1 = 8 → ans = nI p ∧ mo = some m' ∧ tk' = m'.2.2.2.2.2.1)
theorem cp_zero : (0 : Int64) = lN (cp_enc (fun _ => 0)) := by
  have h : cp_enc (fun _ => 0) = 0 := by simp [cp_enc]
  rw [h]
  rfl
section FIND
variable {n1 n2 ni nr sl lim : Nat} {P : pg} {su : Nat → Nat} {i : mm_i} {l : mm_j} {a : mm_a} {b : mm_b}
theorem rB_of {m : mS} (h : rI n1 n2 P ni nr su sl lim m i l a b) : rB n2 P ni nr su sl lim m.2.2.2.2.2.1 i a b := by
  obtain ⟨hM, hW, hz, hf, hc⟩ := h
  refine ⟨hM.1, hM.2.2.2.2.2.2.1, ?_, fun f x hx => ?_, _, hc, hM.2.2.2.2.2.2.2.2.1⟩
  · obtain ⟨T, N, F, Pl, C, tk, fs, cs⟩ := m
    exact hW.2.2.2.2.2.2.2.1
  · match f, hx with
    | 0, hx =>
      cases hx
      exact hM.2.2.2.2.2.2.2.2.2.1 0 f0 hz
theorem wM_beg (hP : wP P ni nr) {p tk : Nat} (hp : p ≤ sl) (htk : tk ≤ lim) : wM P ni nr sl lim (m_beg P p tk) := by
  have hc : cp_in sl (fun _ => 0) := fun g _ => Or.inl rfl
  refine wM_0 ⟨⟨f0, rfl, Nat.zero_le _⟩, hp, hc, htk, fun f y hy => ?_, fun c x hx => by simp at hx⟩ hP.2.2
  match f, hy with
  | 0, hy =>
    cases hy
    refine ⟨⟨by decide, fun v => absurd v (by decide), by decide, Nat.zero_le _, by decide, fun v => absurd v (by decide), fun v => absurd v (by decide), hc, by decide⟩, fun z hz => ?_⟩
    cases hz
    exact Nat.le_refl _
theorem t_begin {K : mm_i → mm_j → mm_a → mm_b → Prop} (hq : rQ n1 n2 P ni nr su sl lim) {tk p : Nat} (h : rB n2 P ni nr su sl lim tk i a b) (hp : p ≤ sl) {x1 : Int32} (ex : x1 = nI p) (hK : ∀ i' l', rI n1 n2 P ni nr su sl lim (m_beg P p tk) i' l' a b → rU i l a i' l' a → K i' l' a b) : wp_Matcher_beginAt_19 n1 n2 i l a b x1 K := by
  obtain ⟨hn0, hn1, hn2, hsl, hsu, hlim, hP, hk⟩ := hq
  obtain ⟨⟨s1, s2, s3, s4⟩, h1, h2, h3, cu, h4, h5⟩ := h
  unfold wp_Matcher_beginAt_19 wp_Frames_empty_33 wp_Choices_cutTo_41 wp_Matcher_go_19
  dsimp only
  have e32 : a 32 (0 : Int32).toNatClampNeg = nI (q_gb P 0) := s3.2.2.2.2 0 (by decide)
  rw [e32]
  have fin : ∀ i2 : mm_i, (∀ k, ¬ k = 535 → ¬ k = 661 → i2 k = i k) → i2 535 = 1 → i2 661 = 0 → K (upd (upd (upd (upd i2 311 0) 312 x1) 309 0) 310 (nI (q_gb P 0))) (vp_updL l 313 0) a b := by
    intro i2 g1 g2 g3
    refine hK _ _ ⟨⟨⟨?_, ?_, s3, s4⟩, rfl, rfl, rfl, ?_, by rw [pk_uLs]; exact cp_zero, ?_, ?_, ?_, h3, fun c x hx => by cases hx⟩, wM_beg hP hp h2, rfl, hn0, Nat.zero_le _⟩ ⟨fun k hk' => ?_, fun k hk' => pk_uLn hk', fun _ _ => rfl⟩
    · rw [ud_n (by decide), ud_n (by decide), ud_n (by decide), ud_n (by decide), g1 306 (by decide) (by decide)]; exact s1
    · rw [ud_n (by decide), ud_n (by decide), ud_n (by decide), ud_n (by decide), g1 321 (by decide) (by decide)]; exact s2
    · rw [ud_n (by decide), ud_n (by decide), ud_s]; exact ex
    · rw [ud_n (by decide), ud_n (by decide), ud_n (by decide), ud_n (by decide), g1 314 (by decide) (by decide)]; exact h1
    · rw [ud_n (by decide), ud_n (by decide), ud_n (by decide), ud_n (by decide), g2]; rfl
    · rw [ud_n (by decide), ud_n (by decide), ud_n (by decide), ud_n (by decide), g3]; rfl
    · rw [ud_n (by omega), ud_n (by omega), ud_n (by omega), ud_n (by omega), g1 k (by omega) (by omega)]
  have e6 : upd i 535 1 661 = nI cu := by rw [ud_n (by decide)]; exact h5
  refine ⟨fun q => ⟨vp_in_nI (n := 0) (by decide) (by decide), ?_⟩, fun q => ⟨vp_in_nI (n := 0) (by decide) (by decide), ?_⟩⟩
  · refine fin _ (fun k k1 k2 => ud_n k1) ud_s ?_
    rw [e6] at q ⊢
    have := (nI_leI (a := cu) (b := 0) (by omega) (by decide)).mp q
    rw [show cu = 0 by omega]; rfl
  · exact fin _ (fun k k1 k2 => by rw [ud_n k2, ud_n k1]) (by rw [ud_n (by decide), ud_s]) ud_s
theorem t_outer {K : Int32 → mm_i → mm_j → mm_a → mm_b → Prop} (hq : rQ n1 n2 P ni nr su sl lim) : ∀ (r p : Nat), p + r = sl + 1 → ∀ {i : mm_i} {l : mm_j} {a : mm_a} {b : mm_b} {tk : Nat}, rB n2 P ni nr su sl lim tk i a b →
    (∀ i' l' a' b' ans mo tk', m_fnd n1 n2 P su sl lim r tk p ans mo tk' → rB n2 P ni nr su sl lim tk' i' a' b' → (∀ m', mo = some m' → rI n1 n2 P ni nr su sl lim m' i' l' a' b') → rU i l a i' l' a' → K ans i' l' a' b') → wl_Matcher_find_19 n1 n2 K (r + 1) i l a b (nI p) := by
  have hsl : sl ≤ 40 := hq.2.2.2.1
  intro r
  induction r with
  | zero =>
    intro p hp i l a b tk h hK
    show wt_Matcher_find_19 n1 n2 _ i l a b (nI p) K
    unfold wt_Matcher_find_19
    have e : i 321 = nI sl := h.1.2.1
    rw [e]
    refine ⟨fun _ => hK i l a b (-4) none tk ⟨by omega, rfl, rfl, rfl⟩ h (fun m' z => by cases z) rU_rf, fun z => absurd ((nI_ltI (by omega) (by omega)).mpr (by omega)) z⟩
  | succ r ih =>
    intro p hp i l a b tk h hK
    show wt_Matcher_find_19 n1 n2 (wl_Matcher_find_19 n1 n2 K (r + 1)) i l a b (nI p) K
    unfold wt_Matcher_find_19
    have e : i 321 = nI sl := h.1.2.1
    rw [e]
    refine ⟨fun z => absurd ((nI_ltI (by omega) (by omega)).mp z) (by omega), fun _ => ?_⟩
    refine t_begin hq h (by omega) rfl (fun i1 l1 hI hU => ⟨_, t_inner hq 1000000 0 rfl hI (fun i' l' a' b' m' k hr hk he hI' hU' => ?_)⟩)
    have gT : i' 309 = nI m'.1 := hI'.1.2.1
    have hT : m'.1 ≤ 10 := hI'.2.1.1
    have hU2 := rU_tr hU hU'
    unfold we_Matcher_find_19
    rw [gT]
    refine ⟨fun q => ?_, fun q => ⟨fun q2 => ?_, fun q2 => ?_⟩⟩
    · have q9 : m'.1 = 9 := (nI_eq (by omega) (by decide)).mp q
      rw [nI_1]
      refine ih (p + 1) (by omega) (rB_of hI') (fun i2 l2 a2 b2 ans mo tk' hf hB hm hU3 => ?_)
      exact hK i2 l2 a2 b2 ans mo tk' ⟨by omega, m', k, hr, hk, he, fun _ => hf, fun z => absurd q9 z, fun z => absurd z (by omega)⟩ hB hm (rU_tr hU2 hU3)
    · have q9 : ¬ m'.1 = 9 := fun z => q (by rw [z]; rfl)
      have q8 : ¬ m'.1 = 8 := fun z => q2 (by rw [z]; rfl)
      exact hK i' l' a' b' (-5) none _ ⟨by omega, m', k, hr, hk, he, fun z => absurd z q9, fun _ _ => ⟨rfl, rfl, rfl⟩, fun z => absurd z q8⟩ (rB_of hI') (fun m z => by cases z) hU2
    · have q8 : m'.1 = 8 := (nI_eq (by omega) (by decide)).mp q2
      exact hK i' l' a' b' (nI p) (some m') _ ⟨by omega, m', k, hr, hk, he, fun z => absurd z (by omega), fun _ z => absurd q8 z, fun _ => ⟨rfl, rfl, rfl⟩⟩ (rB_of hI') (fun m z => by cases z; exact hI') hU2
/-- Matcher.find -/
theorem t_find {K : Int32 → mm_i → mm_j → mm_a → mm_b → Prop} (hq : rQ n1 n2 P ni nr su sl lim) {tk p : Nat} (hp : p ≤ sl) (h : rB n2 P ni nr su sl lim tk i a b) {x1 : Int32} (ex : x1 = nI p) (hK : ∀ i' l' a' b' ans mo tk', m_fnd n1 n2 P su sl lim (sl + 1 - p) 0 p ans mo tk' → rB n2 P ni nr su sl lim tk' i' a' b' → (∀ m', mo = some m' → rI n1 n2 P ni nr su sl lim m' i' l' a' b') → rU i l a i' l' a' → K ans i' l' a' b') : wp_Matcher_find_19 n1 n2 i l a b x1 K := by
  obtain ⟨⟨s1, s2, s3, s4⟩, h1, h2, h3, h4⟩ := h
  unfold wp_Matcher_find_19
  rw [ex]
  refine ⟨_, t_outer hq (sl + 1 - p) p (by omega) (tk := 0) ⟨⟨s1, s2, s3, s4⟩, rfl, Nat.zero_le _, h3, h4⟩ (fun i' l' a' b' ans mo tk' hf hB hm hU => hK i' l' a' b' ans mo tk' hf hB hm (rU_tr (rU_taken 0) hU))⟩
end FIND
