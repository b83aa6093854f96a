section MACH
variable {n1 n2 ni nr sl lim : Nat} {P : pg} {su : Nat → Nat} {i : mm_i} {l : mm_j} {a : mm_a} {b : mm_b} {K : mm_i → mm_j → mm_a → mm_b → Prop}
variable {T F Pl tk : Nat} {N : Option Nat} {C : Nat → Nat} {fs : List mF} {cs : List mC}
theorem rM_place (h : rM P ni nr su sl lim (T, N, F, Pl, C, tk, fs, cs) i l a b) (Pl' : Nat) {x : Int32} (e : x = nI Pl') : rM P ni nr su sl lim (T, N, F, Pl', C, tk, fs, cs) (upd i 312 x) l a b := by
  obtain ⟨s, h1, h2, h3, h4, h5, h6, h7, h8, h9, h10⟩ := h
  subst e
  exact ⟨s, h1, h2, h3, rfl, h5, h6, h7, h8, h9, h10⟩
theorem rU_place (x : Int32) : rU i l a (upd i 312 x) l a := ⟨fun k hk => by rw [ud_n (by omega)], fun _ _ => rfl, fun _ _ => rfl⟩
theorem rM_frame (h : rM P ni nr su sl lim (T, N, F, Pl, C, tk, fs, cs) i l a b) (F' : Nat) {x : Int32} (e : x = nI F') : rM P ni nr su sl lim (T, N, F', Pl, C, tk, fs, cs) (upd i 311 x) l a b := by
  obtain ⟨s, h1, h2, h3, h4, h5, h6, h7, h8, h9, h10⟩ := h
  subst e
  exact ⟨s, h1, h2, rfl, h4, h5, h6, h7, h8, h9, h10⟩
theorem rM_caps (h : rM P ni nr su sl lim (T, N, F, Pl, C, tk, fs, cs) i l a b) (C' : Nat → Nat) {x : Int64} (e : x = lN (cp_enc C')) : rM P ni nr su sl lim (T, N, F, Pl, C', tk, fs, cs) i (vp_updL l 313 x) a b := by
  obtain ⟨s, h1, h2, h3, h4, h5, h6, h7, h8, h9, h10⟩ := h
  subst e
  exact ⟨s, h1, h2, h3, h4, rfl, h6, h7, h8, h9, h10⟩
theorem rU_caps (x : Int64) : rU i l a i (vp_updL l 313 x) a := ⟨fun _ _ => rfl, fun k hk => pk_uLn hk, fun _ _ => rfl⟩
theorem rM_taken (h : rM P ni nr su sl lim (T, N, F, Pl, C, tk, fs, cs) i l a b) (t : Nat) {x : Int32} (e : x = nI t) : rM P ni nr su sl lim (T, N, F, Pl, C, t, fs, cs) (upd i 314 x) l a b := by
  obtain ⟨s, h1, h2, h3, h4, h5, h6, h7, h8, h9, h10⟩ := h
  subst e
  exact ⟨s, h1, h2, h3, h4, h5, rfl, h7, h8, h9, h10⟩
theorem rU_taken (x : Int32) : rU i l a (upd i 314 x) l a := ⟨fun k hk => by rw [ud_n (by omega)], fun _ _ => rfl, fun _ _ => rfl⟩
/-- is the letter one of the set -/
def q_hit (m : Int32) (x : Nat) : Prop := ¬ ((m >>> ((nI x - (97 : Int32)) &&& 31)) &&& (1 : Int32)) = 0
def m_letter (P : pg) (su : Nat → Nat) (sl it : Nat) (N : Option Nat) (F Pl : Nat) (C : Nat → Nat) (tk : Nat) (fs : List mF) (cs : List mC) (m : mS) : Prop :=
  (Pl < sl ∧ q_hit (q_vl P it) (su Pl) → m = (4, N, F, Pl + 1, C, tk, fs, cs)) ∧ (¬ (Pl < sl ∧ q_hit (q_vl P it) (su Pl)) → m = (7, N, F, Pl, C, tk, fs, cs))
theorem t_letter (hsl : sl ≤ 40) (hPl : Pl ≤ sl) (h : rM P ni nr su sl lim (T, N, F, Pl, C, tk, fs, cs) i l a b) {it : Nat} (hi : it < ni) {x1 : Int32} (ex : x1 = nI it) (hK : ∀ i' l' a' b' m, m_letter P su sl it N F Pl C tk fs cs m → rM P ni nr su sl lim m i' l' a' b' → rU i l a i' l' a' → K i' l' a' b') : wp_Matcher_askLetter_19 n1 n2 i l a b x1 K := by
  obtain ⟨hx, hv, p1, p2, p3, p4, p5, p6, p7, p8, p9, p10, p11⟩ := rM_it h hi ex
  have e1 : i 321 = nI sl := h.1.2.1
  have e2 : i 312 = nI Pl := h.2.2.2.2.1
  unfold wp_Matcher_askLetter_19
  refine ⟨fun q => ?_, fun q => ?_⟩
  · have hq : sl ≤ Pl := (nI_leI (by omega) (by omega)).mp (by rw [← e1, ← e2]; exact q)
    exact hK _ _ _ _ _ ⟨fun z => absurd z.1 (by omega), fun _ => rfl⟩ (rM_task h 7 rfl) (rU_task _)
  · have hq : ¬ sl ≤ Pl := fun z => q (by rw [e1, e2]; exact (nI_leI (by omega) (by omega)).mpr z)
    refine ⟨hv, by rw [e2]; exact vp_in_nI (by omega) (by decide), ?_⟩
    have e3 : (i 312).toNatClampNeg = Pl := by rw [e2]; exact nI_clamp (by omega)
    rw [hx, p2, e3, h.1.2.2.2 Pl (by omega)]
    refine ⟨fun z => ?_, fun z => ?_⟩
    · exact hK _ _ _ _ _ ⟨fun w => absurd z w.2, fun _ => rfl⟩ (rM_task h 7 rfl) (rU_task _)
    · exact hK _ _ _ _ _ ⟨fun _ => rfl, fun w => absurd ⟨by omega, z⟩ w⟩ (rM_task (rM_place h (Pl + 1) (by rw [e2, nI_1])) 4 rfl) (rU_tr (rU_place _) (rU_task _))
/-- the letters of [f, f + n) stand at p too -/
def q_same (su : Nat → Nat) (sl f n p : Nat) : Prop := p + n ≤ sl ∧ ∀ k, k < n → su (f + k) = su (p + k)
theorem t_stands {K : Int32 → mm_i → mm_j → mm_a → mm_b → Prop} (hsl : sl ≤ 40) (hsu : ∀ k, su k < 2 ^ 31) (h : rM P ni nr su sl lim (T, N, F, Pl, C, tk, fs, cs) i l a b) (hPl : Pl ≤ sl) {f n : Nat} (hf : f + n ≤ sl) {x1 x2 : Int32} (e1 : x1 = nI f) (e2 : x2 = nI n) (h1 : q_same su sl f n Pl → K 1 i l a b) (h0 : ¬ q_same su sl f n Pl → K 0 i l a b) : wp_Matcher_standsHere_19 n1 n2 i l a b x1 x2 K := by
  have g1 : i 321 = nI sl := h.1.2.1
  have g2 : i 312 = nI Pl := h.2.2.2.2.1
  unfold wp_Matcher_standsHere_19
  have g3 : i 312 + x2 = nI (Pl + n) := by rw [g2, e2, nI_add]
  rw [g3, g1]
  refine ⟨fun q => ?_, fun q => ?_⟩
  · have hq : Pl + n ≤ sl := (nI_leI (by omega) (by omega)).mp q
    have loop : ∀ (r j : Nat), n - j = r → j ≤ n → (∀ k, k < j → su (f + k) = su (Pl + k)) → wl_Matcher_standsHere_19 n1 n2 K (r + 1) i l a b x1 x2 (nI j) := by
      intro r
      induction r with
      | zero =>
        intro j hr hj hs
        have hjn : j = n := by omega
        subst hjn
        show wt_Matcher_standsHere_19 n1 n2 _ i l a b x1 x2 (nI j) K
        unfold wt_Matcher_standsHere_19
        refine ⟨fun _ => h1 ⟨hq, hs⟩, fun z => absurd (by rw [e2]; exact (nI_leI (by omega) (by omega)).mpr (Nat.le_refl _)) z⟩
      | succ r ih =>
        intro j hr hj hs
        have hjn : j < n := by omega
        show wt_Matcher_standsHere_19 n1 n2 (wl_Matcher_standsHere_19 n1 n2 K (r + 1)) i l a b x1 x2 (nI j) K
        unfold wt_Matcher_standsHere_19
        refine ⟨fun z => absurd ((nI_leI (a := n) (b := j) (by omega) (by omega)).mp (by rw [← e2]; exact z)) (by omega), fun _ => ?_⟩
        have w1 : x1 + nI j = nI (f + j) := by rw [e1, nI_add]
        have w2 : i 312 + nI j = nI (Pl + j) := by rw [g2, nI_add]
        rw [w1, w2, nI_clamp (by omega), nI_clamp (by omega), h.1.2.2.2 (f + j) (by omega), h.1.2.2.2 (Pl + j) (by omega)]
        refine ⟨vp_in_nI (by omega) (by decide), vp_in_nI (by omega) (by decide), fun z => ?_, fun z => ?_⟩
        · have hz : su (f + j) = su (Pl + j) := (nI_eq (hsu _) (hsu _)).mp z
          rw [nI_1]
          exact ih (j + 1) (by omega) (by omega) (fun k hk => by
            rcases Nat.lt_or_ge k j with y | y
            · exact hs k y
            · rw [show k = j by omega]; exact hz)
        · exact h0 (fun y => z (by rw [y.2 j hjn]))
    exact ⟨n + 1, loop n 0 (by omega) (by omega) (fun k hk => by omega)⟩
  · exact h0 (fun z => q ((nI_leI (by omega) (by omega)).mpr z.1))
end MACH
