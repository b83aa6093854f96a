/-! '(' -/
def d_lvo (Lv : Nat → dL) (lv ni nr : Nat) : Nat → dL := va_up (va_up Lv lv ((Lv lv).1, (Lv lv).2.1, some ni, (Lv lv).2.2.2)) (lv + 1) (some ni, nr, none, 0)
def d_opP (P : pg) (ni nr kd : Nat) (v : Int32) (row : Nat) (last : Option Nat) : pg := P_bd (P_row (d_put P ni kd v row last) nr) ni nr
def d_opn (ap lv hn gd : Nat) (P : pg) (ni nr gr : Nat) (Lv : Nat → dL) (kd : Nat) : dS :=
  if kd = 5 then (ap + 1, lv + 1, 1, hn, gd, P_gb (d_opP P ni nr 5 (nI (gr + 1)) (Lv lv).2.1 (Lv lv).2.2.1) (gr + 1) nr, ni + 1, nr + 1, gr + 1, d_lvo Lv lv ni nr)
  else (ap + 3, lv + 1, 1, hn, gd, d_opP P ni nr kd 0 (Lv lv).2.1 (Lv lv).2.2.1, ni + 1, nr + 1, gr, d_lvo Lv lv ni nr)
theorem q_kind_le {tx : Nat → Nat} {tl p k : Nat} (h : q_kind tx tl p = some k) : 5 ≤ k ∧ k ≤ 9 := by
  unfold q_kind at h
  split at h
  · split at h
    · cases h; decide
    · split at h
      · cases h; decide
      · split at h
        · cases h; decide
        · split at h
          · cases h; decide
          · cases h
  · cases h; decide
section READ
variable {n1 n2 tl : Nat} {tx : Nat → Nat} {i : mm_i} {l : mm_j} {a : mm_a} {b : mm_b}
variable {ap lv hn gd ni nr gr : Nat} {az : Int32} {P : pg} {Lv : Nat → dL}
theorem rD_gr (h : rD tx tl (ap, lv, az, hn, gd, P, ni, nr, gr, Lv) i a) (gr' : Nat) {x : Int32} (e : x = nI gr') : rD tx tl (ap, lv, az, hn, gd, P, ni, nr, gr', Lv) (upd i 76 x) a := by
  obtain ⟨s, h1, h2, h3, h4, h5, h6, h7, h8, h9, h10⟩ := h
  exact ⟨s, h1, h2, h3, h4, h5, h6, h7, h8, e, h10⟩
theorem rW_gr {x : Int32} : rW i a (upd i 76 x) a := ⟨fun k hk => ud_n (by omega), fun _ _ => rfl⟩
theorem d_choice {K : Int32 → mm_i → mm_j → mm_a → mm_b → Prop} (ht : ∀ j, tx j < 128) (h : rD tx tl (ap, lv, az, hn, gd, P, ni, nr, gr, Lv) i a) (hp : ap < 900) (hg : gr ≤ 4) (hi : ni < 32) (hr : nr < 33) (hl : lv < 7) (hrow : (Lv lv).2.1 < nr) (hlast : ∀ k, (Lv lv).2.2.1 = some k → k < ni) (hN : (q_kind tx tl ap = none ∨ 6 ≤ lv ∨ (q_kind tx tl ap = some 5 ∧ 4 ≤ gr)) → ∀ i', rD tx tl (ap, lv, az, hn, 0, P, ni, nr, gr, Lv) i' a → rW i a i' a → K (-1) i' l a b) (hY : ∀ kd, q_kind tx tl ap = some kd → lv < 6 → (kd = 5 → gr < 4) → ∀ i' a', rD tx tl (d_opn ap lv hn gd P ni nr gr Lv kd) i' a' → rW i a i' a' → K (-1) i' l a' b) : wp_Reader_openChoice_1 n1 n2 i l a b K := by
  unfold wp_Reader_openChoice_1
  have e22 : i 22 = nI lv := h.2.2.1
  have e76 : i 76 = nI gr := h.2.2.2.2.2.2.2.2.2.1
  have hb : ∀ k, q_kind tx tl ap = some k → k < 2 ^ 31 := fun k hk => by have := q_kind_le hk; omega
  have c6 : ∀ {x : Nat}, x < 7 → ((6 : Int32) ≤ nI x ↔ 6 ≤ x) := fun hx => nI_leI (a := 6) (by decide) (by omega)
  refine d_kind ht h (by omega) ⟨fun q => ⟨fun q1 => ?_, fun q1 => ⟨fun q2 => ?_, fun q2 => ?_⟩⟩, fun q => ⟨fun q1 => ?_, fun q1 => ⟨fun q2 => ?_, fun q2 => ⟨fun q3 => ?_, fun q3 => ?_⟩⟩⟩⟩
  · exact d_refuse h (hN (Or.inl ((rN_no hb).mp q1)))
  · rw [e22] at q2
    exact d_refuse h (hN (Or.inr (Or.inl ((c6 hl).mp q2))))
  · rw [e22] at q2
    have q2 : lv < 6 := by
      rcases Nat.lt_or_ge lv 6 with z | z
      · exact z
      · exact absurd ((c6 hl).mpr z) q2
    cases hk : q_kind tx tl ap with
    | none => exact absurd ((rN_no hb).mpr hk) q1
    | some kd =>
      have hkd := q_kind_le hk
      have hk5 : ¬ kd = 5 := fun z => q (by rw [hk, z]; rfl)
      have hY := hY kd hk q2 (fun z => absurd z hk5)
      have ed : d_opn ap lv hn gd P ni nr gr Lv kd = (ap + 3, lv + 1, 1, hn, gd, d_opP P ni nr kd 0 (Lv lv).2.1 (Lv lv).2.2.1, ni + 1, nr + 1, gr, d_lvo Lv lv ni nr) := if_neg hk5
      rw [ed] at hY
      refine d_app h hi hl hrow hlast hkd.2 rfl (fun i' a' r w => ?_)
      have f22 : i' 22 = nI lv := r.2.2.1
      have f23 : i' 23 = nI ap := r.2.1
      have r2 := rD_at r (ap + 3) (x := i' 23 + 3) (by rw [f23]; exact nI_add ap 3)
      refine d_open r2 hr (lv' := lv + 1) (by omega) (Nat.le_refl _) (some ni) (by rw [f22, nI_1]) rfl (fun i2 a2 s w2 => ?_)
      have g22 : i2 22 = nI (lv + 1) := s.2.2.1
      have g16 : a2 16 (lv + 1) = nI nr := by
        have := (s.2.2.2.2.2.2.2.2.2.2 (lv + 1) (Nat.le_refl _)).2.1
        rw [this]
        simp [va_up]
      rw [g22, nI_clamp (by omega), nI_clamp (by omega), g16]
      refine ⟨vp_in_nI (by omega) (by decide), vp_in_nI hi (by decide), ?_⟩
      exact hY _ _ (rD_P s (rP_bd s.2.2.2.2.2.2.1 rfl) (fun t ht => mu_n (by omega))) (rW_tr w (rW_tr rW_at (rW_tr w2 (rW_ua (by decide) (by decide)))))
  · exact absurd (q.symm.trans q1) (by decide)
  · rw [e22] at q2
    exact d_refuse h (hN (Or.inr (Or.inl ((c6 hl).mp q2))))
  · have hk : q_kind tx tl ap = some 5 := (rN_is hb (by decide)).mp q
    rw [e22] at q2
    have q2 : lv < 6 := by
      rcases Nat.lt_or_ge lv 6 with z | z
      · exact z
      · exact absurd ((c6 hl).mpr z) q2
    have q3 : gr < 4 := by
      rw [e76] at q3
      exact (nI_ltI (b := 4) (by omega) (by decide)).mp q3
    have hY := hY 5 hk q2 (fun _ => q3)
    have ed : d_opn ap lv hn gd P ni nr gr Lv 5 = (ap + 1, lv + 1, 1, hn, gd, P_gb (d_opP P ni nr 5 (nI (gr + 1)) (Lv lv).2.1 (Lv lv).2.2.1) (gr + 1) nr, ni + 1, nr + 1, gr + 1, d_lvo Lv lv ni nr) := if_pos rfl
    rw [ed] at hY
    have r0 := rD_gr h (gr + 1) (x := i 76 + 1) (by rw [e76, nI_1])
    have ev : i 76 + (1 : Int32) = nI (gr + 1) := by rw [e76, nI_1]
    refine d_app r0 hi hl hrow hlast (by decide) q (fun i' a' r w => ?_)
    rw [ev] at r
    have f22 : i' 22 = nI lv := r.2.2.1
    have f23 : i' 23 = nI ap := r.2.1
    have r2 := rD_at r (ap + 1) (x := i' 23 + 1) (by rw [f23, nI_1])
    refine d_open r2 hr (lv' := lv + 1) (by omega) (Nat.le_refl _) (some ni) (by rw [f22, nI_1]) rfl (fun i2 a2 s w2 => ?_)
    have g22 : i2 22 = nI (lv + 1) := s.2.2.1
    have g76 : i2 76 = nI (gr + 1) := s.2.2.2.2.2.2.2.2.2.1
    have g16 : a2 16 (lv + 1) = nI nr := by
      have := (s.2.2.2.2.2.2.2.2.2.2 (lv + 1) (Nat.le_refl _)).2.1
      rw [this]
      simp [va_up]
    rw [g22, g76, nI_clamp (by omega), nI_clamp (by omega), nI_clamp (by omega), g16]
    have hv7 : vp_in (nI (lv + 1)) 7 := vp_in_nI (by omega) (by decide)
    refine ⟨hv7, vp_in_nI hi (by decide), hv7, vp_in_nI (by omega) (by decide), ?_⟩
    have s1 := rD_P s (rP_bd (k := ni) (n := nr) s.2.2.2.2.2.2.1 rfl) (fun t ht => mu_n (by omega))
    exact hY _ _ (rD_P s1 (rP_gb s1.2.2.2.2.2.2.1 rfl) (fun t ht => mu_n (by omega))) (rW_tr rW_gr (rW_tr w (rW_tr rW_at (rW_tr w2 (rW_tr (rW_ua (by decide) (by decide)) (rW_ua (by decide) (by decide)))))))
  · have hk : q_kind tx tl ap = some 5 := (rN_is hb (by decide)).mp q
    have q3 : 4 ≤ gr := by
      rcases Nat.lt_or_ge gr 4 with z | z
      · exact absurd (by rw [e76]; exact (nI_ltI (b := 4) (by omega) (by decide)).mpr z) q3
      · exact z
    exact d_refuse h (hN (Or.inr (Or.inr ⟨hk, q3⟩)))
end READ
