/-! the whole of read -/
def wE (d : dS) : Prop := d.1 ≤ 300 ∧ d.2.1 ≤ 6 ∧ d.2.2.2.1 ≤ 4 ∧ d.2.2.2.2.1 ≤ 1 ∧ d.2.2.2.2.2.2.1 ≤ d.1 ∧ d.2.2.2.2.2.2.2.1 ≤ d.1 + 1 ∧ d.2.2.2.2.2.2.2.2.1 ≤ 4 ∧ ∀ k, k ≤ d.2.1 → (d.2.2.2.2.2.2.2.2.2 k).2.1 < d.2.2.2.2.2.2.2.1 ∧ (∀ j, (d.2.2.2.2.2.2.2.2.2 k).2.2.1 = some j → j < d.2.2.2.2.2.2.1) ∧ (∀ j, (d.2.2.2.2.2.2.2.2.2 k).1 = some j → j < d.2.2.2.2.2.2.1)
def d_rep' (tx : Nat → Nat) (tl : Nat) (d : dS) (it : Nat) : dS := d_rep tx tl d.1 d.2.1 d.2.2.1 d.2.2.2.1 d.2.2.2.2.1 d.2.2.2.2.2.1 d.2.2.2.2.2.2.1 d.2.2.2.2.2.2.2.1 d.2.2.2.2.2.2.2.2.1 d.2.2.2.2.2.2.2.2.2 it
def d_turn (tx : Nat → Nat) (tl : Nat) (d : dS) : dS := match (d_part tx tl d).1 with
  | none => (d_part tx tl d).2
  | some it => d_rep' tx tl (d_part tx tl d).2 it
def d_loop (tx : Nat → Nat) (tl : Nat) : Nat → dS → dS
  | 0, d => d
  | n + 1, d => if d.2.2.2.2.1 = 0 ∨ tl ≤ d.1 then d else d_loop tx tl n (d_turn tx tl d)
abbrev d_ok (d : dS) : Prop := ¬ d.2.2.2.2.1 = 0 ∧ d.2.1 = 0 ∧ d.2.2.2.1 ≤ d.2.2.2.2.2.2.2.2.1
def d_ini (G : Nat → Nat) (az : Int32) : dS := (0, 0, az, 0, 1, P_gb (P_row (fun _ => 0, fun _ => 0, fun _ => 0, fun _ => 0, fun _ => 0, fun _ => none, fun _ => none, fun _ => none, fun _ => none, G) 0) 0 0, 0, 1, 0, fun _ => (none, 0, none, 0))
section READ
variable {n1 n2 tl : Nat} {tx : Nat → Nat} {i : mm_i} {l : mm_j} {a : mm_a} {b : mm_b}
variable {ap lv hn gd ni nr gr : Nat} {az : Int32} {P : pg} {Lv : Nat → dL}
theorem wE_sz {ap' : Nat} {P' : pg} {z : Int32} (h : wD (ap, lv, az, hn, gd, P, ni, nr, gr, Lv)) (h1 : ap ≤ ap') (h0 : ap' ≤ 300) : wE (ap', lv, az, hn, gd, P', ni, nr, gr, d_sz Lv lv z) := by
  obtain ⟨w1, w2, w3, w4, w5, w6, w7, w8⟩ := h
  simp only at w1 w2 w3 w4 w5 w6 w7
  obtain ⟨v1, v2, v3⟩ := w8 lv (Nat.le_refl _)
  exact ⟨h0, w2, w3, w4, by show ni ≤ ap'; omega, by show nr ≤ ap' + 1; omega, w7, wL_up (Lv := Lv) (lv := lv) (ni := ni) (nr := nr) (lv' := lv) (ni' := ni) (nr' := nr) (x := ((Lv lv).1, (Lv lv).2.1, (Lv lv).2.2.1, (Lv lv).2.2.2 + z)) (m := lv) w8 (by omega) (by omega) (by omega) v1 v2 v3 (Or.inl (Nat.le_refl _))⟩
theorem wE_reps {it rp c : Nat} {z : Int32} {P' : pg} (hc : c ≤ 3) (h : wD (ap, lv, az, hn, gd, P, ni, nr, gr, Lv)) : wE (d_reps tx tl ap lv az hn gd P' ni nr gr Lv it rp c z) := by
  have := d_mann_p (tx := tx) (tl := tl) (p := ap + c) (it := it) (P := P_rp P' it rp)
  have hap : ap ≤ 200 := h.1
  exact wE_sz h (by omega) (by omega)
theorem wE_rep {it : Nat} (h : wD (ap, lv, az, hn, gd, P, ni, nr, gr, Lv)) : wE (d_rep tx tl ap lv az hn gd P ni nr gr Lv it) := by
  unfold d_rep
  split
  · exact wE_reps (by decide) h
  · split
    · exact wE_reps (by decide) h
    · split
      · exact wE_reps (by decide) h
      · split
        · unfold d_tms
          split
          · split
            · exact wE_reps (by decide) h
            · exact ⟨by have := h.1; simp only at this ⊢; omega, h.2.1, h.2.2.1, Nat.zero_le _, h.2.2.2.2⟩
          · exact ⟨by have := h.1; simp only at this ⊢; omega, h.2.1, h.2.2.1, Nat.zero_le _, h.2.2.2.2⟩
        · exact wE_sz h (Nat.le_refl _) (by have := h.1; simp only at this; omega)
theorem wE_turn {d : dS} (h : wE d) (ha : d.1 < 32) : wE (d_turn tx tl d) := by
  obtain ⟨ap, lv, az, hn, gd, P, ni, nr, gr, Lv⟩ := d
  have hw : wD (ap, lv, az, hn, gd, P, ni, nr, gr, Lv) := ⟨by show ap ≤ 200; have : ap < 32 := ha; omega, h.2⟩
  have h2 := wD_part (tx := tx) (tl := tl) hw ha
  unfold d_turn
  split
  · exact ⟨Nat.le_trans h2.1 (by decide), h2.2⟩
  · exact wE_rep h2
/-- the end of read -/
theorem d_end {K : Int32 → mm_i → mm_j → mm_a → mm_b → Prop} {d : dS} (h : rD tx tl d i a) (hw : wE d) (hK : K (if d_ok d then 1 else 0) (upd i 77 (d.2.2.2.2.2.2.2.2.2 0).2.2.2) l a b) : vp_in 0 7 ∧ (((i 26) = 0 → K 0 (upd i 77 ((a 18) (0 : Int32).toNatClampNeg)) l a b) ∧ (¬ (i 26) = 0 → (¬ (i 22) = 0 → K 0 (upd i 77 ((a 18) (0 : Int32).toNatClampNeg)) l a b) ∧ ((i 22) = 0 → ((i 76) < (i 25) → K 0 (upd i 77 ((a 18) (0 : Int32).toNatClampNeg)) l a b) ∧ (¬ (i 76) < (i 25) → K 1 (upd i 77 ((a 18) (0 : Int32).toNatClampNeg)) l a b)))) := by
  obtain ⟨ap, lv, az, hn, gd, P, ni, nr, gr, Lv⟩ := d
  obtain ⟨w1, w2, w3, w4, w5, w6, w7, w8⟩ := hw
  simp only at w1 w2 w3 w4 w5 w6 w7
  have e26 : i 26 = nI gd := h.2.2.2.2.2.1
  have e22 : i 22 = nI lv := h.2.2.1
  have e76 : i 76 = nI gr := h.2.2.2.2.2.2.2.2.2.1
  have e25 : i 25 = nI hn := h.2.2.2.2.1
  have e18 : a 18 (0 : Int32).toNatClampNeg = (Lv 0).2.2.2 := (h.2.2.2.2.2.2.2.2.2.2 0 (Nat.zero_le _)).2.2.2
  rw [e26, e22, e76, e25, e18]
  have zg : nI gd = 0 ↔ gd = 0 := nI_z (by omega)
  have zl : nI lv = 0 ↔ lv = 0 := nI_z (by omega)
  refine ⟨vp_in_nI (n := 0) (by decide) (by decide), fun q => ?_, fun q => ⟨fun q2 => ?_, fun q2 => ⟨fun q3 => ?_, fun q3 => ?_⟩⟩⟩
  · rw [if_neg (fun z => z.1 (zg.mp q))] at hK
    exact hK
  · rw [if_neg (fun z => q2 (zl.mpr z.2.1))] at hK
    exact hK
  · rw [if_neg (fun z => by have := (nI_ltI (by omega) (by omega)).mp q3; have := z.2.2; simp only at this; omega)] at hK
    exact hK
  · rw [if_pos ⟨fun z => q (zg.mpr z), zl.mp q2, by
      rcases Nat.lt_or_ge gr hn with z | z
      · exact absurd ((nI_ltI (by omega) (by omega)).mpr z) q3
      · exact z⟩] at hK
    exact hK
theorem d_loopT {K : Int32 → mm_i → mm_j → mm_a → mm_b → Prop} (ht : ∀ j, tx j < 128) {i0 : mm_i} {a0 : mm_a} : ∀ (n t : Nat) (d : dS) (i : mm_i) (a : mm_a), n + t = 32 → rD tx tl d i a → wE d → rW i0 a0 i a → (∀ i' a', rD tx tl (d_loop tx tl n d) i' a' → wE (d_loop tx tl n d) → rW i0 a0 i' a' → K (if d_ok (d_loop tx tl n d) then 1 else 0) (upd i' 77 ((d_loop tx tl n d).2.2.2.2.2.2.2.2.2 0).2.2.2) l a' b) → wl_Reader_read_1 n1 n2 K (n + 1) i l a b (nI t) := by
  intro n
  induction n with
  | zero =>
    intro t d i a hnt h hw w hK
    have et : t = 32 := by omega
    subst et
    exact ⟨fun _ => d_end h hw (hK i a h hw w), fun q => absurd (by decide) q⟩
  | succ n ih =>
    intro t d i a hnt h hw w hK
    have e26 : i 26 = nI d.2.2.2.2.1 := h.2.2.2.2.2.1
    have e33 : i 33 = nI tl := h.1.2.1
    have htl : tl ≤ 32 := h.1.1
    have e23 : i 23 = nI d.1 := h.2.1
    have hgd : d.2.2.2.2.1 ≤ 1 := hw.2.2.2.1
    have hap : d.1 ≤ 300 := hw.1
    refine ⟨fun q => absurd ((nI_leI (a := 32) (by decide) (by omega)).mp q) (by omega), fun _ => ⟨fun q => ?_, fun q => ⟨fun q2 => ?_, fun q2 => ?_⟩⟩⟩
    · have hz : d.2.2.2.2.1 = 0 := (nI_z (by omega)).mp (e26 ▸ q)
      have e : d_loop tx tl (n + 1) d = d := by rw [d_loop, if_pos (Or.inl hz)]
      rw [e] at hK
      exact d_end h hw (hK i a h hw w)
    · rw [e33, e23] at q2
      have q2 : tl ≤ d.1 := (nI_leI (by omega) (by omega)).mp q2
      have e : d_loop tx tl (n + 1) d = d := by rw [d_loop, if_pos (Or.inr q2)]
      rw [e] at hK
      exact d_end h hw (hK i a h hw w)
    · rw [e33, e23] at q2
      have q2 : ¬ tl ≤ d.1 := fun z => q2 ((nI_leI (by omega) (by omega)).mpr z)
      have hz : ¬ d.2.2.2.2.1 = 0 := fun y => q (by rw [e26, y]; rfl)
      have e : d_loop tx tl (n + 1) d = d_loop tx tl n (d_turn tx tl d) := by rw [d_loop, if_neg (fun z => z.elim hz q2)]
      rw [e] at hK
      have hwt := wE_turn (tx := tx) (tl := tl) hw (by omega)
      obtain ⟨ap, lv, az, hn, gd, P, ni, nr, gr, Lv⟩ := d
      have ha : ap < 32 := by have : ¬ tl ≤ ap := q2; omega
      have hwd : wD (ap, lv, az, hn, gd, P, ni, nr, gr, Lv) := ⟨by show ap ≤ 200; omega, hw.2⟩
      have hpw := wD_part (tx := tx) (tl := tl) hwd ha
      have hit := fun it => d_part_it (tx := tx) (tl := tl) (it := it) hwd
      refine d_partT ht h hwd ha (fun i' a' r w' => ?_)
      rw [nI_1]
      unfold d_turn at hK hwt
      revert hK hwt hit hpw r
      generalize d_part tx tl (ap, lv, az, hn, gd, P, ni, nr, gr, Lv) = pr
      obtain ⟨po, pd⟩ := pr
      intro hK hwt hpw hit r
      cases po with
      | none => exact ⟨fun _ => ih (t + 1) pd i' a' (by omega) r hwt (rW_tr w w') hK, fun z => absurd rfl z⟩
      | some it =>
        obtain ⟨ap, lv, az, hn, gd, P, ni, nr, gr, Lv⟩ := pd
        have hi : it < ni := hit it rfl
        have hni : ni ≤ 32 := r.2.2.2.2.2.2.1.1
        have hlv : lv ≤ 6 := hpw.2.1
        have hap2 : ap ≤ 200 := hpw.1
        refine ⟨fun z => absurd ((rN_no (x := some it) (fun k hk => by injection hk with hk; omega)).mp z) (by simp), fun _ => ?_⟩
        exact d_repeat ht r (by omega) (by omega) hi rfl (fun i2 a2 r2 w2 => ih (t + 1) _ i2 a2 (by omega) r2 hwt (rW_tr (rW_tr w w') w2) hK)
end READ
