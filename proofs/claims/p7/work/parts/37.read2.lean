/-- a level: its item, the row in hand, the row's last item, the size so far -/
abbrev dL : Type := Option Nat × Nat × Option Nat × Int32
/-- the reader: at, level, size of the atom, highest number named, good; the program, its items, rows, groups; the levels -/
abbrev dS : Type := Nat × Nat × Int32 × Nat × Nat × pg × Nat × Nat × Nat × (Nat → dL)
def rD (tx : Nat → Nat) (tl : Nat) (d : dS) (i : mm_i) (a : mm_a) : Prop :=
  (tl ≤ 32 ∧ i 33 = nI tl ∧ ∀ k, k < tl → a 3 k = nI (tx k)) ∧ i 23 = nI d.1 ∧ i 22 = nI d.2.1 ∧ i 24 = d.2.2.1 ∧ i 25 = nI d.2.2.2.1 ∧ i 26 = nI d.2.2.2.2.1 ∧ rP d.2.2.2.2.2.1 d.2.2.2.2.2.2.1 d.2.2.2.2.2.2.2.1 (sh a) ∧ i 74 = nI d.2.2.2.2.2.2.1 ∧ i 75 = nI d.2.2.2.2.2.2.2.1 ∧ i 76 = nI d.2.2.2.2.2.2.2.2.1 ∧ ∀ k, k ≤ d.2.1 → a 15 k = rN (d.2.2.2.2.2.2.2.2.2 k).1 ∧ a 16 k = nI (d.2.2.2.2.2.2.2.2.2 k).2.1 ∧ a 17 k = rN (d.2.2.2.2.2.2.2.2.2 k).2.2.1 ∧ a 18 k = (d.2.2.2.2.2.2.2.2.2 k).2.2.2
/-- what the reader leaves alone -/
def rW (i : mm_i) (a : mm_a) (i' : mm_i) (a' : mm_a) : Prop := (∀ k, k < 22 ∨ (26 < k ∧ k < 74) ∨ 77 < k → i' k = i k) ∧ ∀ t, t < 5 ∨ 18 < t → a' t = a t
theorem rW_rf {i : mm_i} {a : mm_a} : rW i a i a := ⟨fun _ _ => rfl, fun _ _ => rfl⟩
theorem rW_tr {i i' i2 : mm_i} {a a' a2 : mm_a} (h : rW i a i' a') (h2 : rW i' a' i2 a2) : rW i a i2 a2 := ⟨fun k hk => (h2.1 k hk).trans (h.1 k hk), fun t ht => (h2.2 t ht).trans (h.2 t ht)⟩
section READ
variable {n1 n2 tl : Nat} {tx : Nat → Nat} {i : mm_i} {l : mm_j} {a : mm_a} {b : mm_b}
variable {ap lv hn gd ni nr gr : Nat} {az : Int32} {P : pg} {Lv : Nat → dL}
theorem d_ahead {K : Int32 → mm_i → mm_j → mm_a → mm_b → Prop} (h : rD tx tl (ap, lv, az, hn, gd, P, ni, nr, gr, Lv) i a) (hp : ap < 1000) {d : Nat} (hd : d < 1000) {x1 : Int32} (ex : x1 = nI d) (hK : K (rN (q_at tx tl (ap + d))) i l a b) : wp_Reader_ahead_1 n1 n2 i l a b x1 K := t_ahead h.1.1 h.1.2.1 h.1.2.2 hp hd h.2.1 ex hK
theorem d_refuse {K : Int32 → mm_i → mm_j → mm_a → mm_b → Prop} (h : rD tx tl (ap, lv, az, hn, gd, P, ni, nr, gr, Lv) i a) (hK : ∀ i', rD tx tl (ap, lv, az, hn, 0, P, ni, nr, gr, Lv) i' a → rW i a i' a → K (-1) i' l a b) : wp_Reader_refuse_1 n1 n2 i l a b K := by
  obtain ⟨s, h1, h2, h3, h4, h5, h6, h7, h8, h9, h10⟩ := h
  unfold wp_Reader_refuse_1
  exact hK _ ⟨s, h1, h2, h3, h4, rfl, h6, h7, h8, h9, h10⟩ ⟨fun k hk => ud_n (by omega), fun _ _ => rfl⟩
/-- a level more (or the first one) -/
theorem d_open {K : mm_i → mm_j → mm_a → mm_b → Prop} (h : rD tx tl (ap, lv, az, hn, gd, P, ni, nr, gr, Lv) i a) (hr : nr < 33) {lv' : Nat} (hl : lv' < 7) (hl2 : lv' ≤ lv + 1) (it : Option Nat) {x1 x2 : Int32} (e1 : x1 = nI lv') (e2 : x2 = rN it) (hK : ∀ i' a', rD tx tl (ap, lv', az, hn, gd, P_row P nr, ni, nr + 1, gr, va_up Lv lv' (it, nr, none, 0)) i' a' → rW i a i' a' → K i' l a' b) : wp_Reader_openLevel_1 n1 n2 i l a b x1 x2 K := by
  obtain ⟨s, h1, h2, h3, h4, h5, h6, h7, h8, h9, h10⟩ := h
  unfold wp_Reader_openLevel_1
  have hv : vp_in x1 7 := by rw [e1]; exact vp_in_nI hl (by decide)
  have hc : x1.toNatClampNeg = lv' := by rw [e1]; exact nI_clamp (by omega)
  refine ⟨hv, ?_⟩
  rw [hc]
  refine t_addRow (P := P) (ni := ni) (nr := nr) h6 hr ?_ (fun a' r1 r2 => ?_)
  · rw [ud_n (by decide)]; exact h8
  have e22 : upd (upd i 22 x1) 75 (nI (nr + 1)) 22 = nI lv' := by rw [ud_n (by decide), ud_s]; exact e1
  have hv2 : vp_in (nI lv') 7 := vp_in_nI hl (by decide)
  rw [e22, nI_clamp (by omega)]
  refine ⟨hv, hv2, hv2, ?_⟩
  have q3 : a' 3 = a 3 := by rw [r2 3 (by decide) (by decide)]; exact mu_n (by decide)
  have q15 : a' 15 = upd (a 15) lv' x2 := by rw [r2 15 (by decide) (by decide)]; exact mu_s
  have q16 : a' 16 = a 16 := by rw [r2 16 (by decide) (by decide)]; exact mu_n (by decide)
  have q17 : a' 17 = a 17 := by rw [r2 17 (by decide) (by decide)]; exact mu_n (by decide)
  have q18 : a' 18 = a 18 := by rw [r2 18 (by decide) (by decide)]; exact mu_n (by decide)
  refine hK _ _ ⟨⟨s.1, s.2.1, fun k hk => ?_⟩, h1, e1, h3, h4, h5, r1, h7, ?_, h9, fun k hk => ?_⟩ ⟨fun k hk => ?_, fun t ht => ?_⟩
  · show a' 3 k = _
    rw [q3]; exact s.2.2 k hk
  · exact ud_s
  · show a' 15 k = rN (va_up Lv lv' (it, nr, none, 0) k).1 ∧ upd (a' 16) lv' (nI nr) k = nI (va_up Lv lv' (it, nr, none, 0) k).2.1 ∧ upd (a' 17) lv' (-1) k = rN (va_up Lv lv' (it, nr, none, 0) k).2.2.1 ∧ upd (a' 18) lv' 0 k = (va_up Lv lv' (it, nr, none, 0) k).2.2.2
    rw [q15, q16, q17, q18]
    by_cases q : k = lv'
    · subst q
      simp [upd, va_up, rN]
      exact e2
    · have hk : k ≤ lv' := hk
      have g := h10 k (show k ≤ lv by omega)
      simp [upd, va_up, q]
      exact g
  · rw [ud_n (by omega), ud_n (by omega)]
  · show mm_ua (mm_ua (mm_ua a' 16 _) 17 _) 18 _ t = a t
    rw [mu_n (by omega), mu_n (by omega), mu_n (by omega), r2 t (by omega) (by omega)]
    exact mu_n (by omega)
end READ
