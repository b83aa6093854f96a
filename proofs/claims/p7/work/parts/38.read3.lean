def P_nr (P : pg) (k n : Nat) : pg := (P.1, P.2.1, P.2.2.1, P.2.2.2.1, P.2.2.2.2.1, P.2.2.2.2.2.1, P.2.2.2.2.2.2.1, P.2.2.2.2.2.2.2.1, va_up P.2.2.2.2.2.2.2.2.1 k (some n), P.2.2.2.2.2.2.2.2.2)
def P_fi (P : pg) (k n : Nat) : pg := (P.1, P.2.1, P.2.2.1, P.2.2.2.1, P.2.2.2.2.1, P.2.2.2.2.2.1, P.2.2.2.2.2.2.1, va_up P.2.2.2.2.2.2.2.1 k (some n), P.2.2.2.2.2.2.2.2.1, P.2.2.2.2.2.2.2.2.2)
def P_nx (P : pg) (k n : Nat) : pg := (P.1, P.2.1, P.2.2.1, P.2.2.2.1, P.2.2.2.2.1, P.2.2.2.2.2.1, va_up P.2.2.2.2.2.2.1 k (some n), P.2.2.2.2.2.2.2.1, P.2.2.2.2.2.2.2.2.1, P.2.2.2.2.2.2.2.2.2)
theorem rP_nr {P : pg} {ni nr k n : Nat} {a : mm_a} (h : rP P ni nr (sh a)) {f : Nat → Int32} (hf : f = upd (a 13) k (nI n)) : rP (P_nr P k n) ni nr (sh (mm_ua a 13 f)) := by
  subst hf
  refine ⟨h.1, h.2.1, h.2.2.1, fun j hj => ?_, h.2.2.2.2⟩
  have g := h.2.2.2.1 j hj
  show a 12 j = rN (P.2.2.2.2.2.2.2.1 j) ∧ upd (a 13) k (nI n) j = rN (va_up P.2.2.2.2.2.2.2.2.1 k (some n) j)
  refine ⟨g.1, ?_⟩
  by_cases q : j = k
  · simp [upd, va_up, q, rN]
  · simp [upd, va_up, q]
    exact g.2
theorem rP_fi {P : pg} {ni nr k n : Nat} {a : mm_a} (h : rP P ni nr (sh a)) {f : Nat → Int32} (hf : f = upd (a 12) k (nI n)) : rP (P_fi P k n) ni nr (sh (mm_ua a 12 f)) := by
  subst hf
  refine ⟨h.1, h.2.1, h.2.2.1, fun j hj => ?_, h.2.2.2.2⟩
  have g := h.2.2.2.1 j hj
  show upd (a 12) k (nI n) j = rN (va_up P.2.2.2.2.2.2.2.1 k (some n) j) ∧ a 13 j = rN (P.2.2.2.2.2.2.2.2.1 j)
  refine ⟨?_, g.2⟩
  by_cases q : j = k
  · simp [upd, va_up, q, rN]
  · simp [upd, va_up, q]
    exact g.1
theorem rP_nx {P : pg} {ni nr k n : Nat} {a : mm_a} (h : rP P ni nr (sh a)) {f : Nat → Int32} (hf : f = upd (a 11) k (nI n)) : rP (P_nx P k n) ni nr (sh (mm_ua a 11 f)) := by
  subst hf
  refine ⟨h.1, h.2.1, fun j hj => ?_, h.2.2.2.1, h.2.2.2.2⟩
  obtain ⟨g1, g2, g3, g4, g5, g6, g7, g8⟩ := h.2.2.1 j hj
  refine ⟨g1, g2, g3, g4, g5, g6, ?_, g8⟩
  show upd (a 11) k (nI n) j = rN (va_up P.2.2.2.2.2.2.1 k (some n) j)
  by_cases q : j = k
  · simp [upd, va_up, q, rN]
  · simp [upd, va_up, q]
    exact g7
theorem rP_sh {P : pg} {ni nr : Nat} {a a' : mm_a} (h : rP P ni nr (sh a)) (ha : ∀ t, 5 ≤ t → t ≤ 14 → a' t = a t) : rP P ni nr (sh a') := by
  have e : ∀ t, 23 ≤ t → t ≤ 32 → sh a' t = sh a t := fun t h1 h2 => ha (t - 18) (by omega) (by omega)
  unfold rP
  rw [e 23 (by decide) (by decide), e 24 (by decide) (by decide), e 25 (by decide) (by decide), e 26 (by decide) (by decide), e 27 (by decide) (by decide), e 28 (by decide) (by decide), e 29 (by decide) (by decide), e 30 (by decide) (by decide), e 31 (by decide) (by decide), e 32 (by decide) (by decide)]
  exact h
section READ
variable {n1 n2 tl : Nat} {tx : Nat → Nat} {i : mm_i} {l : mm_j} {a : mm_a} {b : mm_b}
variable {ap lv hn gd ni nr gr : Nat} {az : Int32} {P : pg} {Lv : Nat → dL}
/-- '|' -/
theorem d_next {K : Int32 → mm_i → mm_j → mm_a → mm_b → Prop} (h : rD tx tl (ap, lv, az, hn, gd, P, ni, nr, gr, Lv) i a) (hr : nr < 33) (hl : lv < 7) (hrow : (Lv lv).2.1 < nr) (hK : ∀ i' a', rD tx tl (ap + 1, lv, az, hn, gd, P_nr (P_row P nr) (Lv lv).2.1 nr, ni, nr + 1, gr, va_up Lv lv ((Lv lv).1, nr, none, (Lv lv).2.2.2 + 1)) i' a' → rW i a i' a' → K (-1) i' l a' b) : wp_Reader_openNextRow_1 n1 n2 i l a b K := by
  obtain ⟨s, h1, h2, h3, h4, h5, h6, h7, h8, h9, h10⟩ := h
  unfold wp_Reader_openNextRow_1
  refine t_addRow (P := P) (ni := ni) (nr := nr) h6 hr h8 (fun a' r1 r2 => ?_)
  have e22 : upd i 75 (nI (nr + 1)) 22 = nI lv := by rw [ud_n (by decide)]; exact h2
  have e23 : upd i 75 (nI (nr + 1)) 23 + (1 : Int32) = nI (ap + 1) := by rw [ud_n (by decide), show i 23 = nI ap from h1, nI_1]
  have hv : vp_in (nI lv) 7 := vp_in_nI hl (by decide)
  obtain ⟨g15, g16, g17, g18⟩ := h10 lv (Nat.le_refl _)
  have q3 : a' 3 = a 3 := r2 3 (by decide) (by decide)
  have q15 : a' 15 = a 15 := r2 15 (by decide) (by decide)
  have q16 : a' 16 = a 16 := r2 16 (by decide) (by decide)
  have q17 : a' 17 = a 17 := r2 17 (by decide) (by decide)
  have q18 : a' 18 = a 18 := r2 18 (by decide) (by decide)
  have e16 : a' 16 lv = nI (Lv lv).2.1 := by rw [q16]; exact g16
  have e18 : a' 18 lv = (Lv lv).2.2.2 := by rw [q18]; exact g18
  rw [e22, e23, nI_clamp (by omega), e16, e18, nI_clamp (by omega)]
  refine ⟨hv, vp_in_nI (by omega) (by decide), hv, hv, hv, hv, ?_⟩
  refine hK _ _ ⟨⟨s.1, s.2.1, fun k hk => ?_⟩, rfl, ?_, h3, h4, h5, rP_sh (rP_nr r1 rfl) (fun t t1 t2 => ?_), h7, ?_, h9, fun k hk => ?_⟩ ⟨fun k hk => ?_, fun t ht => ?_⟩
  · show a' 3 k = _
    rw [q3]; exact s.2.2 k hk
  · rw [ud_n (by decide)]; exact e22
  · rw [mu_n (by omega), mu_n (by omega), mu_n (by omega)]
  · rw [ud_n (by decide), ud_s]
  · show a' 15 k = rN (va_up Lv lv ((Lv lv).1, nr, none, (Lv lv).2.2.2 + 1) k).1 ∧ upd (a' 16) lv (nI nr) k = nI (va_up Lv lv ((Lv lv).1, nr, none, (Lv lv).2.2.2 + 1) k).2.1 ∧ upd (a' 17) lv (-1) k = rN (va_up Lv lv ((Lv lv).1, nr, none, (Lv lv).2.2.2 + 1) k).2.2.1 ∧ upd (a' 18) lv ((Lv lv).2.2.2 + 1) k = (va_up Lv lv ((Lv lv).1, nr, none, (Lv lv).2.2.2 + 1) k).2.2.2
    rw [q15, q16, q17, q18]
    by_cases q : k = lv
    · subst q
      simp [upd, va_up, rN]
      exact g15
    · have g := h10 k hk
      simp [upd, va_up, q]
      exact g
  · rw [ud_n (by omega), ud_n (by omega)]
  · show mm_ua (mm_ua (mm_ua (mm_ua a' 13 _) 16 _) 17 _) 18 _ t = a t
    rw [mu_n (by omega), mu_n (by omega), mu_n (by omega), mu_n (by omega), r2 t (by omega) (by omega)]
/-- an item more in the row in hand -/
def d_put (P : pg) (ni kind : Nat) (v : Int32) (row : Nat) (last : Option Nat) : pg := match last with
  | none => P_fi (P_item P ni kind v) row ni
  | some k => P_nx (P_item P ni kind v) k ni
theorem d_app {K : Int32 → mm_i → mm_j → mm_a → mm_b → Prop} (h : rD tx tl (ap, lv, az, hn, gd, P, ni, nr, gr, Lv) i a) (hi : ni < 32) (hl : lv < 7) (hrow : (Lv lv).2.1 < nr) (hlast : ∀ k, (Lv lv).2.2.1 = some k → k < ni) {kind : Nat} (hk : kind ≤ 9) {x1 x2 : Int32} (e1 : x1 = nI kind) (hK : ∀ i' a', rD tx tl (ap, lv, 1, hn, gd, d_put P ni kind x2 (Lv lv).2.1 (Lv lv).2.2.1, ni + 1, nr, gr, va_up Lv lv ((Lv lv).1, (Lv lv).2.1, some ni, (Lv lv).2.2.2)) i' a' → rW i a i' a' → K (nI ni) i' l a' b) : wp_Reader_appendItem_1 n1 n2 i l a b x1 x2 K := by
  obtain ⟨s, h1, h2, h3, h4, h5, h6, h7, h8, h9, h10⟩ := h
  have hnr : nr ≤ 33 := h6.2.1
  unfold wp_Reader_appendItem_1
  refine t_addItem (P := P) (ni := ni) (nr := nr) h6 hi h7 hk e1 (fun a' r1 r2 => ?_)
  have e22 : upd i 74 (nI (ni + 1)) 22 = nI lv := by rw [ud_n (by decide)]; exact h2
  have hv : vp_in (nI lv) 7 := vp_in_nI hl (by decide)
  obtain ⟨g15, g16, g17, g18⟩ := h10 lv (Nat.le_refl _)
  have q3 : a' 3 = a 3 := r2 3 (by decide)
  have q15 : a' 15 = a 15 := r2 15 (by decide)
  have q16 : a' 16 = a 16 := r2 16 (by decide)
  have q17 : a' 17 = a 17 := r2 17 (by decide)
  have q18 : a' 18 = a 18 := r2 18 (by decide)
  have e16 : a' 16 lv = nI (Lv lv).2.1 := by rw [q16]; exact g16
  have e17 : a' 17 lv = rN (Lv lv).2.2.1 := by rw [q17]; exact g17
  have lev : ∀ k, k ≤ lv → a' 15 k = rN (va_up Lv lv ((Lv lv).1, (Lv lv).2.1, some ni, (Lv lv).2.2.2) k).1 ∧ a' 16 k = nI (va_up Lv lv ((Lv lv).1, (Lv lv).2.1, some ni, (Lv lv).2.2.2) k).2.1 ∧ upd (a' 17) lv (nI ni) k = rN (va_up Lv lv ((Lv lv).1, (Lv lv).2.1, some ni, (Lv lv).2.2.2) k).2.2.1 ∧ a' 18 k = (va_up Lv lv ((Lv lv).1, (Lv lv).2.1, some ni, (Lv lv).2.2.2) k).2.2.2 := by
    intro k hk
    rw [q15, q16, q17, q18]
    by_cases q : k = lv
    · subst q
      simp [upd, va_up, rN]
      exact ⟨g15, g16, g18⟩
    · have g := h10 k hk
      simp [upd, va_up, q]
      exact g
  have hno := rN_no (x := (Lv lv).2.2.1) (fun k hk' => by have := hlast k hk'; omega)
  rw [e22, nI_clamp (by omega), e16, e17, nI_clamp (by omega)]
  refine ⟨hv, fun q => ?_, fun q => ?_⟩
  · cases hL : (Lv lv).2.2.1 with
    | none => exact absurd (hno.mpr hL) q
    | some k =>
      have hk2 := hlast k hL
      have ek : (rN (some k)).toNatClampNeg = k := nI_clamp (by omega)
      rw [ek]
      refine ⟨hv, vp_in_nI (by omega) (by decide), hv, ?_⟩
      refine hK _ _ ⟨⟨s.1, s.2.1, fun j hj => ?_⟩, h1, h2, rfl, h4, h5, ?_, ?_, h8, h9, lev⟩ ⟨fun j hj => ?_, fun t ht => ?_⟩
      · show a' 3 j = _
        rw [q3]; exact s.2.2 j hj
      · show rP (d_put P ni kind x2 (Lv lv).2.1 (Lv lv).2.2.1) (ni + 1) nr _
        rw [hL]
        exact rP_sh (rP_nx r1 rfl) (fun t t1 t2 => mu_n (by omega))
      · rw [ud_n (by decide), ud_s]
      · rw [ud_n (by omega), ud_n (by omega)]
      · show mm_ua (mm_ua a' 11 _) 17 _ t = a t
        rw [mu_n (by omega), mu_n (by omega), r2 t (by omega)]
  · have hL := hno.mp q
    refine ⟨hv, vp_in_nI (by omega) (by decide), hv, ?_⟩
    refine hK _ _ ⟨⟨s.1, s.2.1, fun j hj => ?_⟩, h1, h2, rfl, h4, h5, ?_, ?_, h8, h9, lev⟩ ⟨fun j hj => ?_, fun t ht => ?_⟩
    · show a' 3 j = _
      rw [q3]; exact s.2.2 j hj
    · show rP (d_put P ni kind x2 (Lv lv).2.1 (Lv lv).2.2.1) (ni + 1) nr _
      rw [hL]
      exact rP_sh (rP_fi r1 rfl) (fun t t1 t2 => mu_n (by omega))
    · rw [ud_n (by decide), ud_s]
    · rw [ud_n (by omega), ud_n (by omega)]
    · show mm_ua (mm_ua a' 12 _) 17 _ t = a t
      rw [mu_n (by omega), mu_n (by omega), r2 t (by omega)]
end READ
