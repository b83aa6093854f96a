/-! repeats -/
def P_rp (P : pg) (k n : Nat) : pg := (P.1, P.2.1, va_up P.2.2.1 k n, P.2.2.2.1, P.2.2.2.2.1, P.2.2.2.2.2.1, P.2.2.2.2.2.2.1, P.2.2.2.2.2.2.2.1, P.2.2.2.2.2.2.2.2.1, P.2.2.2.2.2.2.2.2.2)
def P_tm (P : pg) (k n : Nat) : pg := (P.1, P.2.1, P.2.2.1, va_up P.2.2.2.1 k n, P.2.2.2.2.1, P.2.2.2.2.2.1, P.2.2.2.2.2.2.1, P.2.2.2.2.2.2.2.1, P.2.2.2.2.2.2.2.2.1, P.2.2.2.2.2.2.2.2.2)
def P_mn (P : pg) (k n : Nat) : pg := (P.1, P.2.1, P.2.2.1, P.2.2.2.1, va_up P.2.2.2.2.1 k n, P.2.2.2.2.2.1, P.2.2.2.2.2.2.1, P.2.2.2.2.2.2.2.1, P.2.2.2.2.2.2.2.2.1, P.2.2.2.2.2.2.2.2.2)
def P_bd (P : pg) (k n : Nat) : pg := (P.1, P.2.1, P.2.2.1, P.2.2.2.1, P.2.2.2.2.1, va_up P.2.2.2.2.2.1 k (some n), P.2.2.2.2.2.2.1, P.2.2.2.2.2.2.2.1, P.2.2.2.2.2.2.2.2.1, P.2.2.2.2.2.2.2.2.2)
def P_gb (P : pg) (k n : Nat) : pg := (P.1, P.2.1, P.2.2.1, P.2.2.2.1, P.2.2.2.2.1, P.2.2.2.2.2.1, P.2.2.2.2.2.2.1, P.2.2.2.2.2.2.2.1, P.2.2.2.2.2.2.2.2.1, va_up P.2.2.2.2.2.2.2.2.2 k n)
theorem rP_rp {P : pg} {ni nr k n : Nat} {a : mm_a} (h : rP P ni nr (sh a)) (hn : n ≤ 5) {f : Nat → Int32} (hf : f = upd (a 7) k (nI n)) : rP (P_rp P k n) ni nr (sh (mm_ua a 7 f)) := by
  subst hf
  refine ⟨h.1, h.2.1, fun j hj => ?_, h.2.2.2.1, h.2.2.2.2⟩
  obtain ⟨g1, g2, g3, g4, g5, g6, g7, g8, g9, g10, g11⟩ := h.2.2.1 j hj
  refine ⟨g1, g2, ?_, g4, g5, g6, g7, g8, ?_, g10, g11⟩
  · show upd (a 7) k (nI n) j = nI (va_up P.2.2.1 k n j)
    by_cases q : j = k
    · simp [upd, va_up, q]
    · simp [upd, va_up, q]
      exact g3
  · show va_up P.2.2.1 k n j ≤ 5
    by_cases q : j = k
    · simp [va_up, q, hn]
    · simp [va_up, q]
      exact g9
theorem rP_tm {P : pg} {ni nr k n : Nat} {a : mm_a} (h : rP P ni nr (sh a)) (hn : n ≤ 9) {f : Nat → Int32} (hf : f = upd (a 8) k (nI n)) : rP (P_tm P k n) ni nr (sh (mm_ua a 8 f)) := by
  subst hf
  refine ⟨h.1, h.2.1, fun j hj => ?_, h.2.2.2.1, h.2.2.2.2⟩
  obtain ⟨g1, g2, g3, g4, g5, g6, g7, g8, g9, g10, g11⟩ := h.2.2.1 j hj
  refine ⟨g1, g2, g3, ?_, g5, g6, g7, g8, g9, g10, ?_⟩
  · show upd (a 8) k (nI n) j = nI (va_up P.2.2.2.1 k n j)
    by_cases q : j = k
    · simp [upd, va_up, q]
    · simp [upd, va_up, q]
      exact g4
  · show va_up P.2.2.2.1 k n j ≤ 9
    by_cases q : j = k
    · simp [va_up, q, hn]
    · simp [va_up, q]
      exact g11
theorem rP_mn {P : pg} {ni nr k n : Nat} {a : mm_a} (h : rP P ni nr (sh a)) (hn : n ≤ 2) {f : Nat → Int32} (hf : f = upd (a 9) k (nI n)) : rP (P_mn P k n) ni nr (sh (mm_ua a 9 f)) := by
  subst hf
  refine ⟨h.1, h.2.1, fun j hj => ?_, h.2.2.2.1, h.2.2.2.2⟩
  obtain ⟨g1, g2, g3, g4, g5, g6, g7, g8, g9, g10, g11⟩ := h.2.2.1 j hj
  refine ⟨g1, g2, g3, g4, ?_, g6, g7, g8, g9, ?_, g11⟩
  · show upd (a 9) k (nI n) j = nI (va_up P.2.2.2.2.1 k n j)
    by_cases q : j = k
    · simp [upd, va_up, q]
    · simp [upd, va_up, q]
      exact g5
  · show va_up P.2.2.2.2.1 k n j ≤ 2
    by_cases q : j = k
    · simp [va_up, q, hn]
    · simp [va_up, q]
      exact g10
theorem rP_bd {P : pg} {ni nr k n : Nat} {a : mm_a} (h : rP P ni nr (sh a)) {f : Nat → Int32} (hf : f = upd (a 10) k (nI n)) : rP (P_bd P k n) ni nr (sh (mm_ua a 10 f)) := by
  subst hf
  refine ⟨h.1, h.2.1, fun j hj => ?_, h.2.2.2.1, h.2.2.2.2⟩
  obtain ⟨g1, g2, g3, g4, g5, g6, g7⟩ := h.2.2.1 j hj
  refine ⟨g1, g2, g3, g4, g5, ?_, g7⟩
  show upd (a 10) k (nI n) j = rN (va_up P.2.2.2.2.2.1 k (some n) j)
  by_cases q : j = k
  · simp [upd, va_up, q, rN]
  · simp [upd, va_up, q]
    exact g6
theorem rP_gb {P : pg} {ni nr k n : Nat} {a : mm_a} (h : rP P ni nr (sh a)) {f : Nat → Int32} (hf : f = upd (a 14) k (nI n)) : rP (P_gb P k n) ni nr (sh (mm_ua a 14 f)) := by
  subst hf
  refine ⟨h.1, h.2.1, h.2.2.1, h.2.2.2.1, fun j hj => ?_⟩
  have g := h.2.2.2.2 j hj
  show upd (a 14) k (nI n) j = nI (va_up P.2.2.2.2.2.2.2.2.2 k n j)
  by_cases q : j = k
  · simp [upd, va_up, q]
  · simp [upd, va_up, q]
    exact g
def q_dig (x : Option Nat) : Option Nat := match x with
  | some c => if 48 ≤ c ∧ c ≤ 57 then some (c - 48) else none
  | none => none
def d_sz (Lv : Nat → dL) (lv : Nat) (z : Int32) : Nat → dL := va_up Lv lv ((Lv lv).1, (Lv lv).2.1, (Lv lv).2.2.1, (Lv lv).2.2.2 + z)
/-- the manner that stands at p, and where it ends -/
def d_mann (tx : Nat → Nat) (tl p : Nat) (P : pg) (it : Nat) : pg × Nat :=
  if q_at tx tl p = some 63 then (P_mn P it 1, p + 1) else if q_at tx tl p = some 43 then (P_mn P it 2, p + 1) else (P, p)
section READ
variable {n1 n2 tl : Nat} {tx : Nat → Nat} {i : mm_i} {l : mm_j} {a : mm_a} {b : mm_b}
variable {ap lv hn gd ni nr gr : Nat} {az : Int32} {P : pg} {Lv : Nat → dL}
theorem d_ahead0 {K : Int32 → mm_i → mm_j → mm_a → mm_b → Prop} (h : rD tx tl (ap, lv, az, hn, gd, P, ni, nr, gr, Lv) i a) (hp : ap < 1000) (hK : K (rN (q_at tx tl ap)) i l a b) : wp_Reader_ahead_1 n1 n2 i l a b 0 K := d_ahead h hp (d := 0) (by decide) rfl hK
theorem rD_P (h : rD tx tl (ap, lv, az, hn, gd, P, ni, nr, gr, Lv) i a) {P' : pg} {a' : mm_a} (hP : rP P' ni nr (sh a')) (ha : ∀ t, t = 3 ∨ 15 ≤ t → a' t = a t) : rD tx tl (ap, lv, az, hn, gd, P', ni, nr, gr, Lv) i a' := by
  obtain ⟨s, h1, h2, h3, h4, h5, h6, h7, h8, h9, h10⟩ := h
  refine ⟨⟨s.1, s.2.1, ?_⟩, h1, h2, h3, h4, h5, hP, h7, h8, h9, ?_⟩
  · rw [ha 3 (by omega)]; exact s.2.2
  · rw [ha 15 (by omega), ha 16 (by omega), ha 17 (by omega), ha 18 (by omega)]; exact h10
theorem rD_sz (h : rD tx tl (ap, lv, az, hn, gd, P, ni, nr, gr, Lv) i a) (z : Int32) {f : Nat → Int32} (hf : f = upd (a 18) lv ((Lv lv).2.2.2 + z)) : rD tx tl (ap, lv, az, hn, gd, P, ni, nr, gr, d_sz Lv lv z) i (mm_ua a 18 f) := by
  subst hf
  obtain ⟨s, h1, h2, h3, h4, h5, h6, h7, h8, h9, h10⟩ := h
  refine ⟨s, h1, h2, h3, h4, h5, rP_sh h6 (fun t t1 t2 => mu_n (by omega)), h7, h8, h9, fun k hk => ?_⟩
  have g := h10 k hk
  show a 15 k = rN (d_sz Lv lv z k).1 ∧ a 16 k = nI (d_sz Lv lv z k).2.1 ∧ a 17 k = rN (d_sz Lv lv z k).2.2.1 ∧ upd (a 18) lv ((Lv lv).2.2.2 + z) k = (d_sz Lv lv z k).2.2.2
  by_cases q : k = lv
  · subst q
    simp [upd, va_up, d_sz]
    exact ⟨g.1, g.2.1, g.2.2.1⟩
  · simp [upd, va_up, d_sz, q]
    exact g
theorem rW_ua {t : Nat} (h1 : 5 ≤ t) (h2 : t ≤ 18) {f : Nat → Int32} : rW i a i (mm_ua a t f) := ⟨fun _ _ => rfl, fun u hu => mu_n (by omega)⟩
theorem d_set {K : mm_i → mm_j → mm_a → mm_b → Prop} (ht : ∀ j, tx j < 128) (h : rD tx tl (ap, lv, az, hn, gd, P, ni, nr, gr, Lv) i a) (hp : ap < 900) (hl : lv < 7) {it rp c : Nat} (hi : it < ni) (hr : rp ≤ 5) (hc : c < 10) {x1 x2 x3 x4 : Int32} (e1 : x1 = nI it) (e2 : x2 = nI rp) (e3 : x3 = nI c) (hK : ∀ i' a', rD tx tl ((d_mann tx tl (ap + c) (P_rp P it rp) it).2, lv, az, hn, gd, (d_mann tx tl (ap + c) (P_rp P it rp) it).1, ni, nr, gr, d_sz Lv lv x4) i' a' → rW i a i' a' → K i' l a' b) : wp_Reader_setRepeat_1 n1 n2 i l a b x1 x2 x3 x4 K := by
  unfold wp_Reader_setRepeat_1
  have hni : ni ≤ 32 := h.2.2.2.2.2.2.1.1
  have e22 : i 22 = nI lv := h.2.2.1
  have e23 : i 23 = nI ap := h.2.1
  have e18 : a 18 lv = (Lv lv).2.2.2 := (h.2.2.2.2.2.2.2.2.2.2 lv (Nat.le_refl _)).2.2.2
  have hv1 : vp_in x1 32 := by rw [e1]; exact vp_in_nI (by omega) (by decide)
  have hc1 : x1.toNatClampNeg = it := by rw [e1]; exact nI_clamp (by omega)
  have hv : vp_in (nI lv) 7 := vp_in_nI hl (by decide)
  rw [e22, nI_clamp (by omega), hc1, e18]
  have r1 := rD_sz (rD_P (P' := P_rp P it rp) (a' := mm_ua a 7 (upd (a 7) it x2)) h (rP_rp h.2.2.2.2.2.2.1 hr (by rw [e2])) (fun t ht => mu_n (by omega))) x4 (f := upd (a 18) lv ((Lv lv).2.2.2 + x4)) (by rw [mu_n (by omega)])
  have r2 := rD_at r1 (ap + c) (x := i 23 + x3) (by rw [e23, e3, nI_add])
  have w2 : rW i a (upd i 23 (i 23 + x3)) (mm_ua (mm_ua a 7 (upd (a 7) it x2)) 18 (upd (a 18) lv ((Lv lv).2.2.2 + x4))) := rW_tr (rW_tr (rW_ua (by decide) (by decide)) (rW_ua (by decide) (by decide))) rW_at
  refine ⟨hv1, hv, hv, ?_⟩
  have eat : upd i 23 (i 23 + x3) 23 + (1 : Int32) = nI (ap + c + 1) := by rw [ud_s, e23, e3, nI_add, nI_1]
  unfold d_mann at hK
  refine d_ahead0 r2 (by omega) ⟨fun q => ?_, fun q => ?_⟩
  · rw [if_neg (fun z => q ((q_is ht (by decide)).mpr z))] at hK
    refine d_ahead0 r2 (by omega) ⟨fun q2 => ?_, fun q2 => ?_⟩
    · rw [if_neg (fun z => q2 ((q_is ht (by decide)).mpr z))] at hK
      exact hK _ _ r2 w2
    · rw [if_pos ((q_is ht (by decide)).mp q2)] at hK
      refine ⟨hv1, hK _ _ (rD_at (rD_P r2 (rP_mn r2.2.2.2.2.2.2.1 (by decide) rfl) (fun t ht => mu_n (by omega))) (ap + c + 1) eat) (rW_tr w2 (rW_tr (rW_ua (by decide) (by decide)) rW_at))⟩
  · rw [if_pos ((q_is ht (by decide)).mp q)] at hK
    refine ⟨hv1, hK _ _ (rD_at (rD_P r2 (rP_mn r2.2.2.2.2.2.2.1 (by decide) rfl) (fun t ht => mu_n (by omega))) (ap + c + 1) eat) (rW_tr w2 (rW_tr (rW_ua (by decide) (by decide)) rW_at))⟩
end READ
