/-! THE READER: the program that is being made stands in the arrays 5 .. 14 (rP speaks of 23 .. 32: a shift) -/
def sh (a : mm_a) : mm_a := fun t => a (t - 18)
def P_row (P : pg) (n : Nat) : pg := (P.1, P.2.1, P.2.2.1, P.2.2.2.1, P.2.2.2.2.1, P.2.2.2.2.2.1, P.2.2.2.2.2.2.1, va_up P.2.2.2.2.2.2.2.1 n none, va_up P.2.2.2.2.2.2.2.2.1 n none, P.2.2.2.2.2.2.2.2.2)
def P_item (P : pg) (n kind : Nat) (v : Int32) : pg := (va_up P.1 n kind, va_up P.2.1 n v, va_up P.2.2.1 n 0, va_up P.2.2.2.1 n 1, va_up P.2.2.2.2.1 n 0, va_up P.2.2.2.2.2.1 n none, va_up P.2.2.2.2.2.2.1 n none, P.2.2.2.2.2.2.2.1, P.2.2.2.2.2.2.2.2.1, P.2.2.2.2.2.2.2.2.2)
/-- the character at a place, if there is one -/
def q_at (tx : Nat → Nat) (tl p : Nat) : Option Nat := if p < tl then some (tx p) else none
section READ
variable {n1 n2 ni nr tl : Nat} {P : pg} {tx : Nat → Nat} {i : mm_i} {l : mm_j} {a : mm_a} {b : mm_b}
theorem t_ahead {K : Int32 → mm_i → mm_j → mm_a → mm_b → Prop} (htl : tl ≤ 32) (h1 : i 33 = nI tl) (h2 : ∀ k, k < tl → a 3 k = nI (tx k)) {p d : Nat} (hp : p < 1000) (hd : d < 1000) (h3 : i 23 = nI p) {x1 : Int32} (ex : x1 = nI d) (hK : K (rN (q_at tx tl (p + d))) i l a b) : wp_Reader_ahead_1 n1 n2 i l a b x1 K := by
  unfold wp_Reader_ahead_1 wp_Text_codeAt_2
  have e : i 23 + x1 = nI (p + d) := by rw [h3, ex, nI_add]
  rw [e, h1]
  refine ⟨fun q => absurd q (nI_pos (by omega)), fun _ => ⟨fun q => ?_, fun q => ⟨?_, ?_⟩⟩⟩
  · have hq : ¬ p + d < tl := by have := (nI_leI (by omega) (by omega)).mp q; omega
    rw [q_at, if_neg hq] at hK
    exact hK
  · have hq : p + d < tl := by
      rcases Nat.lt_or_ge (p + d) tl with y | y
      · exact y
      · exact absurd ((nI_leI (by omega) (by omega)).mpr y) q
    exact vp_in_nI (by omega) (by decide)
  · have hq : p + d < tl := by
      rcases Nat.lt_or_ge (p + d) tl with y | y
      · exact y
      · exact absurd ((nI_leI (by omega) (by omega)).mpr y) q
    rw [q_at, if_pos hq] at hK
    rw [nI_clamp (by omega), h2 _ hq]
    exact hK
theorem t_addRow {K : Int32 → mm_i → mm_j → mm_a → mm_b → Prop} (hP : rP P ni nr (sh a)) (hlt : nr < 33) (h1 : i 75 = nI nr) (hK : ∀ a', rP (P_row P nr) ni (nr + 1) (sh a') → (∀ t, ¬ t = 12 → ¬ t = 13 → a' t = a t) → K (nI nr) (upd i 75 (nI (nr + 1))) l a' b) : wp_Program_addRow_4 n1 n2 i l a b K := by
  unfold wp_Program_addRow_4
  have hv : vp_in (i 75) 33 := by rw [h1]; exact vp_in_nI hlt (by decide)
  refine ⟨hv, hv, ?_⟩
  have hc : (i 75).toNatClampNeg = nr := by rw [h1]; exact nI_clamp (by omega)
  have e : i 75 + (1 : Int32) = nI (nr + 1) := by rw [h1, nI_1]
  rw [e, hc]
  conv => arg 1; rw [h1]
  refine hK _ ⟨hP.1, by omega, hP.2.2.1, fun k hk => ?_, hP.2.2.2.2⟩ (fun t t1 t2 => ?_)
  · show upd (a 12) nr (-1) k = rN (va_up P.2.2.2.2.2.2.2.1 nr none k) ∧ upd (a 13) nr (-1) k = rN (va_up P.2.2.2.2.2.2.2.2.1 nr none k)
    by_cases q : k = nr
    · subst q
      simp [upd, va_up, rN]
    · have := hP.2.2.2.1 k (by omega)
      simp [upd, va_up, q]
      exact this
  · simp [mm_ua, t1, t2]
theorem t_addItem {K : Int32 → mm_i → mm_j → mm_a → mm_b → Prop} (hP : rP P ni nr (sh a)) (hlt : ni < 32) (h1 : i 74 = nI ni) {kind : Nat} (hk : kind ≤ 9) {x1 x2 : Int32} (e1 : x1 = nI kind) (hK : ∀ a', rP (P_item P ni kind x2) (ni + 1) nr (sh a') → (∀ t, t < 5 ∨ 11 < t → a' t = a t) → K (nI ni) (upd i 74 (nI (ni + 1))) l a' b) : wp_Program_addItem_4 n1 n2 i l a b x1 x2 K := by
  unfold wp_Program_addItem_4
  have hv : vp_in (i 74) 32 := by rw [h1]; exact vp_in_nI hlt (by decide)
  refine ⟨hv, hv, hv, hv, hv, hv, hv, ?_⟩
  have hc : (i 74).toNatClampNeg = ni := by rw [h1]; exact nI_clamp (by omega)
  have e : i 74 + (1 : Int32) = nI (ni + 1) := by rw [h1, nI_1]
  rw [e, hc]
  conv => arg 1; rw [h1]
  refine hK _ ⟨by omega, hP.2.1, fun k hk2 => ?_, hP.2.2.2.1, hP.2.2.2.2⟩ (fun t ht => ?_)
  · show upd (a 5) ni x1 k = nI (va_up P.1 ni kind k) ∧ upd (a 6) ni x2 k = va_up P.2.1 ni x2 k ∧ upd (a 7) ni 0 k = nI (va_up P.2.2.1 ni 0 k) ∧ upd (a 8) ni 1 k = nI (va_up P.2.2.2.1 ni 1 k) ∧ upd (a 9) ni 0 k = nI (va_up P.2.2.2.2.1 ni 0 k) ∧ upd (a 10) ni (-1) k = rN (va_up P.2.2.2.2.2.1 ni none k) ∧ upd (a 11) ni (-1) k = rN (va_up P.2.2.2.2.2.2.1 ni none k) ∧ va_up P.1 ni kind k ≤ 9 ∧ va_up P.2.2.1 ni 0 k ≤ 5 ∧ va_up P.2.2.2.2.1 ni 0 k ≤ 2 ∧ va_up P.2.2.2.1 ni 1 k ≤ 9
    by_cases q : k = ni
    · subst q
      simp [upd, va_up, rN, e1, hk]
      exact ⟨rfl, rfl, rfl⟩
    · have := hP.2.2.1 k (by omega)
      simp [upd, va_up, q]
      exact this
  · have q1 : ¬ t = 5 := by omega
    have q2 : ¬ t = 6 := by omega
    have q3 : ¬ t = 7 := by omega
    have q4 : ¬ t = 8 := by omega
    have q5 : ¬ t = 9 := by omega
    have q6 : ¬ t = 10 := by omega
    have q7 : ¬ t = 11 := by omega
    simp [mm_ua, q1, q2, q3, q4, q5, q6, q7]
end READ
