/-! THE REFERENCE: its text, and what its methods say of it -/
def xt (tx : Nat → Nat) (n k : Nat) : Nat := if k < n then tx k else 0
def rT (tx : Nat → Nat) (n : Nat) (i : mm_i) (a : mm_a) : Prop := n ≤ 32 ∧ i 4 = nI n ∧ (∀ k, k < n → a 2 k = nI (tx k)) ∧ ∀ k, tx k < 128
theorem x_is {a : Nat} (c : Nat) {v : Int32} (hv : v = nI c) (ha : a < 2 ^ 31) (hc : c < 2 ^ 31) : nI a = v ↔ a = c := by
  rw [hv]
  exact nI_eq ha hc
theorem x_dec {d : Nat} (h : 1 ≤ d) : nI d + (-1) = nI (d - 1) := by
  rw [← pk_sub h, Int32.sub_eq_add_neg, show nI 1 = 1 from rfl]
/-- closing: d brackets are open, the next character is at j -/
def x_cl (tx : Nat → Nat) (n : Nat) : Nat → Nat → Nat → Nat
  | 0, _, _ => n
  | f + 1, d, j => if j < n then (if tx j = 40 then x_cl tx n f (d + 1) (j + 1) else if tx j = 41 then (if d = 1 then j else x_cl tx n f (d - 1) (j + 1)) else x_cl tx n f d (j + 1)) else n
/-- the end of a row of letters in brackets -/
def x_br (tx : Nat → Nat) (n : Nat) : Nat → Nat → Nat
  | 0, j => j
  | f + 1, j => if xt tx n j = 93 then j else if n ≤ j then j else x_br tx n f (j + 1)
def x_ba (tx : Nat → Nat) (n k : Nat) : Nat := if xt tx n k = 40 then x_cl tx n n 1 (k + 1) + 1 else if xt tx n k = 92 then k + 2 else if xt tx n k = 91 then x_br tx n (n + 1) k + 1 else k + 1
abbrev x_re (tx : Nat → Nat) (n k : Nat) : Prop := n ≤ k ∨ xt tx n k = 124 ∨ xt tx n k = 41
theorem x_lt {tx : Nat → Nat} {n k : Nat} (h : ∀ k, tx k < 128) : xt tx n k < 128 := by
  unfold xt
  split
  · exact h k
  · decide
theorem x_in {tx : Nat → Nat} {n k c : Nat} (h : xt tx n k = c) (hc : ¬ c = 0) : k < n ∧ tx k = c := by
  unfold xt at h
  split at h
  · rename_i q; exact ⟨q, h⟩
  · exact absurd h.symm hc
theorem x_cl_ge {tx : Nat → Nat} {n : Nat} : ∀ (f d j : Nat), j ≤ n → j ≤ x_cl tx n f d j ∧ x_cl tx n f d j ≤ n
  | 0, d, j, h => ⟨h, Nat.le_refl _⟩
  | f + 1, d, j, h => by
    unfold x_cl
    split
    · rename_i q
      have h1 := x_cl_ge (tx := tx) (n := n) f (d + 1) (j + 1) q
      have h2 := x_cl_ge (tx := tx) (n := n) f (d - 1) (j + 1) q
      have h3 := x_cl_ge (tx := tx) (n := n) f d (j + 1) q
      split
      · omega
      · split
        · split
          · omega
          · omega
        · omega
    · omega
theorem x_br_ge {tx : Nat → Nat} {n : Nat} : ∀ (f j : Nat), j ≤ x_br tx n f j ∧ (j ≤ n → x_br tx n f j ≤ n)
  | 0, j => ⟨Nat.le_refl _, fun h => h⟩
  | f + 1, j => by
    unfold x_br
    have h1 := x_br_ge (tx := tx) (n := n) f (j + 1)
    split
    · exact ⟨Nat.le_refl _, fun h => h⟩
    · split
      · exact ⟨Nat.le_refl _, fun h => h⟩
      · rename_i q
        exact ⟨by omega, fun h => h1.2 (by omega)⟩
theorem x_ba_gt {tx : Nat → Nat} {n k : Nat} : k + 1 ≤ x_ba tx n k ∧ (k < n → x_ba tx n k ≤ n + 1) := by
  unfold x_ba
  split
  · rename_i q
    have h0 := x_in q (by decide)
    have := x_cl_ge (tx := tx) (n := n) n 1 (k + 1) (by omega)
    omega
  · split
    · omega
    · split
      · have := x_br_ge (tx := tx) (n := n) (n + 1) k
        omega
      · omega
section XT
variable {tx : Nat → Nat} {n : Nat} {i : mm_i} {l : mm_j} {a : mm_a} {b : mm_b} {K : Int32 → mm_i → mm_j → mm_a → mm_b → Prop}
theorem x_t (h : rT tx n i a) {k : Nat} (hk : k < 2 ^ 30) {x1 : Int32} (ex : x1 = nI k) (hK : K (nI (xt tx n k)) i l a b) : wp_Model_t_0 i l a b x1 K := by
  obtain ⟨h1, h2, h3, h4⟩ := h
  unfold wp_Model_t_0
  rw [ex, h2]
  refine ⟨fun q => ?_, fun q => ?_⟩
  · have hq : ¬ k < n := by have := (nI_leI (by omega) (by omega)).mp q; omega
    rw [xt, if_neg hq] at hK
    exact hK
  · have hq : k < n := by
      rcases Nat.lt_or_ge k n with y | y
      · exact y
      · exact absurd ((nI_leI (by omega) (by omega)).mpr y) q
    rw [xt, if_pos hq] at hK
    refine ⟨vp_in_nI (by omega) (by decide), ?_⟩
    rw [nI_clamp (by omega), h3 _ hq]
    exact hK
theorem x_clL (h : rT tx n i a) : ∀ (f d j : Nat), n + 1 ≤ j + f → j ≤ n → 1 ≤ d → d < 1000 - f → f ≤ 100 → K (nI (x_cl tx n f d j)) i l a b → wl_Model_closing_0 K f i l a b (nI d) (nI j) := by
  obtain ⟨h1, h2, h3, h4⟩ := h
  intro f
  induction f with
  | zero => intro d j q1 q2; omega
  | succ f ih =>
    intro d j q1 q2 q3 q4 q5 hK
    show wt_Model_closing_0 (wl_Model_closing_0 K f) K i l a b (nI d) (nI j)
    unfold wt_Model_closing_0
    rw [h2]
    refine ⟨fun q => ?_, fun q => ⟨?_, ?_⟩⟩
    · have hq : ¬ j < n := by have := (nI_leI (by omega) (by omega)).mp q; omega
      rw [x_cl, if_neg hq] at hK
      exact hK
    · exact vp_in_nI (by rcases Nat.lt_or_ge j n with y | y; omega; exact absurd ((nI_leI (by omega) (by omega)).mpr y) q) (by decide)
    · have hq : j < n := by
        rcases Nat.lt_or_ge j n with y | y
        · exact y
        · exact absurd ((nI_leI (by omega) (by omega)).mpr y) q
      have h5 := h4 j
      rw [x_cl, if_pos hq] at hK
      rw [nI_clamp (by omega), h3 j hq]
      have body : ∀ (d1 : Nat), (¬ tx j = 41 → ∀ (z : ¬ d1 = 0), wl_Model_closing_0 K f i l a b (nI d1) (nI (j + 1))) → (tx j = 41 → 1 ≤ d1) → (tx j = 41 → (d1 = 1 → K (nI j) i l a b) ∧ (¬ d1 = 1 → wl_Model_closing_0 K f i l a b (nI (d1 - 1)) (nI (j + 1)))) → d1 < 1000 → 1 ≤ d1 → wq_Model_closing_0_26 (wl_Model_closing_0 K f) K i l a b (nI d1) (nI j) := by
        intro d1 g1 g2 g3 g4 g5
        unfold wq_Model_closing_0_26 wq_Model_closing_0_40
        rw [nI_clamp (by omega), h3 j hq]
        refine ⟨vp_in_nI (by omega) (by decide), fun p => ⟨fun z => ?_, fun z => ?_⟩, fun p => ⟨fun z => ?_, fun z => ?_⟩⟩
        · rw [nI_1]
          exact g1 (fun w => p (by rw [w]; rfl)) (by omega)
        · exact absurd ((x_is 0 rfl (by omega) (by decide)).mp z) (by omega)
        · have p1 : tx j = 41 := (x_is 41 rfl (by omega) (by decide)).mp p
          have e : nI d1 + (-1) = nI (d1 - 1) := x_dec g5
          rw [e] at z ⊢
          rw [nI_1]
          refine (g3 p1).2 (fun w => z (by rw [w]; rfl))
        · have p1 : tx j = 41 := (x_is 41 rfl (by omega) (by decide)).mp p
          have e : nI d1 + (-1) = nI (d1 - 1) := x_dec g5
          rw [e] at z
          have := (x_is 0 rfl (by omega) (by decide)).mp z
          exact (g3 p1).1 (by omega)
      refine ⟨fun p => ?_, fun p => ?_⟩
      · have p1 : ¬ tx j = 40 := fun w => p (by rw [w]; rfl)
        rw [if_neg p1] at hK
        refine body d (fun p2 _ => ?_) (fun _ => q3) (fun p2 => ⟨fun p3 => ?_, fun p3 => ?_⟩) (by omega) q3
        · rw [if_neg p2] at hK
          exact ih d (j + 1) (by omega) (by omega) q3 (by omega) (by omega) hK
        · rw [if_pos p2, if_pos p3] at hK
          exact hK
        · rw [if_pos p2, if_neg p3] at hK
          exact ih (d - 1) (j + 1) (by omega) (by omega) (by omega) (by omega) (by omega) hK
      · have p1 : tx j = 40 := (x_is 40 rfl (by omega) (by decide)).mp p
        rw [if_pos p1] at hK
        rw [nI_1]
        refine body (d + 1) (fun _ _ => ?_) (fun _ => by omega) (fun p2 => absurd p2 (by omega)) (by omega) (by omega)
        exact ih (d + 1) (j + 1) (by omega) (by omega) (by omega) (by omega) (by omega) hK
/-- closing, at an opening bracket -/
theorem x_closing (h : rT tx n i a) {k : Nat} (hk : xt tx n k = 40) {x1 : Int32} (ex : x1 = nI k) (hK : K (nI (x_cl tx n n 1 (k + 1))) i l a b) : wp_Model_closing_0 i l a b x1 K := by
  obtain ⟨hkn, hk2⟩ := x_in hk (by decide)
  unfold wp_Model_closing_0
  refine ⟨n + 1, ?_⟩
  have h' := h
  obtain ⟨h1, h2, h3, h4⟩ := h
  show wt_Model_closing_0 (wl_Model_closing_0 K n) K i l a b 0 x1
  unfold wt_Model_closing_0 wq_Model_closing_0_26 wq_Model_closing_0_40
  rw [ex, h2, nI_clamp (by omega), h3 k hkn, hk2]
  refine ⟨fun q => absurd ((nI_leI (by omega) (by omega)).mp q) (by omega), fun q => ⟨vp_in_nI (by omega) (by decide), fun z => absurd rfl z, fun _ => ⟨vp_in_nI (by omega) (by decide), fun _ => ⟨fun _ => ?_, fun z => absurd z (by decide)⟩, fun z => absurd z (by decide)⟩⟩⟩
  rw [nI_1]
  exact x_clL h' n 1 (k + 1) (by omega) (by omega) (by omega) (by omega) (by omega) hK
theorem x_brL (h : rT tx n i a) : ∀ (f j : Nat), n + 1 ≤ j + f → j ≤ n → K (nI (x_br tx n f j + 1)) i l a b → wl_Model_behindAtom_0 K f i l a b (nI j) := by
  intro f
  have hn := h.1
  induction f with
  | zero => intro j q1 q2; omega
  | succ f ih =>
    intro j q1 q2 hK
    show wt_Model_behindAtom_0 (wl_Model_behindAtom_0 K f) K i l a b (nI j)
    unfold wt_Model_behindAtom_0
    refine x_t h (k := j) (by omega) rfl ?_
    have hl := x_lt (n := n) (k := j) h.2.2.2
    rw [h.2.1]
    rw [x_br] at hK
    refine ⟨fun q => ?_, fun q => ⟨fun q2 => ?_, fun q2 => ?_⟩⟩
    · rw [if_pos ((x_is 93 rfl (by omega) (by decide)).mp q)] at hK
      rw [nI_1]
      exact hK
    · rw [if_neg (fun w => q (by rw [w]; rfl)), if_pos ((nI_leI (by omega) (by omega)).mp q2)] at hK
      rw [nI_1]
      exact hK
    · have hj : ¬ n ≤ j := fun w => q2 ((nI_leI (by omega) (by omega)).mpr w)
      rw [if_neg (fun w => q (by rw [w]; rfl)), if_neg hj] at hK
      rw [nI_1]
      exact ih (j + 1) (by omega) (by omega) hK
theorem x_behind (h : rT tx n i a) {k : Nat} (hk : k < 2 ^ 20) {x1 : Int32} (ex : x1 = nI k) (hK : K (nI (x_ba tx n k)) i l a b) : wp_Model_behindAtom_0 i l a b x1 K := by
  have hn := h.1
  have hl := x_lt (n := n) (k := k) h.2.2.2
  unfold wp_Model_behindAtom_0
  rw [x_ba] at hK
  refine x_t h (k := k) (by omega) ex ⟨fun q => ?_, fun q => ?_⟩
  · rw [if_neg (fun w => q (by rw [w]; rfl))] at hK
    refine x_t h (k := k) (by omega) ex ⟨fun q2 => ?_, fun q2 => ?_⟩
    · rw [if_neg (fun w => q2 (by rw [w]; rfl))] at hK
      refine x_t h (k := k) (by omega) ex ⟨fun q3 => ?_, fun q3 => ?_⟩
      · rw [if_neg (fun w => q3 (by rw [w]; rfl))] at hK
        rw [ex, nI_1]
        exact hK
      · have q4 := (x_is 91 rfl (by omega) (by decide)).mp q3
        rw [if_pos q4] at hK
        rw [ex]
        have := x_in q4 (by decide)
        exact ⟨n + 1, x_brL h (n + 1) k (by omega) (by omega) hK⟩
    · rw [if_pos ((x_is 92 rfl (by omega) (by decide)).mp q2)] at hK
      rw [ex, show (2 : Int32) = nI 2 from rfl, nI_add]
      exact hK
  · have q4 := (x_is 40 rfl (by omega) (by decide)).mp q
    rw [if_pos q4] at hK
    refine x_closing h q4 ex ?_
    rw [nI_1]
    exact hK
theorem x_rowEnds (h : rT tx n i a) {k : Nat} (hk : k < 2 ^ 20) {x1 : Int32} (ex : x1 = nI k) (h1 : x_re tx n k → K 1 i l a b) (h0 : ¬ x_re tx n k → K 0 i l a b) : wp_Model_rowEnds_0 i l a b x1 K := by
  have hn := h.1
  have hl := x_lt (n := n) (k := k) h.2.2.2
  unfold wp_Model_rowEnds_0
  rw [h.2.1]
  refine ⟨fun q => ?_, fun q => ?_⟩
  · rw [ex] at q
    exact h1 (Or.inl ((nI_leI (by omega) (by omega)).mp q))
  · rw [ex] at q
    have hq : ¬ n ≤ k := fun w => q ((nI_leI (by omega) (by omega)).mpr w)
    refine x_t h (k := k) (by omega) ex ⟨fun q2 => ?_, fun q2 => ?_⟩
    · exact h1 (Or.inr (Or.inl ((x_is 124 rfl (by omega) (by decide)).mp q2)))
    · refine x_t h (k := k) (by omega) ex ⟨fun q3 => ?_, fun q3 => ?_⟩
      · refine h0 (fun w => ?_)
        rcases w with w | w | w
        · exact hq w
        · exact q2 (by rw [w]; rfl)
        · exact q3 (by rw [w]; rfl)
      · exact h1 (Or.inr (Or.inr ((x_is 41 rfl (by omega) (by decide)).mp q3)))
end XT
