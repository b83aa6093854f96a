/-! rows, groups, sets of letters in the reference's text -/
def x_nx (tx : Nat → Nat) (n j : Nat) : Nat := if xt tx n j = 40 ∨ xt tx n j = 91 ∨ xt tx n j = 92 then x_ba tx n j else j + 1
def x_en (tx : Nat → Nat) (n : Nat) : Nat → Nat → Nat
  | 0, j => j
  | f + 1, j => if x_re tx n j then j else x_en tx n f (x_nx tx n j)
def x_nr (tx : Nat → Nat) (n j : Nat) : Option Nat := if xt tx n (x_en tx n (n + 1) j) = 124 then some (x_en tx n (n + 1) j + 1) else none
def x_co (tx : Nat → Nat) (n : Nat) : Nat → Nat → Nat → Nat
  | 0, _, _ => 0
  | f + 1, g, j => if n ≤ j then 0 else if g = 0 then 0 else if xt tx n j = 40 ∧ ¬ xt tx n (j + 1) = 63 then (if g = 1 then j + 1 else x_co tx n f (g - 1) (j + 1)) else x_co tx n f g (j + 1)
def x_gc (tx : Nat → Nat) (n : Nat) : Nat → Nat
  | 0 => 0
  | m + 1 => x_gc tx n m + (if xt tx n m = 40 ∧ ¬ xt tx n (m + 1) = 63 then 1 else 0)
def x_ic (tx : Nat → Nat) (n x : Nat) : Nat → Bool → Nat → Bool
  | 0, is, _ => is
  | f + 1, is, j => if xt tx n j = 93 ∨ n ≤ j then is else if xt tx n (j + 1) = 45 then x_ic tx n x f (is || decide (xt tx n j ≤ x ∧ x ≤ xt tx n (j + 2))) (j + 3) else x_ic tx n x f (is || decide (x = xt tx n j)) (j + 1)
def x_set (tx : Nat → Nat) (n k x : Nat) : Bool := if xt tx n (k + 1) = 94 then !(x_ic tx n x (n + 1) false (k + 2)) else x_ic tx n x (n + 1) false (k + 1)
def bI (x : Bool) : Int32 := if x then 1 else 0
theorem x_nx_gt {tx : Nat → Nat} {n j : Nat} : j + 1 ≤ x_nx tx n j ∧ (j < n → x_nx tx n j ≤ n + 1) := by
  have := x_ba_gt (tx := tx) (n := n) (k := j)
  unfold x_nx
  split <;> omega
theorem x_en_ge {tx : Nat → Nat} {n : Nat} : ∀ (f j : Nat), j ≤ x_en tx n f j ∧ (j ≤ n + 1 → x_en tx n f j ≤ n + 1)
  | 0, j => ⟨Nat.le_refl _, fun h => h⟩
  | f + 1, j => by
    unfold x_en
    have h1 := x_en_ge (tx := tx) (n := n) f (x_nx tx n j)
    have h2 := x_nx_gt (tx := tx) (n := n) (j := j)
    split
    · exact ⟨Nat.le_refl _, fun h => h⟩
    · rename_i q
      have hj : j < n := by
        rcases Nat.lt_or_ge j n with y | y
        · exact y
        · exact absurd (Or.inl y) q
      exact ⟨by omega, fun h => h1.2 (h2.2 hj)⟩
theorem x_gc_le {tx : Nat → Nat} {n : Nat} : ∀ (m : Nat), x_gc tx n m ≤ m
  | 0 => Nat.le_refl _
  | m + 1 => by
    unfold x_gc
    have := x_gc_le (tx := tx) (n := n) m
    split <;> omega
theorem x_gc_mono {tx : Nat → Nat} {n : Nat} : ∀ (m k : Nat), x_gc tx n m ≤ x_gc tx n (m + k)
  | m, 0 => Nat.le_refl _
  | m, k + 1 => by
    have h1 := x_gc_mono (tx := tx) (n := n) m k
    have e : x_gc tx n (m + (k + 1)) = x_gc tx n (m + k) + (if xt tx n (m + k) = 40 ∧ ¬ xt tx n (m + k + 1) = 63 then 1 else 0) := rfl
    rw [e]
    omega
section XT
variable {tx : Nat → Nat} {n : Nat} {i : mm_i} {l : mm_j} {a : mm_a} {b : mm_b} {K : Int32 → mm_i → mm_j → mm_a → mm_b → Prop}
theorem x_nrL (h : rT tx n i a) : ∀ (f j : Nat), n + 2 ≤ j + f → j ≤ n + 1 → (xt tx n (x_en tx n f j) = 124 → K (nI (x_en tx n f j + 1)) i l a b) → (¬ xt tx n (x_en tx n f j) = 124 → K (-1) i l a b) → wl_Model_nextRow_0 K f i l a b (nI j) := by
  intro f
  have hn := h.1
  induction f with
  | zero => intro j q1 q2; omega
  | succ f ih =>
    intro j q1 q2 k1 k0
    show wt_Model_nextRow_0 (wl_Model_nextRow_0 K f) K i l a b (nI j)
    unfold wt_Model_nextRow_0
    have hl := x_lt (n := n) (k := j) h.2.2.2
    rw [x_en] at k1 k0
    refine x_rowEnds h (k := j) (by omega) rfl (fun q => ?_) (fun q => ?_)
    · rw [if_pos q] at k1 k0
      refine ⟨fun _ => ?_, fun z => absurd z (by decide)⟩
      refine x_t h (k := j) (by omega) rfl ⟨fun p => k0 (fun w => p (by rw [w]; rfl)), fun p => ?_⟩
      rw [nI_1]
      exact k1 ((x_is 124 rfl (by omega) (by decide)).mp p)
    · rw [if_neg q] at k1 k0
      have hj : j < n := by
        rcases Nat.lt_or_ge j n with y | y
        · exact y
        · exact absurd (Or.inl y) q
      have h2 := x_nx_gt (tx := tx) (n := n) (j := j)
      have go : wl_Model_nextRow_0 K f i l a b (nI (x_nx tx n j)) := ih _ (by omega) (h2.2 hj) k1 k0
      refine ⟨fun z => absurd rfl z, fun _ => ?_⟩
      refine x_t h (k := j) (by omega) rfl ⟨fun p => ?_, fun p => ?_⟩
      · have p1 := (x_is 40 rfl (by omega) (by decide)).mp p
        rw [x_nx, if_pos (Or.inl p1)] at go
        exact x_behind h (k := j) (by omega) rfl go
      · have p1 : ¬ xt tx n j = 40 := fun w => p (by rw [w]; rfl)
        refine x_t h (k := j) (by omega) rfl ⟨fun r => ?_, fun r => ?_⟩
        · have r1 := (x_is 91 rfl (by omega) (by decide)).mp r
          rw [x_nx, if_pos (Or.inr (Or.inl r1))] at go
          exact x_behind h (k := j) (by omega) rfl go
        · have r1 : ¬ xt tx n j = 91 := fun w => r (by rw [w]; rfl)
          refine x_t h (k := j) (by omega) rfl ⟨fun s => ?_, fun s => ?_⟩
          · have s1 : ¬ xt tx n j = 92 := fun w => s (by rw [w]; rfl)
            rw [x_nx, if_neg (by omega)] at go
            rw [nI_1]
            exact go
          · have s1 := (x_is 92 rfl (by omega) (by decide)).mp s
            rw [x_nx, if_pos (Or.inr (Or.inr s1))] at go
            exact x_behind h (k := j) (by omega) rfl go
theorem x_en_fuel {tx : Nat → Nat} {n : Nat} : ∀ (f j : Nat), n ≤ j + f → x_en tx n (f + 1) j = x_en tx n f j
  | 0, j, h => by
    unfold x_en
    have : x_re tx n j := Or.inl (by omega)
    rw [if_pos this]
  | f + 1, j, h => by
    have e1 : x_en tx n (f + 1 + 1) j = if x_re tx n j then j else x_en tx n (f + 1) (x_nx tx n j) := rfl
    have e2 : x_en tx n (f + 1) j = if x_re tx n j then j else x_en tx n f (x_nx tx n j) := rfl
    rw [e1, e2]
    by_cases q : x_re tx n j
    · rw [if_pos q, if_pos q]
    · have h2 := x_nx_gt (tx := tx) (n := n) (j := j)
      rw [if_neg q, if_neg q, x_en_fuel f _ (by omega)]
/-- nextRow -/
theorem x_nextRow (h : rT tx n i a) {j : Nat} (hj : j ≤ n + 1) {x1 : Int32} (ex : x1 = nI j) (hK : K (rN (x_nr tx n j)) i l a b) : wp_Model_nextRow_0 i l a b x1 K := by
  unfold wp_Model_nextRow_0
  rw [ex]
  have e := x_en_fuel (tx := tx) (n := n) (n + 1) j (by omega)
  refine ⟨n + 2, x_nrL h (n + 2) j (by omega) hj (fun q => ?_) (fun q => ?_)⟩
  · rw [e] at q ⊢
    rw [x_nr, if_pos q] at hK
    exact hK
  · rw [e] at q
    rw [x_nr, if_neg q] at hK
    exact hK
theorem x_coL (h : rT tx n i a) : ∀ (f g j : Nat), n + 1 ≤ j + f → j ≤ n → g < 1000 → K (nI (x_co tx n f g j)) i l a b → wl_Model_choiceOf_0 K f i l a b (nI g) (nI j) := by
  intro f
  have hn := h.1
  induction f with
  | zero => intro g j q1 q2; omega
  | succ f ih =>
    intro g j q1 q2 q3 hK
    show wt_Model_choiceOf_0 (wl_Model_choiceOf_0 K f) K i l a b (nI g) (nI j)
    unfold wt_Model_choiceOf_0 wq_Model_choiceOf_0_41
    have hl := x_lt (n := n) (k := j) h.2.2.2
    have hl2 := x_lt (n := n) (k := j + 1) h.2.2.2
    rw [x_co] at hK
    rw [h.2.1]
    refine ⟨fun q => ?_, fun q => ⟨fun q4 => ?_, fun q4 => ?_⟩⟩
    · rw [if_pos ((nI_leI (by omega) (by omega)).mp q)] at hK
      exact hK
    · rw [if_neg (fun w => q ((nI_leI (by omega) (by omega)).mpr w)), if_pos (by have := (nI_leI (a := g) (b := 0) (by omega) (by decide)).mp q4; omega)] at hK
      exact hK
    · have hg : ¬ g = 0 := fun w => q4 (by rw [w]; exact Int32.le_refl _)
      have hj : ¬ n ≤ j := fun w => q ((nI_leI (by omega) (by omega)).mpr w)
      rw [if_neg hj, if_neg hg] at hK
      refine x_t h (k := j) (by omega) rfl ⟨fun p => ?_, fun p => ?_⟩
      · have p1 : ¬ xt tx n j = 40 := fun w => p (by rw [w]; rfl)
        rw [if_neg (fun w => p1 w.1)] at hK
        refine ⟨fun _ => ?_, fun z => absurd ((x_is 0 rfl (by omega) (by decide)).mp z) hg⟩
        rw [nI_1]
        exact ih g (j + 1) (by omega) (by omega) q3 hK
      · have p1 := (x_is 40 rfl (by omega) (by decide)).mp p
        refine x_t h (k := j + 1) (by omega) (nI_1 j) ⟨fun r => ?_, fun r => ?_⟩
        · have r1 := (x_is 63 rfl (by omega) (by decide)).mp r
          rw [if_neg (fun w => w.2 r1)] at hK
          refine ⟨fun _ => ?_, fun z => absurd ((x_is 0 rfl (by omega) (by decide)).mp z) hg⟩
          rw [nI_1]
          exact ih g (j + 1) (by omega) (by omega) q3 hK
        · have r1 : ¬ xt tx n (j + 1) = 63 := fun w => r (by rw [w]; rfl)
          rw [if_pos ⟨p1, r1⟩] at hK
          rw [x_dec (by omega)]
          refine ⟨fun z => ?_, fun z => ?_⟩
          · have z1 : ¬ g = 1 := fun w => z (by rw [w]; rfl)
            rw [if_neg z1] at hK
            rw [nI_1]
            exact ih (g - 1) (j + 1) (by omega) (by omega) (by omega) hK
          · have z1 := (x_is 0 rfl (by omega) (by decide)).mp z
            rw [if_pos (by omega)] at hK
            rw [nI_1]
            exact hK
theorem x_choiceOf (h : rT tx n i a) {g : Nat} (hg : g < 1000) {x1 : Int32} (ex : x1 = nI g) (hK : K (nI (x_co tx n (n + 1) g 0)) i l a b) : wp_Model_choiceOf_0 i l a b x1 K := by
  unfold wp_Model_choiceOf_0
  rw [ex]
  exact ⟨n + 1, x_coL h (n + 1) g 0 (by omega) (by omega) hg hK⟩
theorem x_gaL (h : rT tx n i a) {k : Nat} (hk : k < 1000) : ∀ (f j : Nat), j + f = k + 2 → j ≤ k + 1 → K (nI (x_gc tx n (k + 1))) i l a b → wl_Model_groupAt_0 K f i l a b (nI k) (nI (x_gc tx n j)) (nI j) := by
  intro f
  induction f with
  | zero => intro j q1 q2; omega
  | succ f ih =>
    intro j q1 q2 hK
    show wt_Model_groupAt_0 (wl_Model_groupAt_0 K f) K i l a b (nI k) (nI (x_gc tx n j)) (nI j)
    unfold wt_Model_groupAt_0 wq_Model_groupAt_0_34
    have hl := x_lt (n := n) (k := j) h.2.2.2
    have hl2 := x_lt (n := n) (k := j + 1) h.2.2.2
    refine ⟨fun q => ?_, fun q => ?_⟩
    · have := (nI_ltI (by omega) (by omega)).mp q
      have e : j = k + 1 := by omega
      rw [e]
      exact hK
    · have hj : j ≤ k := by
        rcases Nat.lt_or_ge k j with y | y
        · exact absurd ((nI_ltI (by omega) (by omega)).mpr y) q
        · exact y
      have go := ih (j + 1) (by omega) (by omega) hK
      rw [x_gc] at go
      refine x_t h (k := j) (by omega) rfl ⟨fun p => ?_, fun p => ?_⟩
      · rw [if_neg (fun w => p (by rw [w.1]; rfl))] at go
        rw [nI_1]
        exact go
      · refine x_t h (k := j + 1) (by omega) (nI_1 j) ⟨fun r => ?_, fun r => ?_⟩
        · rw [if_neg (fun w => w.2 ((x_is 63 rfl (by omega) (by decide)).mp r))] at go
          rw [nI_1]
          exact go
        · rw [if_pos ⟨(x_is 40 rfl (by omega) (by decide)).mp p, fun w => r (by rw [w]; rfl)⟩] at go
          rw [nI_1, nI_1]
          exact go
theorem x_groupAt (h : rT tx n i a) {k : Nat} (hk : k < 1000) {x1 : Int32} (ex : x1 = nI k) (hK : K (nI (x_gc tx n (k + 1))) i l a b) : wp_Model_groupAt_0 i l a b x1 K := by
  unfold wp_Model_groupAt_0
  rw [ex]
  exact ⟨k + 2, x_gaL h hk (k + 2) 0 (by omega) (by omega) hK⟩
theorem bI_or (x y : Bool) : bI x ||| bI y = bI (x || y) := by cases x <;> cases y <;> decide
theorem bI_eq (x y : Bool) : bI x = bI y ↔ x = y := by cases x <;> cases y <;> decide
theorem bI_01 (x : Bool) : bI x = 0 ∨ bI x = 1 := by cases x <;> decide
theorem bI_0 (x : Bool) : bI x = 0 ↔ x = false := by cases x <;> decide
theorem x_icL (h : rT tx n i a) {x : Nat} (hx : x < 128) {ng : Bool} : ∀ (f : Nat) (is : Bool) (j : Nat), n + 1 ≤ j + f → j ≤ n + 3 → 1 ≤ f → K (bI (xor (x_ic tx n x f is j) ng)) i l a b → wl_Model_inClass_0 K f i l a b (nI x) (bI ng) (bI is) (nI j) := by
  intro f
  have hn := h.1
  induction f with
  | zero => intro is j q1 q2 q3; omega
  | succ f ih =>
    intro is j q1 q2 q3 hK
    show wt_Model_inClass_0 (wl_Model_inClass_0 K f) K i l a b (nI x) (bI ng) (bI is) (nI j)
    unfold wt_Model_inClass_0 wq_Model_inClass_0_127
    have hl := x_lt (n := n) (k := j) h.2.2.2
    have hl2 := x_lt (n := n) (k := j + 1) h.2.2.2
    have hl3 := x_lt (n := n) (k := j + 2) h.2.2.2
    rw [x_ic] at hK
    have done : (xt tx n j = 93 ∨ n ≤ j) → (bI is = bI ng → K 0 i l a b) ∧ (¬ bI is = bI ng → K 1 i l a b) := by
      intro q
      rw [if_pos q] at hK
      rw [bI_eq]
      rcases is with _ | _ <;> rcases ng with _ | _
      · exact ⟨fun _ => hK, fun z => absurd rfl z⟩
      · exact ⟨fun z => (by cases z), fun _ => hK⟩
      · exact ⟨fun z => (by cases z), fun _ => hK⟩
      · exact ⟨fun _ => hK, fun z => absurd rfl z⟩
    refine x_t h (k := j) (by omega) rfl ⟨fun q => done (Or.inl ((x_is 93 rfl (by omega) (by decide)).mp q)), fun q => ⟨fun p => done (Or.inr (by rw [h.2.1] at p; exact (nI_leI (by omega) (by omega)).mp p)), fun p => ?_⟩⟩
    rw [h.2.1] at p
    have q1' : ¬ xt tx n j = 93 := fun w => q (by rw [w]; rfl)
    have p1 : ¬ n ≤ j := fun w => p ((nI_leI (by omega) (by omega)).mpr w)
    rw [if_neg (by omega)] at hK
    refine x_t h (k := j + 1) (by omega) (nI_1 j) ⟨fun r => ?_, fun r => ?_⟩
    · have r1 : ¬ xt tx n (j + 1) = 45 := fun w => r (by rw [w]; rfl)
      rw [if_neg r1] at hK
      refine x_t h (k := j) (by omega) rfl ⟨fun s => ?_, fun s => ?_⟩
      · have s1 : ¬ x = xt tx n j := fun w => s (by rw [← w])
        rw [nI_1, show (0 : Int32) = bI false from rfl, bI_or]
        refine ih _ (j + 1) (by omega) (by omega) (by omega) ?_
        rw [decide_eq_false s1] at hK
        exact hK
      · have s1 : x = xt tx n j := (nI_eq (by omega) (by omega)).mp s
        rw [nI_1, show (1 : Int32) = bI true from rfl, bI_or]
        refine ih _ (j + 1) (by omega) (by omega) (by omega) ?_
        rw [decide_eq_true s1] at hK
        exact hK
    · have r1 := (x_is 45 rfl (by omega) (by decide)).mp r
      rw [if_pos r1] at hK
      have r2 := x_in r1 (by decide)
      have e2 : nI j + 2 + 1 = nI (j + 3) := by rw [show (2 : Int32) = nI 2 from rfl, nI_add, nI_1]
      refine x_t h (k := j) (by omega) rfl ⟨fun s => ?_, fun s => ?_⟩
      · have s1 := (nI_ltI (by omega) (by omega)).mp s
        rw [e2, show (0 : Int32) = bI false from rfl, bI_or]
        refine ih _ (j + 3) (by omega) (by omega) (by omega) ?_
        rw [decide_eq_false (fun w => absurd w.1 (by omega))] at hK
        exact hK
      · have s1 : ¬ x < xt tx n j := fun w => s ((nI_ltI (by omega) (by omega)).mpr w)
        refine x_t h (k := j + 2) (by omega) (by rw [show (2 : Int32) = nI 2 from rfl, nI_add]) ⟨fun u => ?_, fun u => ?_⟩
        · have u1 := (nI_ltI (by omega) (by omega)).mp u
          rw [e2, show (0 : Int32) = bI false from rfl, bI_or]
          refine ih _ (j + 3) (by omega) (by omega) (by omega) ?_
          rw [decide_eq_false (fun w => absurd w.2 (by omega))] at hK
          exact hK
        · have u1 : ¬ xt tx n (j + 2) < x := fun w => u ((nI_ltI (by omega) (by omega)).mpr w)
          rw [e2, show (1 : Int32) = bI true from rfl, bI_or]
          refine ih _ (j + 3) (by omega) (by omega) (by omega) ?_
          rw [decide_eq_true (⟨by omega, by omega⟩ : xt tx n j ≤ x ∧ x ≤ xt tx n (j + 2))] at hK
          exact hK
theorem x_inClass (h : rT tx n i a) {k x : Nat} (hk : k < n) (hx : x < 128) {x1 x2 : Int32} (e1 : x1 = nI k) (e2 : x2 = nI x) (hK : K (bI (x_set tx n k x)) i l a b) : wp_Model_inClass_0 i l a b x1 x2 K := by
  have hn := h.1
  have hl2 := x_lt (n := n) (k := k + 1) h.2.2.2
  unfold wp_Model_inClass_0
  rw [e1, e2]
  rw [x_set] at hK
  refine x_t h (k := k + 1) (by omega) (nI_1 k) ⟨fun q => ⟨n + 1, ?_⟩, fun q => ⟨n + 1, ?_⟩⟩
  · rw [if_neg (fun w => q (by rw [w]; rfl))] at hK
    rw [nI_1]
    refine x_icL h hx (ng := false) (n + 1) false (k + 1) (by omega) (by omega) (by omega) ?_
    rw [Bool.xor_false]
    exact hK
  · rw [if_pos ((x_is 94 rfl (by omega) (by decide)).mp q)] at hK
    rw [show (2 : Int32) = nI 2 from rfl, nI_add]
    refine x_icL h hx (ng := true) (n + 1) false (k + 2) (by omega) (by omega) (by omega) ?_
    rw [Bool.xor_true]
    exact hK
end XT
