/-! the reference's reading of the draft -/
def rD' (dx : Nat → Nat) (n : Nat) (i : mm_i) (a : mm_a) : Prop := n ≤ 32 ∧ i 1 = nI n ∧ (∀ k, k < n → a 1 k = nI (dx k)) ∧ ∀ k, dx k < 128
abbrev y_let (c : Nat) : Prop := 97 ≤ c ∧ c ≤ 122
def y_bcl (dx : Nat → Nat) (n : Nat) : Nat → Nat → Nat → Option Nat
  | 0, _, _ => none
  | f + 1, j, c => if y_let (xt dx n j) then (if xt dx n (j + 1) = 45 then (if y_let (xt dx n (j + 2)) ∧ xt dx n j ≤ xt dx n (j + 2) then y_bcl dx n f (j + 3) (c + 1) else none) else y_bcl dx n f (j + 1) (c + 1)) else if 0 < c ∧ xt dx n j = 93 then some (j + 1) else none
def y_bc (dx : Nat → Nat) (n k : Nat) : Option Nat := if xt dx n (k + 1) = 94 then y_bcl dx n (n + 1) (k + 2) 0 else y_bcl dx n (n + 1) (k + 1) 0
def y_op (dx : Nat → Nat) (n k : Nat) : Nat := if xt dx n k = 40 then (if xt dx n (k + 1) = 63 then (if xt dx n (k + 2) = 58 ∨ xt dx n (k + 2) = 61 ∨ xt dx n (k + 2) = 33 ∨ xt dx n (k + 2) = 62 then 3 else 0) else 1) else 0
def y_bp (dx : Nat → Nat) (n k : Nat) : Option Nat :=
  if y_let (xt dx n k) ∨ xt dx n k = 46 ∨ xt dx n k = 94 ∨ xt dx n k = 36 then some (k + 1)
  else if xt dx n k = 91 then y_bc dx n k
  else if xt dx n k = 92 then (if 49 ≤ xt dx n (k + 1) ∧ xt dx n (k + 1) ≤ 52 then some (k + 2) else none)
  else if xt dx n k = 40 ∧ xt dx n (k + 1) = 63 ∧ (48 ≤ xt dx n (k + 2) ∧ xt dx n (k + 2) ≤ 52) ∧ xt dx n (k + 3) = 41 then some (k + 4) else none
def y_sfx (dx : Nat → Nat) (n j : Nat) : Nat := if xt dx n j = 63 ∨ xt dx n j = 43 then j + 1 else j
def y_br (dx : Nat → Nat) (n k : Nat) : Option Nat :=
  if xt dx n k = 42 ∨ xt dx n k = 43 ∨ xt dx n k = 63 then some (y_sfx dx n (k + 1))
  else if xt dx n k = 123 then (if (48 ≤ xt dx n (k + 1) ∧ xt dx n (k + 1) ≤ 57) ∧ xt dx n (k + 2) = 125 then some (y_sfx dx n (k + 3)) else none)
  else some k
def y_sz (dx : Nat → Nat) (n k : Nat) (x : Int32) : Int32 := if xt dx n k = 42 then x + 2 else if xt dx n k = 43 then 2 * x + 2 else if xt dx n k = 63 then x + 2 else if xt dx n k = 123 then (nI (xt dx n (k + 1)) - 48) * x + 1 else x
section YM
variable {dx : Nat → Nat} {n : Nat} {i : mm_i} {l : mm_j} {a : mm_a} {b : mm_b} {K : Int32 → mm_i → mm_j → mm_a → mm_b → Prop}
theorem y_c (h : rD' dx n i a) {k : Nat} (hk : k < 2 ^ 30) {x1 : Int32} (ex : x1 = nI k) (hK : K (nI (xt dx n k)) i l a b) : wp_Model_c_0 i l a b x1 K := by
  obtain ⟨h1, h2, h3, h4⟩ := h
  unfold wp_Model_c_0
  rw [ex, h2]
  refine ⟨fun q => ?_, fun q => ?_⟩
  · have hq : ¬ k < n := by have := (nI_leI (by omega) (by omega)).mp q; omega
    rw [xt, if_neg hq] at hK
    exact hK
  · have hq : k < n := by
      rcases Nat.lt_or_ge k n with y | y
      · exact y
      · exact absurd ((nI_leI (by omega) (by omega)).mpr y) q
    rw [xt, if_pos hq] at hK
    refine ⟨vp_in_nI (by omega) (by decide), ?_⟩
    rw [nI_clamp (by omega), h3 _ hq]
    exact hK
theorem y_in {c lo hi : Nat} (hc : c < 2 ^ 30) (hlo : lo < 2 ^ 30) (hhi : hi < 2 ^ 30) {x1 x2 x3 : Int32} (e1 : x1 = nI c) (e2 : x2 = nI lo) (e3 : x3 = nI hi) (h1 : lo ≤ c ∧ c ≤ hi → K 1 i l a b) (h0 : ¬ (lo ≤ c ∧ c ≤ hi) → K 0 i l a b) : wp_Model_in i l a b x1 x2 x3 K := by
  unfold wp_Model_in
  rw [e1, e2, e3]
  refine ⟨fun q => ?_, fun q => ⟨fun r => ?_, fun r => ?_⟩⟩
  · have := (nI_ltI (by omega) (by omega)).mp q
    exact h0 (by omega)
  · have := (nI_ltI (by omega) (by omega)).mp r
    exact h0 (by omega)
  · have q1 : ¬ c < lo := fun w => q ((nI_ltI (by omega) (by omega)).mpr w)
    have r1 : ¬ hi < c := fun w => r ((nI_ltI (by omega) (by omega)).mpr w)
    exact h1 (by omega)
theorem y_letter {c : Nat} (hc : c < 2 ^ 30) {x1 : Int32} (e1 : x1 = nI c) (h1 : y_let c → K 1 i l a b) (h0 : ¬ y_let c → K 0 i l a b) : wp_Model_letter i l a b x1 K := by
  unfold wp_Model_letter
  exact y_in hc (by decide : 97 < 2 ^ 30) (by decide : 122 < 2 ^ 30) e1 rfl rfl (fun q => ⟨Or.inr rfl, h1 q⟩) (fun q => ⟨Or.inl rfl, h0 q⟩)
def oI (x : Option Nat) : Int32 := rN x
theorem y_bclL (h : rD' dx n i a) : ∀ (f j c : Nat), n + 2 ≤ j + f → j ≤ n + 1 → 1 ≤ f → c ≤ j → K (rN (y_bcl dx n f j c)) i l a b → wl_Model_behindClass_0 K f i l a b (nI j) (nI c) := by
  intro f
  have hn := h.1
  induction f with
  | zero => intro j c q1 q2 q3; omega
  | succ f ih =>
    intro j c q1 q2 q3 q4 hK
    show wt_Model_behindClass_0 (wl_Model_behindClass_0 K f) K i l a b (nI j) (nI c)
    unfold wt_Model_behindClass_0 wq_Model_behindClass_0_89
    have hl := x_lt (n := n) (k := j) h.2.2.2
    have hl1 := x_lt (n := n) (k := j + 1) h.2.2.2
    have hl2 := x_lt (n := n) (k := j + 2) h.2.2.2
    rw [y_bcl] at hK
    refine y_c h (k := j) (by omega) rfl (y_letter (by omega) rfl (fun q => ⟨fun z => absurd z (by decide), fun _ => ?_⟩) (fun q => ⟨fun _ => ⟨fun r => ?_, fun r => ?_⟩, fun z => absurd rfl z⟩))
    · rw [if_pos q] at hK
      have hj : j < n := (x_in (c := xt dx n j) rfl (by omega)).1
      refine y_c h (k := j + 1) (by omega) (nI_1 j) ⟨fun r => ?_, fun r => ?_⟩
      · have r1 : ¬ xt dx n (j + 1) = 45 := fun w => r (by rw [w]; rfl)
        rw [if_neg r1] at hK
        refine ⟨fun _ => ?_, fun z => absurd rfl z⟩
        rw [nI_1, nI_1]
        exact ih (j + 1) (c + 1) (by omega) (by omega) (by omega) (by omega) hK
      · have r1 := (x_is 45 rfl (by omega) (by decide)).mp r
        have hj1 := (x_in r1 (by decide)).1
        rw [if_pos r1] at hK
        have e2 : nI j + (2 : Int32) = nI (j + 2) := by rw [show (2 : Int32) = nI 2 from rfl, nI_add]
        have e3 : nI j + (3 : Int32) = nI (j + 3) := by rw [show (3 : Int32) = nI 3 from rfl, nI_add]
        refine y_c h (k := j + 2) (by omega) e2 (y_letter (by omega) rfl (fun s => ⟨fun z => absurd z (by decide), fun _ => ?_⟩) (fun s => ⟨fun _ => ?_, fun z => absurd rfl z⟩))
        · have hj2 : j + 2 < n := (x_in (c := xt dx n (j + 2)) rfl (by omega)).1
          refine y_c h (k := j + 2) (by omega) e2 (y_c h (k := j) (by omega) rfl ⟨fun u => ⟨fun z => absurd z (by decide), fun _ => ?_⟩, fun u => ?_⟩)
          · have u1 := (nI_leI (by omega) (by omega)).mp u
            rw [if_pos ⟨s, u1⟩] at hK
            rw [e3, nI_1]
            exact ih (j + 3) (c + 1) (by omega) (by omega) (by omega) (by omega) hK
          · have u1 : ¬ xt dx n j ≤ xt dx n (j + 2) := fun w => u ((nI_leI (by omega) (by omega)).mpr w)
            rw [if_neg (fun w => u1 w.2)] at hK
            exact hK
        · rw [if_neg (fun w => s w.1)] at hK
          exact hK
    · have r1 : ¬ 0 < c := by have := (nI_leI (a := c) (b := 0) (by omega) (by decide)).mp r; omega
      rw [if_neg q, if_neg (fun w => r1 w.1)] at hK
      exact hK
    · have r1 : 0 < c := by
        rcases Nat.eq_zero_or_pos c with z | z
        · subst z; exact absurd (Int32.le_refl _) r
        · exact z
      rw [if_neg q] at hK
      refine y_c h (k := j) (by omega) rfl ⟨fun s => ?_, fun s => ?_⟩
      · rw [if_neg (fun w => s (by rw [w.2]; rfl))] at hK
        exact hK
      · rw [if_pos ⟨r1, (x_is 93 rfl (by omega) (by decide)).mp s⟩] at hK
        rw [nI_1]
        exact hK
theorem y_bclf {f j c : Nat} : ∀ (f j c : Nat), n + 1 ≤ j + f → 1 ≤ f → y_bcl dx n (f + 1) j c = y_bcl dx n f j c
  | 0, j, c, h, h1 => by omega
  | f + 1, j, c, h, h1 => by
    have e1 : ∀ g, y_bcl dx n (g + 1) j c = if y_let (xt dx n j) then (if xt dx n (j + 1) = 45 then (if y_let (xt dx n (j + 2)) ∧ xt dx n j ≤ xt dx n (j + 2) then y_bcl dx n g (j + 3) (c + 1) else none) else y_bcl dx n g (j + 1) (c + 1)) else if 0 < c ∧ xt dx n j = 93 then some (j + 1) else none := fun g => rfl
    rw [e1, e1 f]
    by_cases q : y_let (xt dx n j)
    · have hj : j < n := (x_in (c := xt dx n j) rfl (by omega)).1
      rw [if_pos q, if_pos q]
      by_cases r : xt dx n (j + 1) = 45
      · have hj1 := (x_in r (by decide)).1
        rw [if_pos r, if_pos r, y_bclf (f := f) (j := j) (c := c) f (j + 3) (c + 1) (by omega) (by omega)]
      · rw [if_neg r, if_neg r]
        rcases Nat.eq_zero_or_pos f with z | z
        · omega
        · rw [y_bclf (f := f) (j := j) (c := c) f (j + 1) (c + 1) (by omega) z]
    · rw [if_neg q, if_neg q]
theorem y_class (h : rD' dx n i a) {k : Nat} (hk : k < n) {x1 : Int32} (ex : x1 = nI k) (hK : K (rN (y_bc dx n k)) i l a b) : wp_Model_behindClass_0 i l a b x1 K := by
  have hn := h.1
  have hl1 := x_lt (n := n) (k := k + 1) h.2.2.2
  unfold wp_Model_behindClass_0 wq_Model_behindClass_0_22
  rw [ex]
  rw [y_bc] at hK
  refine y_c h (k := k + 1) (by omega) (nI_1 k) ⟨fun q => ⟨n + 1, ?_⟩, fun q => ⟨n + 1, ?_⟩⟩
  · rw [if_neg (fun w => q (by rw [w]; rfl))] at hK
    rw [nI_1]
    exact y_bclL h (n + 1) (k + 1) 0 (by omega) (by omega) (by omega) (by omega) hK
  · have q1 := (x_is 94 rfl (by omega) (by decide)).mp q
    have := (x_in q1 (by decide)).1
    rw [if_pos q1] at hK
    rw [show (2 : Int32) = nI 2 from rfl, nI_add]
    exact y_bclL h (n + 1) (k + 2) 0 (by omega) (by omega) (by omega) (by omega) hK
theorem y_opener (h : rD' dx n i a) {k : Nat} (hk : k < 2 ^ 20) {x1 : Int32} (ex : x1 = nI k) (hK : K (nI (y_op dx n k)) i l a b) : wp_Model_opener_0 i l a b x1 K := by
  have hl := x_lt (n := n) (k := k) h.2.2.2
  have hl1 := x_lt (n := n) (k := k + 1) h.2.2.2
  have hl2 := x_lt (n := n) (k := k + 2) h.2.2.2
  have e2 : nI k + (2 : Int32) = nI (k + 2) := by rw [show (2 : Int32) = nI 2 from rfl, nI_add]
  unfold wp_Model_opener_0
  rw [ex]
  rw [y_op] at hK
  refine y_c h (k := k) (by omega) rfl ⟨fun q => ?_, fun q => ?_⟩
  · rw [if_pos ((x_is 40 rfl (by omega) (by decide)).mp q)] at hK
    refine y_c h (k := k + 1) (by omega) (nI_1 k) ⟨fun r => ?_, fun r => ?_⟩
    · rw [if_pos ((x_is 63 rfl (by omega) (by decide)).mp r)] at hK
      have ye : ∀ (c : Nat) (v : Int32), v = nI c → c < 2 ^ 31 → nI (xt dx n (k + 2)) = v → xt dx n (k + 2) = c := fun c v hv hc q => (x_is c hv (by omega) hc).mp q
      have no : ∀ (c : Nat) (v : Int32), v = nI c → ¬ nI (xt dx n (k + 2)) = v → ¬ xt dx n (k + 2) = c := fun c v hv q w => q (by rw [w, hv])
      refine y_c h (k := k + 2) (by omega) e2 ⟨fun s => ?_, fun s => ⟨fun u => ?_, fun u => ⟨fun v => ?_, fun v => ⟨fun w => ?_, fun w => ?_⟩⟩⟩⟩
      · rw [if_pos (Or.inl (ye 58 58 rfl (by decide) s))] at hK; exact hK
      · rw [if_pos (Or.inr (Or.inl (ye 61 61 rfl (by decide) u)))] at hK; exact hK
      · rw [if_pos (Or.inr (Or.inr (Or.inl (ye 33 33 rfl (by decide) v))))] at hK; exact hK
      · have n1 := no 58 58 rfl s
        have n2 := no 61 61 rfl u
        have n3 := no 33 33 rfl v
        have n4 := no 62 62 rfl w
        rw [if_neg (by omega)] at hK; exact hK
      · rw [if_pos (Or.inr (Or.inr (Or.inr (ye 62 62 rfl (by decide) w))))] at hK; exact hK
    · rw [if_neg (fun w => r (by rw [w]; rfl))] at hK
      exact hK
  · rw [if_neg (fun w => q (by rw [w]; rfl))] at hK
    exact hK
theorem y_plain (h : rD' dx n i a) {k : Nat} (hk : k < n) {x1 : Int32} (ex : x1 = nI k) (hK : K (rN (y_bp dx n k)) i l a b) : wp_Model_behindPlain_0 i l a b x1 K := by
  have hn := h.1
  have hl := x_lt (n := n) (k := k) h.2.2.2
  have hl1 := x_lt (n := n) (k := k + 1) h.2.2.2
  have hl2 := x_lt (n := n) (k := k + 2) h.2.2.2
  have hl3 := x_lt (n := n) (k := k + 3) h.2.2.2
  have e2 : nI k + (2 : Int32) = nI (k + 2) := by rw [show (2 : Int32) = nI 2 from rfl, nI_add]
  have e3 : nI k + (3 : Int32) = nI (k + 3) := by rw [show (3 : Int32) = nI 3 from rfl, nI_add]
  have e4 : nI k + (4 : Int32) = nI (k + 4) := by rw [show (4 : Int32) = nI 4 from rfl, nI_add]
  have ye : ∀ (c : Nat) (v : Int32), v = nI c → c < 2 ^ 31 → nI (xt dx n k) = v → xt dx n k = c := fun c v hv hc q => (x_is c hv (by omega) hc).mp q
  have no : ∀ (c : Nat) (v : Int32), v = nI c → ¬ nI (xt dx n k) = v → ¬ xt dx n k = c := fun c v hv q w => q (by rw [w, hv])
  unfold wp_Model_behindPlain_0
  rw [ex, e2, e3, e4, nI_1]
  rw [y_bp] at hK
  refine y_c h (k := k) (by omega) rfl (y_letter (by omega) rfl (fun q => ⟨fun _ => ?_, fun z => absurd z (by decide)⟩) (fun q => ⟨fun z => absurd rfl z, fun _ => ⟨fun r => ?_, fun r => ⟨fun s => ?_, fun s => ⟨fun u => ⟨fun v => ⟨fun w => ⟨fun x => ?_, fun x => ?_⟩, fun w => ?_⟩, fun v => ?_⟩, fun u => ?_⟩⟩⟩⟩))
  · rw [if_pos (Or.inl q)] at hK; exact hK
  · rw [if_pos (Or.inr (Or.inl (ye 46 46 rfl (by decide) r)))] at hK; exact hK
  · rw [if_pos (Or.inr (Or.inr (Or.inl (ye 94 94 rfl (by decide) s))))] at hK; exact hK
  · have n1 := no 46 46 rfl r
    have n2 := no 94 94 rfl s
    have n3 := no 36 36 rfl u
    have n4 := no 91 91 rfl v
    have n5 := no 92 92 rfl w
    have n6 := no 40 40 rfl x
    rw [if_neg (by omega), if_neg n4, if_neg n5, if_neg (fun z => n6 z.1)] at hK
    exact hK
  · have n1 := no 46 46 rfl r
    have n2 := no 94 94 rfl s
    have n3 := no 36 36 rfl u
    have n4 := no 91 91 rfl v
    have n5 := no 92 92 rfl w
    have n6 := ye 40 40 rfl (by decide) x
    rw [if_neg (by omega), if_neg n4, if_neg n5] at hK
    refine y_c h (k := k + 1) (by omega) rfl ⟨fun y => ?_, fun y => ?_⟩
    · rw [if_neg (fun z => y (by rw [z.2.1]; rfl))] at hK; exact hK
    · have y1 := (x_is 63 rfl (by omega) (by decide)).mp y
      refine y_c h (k := k + 2) (by omega) rfl (y_in (c := xt dx n (k + 2)) (by omega) (by decide : 48 < 2 ^ 30) (by decide : 52 < 2 ^ 30) rfl rfl rfl (fun t => ⟨fun z => absurd z (by decide), fun _ => ?_⟩) (fun t => ⟨fun _ => ?_, fun z => absurd rfl z⟩))
      · refine y_c h (k := k + 3) (by omega) rfl ⟨fun g => ?_, fun g => ?_⟩
        · rw [if_neg (fun z => g (by rw [z.2.2.2]; rfl))] at hK; exact hK
        · rw [if_pos ⟨n6, y1, t, (x_is 41 rfl (by omega) (by decide)).mp g⟩] at hK; exact hK
      · rw [if_neg (fun z => t z.2.2.1)] at hK; exact hK
  · have n1 := no 46 46 rfl r
    have n2 := no 94 94 rfl s
    have n3 := no 36 36 rfl u
    have n4 := no 91 91 rfl v
    have n5 := ye 92 92 rfl (by decide) w
    rw [if_neg (by omega), if_neg n4, if_pos n5] at hK
    refine y_c h (k := k + 1) (by omega) rfl (y_in (c := xt dx n (k + 1)) (by omega) (by decide : 49 < 2 ^ 30) (by decide : 52 < 2 ^ 30) rfl rfl rfl (fun t => ⟨fun z => absurd z (by decide), fun _ => ?_⟩) (fun t => ⟨fun _ => ?_, fun z => absurd rfl z⟩))
    · rw [if_pos t] at hK; exact hK
    · rw [if_neg t] at hK; exact hK
  · have n1 := no 46 46 rfl r
    have n2 := no 94 94 rfl s
    have n3 := no 36 36 rfl u
    have n4 := ye 91 91 rfl (by decide) v
    rw [if_neg (by omega), if_pos n4] at hK
    exact y_class h hk rfl hK
  · rw [if_pos (Or.inr (Or.inr (Or.inr (ye 36 36 rfl (by decide) u))))] at hK; exact hK
theorem y_repeat (h : rD' dx n i a) {k : Nat} (hk : k < 2 ^ 20) {x1 : Int32} (ex : x1 = nI k) (hK : K (rN (y_br dx n k)) i l a b) : wp_Model_behindRepeat_0 i l a b x1 K := by
  have hl := x_lt (n := n) (k := k) h.2.2.2
  have hl1 := x_lt (n := n) (k := k + 1) h.2.2.2
  have hl2 := x_lt (n := n) (k := k + 2) h.2.2.2
  have e2 : nI k + (2 : Int32) = nI (k + 2) := by rw [show (2 : Int32) = nI 2 from rfl, nI_add]
  have e3 : nI k + (3 : Int32) = nI (k + 3) := by rw [show (3 : Int32) = nI 3 from rfl, nI_add]
  have ye : ∀ (c : Nat) (v : Int32), v = nI c → c < 2 ^ 31 → nI (xt dx n k) = v → xt dx n k = c := fun c v hv hc q => (x_is c hv (by omega) hc).mp q
  have no : ∀ (c : Nat) (v : Int32), v = nI c → ¬ nI (xt dx n k) = v → ¬ xt dx n k = c := fun c v hv q w => q (by rw [w, hv])
  have L81 : ∀ (j : Nat), k < j → j ≤ k + 3 → K (nI (y_sfx dx n j)) i l a b → wq_Model_behindRepeat_0_81 K i l a b (nI k) (nI j) := by
    intro j hj hj2 hk2
    have hlj := x_lt (n := n) (k := j) h.2.2.2
    unfold wq_Model_behindRepeat_0_81
    rw [y_sfx] at hk2
    refine ⟨fun q => absurd ((nI_leI (by omega) (by omega)).mp q) (by omega), fun _ => ?_⟩
    refine y_c h (k := j) (by omega) rfl ⟨fun q => ?_, fun q => ?_⟩
    · rw [if_pos (Or.inl ((x_is 63 rfl (by omega) (by decide)).mp q))] at hk2
      rw [nI_1]; exact hk2
    · refine y_c h (k := j) (by omega) rfl ⟨fun r => ?_, fun r => ?_⟩
      · rw [if_neg (fun w => by rcases w with w | w; exact q (by rw [w]; rfl); exact r (by rw [w]; rfl))] at hk2
        exact hk2
      · rw [if_pos (Or.inr ((x_is 43 rfl (by omega) (by decide)).mp r))] at hk2
        rw [nI_1]; exact hk2
  have L36 : ¬ xt dx n k = 123 → (xt dx n k = 42 ∨ xt dx n k = 43 ∨ xt dx n k = 63) → wq_Model_behindRepeat_0_36 K i l a b (nI k) (nI (k + 1)) := by
    intro n1 n2
    unfold wq_Model_behindRepeat_0_36
    rw [y_br, if_pos n2] at hK
    exact y_c h (k := k) (by omega) rfl ⟨fun _ => L81 (k + 1) (by omega) (by omega) hK, fun z => absurd (ye 123 123 rfl (by decide) z) n1⟩
  unfold wp_Model_behindRepeat_0
  rw [ex, nI_1]
  refine y_c h (k := k) (by omega) rfl ⟨fun q => ?_, fun q => ?_⟩
  · have e := ye 42 42 rfl (by decide) q
    exact L36 (by omega) (by omega)
  · refine y_c h (k := k) (by omega) rfl ⟨fun r => ?_, fun r => ?_⟩
    · have e := ye 43 43 rfl (by decide) r
      exact L36 (by omega) (by omega)
    · refine y_c h (k := k) (by omega) rfl ⟨fun s => ?_, fun s => ?_⟩
      · have n1 := no 42 42 rfl q
        have n2 := no 43 43 rfl r
        have n3 := no 63 63 rfl s
        rw [y_br, if_neg (by omega)] at hK
        unfold wq_Model_behindRepeat_0_36
        rw [e2, e3, nI_1]
        refine y_c h (k := k) (by omega) rfl ⟨fun u => ?_, fun u => ?_⟩
        · rw [if_neg (no 123 123 rfl u)] at hK
          unfold wq_Model_behindRepeat_0_81
          exact ⟨fun _ => hK, fun z => absurd (Int32.le_refl _) z⟩
        · have u1 := ye 123 123 rfl (by decide) u
          rw [if_pos u1] at hK
          refine y_c h (k := k + 1) (by omega) rfl (y_in (c := xt dx n (k + 1)) (by omega) (by decide : 48 < 2 ^ 30) (by decide : 57 < 2 ^ 30) rfl rfl rfl (fun t => ⟨fun z => absurd z (by decide), fun _ => ?_⟩) (fun t => ⟨fun _ => ?_, fun z => absurd rfl z⟩))
          · refine y_c h (k := k + 2) (by omega) rfl ⟨fun v => ?_, fun v => ?_⟩
            · rw [if_pos ⟨t, (x_is 125 rfl (by omega) (by decide)).mp v⟩] at hK
              exact L81 (k + 3) (by omega) (by omega) hK
            · rw [if_neg (fun w => v (by rw [w.2]; rfl))] at hK
              exact hK
          · rw [if_neg (fun w => t w.1)] at hK
            exact hK
      · have e := ye 63 63 rfl (by decide) s
        exact L36 (by omega) (by omega)
theorem y_sized (h : rD' dx n i a) {k : Nat} (hk : k < 2 ^ 20) {x1 x2 : Int32} (ex : x1 = nI k) (hK : K (y_sz dx n k x2) i l a b) : wp_Model_sized_0 i l a b x1 x2 K := by
  have hl := x_lt (n := n) (k := k) h.2.2.2
  have ye : ∀ (c : Nat) (v : Int32), v = nI c → c < 2 ^ 31 → nI (xt dx n k) = v → xt dx n k = c := fun c v hv hc q => (x_is c hv (by omega) hc).mp q
  have no : ∀ (c : Nat) (v : Int32), v = nI c → ¬ nI (xt dx n k) = v → ¬ xt dx n k = c := fun c v hv q w => q (by rw [w, hv])
  unfold wp_Model_sized_0
  rw [y_sz] at hK
  refine y_c h (k := k) (by omega) ex ⟨fun q => ?_, fun q => ⟨fun r => ?_, fun r => ⟨fun s => ?_, fun s => ⟨fun u => ?_, fun u => ?_⟩⟩⟩⟩
  · rw [if_pos (ye 42 42 rfl (by decide) q)] at hK; exact hK
  · rw [if_neg (no 42 42 rfl q), if_pos (ye 43 43 rfl (by decide) r)] at hK; exact hK
  · rw [if_neg (no 42 42 rfl q), if_neg (no 43 43 rfl r), if_pos (ye 63 63 rfl (by decide) s)] at hK; exact hK
  · rw [if_neg (no 42 42 rfl q), if_neg (no 43 43 rfl r), if_neg (no 63 63 rfl s), if_pos (ye 123 123 rfl (by decide) u)] at hK
    exact y_c h (k := k + 1) (by omega) (by rw [ex, nI_1]) hK
  · rw [if_neg (no 42 42 rfl q), if_neg (no 43 43 rfl r), if_neg (no 63 63 rfl s), if_neg (no 123 123 rfl u)] at hK; exact hK
end YM
