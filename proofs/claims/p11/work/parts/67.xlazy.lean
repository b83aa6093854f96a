/-! how many lazy items a row can hold -/
theorem x_cl_41 {tx : Nat → Nat} {n : Nat} : ∀ (f d j : Nat), x_cl tx n f d j < n → tx (x_cl tx n f d j) = 41
  | 0, d, j, h => absurd h (Nat.lt_irrefl _)
  | f + 1, d, j, h => by
    unfold x_cl at h ⊢
    split
    · rename_i q
      rw [if_pos q] at h
      split
      · rename_i r
        rw [if_pos r] at h
        exact x_cl_41 f _ _ h
      · rename_i r
        rw [if_neg r] at h
        split
        · rename_i s
          rw [if_pos s] at h
          split
          · exact s
          · rename_i u
            rw [if_neg u] at h
            exact x_cl_41 f _ _ h
        · rename_i s
          rw [if_neg s] at h
          exact x_cl_41 f _ _ h
    · rename_i q
      rw [if_neg q] at h
      exact absurd h (Nat.lt_irrefl _)
theorem x_br_93 {tx : Nat → Nat} {n : Nat} : ∀ (f j : Nat), n + 1 ≤ j + f → x_br tx n f j < n → xt tx n (x_br tx n f j) = 93
  | 0, j, h1, h => by
    have h : j < n := h
    omega
  | f + 1, j, h1, h => by
    unfold x_br at h ⊢
    split
    · assumption
    · rename_i q
      rw [if_neg q] at h
      split
      · rename_i r
        rw [if_pos r] at h
        omega
      · rename_i r
        rw [if_neg r] at h
        exact x_br_93 f (j + 1) (by omega) h
section LZ
variable {tx : Nat → Nat} {n : Nat}
theorem lzy_1 {k : Nat} (h : x_lzy tx n k = 1) : (x_r tx n k = 42 ∨ x_r tx n k = 43 ∨ x_r tx n k = 63) ∧ x_how tx n k = 63 := by
  unfold x_lzy at h
  split at h
  · assumption
  · cases h
/-- a lazy item: its two signs, its end, what stands before the signs -/
theorem lzy_at (hF : ∀ q, yF tx n q) {k : Nat} (hk : k < n) (h : x_lzy tx n k = 1) : yS (xt tx n (x_ba tx n k)) ∧ xt tx n (x_ba tx n k + 1) = 63 ∧ x_bh tx n k = x_ba tx n k + 2 ∧ x_bh tx n k ≤ n ∧ k + 1 ≤ x_ba tx n k ∧ ¬ yS (xt tx n (x_ba tx n k - 1)) ∧ ¬ xt tx n (x_ba tx n k - 1) = 40 := by
  obtain ⟨h1, h2⟩ := lzy_1 h
  have h1' : yS (xt tx n (x_ba tx n k)) := h1
  have hany : x_any (x_r tx n k) := by
    rcases h1 with w | w | w
    · exact Or.inl w
    · exact Or.inr (Or.inl w)
    · exact Or.inr (Or.inr (Or.inl w))
  have hb : x_b tx n k = x_ba tx n k + 1 := by rw [x_b, if_neg (by omega)]
  have h63 : xt tx n (x_ba tx n k + 1) = 63 := by
    unfold x_how at h2
    split at h2
    · rw [hb] at h2; exact h2
    · cases h2
  have hbh : x_bh tx n k = x_ba tx n k + 2 := by rw [x_bh, if_neg (fun w => w hany), if_neg (by omega), hb]
  have hlt := (x_in h63 (by decide)).1
  have hge := (x_ba_gt (tx := tx) (n := n) (k := k)).1
  refine ⟨h1', h63, hbh, by omega, hge, fun w => ?_, fun w => ?_⟩
  · have := (hF (x_ba tx n k - 1)).2 w
    rw [show x_ba tx n k - 1 + 1 = x_ba tx n k by omega, show x_ba tx n k - 1 + 2 = x_ba tx n k + 1 by omega] at this
    exact this h1' (Or.inr (Or.inr h63))
  · unfold x_ba at w hlt
    split at w
    · rename_i q
      rw [if_pos q] at hlt
      rw [Nat.add_sub_cancel] at w
      have hl : x_cl tx n n 1 (k + 1) < n := by omega
      have := x_cl_41 n 1 (k + 1) hl
      rw [xt, if_pos hl, this] at w
      omega
    · rename_i q
      rw [if_neg q] at hlt
      split at w
      · rename_i r
        have := (hF k).1.1 r
        rw [show k + 2 - 1 = k + 1 by omega] at w
        omega
      · rename_i r
        rw [if_neg r] at hlt
        split at w
        · rename_i s
          rw [if_pos s] at hlt
          rw [Nat.add_sub_cancel] at w
          have := x_br_93 (tx := tx) (n := n) (n + 1) k (by omega) (by omega)
          omega
        · rw [Nat.add_sub_cancel] at w
          exact q w
theorem lz_c (hF : ∀ q, yF tx n q) (c : Nat → Nat) (hc1 : ∀ m, c (m + 1) ≤ c m + 1) (hc : ∀ k, k < n → x_lzy tx n k = 1 → c (x_ba tx n k + 2) = c (x_ba tx n k - 1)) : ∀ (f k : Nat), k ≤ n → 3 * x_lzf tx n f k + c n + k ≤ n + c k := by
  have rg : ∀ (j m : Nat), c (m + j) ≤ c m + j := by
    intro j
    induction j with
    | zero => intro m; exact Nat.le_refl _
    | succ j ih =>
      intro m
      have h1 := ih m
      have h2 := hc1 (m + j)
      show c (m + j + 1) ≤ _
      omega
  have rg2 : ∀ (m m' : Nat), m ≤ m' → c m' ≤ c m + (m' - m) := fun m m' h => by
    have := rg (m' - m) m
    rw [show m + (m' - m) = m' by omega] at this
    exact this
  intro f
  induction f with
  | zero =>
    intro k hk
    have := rg2 k n hk
    show 3 * 0 + c n + k ≤ n + c k
    omega
  | succ f ih =>
    intro k hk
    have hr := rg2 k n hk
    have e : x_lzf tx n (f + 1) k = if x_re tx n k then 0 else x_lzy tx n k + x_lzf tx n f (x_bh tx n k) := rfl
    rw [e]
    by_cases q : x_re tx n k
    · rw [if_pos q]
      omega
    · rw [if_neg q]
      have hk2 : k < n := by
        rcases Nat.lt_or_ge k n with y | y
        · exact y
        · exact absurd (Or.inl y) q
      have hbh := (x_bh_gt (tx := tx) (n := n) (k := k)).1
      by_cases hl : x_lzy tx n k = 1
      · obtain ⟨l1, l2, l3, l4, l5, l6, l7⟩ := lzy_at hF hk2 hl
        have h1 := ih (x_bh tx n k) l4
        have h2 := hc k hk2 hl
        rw [l3] at h1 ⊢
        have h3 := rg2 k (x_ba tx n k - 1) (by omega)
        omega
      · have hl0 : x_lzy tx n k = 0 := by
          unfold x_lzy at hl ⊢
          split
          · rename_i w
            rw [if_pos w] at hl
            exact absurd rfl hl
          · rfl
        rcases Nat.lt_or_ge n (x_bh tx n k) with y | y
        · have : x_lzf tx n f (x_bh tx n k) = 0 := by
            cases f with
            | zero => rfl
            | succ f =>
              show (if x_re tx n (x_bh tx n k) then 0 else _) = 0
              rw [if_pos (Or.inl (by omega))]
          omega
        · have h1 := ih (x_bh tx n k) y
          have h3 := rg2 k (x_bh tx n k) (by omega)
          omega
def c3 (u v w m : Nat) : Nat := (if u < m then 1 else 0) + (if v < m then 1 else 0) + (if w < m then 1 else 0)
theorem c3_1 {u v w : Nat} (h1 : u < v) (h2 : v < w) (m : Nat) : c3 u v w (m + 1) ≤ c3 u v w m + 1 := by
  unfold c3
  by_cases a1 : u < m <;> by_cases a2 : v < m <;> by_cases a3 : w < m <;> by_cases b1 : u < m + 1 <;> by_cases b2 : v < m + 1 <;> by_cases b3 : w < m + 1 <;> simp only [a1, a2, a3, b1, b2, b3, if_true, if_false] <;> omega
theorem c3_eq {u v w m : Nat} (hm : 1 ≤ m) (hu : ¬ (m - 1 ≤ u ∧ u < m + 2)) (hv : ¬ (m - 1 ≤ v ∧ v < m + 2)) (hw : ¬ (m - 1 ≤ w ∧ w < m + 2)) : c3 u v w (m + 2) = c3 u v w (m - 1) := by
  unfold c3
  have e1 : (u < m + 2) = (u < m - 1) := propext ⟨fun h => by omega, fun h => by omega⟩
  have e2 : (v < m + 2) = (v < m - 1) := propext ⟨fun h => by omega, fun h => by omega⟩
  have e3 : (w < m + 2) = (w < m - 1) := propext ⟨fun h => by omega, fun h => by omega⟩
  simp only [e1, e2, e3]
theorem c3_le {u v w : Nat} (h1 : u < v) (h2 : v < w) : ∀ m, c3 u v w m ≤ m
  | 0 => by unfold c3; simp
  | m + 1 => by
    have := c3_1 h1 h2 m
    have := c3_le h1 h2 m
    omega
/-- three places that no lazy item's end takes: then a row has nine lazy items at most -/
theorem lz_9 (hn : n ≤ 32) (hF : ∀ q, yF tx n q) {u v w : Nat} (h1 : u < v) (h2 : v < w) (h3 : w < n) (hc : ∀ k, k < n → x_lzy tx n k = 1 → ∀ z, z = u ∨ z = v ∨ z = w → ¬ (x_ba tx n k - 1 ≤ z ∧ z < x_ba tx n k + 2)) (k : Nat) : x_lz tx n k ≤ 9 := by
  rcases Nat.lt_or_ge n k with y | y
  · rw [x_lz_re (Or.inl (by omega))]; decide
  · have h := lz_c hF (c3 u v w) (c3_1 h1 h2) (fun k hk hl => by
      have := (lzy_at hF hk hl).2.2.2.2.1
      exact c3_eq (by omega) (hc k hk hl u (Or.inl rfl)) (hc k hk hl v (Or.inr (Or.inl rfl))) (hc k hk hl w (Or.inr (Or.inr rfl)))) (n + 1) k y
    have e : c3 u v w n = 3 := by
      unfold c3
      rw [if_pos (by omega), if_pos (by omega), if_pos h3]
    have := c3_le h1 h2 k
    unfold x_lz
    omega
theorem lz_10 (hn : n ≤ 32) (hF : ∀ q, yF tx n q) (k : Nat) : x_lz tx n k ≤ 10 := by
  rcases Nat.lt_or_ge n k with y | y
  · rw [x_lz_re (Or.inl (by omega))]; decide
  · have h := lz_c hF (fun _ => 0) (fun _ => by decide) (fun _ _ _ => rfl) (n + 1) k y
    unfold x_lz
    omega
theorem lz_call (hn : n ≤ 32) (hF : ∀ q, yF tx n q) {c : Nat} (h40 : xt tx n c = 40) (h1 : 48 ≤ x_x tx n c) (h2 : x_x tx n c ≤ 52) (k : Nat) : x_lz tx n k ≤ 9 := by
  have h63 : xt tx n (c + 1) = 63 := by
    unfold x_x at h1
    split at h1
    · assumption
    · omega
  have hx : x_x tx n c = xt tx n (c + 2) := by rw [x_x, if_pos h63]
  rw [hx] at h1 h2
  have h41 : xt tx n (c + 3) = 41 := by
    have := (hF c).1.2.2 h40 h63
    omega
  have hlt := (x_in h41 (by decide)).1
  refine lz_9 hn hF (u := c) (v := c + 1) (w := c + 2) (by omega) (by omega) (by omega) (fun k hk hl z hz w => ?_) k
  obtain ⟨l1, l2, l3, l4, l5, l6, l7⟩ := lzy_at hF hk hl
  generalize x_ba tx n k = e at l1 l2 l3 l4 l5 l6 l7 w
  have hz' : z = e - 1 ∨ z = e ∨ z = e + 1 := by omega
  rcases hz with rfl | rfl | rfl <;> rcases hz' with q | q | q
  · rw [← q] at l7; exact l7 h40
  · rw [← q] at l1; omega
  · rw [← q] at l2; omega
  · rw [← q] at l6; exact l6 (Or.inr (Or.inr h63))
  · rw [← q] at l2; rw [show c + 1 + 1 = c + 2 by omega] at l2; omega
  · have : e = c := by omega
    rw [this] at l1; omega
  · have : e = c + 3 := by omega
    rw [this] at l1; omega
  · rw [← q] at l1; omega
  · have : e = c + 1 := by omega
    rw [this] at l2; rw [show c + 1 + 1 = c + 2 by omega] at l2; omega
theorem lz_poss (hn : n ≤ 32) (hF : ∀ q, yF tx n q) {g : Nat} (h40 : xt tx n g = 40) (h43 : x_how tx n g = 43) (k : Nat) : x_lz tx n k ≤ 9 := by
  have hba : x_ba tx n g = x_cl tx n n 1 (g + 1) + 1 := by rw [x_ba, if_pos h40]
  have hgn := (x_in h40 (by decide)).1
  have hcl := x_cl_ge (tx := tx) (n := n) n 1 (g + 1) (by omega)
  generalize hj : x_cl tx n n 1 (g + 1) = j at hba hcl
  have hany : x_any (x_r tx n g) ∧ xt tx n (x_b tx n g) = 43 := by
    unfold x_how at h43
    split at h43
    · rename_i q; exact ⟨q.1, h43⟩
    · cases h43
  have hr : x_r tx n g = xt tx n (j + 1) := by rw [x_r, hba]
  have hlt : j + 1 < n := by
    have : ¬ xt tx n (j + 1) = 0 := fun w => by rw [hr, w] at hany; omega
    exact (x_in (c := xt tx n (j + 1)) rfl this).1
  have h41 : xt tx n j = 41 := by
    have := x_cl_41 (tx := tx) n 1 (g + 1) (by rw [hj]; omega)
    rw [hj] at this
    rw [xt, if_pos (by omega), this]
  have hb2 : ¬ xt tx n (j + 1) = 123 → xt tx n (j + 2) = 43 := fun w => by
    have e : x_b tx n g = j + 2 := by rw [x_b, if_neg (by rw [hr]; exact w), hba]
    rw [← e]; exact hany.2
  refine lz_9 hn hF (u := g) (v := j) (w := j + 1) (by omega) (by omega) hlt (fun k hk hl z hz w => ?_) k
  obtain ⟨l1, l2, l3, l4, l5, l6, l7⟩ := lzy_at hF hk hl
  have hany1 := hany.1
  rw [hr] at hany1
  generalize x_ba tx n k = e at l1 l2 l3 l4 l5 l6 l7 w
  have hz' : z = e - 1 ∨ z = e ∨ z = e + 1 := by omega
  rcases hz with rfl | rfl | rfl <;> rcases hz' with q | q | q
  · rw [← q] at l7; exact l7 h40
  · rw [← q] at l1; omega
  · rw [← q] at l2; omega
  · have e1 : e = z + 1 := by omega
    rw [e1] at l1 l2
    rw [show z + 1 + 1 = z + 2 by omega] at l2
    have := hb2 (by omega)
    omega
  · rw [← q] at l1; omega
  · rw [← q] at l2; omega
  · rw [← q] at l6
    have e1 : e = j + 2 := by omega
    rw [e1] at l1
    have h123 : xt tx n (j + 1) = 123 := by
      rcases hany1 with w1 | w1 | w1 | w1
      · exact absurd (Or.inl w1) l6
      · exact absurd (Or.inr (Or.inl w1)) l6
      · exact absurd (Or.inr (Or.inr w1)) l6
      · exact w1
    have := (hF (j + 1)).1.2.1 h123
    rw [show j + 1 + 1 = j + 2 by omega] at this
    omega
  · rw [← q] at l1 l2
    rw [show j + 1 + 1 = j + 2 by omega] at l2
    have := hb2 (by omega)
    omega
  · have e1 : e = j := by omega
    rw [e1] at l1; omega
theorem gc_ge (m : Nat) : x_gc tx n (n + m) = x_gc tx n n := by
  induction m with
  | zero => rfl
  | succ m ih =>
    have e : x_gc tx n (n + (m + 1)) = x_gc tx n (n + m) + (if xt tx n (n + m) = 40 ∧ ¬ xt tx n (n + m + 1) = 63 then 1 else 0) := rfl
    rw [e, ih, if_neg (fun w => by rw [xt, if_neg (by omega)] at w; omega)]
    rfl
/-- a draft that is measured and has four groups at most -/
theorem xG_of (hn : n ≤ 32) (hF : ∀ q, yF tx n q) (hg : x_gc tx n n ≤ 4) : ∃ Q, xG tx n Q := by
  have base : ∀ Q, (∀ k, x_lz tx n k ≤ Q) → Q ≤ 10 → (∀ k, xt tx n k = 40 → x_how tx n k = 43 → Q ≤ 9) → (∀ k, xt tx n k = 40 → 48 ≤ x_x tx n k → x_x tx n k ≤ 52 → Q ≤ 9) → xG tx n Q := by
    intro Q a1 a2 a3 a4
    refine ⟨hn, fun k => (hF k).1.1, fun k hk => ((hF k).1.2.1 hk).1, fun m => ?_, fun k h1 h2 => ?_, a1, a2, a3, a4⟩
    · rcases Nat.lt_or_ge n m with y | y
      · have := gc_ge (tx := tx) (n := n) (m - n)
        rw [show n + (m - n) = m by omega] at this
        omega
      · have := x_gc_mono (tx := tx) (n := n) m (n - m)
        rw [show m + (n - m) = n by omega] at this
        omega
    · have := (hF k).1.2.2 h1 h2
      have e : x_x tx n k = xt tx n (k + 2) := by rw [x_x, if_pos h2]
      rw [e]
      omega
  by_cases h9 : ∀ k, x_lz tx n k ≤ 9
  · exact ⟨9, base 9 h9 (by decide) (fun _ _ _ => Nat.le_refl _) (fun _ _ _ _ => Nat.le_refl _)⟩
  · refine ⟨10, base 10 (lz_10 hn hF) (Nat.le_refl _) (fun k a1 a2 => absurd (lz_poss hn hF a1 a2) h9) (fun k a1 a2 a3 => absurd (lz_call hn hF a1 a2 a3) h9)⟩
end LZ
