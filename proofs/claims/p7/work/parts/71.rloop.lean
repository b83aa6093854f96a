/-! the two readers: names, groups, sizes; the whole draft -/
def x_hi (tx : Nat → Nat) (n : Nat) : Nat → Nat
  | 0 => 0
  | m + 1 => max (x_hi tx n m) (x_nm tx n m)
def zU (z : Nat → Nat) : Nat → Nat
  | 0 => z 0 + 4
  | d + 1 => zU z d + z (d + 1) + 2
theorem zU_4 {z : Nat → Nat} : ∀ d, 4 ≤ zU z d
  | 0 => Nat.le_add_left _ _
  | d + 1 => by
    have := zU_4 (z := z) d
    show 4 ≤ zU z d + z (d + 1) + 2
    omega
theorem zU_n {z : Nat → Nat} {j x : Nat} : ∀ d, d < j → zU (va_up z j x) d = zU z d
  | 0, h => by
    show va_up z j x 0 + 4 = z 0 + 4
    simp [va_up]
    omega
  | d + 1, h => by
    show zU (va_up z j x) d + va_up z j x (d + 1) + 2 = zU z d + z (d + 1) + 2
    rw [zU_n d (by omega)]
    simp [va_up]
    omega
theorem zU_s {z : Nat → Nat} {x : Nat} : ∀ d, zU (va_up z d x) d + z d = zU z d + x
  | 0 => by
    show va_up z 0 x 0 + 4 + z 0 = z 0 + 4 + x
    simp [va_up]
    omega
  | d + 1 => by
    show zU (va_up z (d + 1) x) d + va_up z (d + 1) x (d + 1) + 2 + z (d + 1) = zU z d + z (d + 1) + 2 + x
    rw [zU_n d (by omega)]
    simp [va_up]
    omega
theorem zU_m {z : Nat → Nat} {x : Nat} : ∀ d, zU z d ≤ zU z (d + 1) ∧ z d ≤ zU z d
  | 0 => ⟨by show _ ≤ zU z 0 + z 1 + 2; omega, by show _ ≤ z 0 + 4; omega⟩
  | d + 1 => ⟨by show _ ≤ zU z (d + 1) + z (d + 1 + 1) + 2; omega, by show _ ≤ zU z d + z (d + 1) + 2; omega⟩
theorem zU_0 {z : Nat → Nat} : ∀ d, z 0 ≤ zU z d
  | 0 => Nat.le_add_right _ _
  | d + 1 => by
    have := zU_0 (z := z) d
    show z 0 ≤ zU z d + z (d + 1) + 2
    omega
theorem pw_le (d : Nat) : 4 ^ d ≤ 7 ^ d := Nat.pow_le_pow_left (by decide) d
theorem pw_up {k U U' c k' : Nat} (h : 4 ^ k * U ≤ 4 * 7 ^ k) (h2 : 4 ^ c * U' ≤ 7 ^ c * U) (hk : k + c ≤ k') : 4 ^ k' * U' ≤ 4 * 7 ^ k' := by
  obtain ⟨d, rfl⟩ : ∃ d, k' = k + c + d := ⟨k' - (k + c), by omega⟩
  have a1 : 4 ^ (k + c + d) * U' = 4 ^ d * (4 ^ k * (4 ^ c * U')) := by
    rw [Nat.pow_add, Nat.pow_add]
    simp only [Nat.mul_comm, Nat.mul_left_comm, Nat.mul_assoc]
  have a2 : 7 ^ d * (7 ^ c * (4 * 7 ^ k)) = 4 * 7 ^ (k + c + d) := by
    rw [Nat.pow_add, Nat.pow_add]
    simp only [Nat.mul_comm, Nat.mul_left_comm, Nat.mul_assoc]
  have a3 : 4 ^ k * (7 ^ c * U) = 7 ^ c * (4 ^ k * U) := Nat.mul_left_comm _ _ _
  rw [a1, ← a2]
  refine Nat.mul_le_mul (pw_le d) (Nat.le_trans (Nat.mul_le_mul_left _ h2) ?_)
  rw [a3]
  exact Nat.mul_le_mul_left _ h
theorem pw_end {k U : Nat} (h : 4 ^ k * U ≤ 4 * 7 ^ k) (hk : k ≤ 32) : U < 2 ^ 30 := by
  have h1 := pw_up (c := 0) (U' := U) (k' := 32) h (Nat.le_refl _) hk
  rcases Nat.lt_or_ge U (2 ^ 30) with w | w
  · exact w
  · have := Nat.le_trans (Nat.mul_le_mul_left (4 ^ 32) w) h1
    exact absurd this (by decide)
/-- the size of a repeat, as a number -/
def x_zn (tx : Nat → Nat) (n e k2 a : Nat) : Nat := if e < k2 then (if xt tx n e = 42 then a + 2 else if xt tx n e = 43 then 2 * a + 2 else if xt tx n e = 63 then a + 2 else if xt tx n e = 123 then (xt tx n (e + 1) - 48) * a + 1 else a) else a
section RV
variable {tx : Nat → Nat} {n : Nat}
theorem zn_is {e k2 : Nat} (h : y_br tx n e = some k2) (a : Nat) : x_z tx n e k2 (nI a) = nI (x_zn tx n e k2 a) ∧ ((k2 = e ∧ x_zn tx n e k2 a = a) ∨ (e + 1 ≤ k2 ∧ x_zn tx n e k2 a ≤ 2 * a + 2) ∨ (e + 3 ≤ k2 ∧ x_zn tx n e k2 a ≤ 9 * a + 1)) := by
  have s1 := sfx_gt (tx := tx) (n := n) (j := e + 1)
  have s3 := sfx_gt (tx := tx) (n := n) (j := e + 3)
  unfold y_br at h
  unfold x_z x_zn y_sz
  have n2 : nI a + 2 = nI (a + 2) := nI_add a 2
  have n3 : 2 * nI a + 2 = nI (2 * a + 2) := by rw [show (2 : Int32) * nI a = nI (2 * a) from pk_mul 2 a]; exact nI_add _ 2
  split at h
  · rename_i h0
    have h2 := (Option.some.inj h).symm
    subst h2
    have hlt : e < y_sfx tx n (e + 1) := by omega
    rw [if_pos hlt, if_pos hlt]
    by_cases h1 : xt tx n e = 42
    · rw [if_pos h1, if_pos h1]
      exact ⟨n2, Or.inr (Or.inl ⟨s1, by omega⟩)⟩
    · rw [if_neg h1, if_neg h1]
      by_cases h2 : xt tx n e = 43
      · rw [if_pos h2, if_pos h2]
        exact ⟨n3, Or.inr (Or.inl ⟨s1, by omega⟩)⟩
      · have h3 : xt tx n e = 63 := by omega
        rw [if_neg h2, if_neg h2, if_pos h3, if_pos h3]
        exact ⟨n2, Or.inr (Or.inl ⟨s1, by omega⟩)⟩
  · rename_i h0
    split at h
    · rename_i h1
      split at h
      · rename_i hd
        have h2 := (Option.some.inj h).symm
        subst h2
        have hlt : e < y_sfx tx n (e + 3) := by omega
        have g1 : ¬ xt tx n e = 42 := by omega
        have g2 : ¬ xt tx n e = 43 := by omega
        have g3 : ¬ xt tx n e = 63 := by omega
        rw [if_pos hlt, if_pos hlt, if_neg g1, if_neg g2, if_neg g3, if_pos h1, if_neg g1, if_neg g2, if_neg g3, if_pos h1]
        refine ⟨?_, Or.inr (Or.inr ⟨s3, ?_⟩)⟩
        · rw [show (48 : Int32) = nI 48 from rfl, pk_sub hd.1.1, pk_mul, nI_1]
        · have := Nat.mul_le_mul_right a (show xt tx n (e + 1) - 48 ≤ 9 by omega)
          omega
      · cases h
    · have h2 := (Option.some.inj h).symm
      subst h2
      rw [if_neg (by omega), if_neg (by omega)]
      exact ⟨rfl, Or.inl ⟨rfl, rfl⟩⟩
/-- nothing within a token looks like the head of another -/
def inn (tx : Nat → Nat) (n k k' : Nat) : Prop := ∀ j, k ≤ j → j < k' → ¬ xt tx n j = 40 ∧ ¬ xt tx n j = 92
theorem bcl_inn : ∀ (f j c e : Nat), y_bcl tx n f j c = some e → inn tx n j e
  | 0, j, c, e, h => by cases h
  | f + 1, j, c, e, h => by
    intro q hq1 hq2
    unfold y_bcl at h
    split at h
    · rename_i hl
      split at h
      · rename_i hd
        split at h
        · rename_i hl2
          rcases (by omega : q = j ∨ q = j + 1 ∨ q = j + 2 ∨ j + 3 ≤ q) with e1 | e1 | e1 | e1
          · rw [e1]; omega
          · rw [e1]; omega
          · rw [e1]; omega
          · exact bcl_inn f _ _ e h q e1 hq2
        · cases h
      · rcases (by omega : q = j ∨ j + 1 ≤ q) with e1 | e1
        · rw [e1]; omega
        · exact bcl_inn f _ _ e h q e1 hq2
    · split at h
      · rename_i hc
        cases h
        rw [show q = j by omega]
        omega
      · cases h
theorem bp_inn {k e : Nat} (h : y_bp tx n k = some e) : inn tx n (k + 1) e := by
  intro q hq1 hq2
  unfold y_bp at h
  split at h
  · cases h
    omega
  · split at h
    · unfold y_bc at h
      split at h
      · rename_i h94
        rcases (by omega : q = k + 1 ∨ k + 2 ≤ q) with e1 | e1
        · rw [e1]; omega
        · exact bcl_inn _ _ _ e h q e1 hq2
      · exact bcl_inn _ _ _ e h q hq1 hq2
    · split at h
      · split at h
        · cases h
          rw [show q = k + 1 by omega]
          omega
        · cases h
      · split at h
        · rename_i hc
          cases h
          obtain ⟨c1, c2, c3, c4⟩ := hc
          rcases (by omega : q = k + 1 ∨ q = k + 2 ∨ q = k + 3) with e1 | e1 | e1
          · rw [e1]; omega
          · rw [e1]; omega
          · rw [e1]; omega
        · cases h
theorem br_inn {e k2 : Nat} (h : y_br tx n e = some k2) : e ≤ k2 ∧ inn tx n e k2 := by
  have sf : ∀ j q, j ≤ q → q < y_sfx tx n j → ¬ xt tx n q = 40 ∧ ¬ xt tx n q = 92 := by
    intro j q h1 h2
    unfold y_sfx at h2
    split at h2
    · rw [show q = j by omega]; omega
    · omega
  have s1 := sfx_gt (tx := tx) (n := n) (j := e + 1)
  have s3 := sfx_gt (tx := tx) (n := n) (j := e + 3)
  unfold y_br at h
  split at h
  · have h2 := (Option.some.inj h).symm
    subst h2
    refine ⟨by omega, fun q h1 h2 => ?_⟩
    rcases (by omega : q = e ∨ e + 1 ≤ q) with e1 | e1
    · rw [e1]; omega
    · exact sf _ q e1 h2
  · split at h
    · split at h
      · rename_i hd
        have h2 := (Option.some.inj h).symm
        subst h2
        refine ⟨by omega, fun q h1 h2 => ?_⟩
        rcases (by omega : q = e ∨ q = e + 1 ∨ q = e + 2 ∨ e + 3 ≤ q) with e1 | e1 | e1 | e1
        · rw [e1]; omega
        · rw [e1]; omega
        · rw [e1]; omega
        · exact sf _ q e1 h2
      · cases h
    · have h2 := (Option.some.inj h).symm
      subst h2
      exact ⟨Nat.le_refl _, fun q h1 h2 => by omega⟩
theorem inn_cat {k k2 k3 : Nat} (h1 : inn tx n k k2) (h2 : inn tx n k2 k3) : inn tx n k k3 := fun j q1 q2 => (Nat.lt_or_ge j k2).elim (fun w => h1 j q1 w) (fun w => h2 j w q2)
theorem nm_0 {k : Nat} (h : ¬ xt tx n k = 40 ∧ ¬ xt tx n k = 92) : x_nm tx n k = 0 := by
  unfold x_nm
  rw [if_neg h.1, if_neg h.2]
theorem gc_hi {k : Nat} : ∀ d, inn tx n k (k + d) → x_gc tx n (k + d) = x_gc tx n k ∧ x_hi tx n (k + d) = x_hi tx n k
  | 0, _ => ⟨rfl, rfl⟩
  | d + 1, h => by
    obtain ⟨i1, i2⟩ := gc_hi d (fun j q1 q2 => h j q1 (by omega))
    have h0 := h (k + d) (by omega) (by omega)
    have e1 : x_gc tx n (k + (d + 1)) = x_gc tx n (k + d) + (if xt tx n (k + d) = 40 ∧ ¬ xt tx n (k + d + 1) = 63 then 1 else 0) := rfl
    have e2 : x_hi tx n (k + (d + 1)) = max (x_hi tx n (k + d)) (x_nm tx n (k + d)) := rfl
    rw [e1, e2, i1, i2, nm_0 h0, if_neg (fun w => h0.1 w.1)]
    exact ⟨rfl, Nat.max_eq_left (Nat.zero_le _)⟩
theorem gc_hi2 {k k2 : Nat} (hk : k ≤ k2) (h : inn tx n k k2) : x_gc tx n k2 = x_gc tx n k ∧ x_hi tx n k2 = x_hi tx n k := by
  obtain ⟨d, rfl⟩ : ∃ d, k2 = k + d := ⟨k2 - k, by omega⟩
  exact gc_hi d h
theorem gc_mono {k : Nat} : ∀ d, x_gc tx n k ≤ x_gc tx n (k + d)
  | 0 => Nat.le_refl _
  | d + 1 => Nat.le_trans (gc_mono d) (Nat.le_add_right _ _)
theorem gc_le {k k2 : Nat} (h : k ≤ k2) : x_gc tx n k ≤ x_gc tx n k2 := by
  obtain ⟨d, rfl⟩ : ∃ d, k2 = k + d := ⟨k2 - k, by omega⟩
  exact gc_mono d
theorem hi_of {g : Nat} : ∀ m, ((∀ j, j < m → ¬ y_bad tx n g j) ↔ x_hi tx n m ≤ g)
  | 0 => ⟨fun _ => Nat.zero_le _, fun _ j hj => absurd hj (Nat.not_lt_zero _)⟩
  | m + 1 => by
    have hb : y_bad tx n g m ↔ g < x_nm tx n m := by
      unfold y_bad x_nm
      by_cases h1 : xt tx n m = 40
      · rw [if_pos h1]
        by_cases h2 : xt tx n (m + 1) = 63 ∧ (48 ≤ xt tx n (m + 2) ∧ xt tx n (m + 2) ≤ 52)
        · rw [if_pos h2]
          constructor
          · intro w
            rcases w with w | w
            · exact w.2
            · omega
          · intro w
            exact Or.inl ⟨⟨h1, h2⟩, w⟩
        · rw [if_neg h2]
          constructor
          · intro w
            rcases w with w | w
            · exact absurd w.1.2 h2
            · omega
          · intro w
            omega
      · rw [if_neg h1]
        by_cases h2 : xt tx n m = 92
        · rw [if_pos h2]
          constructor
          · intro w
            rcases w with w | w
            · exact absurd w.1.1 h1
            · omega
          · intro w
            exact Or.inr ⟨h2, by omega⟩
        · rw [if_neg h2]
          constructor
          · intro w
            rcases w with w | w
            · exact absurd w.1.1 h1
            · exact absurd w.1 h2
          · intro w
            omega
    have ih := hi_of (g := g) m
    have e : x_hi tx n (m + 1) = max (x_hi tx n m) (x_nm tx n m) := rfl
    rw [e]
    constructor
    · intro h
      have h1 := ih.mp (fun j hj => h j (by omega))
      have h2 := h m (by omega)
      rw [hb] at h2
      omega
    · intro h j hj
      rcases (by omega : j < m ∨ j = m) with w | w
      · exact ih.mpr (by omega) j w
      · rw [w, hb]
        omega
theorem lp_0 {d : dS} (h : d.2.2.2.2.1 = 0) : ∀ m, d_loop tx n m d = d
  | 0 => rfl
  | m + 1 => if_pos (Or.inl h)
/-- the class's reading and the reference's measure -/
def rdR (tx : Nat → Nat) (n : Nat) (D : dS) (m : Int32) : Prop := (¬ d_ok D ∧ (m = -1 ∨ 4 < x_gc tx n n ∨ x_gc tx n n < x_hi tx n n)) ∨ (d_ok D ∧ ∃ y, y < 2 ^ 30 ∧ (D.2.2.2.2.2.2.2.2.2 0).2.2.2 = nI y ∧ m = nI y ∧ D.2.2.2.2.2.2.2.2.1 = x_gc tx n n ∧ x_hi tx n n ≤ x_gc tx n n ∧ x_gc tx n n ≤ 4)
theorem rdR_end {lv hn ni nr f : Nat} {az : Int32} {P : pg} {Lv : Nat → dL} {z : Nat → Nat} {s : Nat → Int32} (hz : (Lv 0).2.2.2 = nI (z 0) ∧ s 0 = nI (z 0)) (hg : x_gc tx n n ≤ 4) (hh : hn = x_hi tx n n) (hu : z 0 < 2 ^ 30) : rdR tx n (n, lv, az, hn, 1, P, ni, nr, x_gc tx n n, Lv) (y_ms tx n (f + 1) lv n s) := by
  have hy : y_ms tx n (f + 1) lv n s = if lv = 0 then s 0 else -1 := if_pos (Nat.le_refl _)
  rw [hy]
  by_cases h0 : lv = 0
  · rw [if_pos h0]
    by_cases h1 : hn ≤ x_gc tx n n
    · exact Or.inr ⟨⟨(by decide : ¬ (1 : Nat) = 0), h0, h1⟩, z 0, hu, hz.1, hz.2, rfl, by omega, hg⟩
    · exact Or.inl ⟨fun w => h1 w.2.2, Or.inr (Or.inr (by omega))⟩
  · rw [if_neg h0]
    exact Or.inl ⟨fun w => h0 w.2.1, Or.inl rfl⟩
theorem loop_is (ht : ∀ j, tx j < 128) (hn32 : n ≤ 32) : ∀ (m k lv hn : Nat) (az : Int32) (P : pg) (ni nr : Nat) (Lv : Nat → dL) (z : Nat → Nat) (f : Nat) (s : Nat → Int32), n + 1 ≤ k + f → n ≤ k + m → k ≤ n → lv ≤ 6 → (∀ j, j ≤ lv → (Lv j).2.2.2 = nI (z j) ∧ s j = nI (z j)) → (∀ j, 1 ≤ j → j ≤ lv → ∃ it, (Lv j).1 = some it) → x_gc tx n k ≤ 4 → hn = x_hi tx n k → 4 ^ k * zU z lv ≤ 4 * 7 ^ k → rdR tx n (d_loop tx n m (k, lv, az, hn, 1, P, ni, nr, x_gc tx n k, Lv)) (y_ms tx n f lv k s) := by
  intro m
  induction m with
  | zero =>
    intro k lv hn az P ni nr Lv z f s q1 q2 q3 q4 q5 q6 q7 q8 q9
    have hk : k = n := by omega
    subst hk
    obtain ⟨f, rfl⟩ : ∃ f', f = f' + 1 := ⟨f - 1, by omega⟩
    exact rdR_end (q5 0 (Nat.zero_le _)) q7 q8 (Nat.lt_of_le_of_lt (zU_0 lv) (pw_end q9 hn32))
  | succ m ih =>
    intro k lv hn az P ni nr Lv z f s q1 q2 q3 q4 q5 q6 q7 q8 q9
    obtain ⟨f, rfl⟩ : ∃ f', f = f' + 1 := ⟨f - 1, by omega⟩
    by_cases hk : n ≤ k
    · have hk : k = n := by omega
      subst hk
      rw [show d_loop tx k (m + 1) (k, lv, az, hn, 1, P, ni, nr, x_gc tx k k, Lv) = (k, lv, az, hn, 1, P, ni, nr, x_gc tx k k, Lv) from if_pos (Or.inr (Nat.le_refl _))]
      exact rdR_end (q5 0 (Nat.zero_le _)) q7 q8 (Nat.lt_of_le_of_lt (zU_0 lv) (pw_end q9 hn32))
    · have hk' : k < n := by omega
      rw [show d_loop tx n (m + 1) (k, lv, az, hn, 1, P, ni, nr, x_gc tx n k, Lv) = d_loop tx n m (d_turn tx n (k, lv, az, hn, 1, P, ni, nr, x_gc tx n k, Lv)) from if_neg (fun w => w.elim (by decide : ¬ (1 : Nat) = 0) hk)]
      have hU4 := zU_4 (z := z) lv
      have gc1 : x_gc tx n (k + 1) = x_gc tx n k + (if xt tx n k = 40 ∧ ¬ xt tx n (k + 1) = 63 then 1 else 0) := rfl
      have hi1 : x_hi tx n (k + 1) = max (x_hi tx n k) (x_nm tx n k) := rfl
      rcases turn_is (az := az) (hn := hn) (P := P) (ni := ni) (nr := nr) (gr := x_gc tx n k) ht hn32 hk' q4 (fun w => q6 lv w (Nat.le_refl _)) with c | c | c | c | c
      · obtain ⟨c1, c2⟩ := c
        rw [lp_0 c1]
        refine Or.inl ⟨fun w => w.1 c1, ?_⟩
        rcases c2 with c2 | c2
        · exact Or.inl (c2 f s)
        · refine Or.inr (Or.inl ?_)
          rw [if_pos ⟨c2.1, c2.2.1⟩] at gc1
          have := gc_le (tx := tx) (n := n) (show k + 1 ≤ n by omega)
          omega
      · obtain ⟨kd, c1, c2, c3, c4, c5⟩ := c
        rw [c4, c5 f s]
        have hz' : ∀ j, j ≤ lv + 1 → (d_lvo Lv lv ni nr j).2.2.2 = nI (va_up z (lv + 1) 0 j) ∧ upd s (lv + 1) 0 j = nI (va_up z (lv + 1) 0 j) := by
          intro j hj
          by_cases e1 : j = lv + 1
          · rw [e1]
            simp [d_lvo, va_up, upd, nI_0]
          · have := q5 j (by omega)
            by_cases e2 : j = lv
            · subst e2
              simp [d_lvo, va_up, upd]
              exact this
            · simp [d_lvo, va_up, upd, e1, e2]
              exact this
        have hi' : ∀ j, 1 ≤ j → j ≤ lv + 1 → ∃ it, (d_lvo Lv lv ni nr j).1 = some it := by
          intro j hj1 hj
          by_cases e1 : j = lv + 1
          · rw [e1]
            exact ⟨ni, by simp [d_lvo, va_up]⟩
          · obtain ⟨it, h⟩ := q6 j hj1 (by omega)
            refine ⟨it, ?_⟩
            by_cases e2 : j = lv
            · subst e2
              simp [d_lvo, va_up]
              exact h
            · simp [d_lvo, va_up, e1, e2]
              exact h
        have hU : zU (va_up z (lv + 1) 0) (lv + 1) = zU z lv + 2 := by
          show zU (va_up z (lv + 1) 0) lv + va_up z (lv + 1) 0 (lv + 1) + 2 = _
          rw [zU_n lv (by omega)]
          simp [va_up]
        have hop := (y_op_le (dx := tx) (n := n) (k := k)).2
        rcases c3 with c3 | c3
        · obtain ⟨d1, d2, d3, d4⟩ := c3
          have hop := hop (by omega)
          rw [d4] at hop ⊢
          rw [if_pos ⟨c2, d3⟩] at gc1
          have hnm : x_nm tx n k = 0 := by
            unfold x_nm
            rw [if_pos c2, if_neg (fun w => d3 w.1)]
          rw [hnm] at hi1
          rw [show d_opn k lv hn 1 P ni nr (x_gc tx n k) Lv kd = (k + 1, lv + 1, 1, hn, 1, P_gb (d_opP P ni nr 5 (nI (x_gc tx n k + 1)) (Lv lv).2.1 (Lv lv).2.2.1) (x_gc tx n k + 1) nr, ni + 1, nr + 1, x_gc tx n k + 1, d_lvo Lv lv ni nr) from if_pos d1, ← gc1]
          refine ih (k + 1) (lv + 1) hn _ _ _ _ _ (va_up z (lv + 1) 0) f _ (by omega) (by omega) hop (by omega) hz' hi' (by omega) (by omega) (pw_up (c := 1) q9 ?_ (Nat.le_refl _))
          rw [hU]
          omega
        · obtain ⟨d3, d4, d5⟩ := c3
          have hop := hop (by omega)
          rw [d4] at hop ⊢
          rw [if_neg (fun w => w.2 d3)] at gc1
          have hnm : x_nm tx n k = 0 := by
            unfold x_nm
            rw [if_pos c2, if_neg (fun w => by omega)]
          rw [hnm] at hi1
          obtain ⟨g1, g2⟩ := gc_hi2 (tx := tx) (n := n) (show k + 1 ≤ k + 3 by omega) (fun j w1 w2 => by
            rcases (by omega : j = k + 1 ∨ j = k + 2) with e1 | e1
            · rw [e1]; omega
            · rw [e1]; omega)
          rw [show d_opn k lv hn 1 P ni nr (x_gc tx n k) Lv kd = (k + 3, lv + 1, 1, hn, 1, d_opP P ni nr kd 0 (Lv lv).2.1 (Lv lv).2.2.1, ni + 1, nr + 1, x_gc tx n k, d_lvo Lv lv ni nr) from if_neg (by omega), show x_gc tx n k = x_gc tx n (k + 3) by omega]
          refine ih (k + 3) (lv + 1) hn _ _ _ _ _ (va_up z (lv + 1) 0) f _ (by omega) (by omega) hop (by omega) hz' hi' (by omega) (by omega) (pw_up (c := 1) q9 ?_ (by omega))
          rw [hU]
          omega
      · obtain ⟨c1, c2, c3⟩ := c
        rw [c2, c3 f s]
        rw [if_neg (fun w => by omega)] at gc1
        rw [nm_0 (by omega)] at hi1
        have hU := zU_s (z := z) (x := z lv + 1) lv
        show rdR tx n (d_loop tx n m (k + 1, lv, az, hn, 1, P_nr (P_row P nr) (Lv lv).2.1 nr, ni, nr + 1, x_gc tx n k, va_up Lv lv ((Lv lv).1, nr, none, (Lv lv).2.2.2 + 1))) _
        rw [show x_gc tx n k = x_gc tx n (k + 1) by omega]
        refine ih (k + 1) lv hn _ _ _ _ _ (va_up z lv (z lv + 1)) f _ (by omega) (by omega) (by omega) q4 (fun j hj => ?_) (fun j hj1 hj => ?_) (by omega) (by omega) (pw_up (c := 1) q9 (by omega) (Nat.le_refl _))
        · have h5 := q5 j hj
          by_cases e2 : j = lv
          · subst e2
            simp [va_up, upd]
            rw [h5.1, h5.2, nI_1]
            exact ⟨rfl, rfl⟩
          · simp [va_up, upd, e2]
            exact h5
        · obtain ⟨it, h⟩ := q6 j hj1 hj
          refine ⟨it, ?_⟩
          by_cases e2 : j = lv
          · subst e2
            simp [va_up]
            exact h
          · simp [va_up, e2]
            exact h
      · obtain ⟨k2, it, c1, c2, c3, c4, c5, c6⟩ := c
        rw [c5, c6 f s]
        rw [if_neg (fun w => by omega)] at gc1
        rw [nm_0 (by omega)] at hi1
        obtain ⟨b1, b2⟩ := br_inn c4
        have b3 := y_br_le (dx := tx) (n := n) (k := k + 1) (by omega) c4
        obtain ⟨g1, g2⟩ := gc_hi2 b1 b2
        obtain ⟨lv, rfl⟩ : ∃ l, lv = l + 1 := ⟨lv - 1, by omega⟩
        obtain ⟨z1, z2⟩ := zn_is c4 (z (lv + 1) + 2)
        have h5 := q5 (lv + 1) (Nat.le_refl _)
        have h5' := q5 lv (by omega)
        have hU := zU_s (z := z) (x := z lv + x_zn tx n (k + 1) k2 (z (lv + 1) + 2)) lv
        have hU1 : zU z (lv + 1) = zU z lv + z (lv + 1) + 2 := rfl
        have hU5 := zU_4 (z := z) lv
        rw [show lv + 1 - 1 = lv from rfl, show x_gc tx n k = x_gc tx n k2 by omega, h5.1, h5.2, show nI (z (lv + 1)) + 2 = nI (z (lv + 1) + 2) from nI_add _ 2, z1]
        refine ih k2 lv hn _ _ _ _ _ (va_up z lv (z lv + x_zn tx n (k + 1) k2 (z (lv + 1) + 2))) f _ (by omega) (by omega) b3.2 (by omega) (fun j hj => ?_) (fun j hj1 hj => ?_) (by omega) (by omega) ?_
        · by_cases e2 : j = lv
          · subst e2
            simp [va_up, upd, d_sz]
            rw [h5'.1, h5'.2, nI_add]
            exact ⟨rfl, rfl⟩
          · simp [va_up, upd, e2, d_sz]
            exact q5 j (by omega)
        · obtain ⟨it, h⟩ := q6 j hj1 (by omega)
          refine ⟨it, ?_⟩
          by_cases e2 : j = lv
          · subst e2
            simp [va_up, d_sz]
            exact h
          · simp [va_up, e2, d_sz]
            exact h
        · rcases z2 with w | w | w
          · exact pw_up (c := 1) q9 (by omega) (by omega)
          · exact pw_up (c := 2) q9 (by omega) (by omega)
          · exact pw_up (c := 4) q9 (by omega) (by omega)
      · obtain ⟨e, k2, c1, c2, c3, c4, c5, c6, c7⟩ := c
        rw [c6, c7 f s]
        have b0 := y_bp_le c4
        have hc40 : ¬ (xt tx n k = 40 ∧ ¬ xt tx n (k + 1) = 63) := by
          intro w
          unfold y_op at c1
          rw [if_pos w.1, if_neg w.2] at c1
          omega
        rw [if_neg hc40] at gc1
        obtain ⟨b1, b2⟩ := br_inn c5
        have b3 := y_br_le (dx := tx) (n := n) (k := e) b0.2 c5
        obtain ⟨g1, g2⟩ := gc_hi2 (show k + 1 ≤ k2 by omega) (inn_cat (bp_inn c4) b2)
        obtain ⟨z1, z2⟩ := zn_is c5 1
        have h5 := q5 lv (Nat.le_refl _)
        have hU := zU_s (z := z) (x := z lv + x_zn tx n e k2 1) lv
        rw [show x_gc tx n k = x_gc tx n k2 by omega, show (1 : Int32) = nI 1 from rfl, z1]
        refine ih k2 lv _ _ _ _ _ _ (va_up z lv (z lv + x_zn tx n e k2 1)) f _ (by omega) (by omega) b3.2 q4 (fun j hj => ?_) (fun j hj1 hj => ?_) (by omega) (by rw [g2, hi1, q8]) ?_
        · by_cases e2 : j = lv
          · subst e2
            simp [va_up, upd, d_sz]
            rw [h5.1, h5.2, nI_add]
            exact ⟨rfl, rfl⟩
          · simp [va_up, upd, e2, d_sz]
            exact q5 j hj
        · obtain ⟨it, h⟩ := q6 j hj1 hj
          refine ⟨it, ?_⟩
          by_cases e2 : j = lv
          · subst e2
            simp [va_up, d_sz]
            exact h
          · simp [va_up, e2, d_sz]
            exact h
        · rcases z2 with w | w | w
          · exact pw_up (c := 1) q9 (by omega) (by omega)
          · exact pw_up (c := 2) q9 (by omega) (by omega)
          · exact pw_up (c := 4) q9 (by omega) (by omega)
/-- the whole draft -/
theorem read_is (ht : ∀ j, tx j < 128) (hn32 : n ≤ 32) {G : Nat → Nat} {az : Int32} {s : Nat → Int32} (hs : s 0 = 0) : rdR tx n (d_loop tx n 32 (d_ini G az)) (y_ms tx n (n + 1) 0 0 s) := by
  have := loop_is (tx := tx) (n := n) ht hn32 32 0 0 0 az (P_gb (P_row (fun _ => 0, fun _ => 0, fun _ => 0, fun _ => 0, fun _ => 0, fun _ => none, fun _ => none, fun _ => none, fun _ => none, G) 0) 0 0) 0 1 (fun _ => (none, 0, none, 0)) (fun _ => 0) (n + 1) s (by omega) (by omega) (by omega) (by omega) (fun j hj => ⟨rfl, by rw [show j = 0 by omega, hs]; rfl⟩) (fun j h1 h2 => by omega) (Nat.zero_le _) rfl (by decide)
  exact this
end RV
