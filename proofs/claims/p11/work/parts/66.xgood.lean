/-! what a draft that is measured looks like -/
abbrev yS (c : Nat) : Prop := c = 42 ∨ c = 43 ∨ c = 63
def yF3 (dx : Nat → Nat) (n q : Nat) : Prop := (xt dx n q = 92 → 49 ≤ xt dx n (q + 1) ∧ xt dx n (q + 1) ≤ 52) ∧ (xt dx n q = 123 → 48 ≤ xt dx n (q + 1) ∧ xt dx n (q + 1) ≤ 57) ∧ (xt dx n q = 40 → xt dx n (q + 1) = 63 → (xt dx n (q + 2) = 58 ∨ xt dx n (q + 2) = 61 ∨ xt dx n (q + 2) = 33 ∨ xt dx n (q + 2) = 62) ∨ ((48 ≤ xt dx n (q + 2) ∧ xt dx n (q + 2) ≤ 52) ∧ xt dx n (q + 3) = 41))
def yF (dx : Nat → Nat) (n q : Nat) : Prop := yF3 dx n q ∧ (yS (xt dx n q) → yS (xt dx n (q + 1)) → ¬ yS (xt dx n (q + 2)))
def yH (dx : Nat → Nat) (n q : Nat) : Prop := yF3 dx n q ∧ (yS (xt dx n q) → ¬ yS (xt dx n (q + 1)))
theorem yF3_of {dx : Nat → Nat} {n q : Nat} (h : ¬ xt dx n q = 92 ∧ ¬ xt dx n q = 123 ∧ ¬ xt dx n q = 40) : yF3 dx n q := ⟨fun w => absurd w h.1, fun w => absurd w h.2.1, fun w => absurd w h.2.2⟩
theorem yH_of {dx : Nat → Nat} {n q : Nat} (h : ¬ xt dx n q = 92 ∧ ¬ xt dx n q = 123 ∧ ¬ xt dx n q = 40) (hs : ¬ yS (xt dx n q)) : yH dx n q := ⟨yF3_of h, fun w => absurd w hs⟩
theorem yH_F {dx : Nat → Nat} {n q : Nat} (h : yH dx n q) : yF dx n q := ⟨h.1, fun w1 w2 => absurd w2 (h.2 w1)⟩
theorem y_bcl_H {dx : Nat → Nat} {n : Nat} : ∀ (f j c e : Nat), y_bcl dx n f j c = some e → ∀ q, j ≤ q → q < e → yH dx n q
  | 0, j, c, e, h => by cases h
  | f + 1, j, c, e, h => by
    intro q hq1 hq2
    unfold y_bcl at h
    split at h
    · rename_i hl
      have h0 : yH dx n j := yH_of (by omega) (by omega)
      split at h
      · rename_i hd
        split at h
        · rename_i hl2
          have h1 : yH dx n (j + 1) := yH_of (by omega) (by omega)
          have h2 : yH dx n (j + 2) := yH_of (by omega) (by omega)
          rcases (by omega : q = j ∨ q = j + 1 ∨ q = j + 2 ∨ j + 3 ≤ q) with e1 | e1 | e1 | e1
          · rw [e1]; exact h0
          · rw [e1]; exact h1
          · rw [e1]; exact h2
          · exact y_bcl_H f _ _ e h q e1 hq2
        · cases h
      · rcases (by omega : q = j ∨ j + 1 ≤ q) with e1 | e1
        · rw [e1]; exact h0
        · exact y_bcl_H f _ _ e h q e1 hq2
    · split at h
      · rename_i hc
        cases h
        rw [show q = j by omega]
        exact yH_of (by omega) (by omega)
      · cases h
theorem y_bp_H {dx : Nat → Nat} {n k e : Nat} (h : y_bp dx n k = some e) : (∀ q, k ≤ q → q < e → yH dx n q) ∧ ¬ yS (xt dx n k) := by
  unfold y_bp at h
  split at h
  · rename_i hc
    cases h
    refine ⟨fun q h1 h2 => ?_, by omega⟩
    rw [show q = k by omega]
    exact yH_of (by omega) (by omega)
  · split at h
    · rename_i n1 h91
      have h0 : yH dx n k := yH_of (by omega) (by omega)
      refine ⟨fun q h1 h2 => ?_, by omega⟩
      unfold y_bc at h
      split at h
      · rename_i h94
        have h1' : yH dx n (k + 1) := yH_of (by omega) (by omega)
        rcases (by omega : q = k ∨ q = k + 1 ∨ k + 2 ≤ q) with e1 | e1 | e1
        · rw [e1]; exact h0
        · rw [e1]; exact h1'
        · exact y_bcl_H _ _ _ e h q e1 h2
      · rcases (by omega : q = k ∨ k + 1 ≤ q) with e1 | e1
        · rw [e1]; exact h0
        · exact y_bcl_H _ _ _ e h q e1 h2
    · split at h
      · rename_i n1 n2 h92
        split at h
        · rename_i hd
          cases h
          refine ⟨fun q h1 h2 => ?_, by omega⟩
          rcases (by omega : q = k ∨ q = k + 1) with e1 | e1
          · rw [e1]
            exact ⟨⟨fun _ => hd, fun w => absurd w (by omega), fun w => absurd w (by omega)⟩, fun w => absurd w (by omega)⟩
          · rw [e1]
            exact yH_of (by omega) (by omega)
        · cases h
      · split at h
        · rename_i hc
          cases h
          obtain ⟨c1, c2, c3, c4⟩ := hc
          refine ⟨fun q h1 h2 => ?_, by omega⟩
          rcases (by omega : q = k ∨ q = k + 1 ∨ q = k + 2 ∨ q = k + 3) with e1 | e1 | e1 | e1
          · rw [e1]
            exact ⟨⟨fun w => absurd w (by omega), fun w => absurd w (by omega), fun _ _ => Or.inr ⟨c3, c4⟩⟩, fun w => absurd w (by omega)⟩
          · rw [e1]
            refine ⟨yF3_of (by omega), fun _ => ?_⟩
            show ¬ yS (xt dx n (k + 2))
            omega
          · rw [e1]
            exact yH_of (by omega) (by omega)
          · rw [e1]
            exact yH_of (by omega) (by omega)
        · cases h
theorem y_br_F {dx : Nat → Nat} {n e k2 : Nat} (h : y_br dx n e = some k2) (hd : ¬ yS (xt dx n k2)) : ∀ q, e ≤ q → q < k2 → yF dx n q := by
  intro q h1 h2
  unfold y_br at h
  split at h
  · rename_i hs
    cases h
    unfold y_sfx at hd h2
    split at h2
    · rename_i hx
      rw [if_pos hx] at hd
      rcases (by omega : q = e ∨ q = e + 1) with e1 | e1
      · rw [e1]
        exact ⟨yF3_of (by omega), fun _ _ => hd⟩
      · rw [e1]
        exact ⟨yF3_of (by omega), fun _ w => absurd w hd⟩
    · rename_i hx
      rw [if_neg hx] at hd
      rw [show q = e by omega]
      exact ⟨yF3_of (by omega), fun _ w => absurd w hd⟩
  · rename_i ns
    split at h
    · rename_i h123
      split at h
      · rename_i hc
        cases h
        obtain ⟨c1, c2⟩ := hc
        unfold y_sfx at hd h2
        have h0 : yF dx n e := ⟨⟨fun w => absurd w (by omega), fun _ => c1, fun w => absurd w (by omega)⟩, fun w => absurd w (by omega)⟩
        have h1' : yF dx n (e + 1) := yH_F (yH_of (by omega) (by omega))
        have h2' : yF dx n (e + 2) := yH_F (yH_of (by omega) (by omega))
        split at h2
        · rename_i hx
          rw [if_pos hx] at hd
          rcases (by omega : q = e ∨ q = e + 1 ∨ q = e + 2 ∨ q = e + 3) with e1 | e1 | e1 | e1
          · rw [e1]; exact h0
          · rw [e1]; exact h1'
          · rw [e1]; exact h2'
          · rw [e1]
            exact ⟨yF3_of (by omega), fun _ w => absurd w hd⟩
        · rcases (by omega : q = e ∨ q = e + 1 ∨ q = e + 2) with e1 | e1 | e1
          · rw [e1]; exact h0
          · rw [e1]; exact h1'
          · rw [e1]; exact h2'
      · cases h
    · cases h
      omega
theorem y_ms_F {dx : Nat → Nat} {n : Nat} : ∀ (f d k : Nat) (s : Nat → Int32), ¬ y_ms dx n f d k s < 0 → (∀ q, k ≤ q → yF dx n q) ∧ ¬ yS (xt dx n k)
  | 0, d, k, s, h => absurd (by show (-1 : Int32) < 0; decide) h
  | f + 1, d, k, s, h => by
    rw [y_ms] at h
    have neg : ¬ (-1 : Int32) < 0 → False := fun w => w (by decide)
    split at h
    · rename_i hk
      have z : ∀ q, k ≤ q → xt dx n q = 0 := fun q hq => by rw [xt, if_neg (by omega)]
      refine ⟨fun q hq => yH_F (yH_of (by rw [z q hq]; omega) (by rw [z q hq]; omega)), by rw [z k (Nat.le_refl _)]; omega⟩
    · rename_i hk
      split at h
      · rename_i hop
        split at h
        · exact (neg h).elim
        · obtain ⟨i1, i2⟩ := y_ms_F f _ _ _ h
          unfold y_op at i1 i2 hop
          split at hop
          · rename_i h40
            rw [if_pos h40] at i1 i2
            split at hop
            · rename_i h63
              rw [if_pos h63] at i1 i2
              split at hop
              · rename_i hx
                rw [if_pos hx] at i1 i2
                refine ⟨fun q hq => ?_, by omega⟩
                rcases (by omega : q = k ∨ q = k + 1 ∨ q = k + 2 ∨ k + 3 ≤ q) with e1 | e1 | e1 | e1
                · rw [e1]
                  exact yH_F ⟨⟨fun w => absurd w (by omega), fun w => absurd w (by omega), fun _ _ => Or.inl hx⟩, fun w => absurd w (by omega)⟩
                · rw [e1]
                  refine yH_F ⟨yF3_of (by omega), fun _ => ?_⟩
                  show ¬ yS (xt dx n (k + 2))
                  omega
                · rw [e1]
                  exact yH_F (yH_of (by omega) (by omega))
                · exact i1 q e1
              · omega
            · rename_i n63
              rw [if_neg n63] at i1 i2
              refine ⟨fun q hq => ?_, by omega⟩
              rcases (by omega : q = k ∨ k + 1 ≤ q) with e1 | e1
              · rw [e1]
                exact yH_F ⟨⟨fun w => absurd w (by omega), fun w => absurd w (by omega), fun _ w => absurd w n63⟩, fun w => absurd w (by omega)⟩
              · exact i1 q e1
          · omega
      · rename_i hop
        split at h
        · rename_i h124
          obtain ⟨i1, i2⟩ := y_ms_F f _ _ _ h
          refine ⟨fun q hq => ?_, by omega⟩
          rcases (by omega : q = k ∨ k + 1 ≤ q) with e1 | e1
          · rw [e1]
            exact yH_F (yH_of (by omega) (by omega))
          · exact i1 q e1
        · rename_i n124
          split at h
          · exact (neg h).elim
          · rename_i d2 x e hat
            split at h
            · exact (neg h).elim
            · rename_i k2 hbr
              obtain ⟨i1, i2⟩ := y_ms_F f _ _ _ h
              have atom : (∀ q, k ≤ q → q < e → yH dx n q) ∧ ¬ yS (xt dx n k) := by
                unfold y_at at hat
                split at hat
                · rename_i h41
                  split at hat
                  · cases hat
                  · cases hat
                    refine ⟨fun q h1 h2 => ?_, by omega⟩
                    rw [show q = k by omega]
                    exact yH_of (by omega) (by omega)
                · cases hb : y_bp dx n k with
                  | none => rw [hb] at hat; cases hat
                  | some e2 =>
                    rw [hb] at hat
                    cases hat
                    exact y_bp_H hb
              refine ⟨fun q hq => ?_, atom.2⟩
              rcases Nat.lt_or_ge q e with e1 | e1
              · exact yH_F (atom.1 q hq e1)
              · rcases Nat.lt_or_ge q k2 with e2 | e2
                · exact y_br_F hbr i2 q e1 e2
                · exact i1 q e2
