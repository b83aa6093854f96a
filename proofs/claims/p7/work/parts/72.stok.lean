/-! the text as the reference walks it, a token at a time -/
section ST
variable {tx : Nat → Nat} {n : Nat}
theorem cl_fuel : ∀ (f d j : Nat), n ≤ j + f → x_cl tx n (f + 1) d j = x_cl tx n f d j
  | 0, d, j, h => by
    show (if j < n then _ else n) = n
    rw [if_neg (by omega)]
  | f + 1, d, j, h => by
    have h1 := cl_fuel f (d + 1) (j + 1) (by omega)
    have h2 := cl_fuel f (d - 1) (j + 1) (by omega)
    have h3 := cl_fuel f d (j + 1) (by omega)
    show (if j < n then (if tx j = 40 then x_cl tx n (f + 1) (d + 1) (j + 1) else if tx j = 41 then (if d = 1 then j else x_cl tx n (f + 1) (d - 1) (j + 1)) else x_cl tx n (f + 1) d (j + 1)) else n) = (if j < n then (if tx j = 40 then x_cl tx n f (d + 1) (j + 1) else if tx j = 41 then (if d = 1 then j else x_cl tx n f (d - 1) (j + 1)) else x_cl tx n f d (j + 1)) else n)
    rw [h1, h2, h3]
theorem cl_up {f d j : Nat} (h : n ≤ j + f) (hf : f ≤ n) : x_cl tx n n d j = x_cl tx n f d j := by
  obtain ⟨c, e⟩ : ∃ c, n = f + c := ⟨n - f, by omega⟩
  have : ∀ c, x_cl tx n (f + c) d j = x_cl tx n f d j := by
    intro c
    induction c with
    | zero => rfl
    | succ c ih => rw [← ih]; exact cl_fuel (f + c) d j (by omega)
  have h2 := this c
  rw [← e] at h2
  exact h2
/-- one character of closing -/
theorem cl_step {d j : Nat} (hj : j < n) : x_cl tx n n d j = if xt tx n j = 40 then x_cl tx n n (d + 1) (j + 1) else if xt tx n j = 41 then (if d = 1 then j else x_cl tx n n (d - 1) (j + 1)) else x_cl tx n n d (j + 1) := by
  obtain ⟨f, e⟩ : ∃ f, n = f + 1 := ⟨n - 1, by omega⟩
  have u : ∀ d, x_cl tx n n d (j + 1) = x_cl tx n f d (j + 1) := fun d => cl_up (by omega) (by omega)
  rw [u, u, u, show xt tx n j = tx j from if_pos hj]
  have : x_cl tx n n d j = x_cl tx n (f + 1) d j := congrArg (fun m => x_cl tx n m d j) e
  rw [this]
  show (if j < n then _ else _) = _
  rw [if_pos hj]
theorem cl_40 {d j : Nat} (h : xt tx n j = 40) : x_cl tx n n d j = x_cl tx n n (d + 1) (j + 1) := by
  rw [cl_step (x_in h (by decide)).1, if_pos h]
theorem cl_41 {d j : Nat} (h : xt tx n j = 41) (hd : ¬ d = 1) : x_cl tx n n d j = x_cl tx n n (d - 1) (j + 1) := by
  rw [cl_step (x_in h (by decide)).1, if_neg (by omega), if_pos h, if_neg hd]
theorem cl_end {j : Nat} (h : xt tx n j = 41) : x_cl tx n n 1 j = j := by
  rw [cl_step (x_in h (by decide)).1, if_neg (by omega), if_pos h, if_pos rfl]
theorem cl_no {d j : Nat} (hj : j < n) (h : ¬ xt tx n j = 40 ∧ ¬ xt tx n j = 41) : x_cl tx n n d j = x_cl tx n n d (j + 1) := by
  rw [cl_step hj, if_neg h.1, if_neg h.2]
/-- closing more brackets: the inner ones first -/
theorem cl_split {d : Nat} (hd : 1 ≤ d) : ∀ (c j e : Nat), n ≤ j + c → 1 ≤ e → x_cl tx n n e j < n → x_cl tx n n (d + e) j = x_cl tx n n d (x_cl tx n n e j + 1)
  | 0, j, e, h, he, hc => by
    have : x_cl tx n n e j = n := by
      rw [cl_up (f := 0) (by omega) (Nat.zero_le _)]
      rfl
    omega
  | c + 1, j, e, h, he, hc => by
    by_cases hj : j < n
    · have s1 := cl_step (tx := tx) (d := e) hj
      have s2 := cl_step (tx := tx) (d := d + e) hj
      by_cases h40 : xt tx n j = 40
      · rw [if_pos h40] at s1 s2
        rw [s1] at hc
        rw [s2, s1]
        exact cl_split hd c (j + 1) (e + 1) (by omega) (by omega) hc
      · rw [if_neg h40] at s1 s2
        by_cases h41 : xt tx n j = 41
        · rw [if_pos h41] at s1 s2
          rw [if_neg (by omega)] at s2
          by_cases e1 : e = 1
          · rw [if_pos e1] at s1
            rw [s2, s1, e1]
            rfl
          · rw [if_neg e1] at s1
            rw [s1] at hc
            rw [s2, s1, show d + e - 1 = d + (e - 1) by omega]
            exact cl_split hd c (j + 1) (e - 1) (by omega) (by omega) hc
        · rw [if_neg h41] at s1 s2
          rw [s1] at hc
          rw [s2, s1]
          exact cl_split hd c (j + 1) e (by omega) he hc
    · have : x_cl tx n n e j = n := by
        rw [cl_up (f := 0) (by omega) (Nat.zero_le _)]
        rfl
      omega
/-- no bracket, bar or sign of several characters -/
def pln (tx : Nat → Nat) (n k k' : Nat) : Prop := ∀ j, k ≤ j → j < k' → j < n ∧ ¬ xt tx n j = 40 ∧ ¬ xt tx n j = 41
theorem cl_pln {d k : Nat} : ∀ c, pln tx n k (k + c) → x_cl tx n n d k = x_cl tx n n d (k + c)
  | 0, _ => rfl
  | c + 1, h => by
    have h0 := h (k + c) (by omega) (by omega)
    rw [cl_pln c (fun j a b => h j a (by omega)), cl_no h0.1 h0.2]
    rfl
theorem cl_skip {d k k' : Nat} (hk : k ≤ k') (h : pln tx n k k') : x_cl tx n n d k = x_cl tx n n d k' := by
  obtain ⟨c, rfl⟩ : ∃ c, k' = k + c := ⟨k' - k, by omega⟩
  exact cl_pln c h
theorem en_re {j : Nat} (h : x_re tx n j) : x_en tx n (n + 1) j = j := if_pos h
theorem en_up : ∀ (c f j : Nat), n ≤ j + f → x_en tx n (f + c) j = x_en tx n f j
  | 0, f, j, h => rfl
  | c + 1, f, j, h => by
    rw [← en_up c f j h]
    exact x_en_fuel (f + c) j (by omega)
theorem en_step {j : Nat} (h : ¬ x_re tx n j) : x_en tx n (n + 1) j = x_en tx n (n + 1) (x_nx tx n j) := by
  have h1 := (x_nx_gt (tx := tx) (n := n) (j := j)).1
  have e : x_en tx n (n + 1) j = x_en tx n n (x_nx tx n j) := if_neg h
  rw [e, en_up 1 n (x_nx tx n j) (by omega)]
theorem nx_one {j : Nat} (h : ¬ xt tx n j = 40 ∧ ¬ xt tx n j = 91 ∧ ¬ xt tx n j = 92) : x_nx tx n j = j + 1 := if_neg (by omega)
def plr (tx : Nat → Nat) (n k k' : Nat) : Prop := ∀ j, k ≤ j → j < k' → j < n ∧ ¬ xt tx n j = 40 ∧ ¬ xt tx n j = 41 ∧ ¬ xt tx n j = 91 ∧ ¬ xt tx n j = 92 ∧ ¬ xt tx n j = 124
theorem en_pln {k : Nat} : ∀ c, plr tx n k (k + c) → x_en tx n (n + 1) k = x_en tx n (n + 1) (k + c)
  | 0, _ => rfl
  | c + 1, h => by
    have h0 := h (k + c) (by omega) (by omega)
    rw [en_pln c (fun j a b => h j a (by omega)), en_step (fun w => by unfold x_re at w; omega), nx_one (by omega)]
    rfl
theorem en_skip {k k' : Nat} (hk : k ≤ k') (h : plr tx n k k') : x_en tx n (n + 1) k = x_en tx n (n + 1) k' := by
  obtain ⟨c, rfl⟩ : ∃ c, k' = k + c := ⟨k' - k, by omega⟩
  exact en_pln c h
/-- a repeat's characters -/
theorem br_plr {e k2 : Nat} (he : e ≤ n) (h : y_br tx n e = some k2) : plr tx n e k2 := by
  have sf : ∀ j q, j ≤ q → q < y_sfx tx n j → q < n ∧ ¬ xt tx n q = 40 ∧ ¬ xt tx n q = 41 ∧ ¬ xt tx n q = 91 ∧ ¬ xt tx n q = 92 ∧ ¬ xt tx n q = 124 := by
    intro j q h1 h2
    unfold y_sfx at h2
    split at h2
    · rename_i hc
      rw [show q = j by omega]
      rcases hc with hc | hc
      · have := (x_in hc (by decide)).1; omega
      · have := (x_in hc (by decide)).1; omega
    · omega
  unfold y_br at h
  split at h
  · rename_i hs
    have h2 := (Option.some.inj h).symm
    subst h2
    intro q h1 h2
    rcases (by omega : q = e ∨ e + 1 ≤ q) with e1 | e1
    · rw [e1]
      rcases hs with hs | hs | hs
      · have := (x_in hs (by decide)).1; omega
      · have := (x_in hs (by decide)).1; omega
      · have := (x_in hs (by decide)).1; omega
    · exact sf _ q e1 h2
  · split at h
    · rename_i h123
      split at h
      · rename_i hd
        have h2 := (Option.some.inj h).symm
        subst h2
        have i0 := (x_in h123 (by decide)).1
        have i2 := (x_in hd.2 (by decide)).1
        intro q h1 h2
        rcases (by omega : q = e ∨ q = e + 1 ∨ q = e + 2 ∨ e + 3 ≤ q) with e1 | e1 | e1 | e1
        · rw [e1]; omega
        · rw [e1]; omega
        · rw [e1]; omega
        · exact sf _ q e1 h2
      · cases h
    · have h2 := (Option.some.inj h).symm
      subst h2
      intro q h1 h2
      omega
/-- repeat and manner at e -/
def x_rpv (tx : Nat → Nat) (n e : Nat) : Nat := if xt tx n e = 42 then 3 else if xt tx n e = 43 then 4 else if xt tx n e = 63 then 2 else if xt tx n e = 123 then (if xt tx n (e + 1) - 48 = 0 then 1 else 5) else 0
def x_mnv (tx : Nat → Nat) (n e : Nat) : Nat := if x_any (xt tx n e) then (if xt tx n (if xt tx n e = 123 then e + 3 else e + 1) = 63 then 1 else if xt tx n (if xt tx n e = 123 then e + 3 else e + 1) = 43 then 2 else 0) else 0
theorem bh_of {A e k2 : Nat} (ha : x_ba tx n A = e) (h : y_br tx n e = some k2) : x_bh tx n A = k2 ∧ (x_how tx n A = 63 ↔ x_mnv tx n e = 1) ∧ (x_how tx n A = 43 ↔ x_mnv tx n e = 2) ∧ e ≤ k2 ∧ (x_any (xt tx n e) → e + 1 ≤ k2) ∧ (x_mnv tx n e = 2 → e + 2 ≤ k2) ∧ (¬ x_any (xt tx n e) → k2 = e) ∧ (xt tx n e = 123 → e + 3 ≤ k2 ∧ 48 ≤ xt tx n (e + 1) ∧ xt tx n (e + 1) ≤ 57) := by
  have hb : x_bh tx n A = if ¬ x_any (xt tx n e) then e else if x_how tx n A = 0 then (if xt tx n e = 123 then e + 3 else e + 1) else (if xt tx n e = 123 then e + 3 else e + 1) + 1 := by
    unfold x_bh x_b x_r
    rw [ha]
  have hw : x_how tx n A = if x_any (xt tx n e) ∧ (xt tx n (if xt tx n e = 123 then e + 3 else e + 1) = 63 ∨ xt tx n (if xt tx n e = 123 then e + 3 else e + 1) = 43) then xt tx n (if xt tx n e = 123 then e + 3 else e + 1) else 0 := by
    unfold x_how x_b x_r
    rw [ha]
  unfold y_br at h
  unfold x_mnv
  by_cases h123 : xt tx n e = 123
  · rw [if_neg (by omega), if_pos h123] at h
    have any : x_any (xt tx n e) := Or.inr (Or.inr (Or.inr h123))
    rw [if_pos h123] at hb hw
    rw [if_pos h123, if_pos any]
    split at h
    · rename_i hd
      have h2 := (Option.some.inj h).symm
      subst h2
      unfold y_sfx
      by_cases g1 : xt tx n (e + 3) = 63
      · rw [if_pos ⟨any, Or.inl g1⟩, g1] at hw
        rw [if_neg (fun w => w any), if_neg (by omega)] at hb
        rw [hb, hw, if_pos g1, if_pos (Or.inl g1)]
        exact ⟨rfl, by omega, by omega, by omega, fun _ => by omega, fun _ => by omega, fun w => absurd any w, fun _ => by omega⟩
      · by_cases g2 : xt tx n (e + 3) = 43
        · rw [if_pos ⟨any, Or.inr g2⟩, g2] at hw
          rw [if_neg (fun w => w any), if_neg (by omega)] at hb
          rw [hb, hw, if_neg g1, if_pos g2, if_pos (Or.inr g2)]
          exact ⟨rfl, by omega, by omega, by omega, fun _ => by omega, fun _ => by omega, fun w => absurd any w, fun _ => by omega⟩
        · rw [if_neg (fun w => w.2.elim g1 g2)] at hw
          rw [if_neg (fun w => w any), if_pos hw] at hb
          rw [hb, hw, if_neg g1, if_neg g2, if_neg (fun w => w.elim g1 g2)]
          exact ⟨rfl, by omega, by omega, by omega, fun _ => by omega, fun _ => by omega, fun w => absurd any w, fun _ => by omega⟩
    · cases h
  · rw [if_neg h123] at hb hw
    rw [if_neg h123]
    by_cases hs : xt tx n e = 42 ∨ xt tx n e = 43 ∨ xt tx n e = 63
    · rw [if_pos hs] at h
      have any : x_any (xt tx n e) := by unfold x_any; omega
      have h2 := (Option.some.inj h).symm
      subst h2
      rw [if_pos any]
      unfold y_sfx
      by_cases g1 : xt tx n (e + 1) = 63
      · rw [if_pos ⟨any, Or.inl g1⟩, g1] at hw
        rw [if_neg (fun w => w any), if_neg (by omega)] at hb
        rw [hb, hw, if_pos g1, if_pos (Or.inl g1)]
        exact ⟨rfl, by omega, by omega, by omega, fun _ => by omega, fun _ => by omega, fun w => absurd any w, fun w => absurd w h123⟩
      · by_cases g2 : xt tx n (e + 1) = 43
        · rw [if_pos ⟨any, Or.inr g2⟩, g2] at hw
          rw [if_neg (fun w => w any), if_neg (by omega)] at hb
          rw [hb, hw, if_neg g1, if_pos g2, if_pos (Or.inr g2)]
          exact ⟨rfl, by omega, by omega, by omega, fun _ => by omega, fun _ => by omega, fun w => absurd any w, fun w => absurd w h123⟩
        · rw [if_neg (fun w => w.2.elim g1 g2)] at hw
          rw [if_neg (fun w => w any), if_pos hw] at hb
          rw [hb, hw, if_neg g1, if_neg g2, if_neg (fun w => w.elim g1 g2)]
          exact ⟨rfl, by omega, by omega, by omega, fun _ => by omega, fun _ => by omega, fun w => absurd any w, fun w => absurd w h123⟩
    · rw [if_neg hs, if_neg h123] at h
      have any : ¬ x_any (xt tx n e) := by unfold x_any; omega
      have h2 := (Option.some.inj h).symm
      subst h2
      rw [if_pos any] at hb
      rw [if_neg (fun w => any w.1)] at hw
      rw [hb, hw, if_neg any]
      exact ⟨rfl, by omega, by omega, by omega, fun w => absurd w any, fun _ => by omega, fun _ => rfl, fun w => absurd w h123⟩
theorem bcl_cl : ∀ (f j c e : Nat), y_bcl tx n f j c = some e → j + 1 ≤ e ∧ xt tx n (e - 1) = 93 ∧ ∀ q, j ≤ q → q + 1 < e → q < n ∧ (y_let (xt tx n q) ∨ xt tx n q = 45)
  | 0, j, c, e, h => by cases h
  | f + 1, j, c, e, h => by
    unfold y_bcl at h
    split at h
    · rename_i hl
      have i0 := (x_in (c := xt tx n j) rfl (by omega)).1
      split at h
      · rename_i hd
        split at h
        · rename_i hl2
          have i1 := (x_in hd (by decide)).1
          have i2 := (x_in (c := xt tx n (j + 2)) rfl (by omega)).1
          obtain ⟨a1, a2, a3⟩ := bcl_cl f _ _ e h
          refine ⟨by omega, a2, fun q hq1 hq2 => ?_⟩
          rcases (by omega : q = j ∨ q = j + 1 ∨ q = j + 2 ∨ j + 3 ≤ q) with e1 | e1 | e1 | e1
          · rw [e1]; exact ⟨i0, Or.inl hl⟩
          · rw [e1]; exact ⟨i1, Or.inr hd⟩
          · rw [e1]; exact ⟨i2, Or.inl hl2.1⟩
          · exact a3 q e1 hq2
        · cases h
      · obtain ⟨a1, a2, a3⟩ := bcl_cl f _ _ e h
        refine ⟨by omega, a2, fun q hq1 hq2 => ?_⟩
        rcases (by omega : q = j ∨ j + 1 ≤ q) with e1 | e1
        · rw [e1]; exact ⟨i0, Or.inl hl⟩
        · exact a3 q e1 hq2
    · split at h
      · rename_i hc
        cases h
        exact ⟨by omega, by rw [Nat.add_sub_cancel]; exact hc.2, fun q hq1 hq2 => by omega⟩
      · cases h
theorem br_at : ∀ (f j e : Nat), j ≤ e → n + 1 ≤ j + f → xt tx n e = 93 → (∀ q, j ≤ q → q < e → q < n ∧ ¬ xt tx n q = 93) → x_br tx n f j = e
  | 0, j, e, h1, h2, h3, h4 => by
    have := (x_in h3 (by decide)).1
    omega
  | f + 1, j, e, h1, h2, h3, h4 => by
    unfold x_br
    by_cases q : j = e
    · rw [if_pos (by rw [q]; exact h3)]
      exact q
    · have := h4 j (Nat.le_refl _) (by omega)
      rw [if_neg this.2, if_neg (by omega)]
      exact br_at f (j + 1) e (by omega) (by omega) h3 (fun q a b => h4 q (by omega) b)
/-- an atom that is no group -/
theorem bp_of {k e : Nat} (h : y_bp tx n k = some e) : x_ba tx n k = e ∧ x_nx tx n k = e ∧ ¬ x_re tx n k ∧ ∀ d, 1 ≤ d → x_cl tx n n d k = x_cl tx n n d e := by
  have hle := y_bp_le h
  unfold y_bp at h
  split at h
  · rename_i hc
    cases h
    have hba : x_ba tx n k = k + 1 := by
      unfold x_ba
      rw [if_neg (by omega), if_neg (by omega), if_neg (by omega)]
    refine ⟨hba, nx_one (by omega), fun w => by unfold x_re at w; omega, fun d hd => cl_no (by omega) (by omega)⟩
  · split at h
    · rename_i n1 h91
      have key : e - 1 + 1 = e ∧ xt tx n (e - 1) = 93 ∧ (∀ q, k ≤ q → q < e - 1 → q < n ∧ ¬ xt tx n q = 93 ∧ ¬ xt tx n q = 40 ∧ ¬ xt tx n q = 41) ∧ k ≤ e - 1 := by
        unfold y_bc at h
        split at h
        · rename_i h94
          obtain ⟨a1, a2, a3⟩ := bcl_cl _ _ _ e h
          refine ⟨by omega, a2, fun q q1 q2 => ?_, by omega⟩
          rcases (by omega : q = k ∨ q = k + 1 ∨ k + 2 ≤ q) with e1 | e1 | e1
          · rw [e1]; omega
          · rw [e1]; omega
          · have := a3 q e1 (by omega)
            omega
        · obtain ⟨a1, a2, a3⟩ := bcl_cl _ _ _ e h
          refine ⟨by omega, a2, fun q q1 q2 => ?_, by omega⟩
          rcases (by omega : q = k ∨ k + 1 ≤ q) with e1 | e1
          · rw [e1]; omega
          · have := a3 q e1 (by omega)
            omega
      obtain ⟨k1, k2, k3, k4⟩ := key
      have hba : x_ba tx n k = e := by
        unfold x_ba
        rw [if_neg (by omega), if_neg (by omega), if_pos h91, br_at (n + 1) k (e - 1) k4 (by omega) k2 (fun q a b => ⟨(k3 q a b).1, (k3 q a b).2.1⟩)]
        exact k1
      refine ⟨hba, ?_, fun w => by unfold x_re at w; omega, fun d hd => cl_skip (by omega) (fun q a b => ?_)⟩
      · unfold x_nx
        rw [if_pos (Or.inr (Or.inl h91))]
        exact hba
      · rcases (by omega : q < e - 1 ∨ q = e - 1) with e1 | e1
        · exact ⟨(k3 q a e1).1, (k3 q a e1).2.2⟩
        · rw [e1]; omega
    · split at h
      · rename_i n1 n2 h92
        split at h
        · rename_i hd
          cases h
          have hba : x_ba tx n k = k + 2 := by
            unfold x_ba
            rw [if_neg (by omega), if_pos h92]
          refine ⟨hba, ?_, fun w => by unfold x_re at w; omega, fun d hd => cl_skip (by omega) (fun q a b => ?_)⟩
          · unfold x_nx
            rw [if_pos (Or.inr (Or.inr h92))]
            exact hba
          · rcases (by omega : q = k ∨ q = k + 1) with e1 | e1
            · rw [e1]; omega
            · rw [e1]; omega
        · cases h
      · split at h
        · rename_i hc
          cases h
          obtain ⟨c1, c2, c3, c4⟩ := hc
          have s1 : ∀ d, x_cl tx n n d (k + 1) = x_cl tx n n d (k + 3) := fun d => cl_skip (by omega) (fun q a b => by
            rcases (by omega : q = k + 1 ∨ q = k + 2) with e1 | e1
            · rw [e1]; omega
            · rw [e1]; omega)
          have hba : x_ba tx n k = k + 4 := by
            unfold x_ba
            rw [if_pos c1, s1, cl_end c4]
          refine ⟨hba, ?_, fun w => by unfold x_re at w; omega, fun d hd => ?_⟩
          · unfold x_nx
            rw [if_pos (Or.inl c1)]
            exact hba
          · rw [cl_40 c1, s1, cl_41 c4 (by omega)]
            rfl
        · cases h
theorem co_to {k : Nat} (hk : k ≤ n) : ∀ j, j ≤ k → x_co tx n (n + 1) (x_gc tx n k + 1) 0 = x_co tx n (n + 1 - j) (x_gc tx n k + 1 - x_gc tx n j) j
  | 0, _ => rfl
  | j + 1, h => by
    rw [co_to hk j (by omega)]
    obtain ⟨f, e⟩ : ∃ f, n + 1 - j = f + 1 := ⟨n - j, by omega⟩
    rw [e, show n + 1 - (j + 1) = f by omega]
    have hm := gc_le (tx := tx) (n := n) (show j ≤ k by omega)
    have hm1 := gc_le (tx := tx) (n := n) (show j + 1 ≤ k by omega)
    have gc1 : x_gc tx n (j + 1) = x_gc tx n j + (if xt tx n j = 40 ∧ ¬ xt tx n (j + 1) = 63 then 1 else 0) := rfl
    show (if n ≤ j then 0 else if x_gc tx n k + 1 - x_gc tx n j = 0 then 0 else if xt tx n j = 40 ∧ ¬ xt tx n (j + 1) = 63 then (if x_gc tx n k + 1 - x_gc tx n j = 1 then j + 1 else x_co tx n f (x_gc tx n k + 1 - x_gc tx n j - 1) (j + 1)) else x_co tx n f (x_gc tx n k + 1 - x_gc tx n j) (j + 1)) = _
    rw [if_neg (by omega), if_neg (by omega)]
    by_cases hc : xt tx n j = 40 ∧ ¬ xt tx n (j + 1) = 63
    · rw [if_pos hc] at gc1
      rw [if_pos hc, if_neg (by omega), gc1]
      congr 1
    · rw [if_neg hc] at gc1
      rw [if_neg hc, gc1]
      rfl
theorem co_at {k : Nat} (h1 : xt tx n k = 40) (h2 : ¬ xt tx n (k + 1) = 63) : x_co tx n (n + 1) (x_gc tx n k + 1) 0 = k + 1 := by
  have hk := (x_in h1 (by decide)).1
  rw [co_to (by omega) k (Nat.le_refl _)]
  obtain ⟨f, e⟩ : ∃ f, n + 1 - k = f + 1 := ⟨n - k, by omega⟩
  rw [e]
  show (if n ≤ k then 0 else if x_gc tx n k + 1 - x_gc tx n k = 0 then 0 else if xt tx n k = 40 ∧ ¬ xt tx n (k + 1) = 63 then (if x_gc tx n k + 1 - x_gc tx n k = 1 then k + 1 else _) else _) = _
  rw [if_neg (by omega), if_neg (by omega), if_pos ⟨h1, h2⟩, if_pos (by omega)]
end ST
