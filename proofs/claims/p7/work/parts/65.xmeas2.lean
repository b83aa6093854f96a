/-! groupsOf, namesGood, measure -/
def y_bad (dx : Nat → Nat) (n g j : Nat) : Prop := ((xt dx n j = 40 ∧ xt dx n (j + 1) = 63 ∧ (48 ≤ xt dx n (j + 2) ∧ xt dx n (j + 2) ≤ 52)) ∧ g < xt dx n (j + 2) - 48) ∨ (xt dx n j = 92 ∧ g + 48 < xt dx n (j + 1))
def y_at (dx : Nat → Nat) (n d k : Nat) (s : Nat → Int32) : Option (Nat × Int32 × Nat) := if xt dx n k = 41 then (if d = 0 then none else some (d - 1, s d + 2, k + 1)) else (y_bp dx n k).map (fun e => (d, 1, e))
def y_ms (dx : Nat → Nat) (n : Nat) : Nat → Nat → Nat → (Nat → Int32) → Int32
  | 0, _, _, _ => -1
  | f + 1, d, k, s => if n ≤ k then (if d = 0 then s 0 else -1)
    else if 0 < y_op dx n k then (if d = 6 then -1 else y_ms dx n f (d + 1) (k + y_op dx n k) (upd s (d + 1) 0))
    else if xt dx n k = 124 then y_ms dx n f d (k + 1) (upd s d (s d + 1))
    else match y_at dx n d k s with
      | none => -1
      | some (d2, x, e) => match y_br dx n e with
        | none => -1
        | some k2 => y_ms dx n f d2 k2 (upd s d2 (s d2 + (if e < k2 then y_sz dx n e x else x)))
theorem y_op_le {dx : Nat → Nat} {n k : Nat} : y_op dx n k ≤ 3 ∧ (0 < y_op dx n k → k + y_op dx n k ≤ n) := by
  unfold y_op
  split
  · rename_i q
    have := (x_in q (by decide)).1
    split
    · split
      · rename_i r
        have h2 : k + 2 < n := (x_in (c := xt dx n (k + 2)) rfl (by omega)).1
        omega
      · omega
    · omega
  · omega
theorem y_bcl_le {dx : Nat → Nat} {n : Nat} : ∀ (f j c e : Nat), y_bcl dx n f j c = some e → j + 1 ≤ e ∧ e ≤ n
  | 0, j, c, e, h => by cases h
  | f + 1, j, c, e, h => by
    unfold y_bcl at h
    split at h
    · split at h
      · split at h
        · have := y_bcl_le f _ _ e h
          omega
        · cases h
      · have := y_bcl_le f _ _ e h
        omega
    · split at h
      · rename_i q
        cases h
        have := (x_in q.2 (by decide)).1
        omega
      · cases h
theorem y_bp_le {dx : Nat → Nat} {n k e : Nat} (h : y_bp dx n k = some e) : k + 1 ≤ e ∧ e ≤ n := by
  unfold y_bp at h
  split at h
  · rename_i q
    cases h
    have : k < n := (x_in (c := xt dx n k) rfl (by omega)).1
    omega
  · split at h
    · unfold y_bc at h
      split at h
      · have := y_bcl_le _ _ _ _ h
        omega
      · have := y_bcl_le _ _ _ _ h
        omega
    · split at h
      · split at h
        · rename_i q
          cases h
          have : k + 1 < n := (x_in (c := xt dx n (k + 1)) rfl (by omega)).1
          omega
        · cases h
      · split at h
        · rename_i q
          cases h
          have := (x_in q.2.2.2 (by decide)).1
          omega
        · cases h
theorem y_sfx_le {dx : Nat → Nat} {n j : Nat} (hj : j ≤ n) : j ≤ y_sfx dx n j ∧ y_sfx dx n j ≤ n := by
  unfold y_sfx
  split
  · rename_i q
    have : j < n := (x_in (c := xt dx n j) rfl (by omega)).1
    omega
  · omega
theorem y_br_le {dx : Nat → Nat} {n k e : Nat} (hk : k ≤ n) (h : y_br dx n k = some e) : k ≤ e ∧ e ≤ n := by
  unfold y_br at h
  split at h
  · rename_i q
    cases h
    have : k < n := (x_in (c := xt dx n k) rfl (by omega)).1
    have := y_sfx_le (dx := dx) (n := n) (j := k + 1) (by omega)
    omega
  · split at h
    · split at h
      · rename_i q
        cases h
        have := (x_in q.2 (by decide)).1
        have := y_sfx_le (dx := dx) (n := n) (j := k + 3) (by omega)
        omega
      · cases h
    · cases h
      omega
theorem y_at_le {dx : Nat → Nat} {n d k : Nat} {s : Nat → Int32} {d2 e : Nat} {x : Int32} (hk : k < n) (h : y_at dx n d k s = some (d2, x, e)) : k + 1 ≤ e ∧ e ≤ n ∧ d2 ≤ d := by
  unfold y_at at h
  split at h
  · split at h
    · cases h
    · cases h
      omega
  · cases hb : y_bp dx n k with
    | none => rw [hb] at h; cases h
    | some e2 =>
      rw [hb] at h
      cases h
      have := y_bp_le hb
      omega
section YM
variable {dx : Nat → Nat} {n : Nat} {i : mm_i} {l : mm_j} {a : mm_a} {b : mm_b} {K : Int32 → mm_i → mm_j → mm_a → mm_b → Prop}
theorem y_goL (h : rD' dx n i a) : ∀ (f j : Nat), j + f = n + 1 → j ≤ n → K (nI (x_gc dx n n)) i l a b → wl_Model_groupsOf_0 K f i l a b (nI (x_gc dx n j)) (nI j) := by
  intro f
  have hn := h.1
  induction f with
  | zero => intro j q1 q2; omega
  | succ f ih =>
    intro j q1 q2 hK
    show wt_Model_groupsOf_0 (wl_Model_groupsOf_0 K f) K i l a b (nI (x_gc dx n j)) (nI j)
    unfold wt_Model_groupsOf_0 wq_Model_groupsOf_0_37
    have hl := x_lt (n := n) (k := j) h.2.2.2
    have hl2 := x_lt (n := n) (k := j + 1) h.2.2.2
    rw [h.2.1]
    refine ⟨fun q => ?_, fun q => ?_⟩
    · have := (nI_leI (by omega) (by omega)).mp q
      have e : j = n := by omega
      rw [e]; exact hK
    · have hj : j < n := by
        rcases Nat.lt_or_ge j n with y | y
        · exact y
        · exact absurd ((nI_leI (by omega) (by omega)).mpr y) q
      have go := ih (j + 1) (by omega) (by omega) hK
      rw [x_gc] at go
      refine y_c h (k := j) (by omega) rfl ⟨fun p => ?_, fun p => ?_⟩
      · rw [if_neg (fun w => p (by rw [w.1]; rfl))] at go
        rw [nI_1]
        exact go
      · refine y_c h (k := j + 1) (by omega) (nI_1 j) ⟨fun r => ?_, fun r => ?_⟩
        · rw [if_neg (fun w => w.2 ((x_is 63 rfl (by omega) (by decide)).mp r))] at go
          rw [nI_1]
          exact go
        · rw [if_pos ⟨(x_is 40 rfl (by omega) (by decide)).mp p, fun w => r (by rw [w]; rfl)⟩] at go
          rw [nI_1, nI_1]
          exact go
theorem y_groupsOf (h : rD' dx n i a) (hK : K (nI (x_gc dx n n)) i l a b) : wp_Model_groupsOf_0 i l a b K := by
  unfold wp_Model_groupsOf_0
  exact ⟨n + 1, y_goL h (n + 1) 0 (by omega) (by omega) hK⟩
theorem y_ngL (h : rD' dx n i a) {g : Nat} (hg : g ≤ 32) (h1 : (∀ j, j < n → ¬ y_bad dx n g j) → g ≤ 4 → K 1 i l a b) (h0 : ¬ ((∀ j, j < n → ¬ y_bad dx n g j) ∧ g ≤ 4) → K 0 i l a b) : ∀ (f j : Nat), j + f = n + 1 → 1 ≤ f → (∀ j', j' < j → ¬ y_bad dx n g j') → wl_Model_namesGood_0 K f i l a b (nI g) (nI j) := by
  intro f
  have hn := h.1
  induction f with
  | zero => intro j q1 q2; omega
  | succ f ih =>
    intro j q1 q2 hb
    show wt_Model_namesGood_0 (wl_Model_namesGood_0 K f) K i l a b (nI g) (nI j)
    have hl := x_lt (n := n) (k := j) h.2.2.2
    have hl1 := x_lt (n := n) (k := j + 1) h.2.2.2
    have hl2 := x_lt (n := n) (k := j + 2) h.2.2.2
    have e2 : nI j + (2 : Int32) = nI (j + 2) := by rw [show (2 : Int32) = nI 2 from rfl, nI_add]
    unfold wt_Model_namesGood_0
    rw [h.2.1]
    refine ⟨fun q => ⟨fun r => ?_, fun r => ?_⟩, fun q => ?_⟩
    · have := (nI_ltI (a := 4) (by decide) (by omega)).mp r
      exact h0 (fun w => by have := w.2; omega)
    · have q1' := (nI_leI (by omega) (by omega)).mp q
      refine h1 (fun j' hj' => hb j' (by omega)) ?_
      rcases Nat.lt_or_ge 4 g with y | y
      · exact absurd ((nI_ltI (a := 4) (by decide) (by omega)).mpr y) r
      · exact y
    · have hj : j < n := by
        rcases Nat.lt_or_ge j n with y | y
        · exact y
        · exact absurd ((nI_leI (by omega) (by omega)).mpr y) q
      have bad : y_bad dx n g j → K 0 i l a b := fun w => h0 (fun z => z.1 j hj w)
      have L73 : ¬ (((xt dx n j = 40 ∧ xt dx n (j + 1) = 63 ∧ (48 ≤ xt dx n (j + 2) ∧ xt dx n (j + 2) ≤ 52)) ∧ g < xt dx n (j + 2) - 48)) → wq_Model_namesGood_0_73 (wl_Model_namesGood_0 K f) K i l a b (nI g) (nI j) := by
        intro nb
        unfold wq_Model_namesGood_0_73
        rw [nI_1]
        refine y_c h (k := j) (by omega) rfl ⟨fun p => ?_, fun p => ?_⟩
        · refine ih (j + 1) (by omega) (by omega) (fun j' hj' => ?_)
          rcases Nat.lt_or_ge j' j with y | y
          · exact hb j' y
          · have e : j' = j := by omega
            subst e
            intro w
            rcases w with w | w
            · exact nb w
            · exact p (by rw [w.1]; rfl)
        · have p1 := (x_is 92 rfl (by omega) (by decide)).mp p
          have hsub : (nI (xt dx n (j + 1)) - (48 : Int32)).toInt = (xt dx n (j + 1) : Int) - 48 := pk_sub_toInt (b := 48) (by omega) (by decide)
          have hgi := nI_toInt (show g < 2 ^ 31 by omega)
          refine y_c h (k := j + 1) (by omega) rfl ⟨fun r => ?_, fun r => ?_⟩
          · have r1 : (nI (xt dx n (j + 1)) - (48 : Int32)).toInt ≤ (nI g).toInt := Int32.le_iff_toInt_le.mp r
            rw [hsub, hgi] at r1
            refine ih (j + 1) (by omega) (by omega) (fun j' hj' => ?_)
            rcases Nat.lt_or_ge j' j with y | y
            · exact hb j' y
            · have e : j' = j := by omega
              subst e
              intro w
              rcases w with w | w
              · exact nb w
              · have := w.2; omega
          · refine bad (Or.inr ⟨p1, ?_⟩)
            rcases Nat.lt_or_ge (g + 48) (xt dx n (j + 1)) with y | y
            · exact y
            · refine absurd (Int32.le_iff_toInt_le.mpr ?_) r
              rw [hsub, hgi]
              omega
      refine y_c h (k := j) (by omega) rfl ⟨fun p => ?_, fun p => ?_⟩
      · unfold wq_Model_namesGood_0_55
        exact ⟨fun _ => L73 (fun w => p (by rw [w.1.1]; rfl)), fun z => absurd rfl z⟩
      · have p1 := (x_is 40 rfl (by omega) (by decide)).mp p
        refine y_c h (k := j + 1) (by omega) (nI_1 j) ⟨fun r => ?_, fun r => ?_⟩
        · unfold wq_Model_namesGood_0_55
          exact ⟨fun _ => L73 (fun w => r (by rw [w.1.2.1]; rfl)), fun z => absurd rfl z⟩
        · have r1 := (x_is 63 rfl (by omega) (by decide)).mp r
          refine y_c h (k := j + 2) (by omega) e2 (y_in (c := xt dx n (j + 2)) (by omega) (by decide : 48 < 2 ^ 30) (by decide : 52 < 2 ^ 30) rfl rfl rfl (fun t => ⟨fun z => absurd z (by decide), fun _ => ?_⟩) (fun t => ⟨fun _ => ?_, fun z => absurd rfl z⟩))
          · unfold wq_Model_namesGood_0_55
            refine ⟨fun z => absurd z (by decide), fun _ => y_c h (k := j + 2) (by omega) e2 ?_⟩
            rw [show (48 : Int32) = nI 48 from rfl, pk_sub t.1]
            refine ⟨fun u => bad (Or.inl ⟨⟨p1, r1, t⟩, (nI_ltI (by omega) (by omega)).mp u⟩), fun u => L73 (fun w => u ((nI_ltI (by omega) (by omega)).mpr w.2))⟩
          · unfold wq_Model_namesGood_0_55
            exact ⟨fun _ => L73 (fun w => t w.1.2.2), fun z => absurd rfl z⟩
theorem y_namesGood (h : rD' dx n i a) {g : Nat} (hg : g ≤ 32) {x1 : Int32} (ex : x1 = nI g) (h1 : (∀ j, j < n → ¬ y_bad dx n g j) → g ≤ 4 → K 1 i l a b) (h0 : ¬ ((∀ j, j < n → ¬ y_bad dx n g j) ∧ g ≤ 4) → K 0 i l a b) : wp_Model_namesGood_0 i l a b x1 K := by
  unfold wp_Model_namesGood_0
  rw [ex]
  exact ⟨n + 1, y_ngL h hg h1 h0 (n + 1) 0 (by omega) (by omega) (fun j' hj' => by omega)⟩
theorem rN_neg {x : Option Nat} (h : ∀ k, x = some k → k < 2 ^ 31) : 0 ≤ rN x ↔ ¬ x = none := by
  cases x with
  | none => exact ⟨fun q => absurd q (by decide), fun q => absurd rfl q⟩
  | some k =>
    refine ⟨fun _ z => (by cases z), fun _ => ?_⟩
    have := (nI_leI (a := 0) (b := k) (by decide) (h k rfl)).mpr (Nat.zero_le _)
    exact this
theorem rD'_4 {f : Nat → Int32} (h : rD' dx n i a) : rD' dx n i (mm_ua a 4 f) := ⟨h.1, h.2.1, fun k hk => by rw [mu_n (by decide)]; exact h.2.2.1 k hk, h.2.2.2⟩
theorem y_msL : ∀ (f d k : Nat) (a : mm_a), rD' dx n i a → n + 1 ≤ k + f → k ≤ n → d ≤ 6 → (∀ a', (∀ t, ¬ t = 4 → a' t = a t) → K (y_ms dx n f d k (a 4)) i l a' b) → wl_Model_measure_0 K f i l a b (nI d) (nI k) := by
  intro f
  induction f with
  | zero => intro d k a h q1 q2; omega
  | succ f ih =>
    intro d k a h q1 q2 q3 hK
    have hn := h.1
    have hl := x_lt (n := n) (k := k) h.2.2.2
    have hop := y_op_le (dx := dx) (n := n) (k := k)
    show wt_Model_measure_0 (wl_Model_measure_0 K f) K i l a b (nI d) (nI k)
    unfold wt_Model_measure_0
    rw [h.2.1]
    rw [y_ms] at hK
    have hd8 : vp_in (nI d) 8 := vp_in_nI (by omega) (by decide)
    have hcd : (nI d).toNatClampNeg = d := nI_clamp (by omega)
    have self : ∀ x, (∀ a', (∀ t, ¬ t = 4 → a' t = a t) → K x i l a' b) → K x i l a b := fun x hx => hx a (fun _ _ => rfl)
    refine ⟨fun q => ?_, fun q => ?_⟩
    · have hq := (nI_leI (by omega) (by omega)).mp q
      rw [if_pos hq] at hK
      refine ⟨fun z => ?_, fun z => ⟨vp_in_nI (n := 0) (by decide) (by decide), ?_⟩⟩
      · rw [if_neg (fun w => z (by rw [w]; rfl))] at hK
        exact self _ hK
      · rw [if_pos ((x_is 0 rfl (by omega) (by decide)).mp z)] at hK
        exact self _ hK
    · have hq : k < n := by
        rcases Nat.lt_or_ge k n with y | y
        · exact y
        · exact absurd ((nI_leI (by omega) (by omega)).mpr y) q
      rw [if_neg (by omega)] at hK
      -- behind an atom
      have L132 : ∀ (d2 : Nat) (x : Int32) (e : Option Nat), d2 ≤ 6 → (∀ e', e = some e' → k + 1 ≤ e' ∧ e' ≤ n) → (∀ e', e = some e' → ∀ a', (∀ t, ¬ t = 4 → a' t = a t) → K (match y_br dx n e' with | none => -1 | some k2 => y_ms dx n f d2 k2 (upd (a 4) d2 (a 4 d2 + (if e' < k2 then y_sz dx n e' x else x)))) i l a' b) → (e = none → ∀ a', (∀ t, ¬ t = 4 → a' t = a t) → K (-1) i l a' b) → wq_Model_measure_0_132 (wl_Model_measure_0 K f) K i l a b (nI d2) x (rN e) := by
        intro d2 x e hd2 he h1 h0
        have hv : vp_in (nI d2) 8 := vp_in_nI (by omega) (by decide)
        have hc2 : (nI d2).toNatClampNeg = d2 := nI_clamp (by omega)
        unfold wq_Model_measure_0_132
        have hneg : 0 ≤ rN e ↔ ¬ e = none := rN_neg (fun k' hk' => by have := he k' hk'; omega)
        refine ⟨fun z => ?_, fun z => self _ (h0 (Classical.not_not.mp (fun w => z (hneg.mpr w))))⟩
        cases he2 : e with
        | none => exact absurd he2 (hneg.mp z)
        | some e' =>
          have hb := he e' he2
          have h1' := h1 e' he2
          refine y_repeat h (k := e') (by omega) rfl ?_
          have hneg2 : 0 ≤ rN (y_br dx n e') ↔ ¬ y_br dx n e' = none := rN_neg (fun k' hk' => by have := y_br_le hb.2 hk'; omega)
          refine ⟨fun w => ⟨hv, ?_⟩, fun w => ?_⟩
          · cases hr : y_br dx n e' with
            | none => exact absurd hr (hneg2.mp w)
            | some k2 =>
              rw [hr] at h1'
              have hk2 := y_br_le hb.2 hr
              rw [hc2]
              have fin : ∀ y : Int32, y = (if e' < k2 then y_sz dx n e' x else x) → vp_in (nI d2) 8 ∧ wl_Model_measure_0 K f i l (mm_ua a 4 (upd (a 4) d2 (a 4 d2 + y))) b (nI d2) (nI k2) := by
                intro y hy
                refine ⟨hv, ih d2 k2 _ (rD'_4 h) (by omega) hk2.2 hd2 (fun a' ha' => ?_)⟩
                rw [mu_s, hy]
                exact h1' a' (fun t ht => by rw [ha' t ht, mu_n ht])
              refine ⟨fun v => fin x ?_, fun v => ?_⟩
              · have := (nI_leI (a := k2) (b := e') (by omega) (by omega)).mp v
                rw [if_neg (by omega)]
              · have v1 : e' < k2 := by
                  rcases Nat.lt_or_ge e' k2 with y | y
                  · exact y
                  · exact absurd ((nI_leI (a := k2) (b := e') (by omega) (by omega)).mpr y) v
                refine y_sized h (k := e') (by omega) rfl (fin _ ?_)
                rw [if_pos v1]
          · cases hr : y_br dx n e' with
            | none =>
              rw [hr] at h1'
              exact self _ h1'
            | some k2 => exact absurd (hneg2.mpr (by rw [hr]; exact fun z => (by cases z))) w
      refine y_opener h (k := k) (by omega) rfl ⟨fun o => ?_, fun o => ?_⟩
      · have o1 : ¬ 0 < y_op dx n k := by have := (nI_leI (a := y_op dx n k) (b := 0) (by omega) (by decide)).mp o; omega
        rw [if_neg o1] at hK
        refine y_c h (k := k) (by omega) rfl ⟨fun r => ?_, fun r => ?_⟩
        · rw [if_neg (fun w => r (by rw [w]; rfl))] at hK
          refine y_c h (k := k) (by omega) rfl ⟨fun u => ?_, fun u => ?_⟩
          · have u1 : ¬ xt dx n k = 41 := fun w => u (by rw [w]; rfl)
            refine y_plain h hq rfl (L132 d 1 (y_bp dx n k) q3 (fun e' he' => y_bp_le he') (fun e' he' => ?_) (fun he' => ?_))
            · rw [y_at, if_neg u1, he'] at hK
              exact hK
            · rw [y_at, if_neg u1, he'] at hK
              exact hK
          · have u1 := (x_is 41 rfl (by omega) (by decide)).mp u
            refine ⟨fun z => ⟨hd8, ?_⟩, fun z => ?_⟩
            · have z1 : ¬ d = 0 := fun w => z (by rw [w]; rfl)
              rw [y_at, if_pos u1, if_neg z1] at hK
              rw [hcd, x_dec (by omega), nI_1]
              exact L132 (d - 1) (a 4 d + 2) (some (k + 1)) (by omega) (fun e' he' => by cases he'; omega) (fun e' he' => by cases he'; exact hK) (fun z => by cases z)
            · rw [y_at, if_pos u1, if_pos ((x_is 0 rfl (by omega) (by decide)).mp z)] at hK
              exact self _ hK
        · rw [if_pos ((x_is 124 rfl (by omega) (by decide)).mp r)] at hK
          rw [hcd, nI_1]
          refine ⟨hd8, hd8, ih d (k + 1) _ (rD'_4 h) (by omega) (by omega) q3 (fun a' ha' => ?_)⟩
          rw [mu_s]
          exact hK a' (fun t ht => by rw [ha' t ht, mu_n ht])
      · have o1 : 0 < y_op dx n k := by
          rcases Nat.eq_zero_or_pos (y_op dx n k) with z | z
          · exact absurd (by rw [z]; exact Int32.le_refl _) o
          · exact z
        rw [if_pos o1] at hK
        refine ⟨fun z => ?_, fun z => ?_⟩
        · have z1 : ¬ d = 6 := fun w => z (by rw [w]; rfl)
          rw [if_neg z1] at hK
          rw [nI_1, nI_clamp (by omega)]
          refine ⟨vp_in_nI (by omega) (by decide), ?_⟩
          refine y_opener (rD'_4 h) (k := k) (by omega) rfl ?_
          rw [nI_add]
          refine ih (d + 1) (k + y_op dx n k) _ (rD'_4 h) (by omega) (hop.2 o1) (by omega) (fun a' ha' => ?_)
          rw [mu_s]
          exact hK a' (fun t ht => by rw [ha' t ht, mu_n ht])
        · rw [if_pos ((x_is 6 rfl (by omega) (by decide)).mp z)] at hK
          exact self _ hK
theorem y_measure (h : rD' dx n i a) (hK : ∀ a', (∀ t, ¬ t = 4 → a' t = a t) → K (y_ms dx n (n + 1) 0 0 (upd (a 4) 0 0)) i l a' b) : wp_Model_measure_0 i l a b K := by
  unfold wp_Model_measure_0
  refine ⟨vp_in_nI (n := 0) (by decide) (by decide), n + 1, y_msL (n + 1) 0 0 _ (rD'_4 h) (by omega) (by omega) (by omega) (fun a' ha' => ?_)⟩
  rw [mu_s]
  exact hK a' (fun t ht => by rw [ha' t ht, mu_n ht])
end YM
