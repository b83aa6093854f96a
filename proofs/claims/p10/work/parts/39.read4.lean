/-! signs of the pattern -/
theorem rN_is {x : Option Nat} (h : ∀ k, x = some k → k < 2 ^ 31) {c : Nat} (hc : c < 2 ^ 31) : rN x = nI c ↔ x = some c := by
  cases x with
  | none => exact ⟨fun q => absurd q (fun q => by have h2 := congrArg Int32.toInt q; rw [nI_toInt hc] at h2; have h3 : (rN none).toInt = -1 := rfl; omega), fun q => absurd q (by simp)⟩
  | some k => exact ⟨fun q => by rw [(nI_eq (h k rfl) hc).mp q], fun q => by rw [q]; rfl⟩
theorem q_lo {tx : Nat → Nat} {tl p k : Nat} (ht : ∀ j, tx j < 128) (h : q_at tx tl p = some k) : k < 128 := by
  unfold q_at at h
  split at h
  · cases h; exact ht p
  · cases h
theorem dg_1 : ∀ c, c < 128 → (nI c - (48 : Int32) < (1 : Int32) ↔ c < 49) := by decide +kernel
theorem dg_4 : ∀ c, c < 128 → (nI c - (48 : Int32) ≤ (4 : Int32) ↔ c < 53) := by decide +kernel
theorem dg_5 : ∀ c, c < 128 → ((4 : Int32) < nI c - (48 : Int32) ↔ 52 < c) := by decide +kernel
theorem dg_s : ∀ c, c < 10 → nI (48 + c) - (48 : Int32) = nI c := by decide +kernel
theorem dg_a : ∀ c, c < 128 → (nI c < (97 : Int32) ↔ c < 97) := by decide +kernel
theorem dg_z : ∀ c, c < 128 → ((122 : Int32) < nI c ↔ 122 < c) := by decide +kernel
theorem dg_m : ∀ h, h < 5 → ∀ g, g < 5 → (if nI h < nI g then nI g else nI h) = nI (max h g) := by decide +kernel
def q_kind (tx : Nat → Nat) (tl p : Nat) : Option Nat := if q_at tx tl (p + 1) = some 63 then (if q_at tx tl (p + 2) = some 33 then some 8 else if q_at tx tl (p + 2) = some 58 then some 6 else if q_at tx tl (p + 2) = some 61 then some 7 else if q_at tx tl (p + 2) = some 62 then some 9 else none) else some 5
section READ
variable {n1 n2 tl : Nat} {tx : Nat → Nat} {i : mm_i} {l : mm_j} {a : mm_a} {b : mm_b}
variable {ap lv hn gd ni nr gr : Nat} {az : Int32} {P : pg} {Lv : Nat → dL}
theorem q_is (ht : ∀ j, tx j < 128) {p c : Nat} (hc : c < 128) : rN (q_at tx tl p) = nI c ↔ q_at tx tl p = some c := rN_is (fun k hk => by have := q_lo ht hk; omega) (by omega)
theorem rD_at (h : rD tx tl (ap, lv, az, hn, gd, P, ni, nr, gr, Lv) i a) (ap' : Nat) {x : Int32} (e : x = nI ap') : rD tx tl (ap', lv, az, hn, gd, P, ni, nr, gr, Lv) (upd i 23 x) a := by
  obtain ⟨s, h1, h2, h3, h4, h5, h6, h7, h8, h9, h10⟩ := h
  exact ⟨s, e, h2, h3, h4, h5, h6, h7, h8, h9, h10⟩
theorem rD_hn (h : rD tx tl (ap, lv, az, hn, gd, P, ni, nr, gr, Lv) i a) (hn' : Nat) {x : Int32} (e : x = nI hn') : rD tx tl (ap, lv, az, hn', gd, P, ni, nr, gr, Lv) (upd i 25 x) a := by
  obtain ⟨s, h1, h2, h3, h4, h5, h6, h7, h8, h9, h10⟩ := h
  exact ⟨s, h1, h2, h3, e, h5, h6, h7, h8, h9, h10⟩
theorem rW_at {x : Int32} : rW i a (upd i 23 x) a := ⟨fun k hk => ud_n (by omega), fun _ _ => rfl⟩
theorem rW_hn {x : Int32} : rW i a (upd i 25 x) a := ⟨fun k hk => ud_n (by omega), fun _ _ => rfl⟩
theorem d_kind {K : Int32 → mm_i → mm_j → mm_a → mm_b → Prop} (ht : ∀ j, tx j < 128) (h : rD tx tl (ap, lv, az, hn, gd, P, ni, nr, gr, Lv) i a) (hp : ap < 1000) (hK : K (rN (q_kind tx tl ap)) i l a b) : wp_Reader_kindOfChoice_1 n1 n2 i l a b K := by
  unfold wp_Reader_kindOfChoice_1
  unfold q_kind at hK
  refine d_ahead h hp (d := 1) (by decide) rfl ⟨fun q => ?_, fun q => ?_⟩
  · rw [if_pos ((q_is ht (by decide)).mp q)] at hK
    refine d_ahead h hp (d := 2) (by decide) rfl ⟨fun q => ?_, fun q => ⟨fun q2 => ?_, fun q2 => ⟨fun q3 => ?_, fun q3 => ⟨fun q4 => ?_, fun q4 => ?_⟩⟩⟩⟩
    · rw [if_pos ((q_is ht (by decide)).mp q)] at hK
      exact hK
    · rw [if_neg (fun z => q ((q_is ht (by decide)).mpr z)), if_pos ((q_is ht (by decide)).mp q2)] at hK
      exact hK
    · rw [if_neg (fun z => q ((q_is ht (by decide)).mpr z)), if_neg (fun z => q2 ((q_is ht (by decide)).mpr z)), if_pos ((q_is ht (by decide)).mp q3)] at hK
      exact hK
    · rw [if_neg (fun z => q ((q_is ht (by decide)).mpr z)), if_neg (fun z => q2 ((q_is ht (by decide)).mpr z)), if_neg (fun z => q3 ((q_is ht (by decide)).mpr z)), if_pos ((q_is ht (by decide)).mp q4)] at hK
      exact hK
    · rw [if_neg (fun z => q ((q_is ht (by decide)).mpr z)), if_neg (fun z => q2 ((q_is ht (by decide)).mpr z)), if_neg (fun z => q3 ((q_is ht (by decide)).mpr z)), if_neg (fun z => q4 ((q_is ht (by decide)).mpr z))] at hK
      exact hK
  · rw [if_neg (fun z => q ((q_is ht (by decide)).mpr z))] at hK
    exact hK
/-- ')' -/
theorem d_close {K : Int32 → mm_i → mm_j → mm_a → mm_b → Prop} (h : rD tx tl (ap, lv, az, hn, gd, P, ni, nr, gr, Lv) i a) (hl : lv < 7) (hN : lv = 0 → ∀ i', rD tx tl (ap, lv, az, hn, 0, P, ni, nr, gr, Lv) i' a → rW i a i' a → K (-1) i' l a b) (hK : 0 < lv → ∀ i', rD tx tl (ap + 1, lv - 1, (Lv lv).2.2.2 + 2, hn, gd, P, ni, nr, gr, Lv) i' a → rW i a i' a → K (rN (Lv lv).1) i' l a b) : wp_Reader_closeChoice_1 n1 n2 i l a b K := by
  have h0 := h
  obtain ⟨s, h1, h2, h3, h4, h5, h6, h7, h8, h9, h10⟩ := h
  unfold wp_Reader_closeChoice_1
  have h2 : i 22 = nI lv := h2
  have h1 : i 23 = nI ap := h1
  refine ⟨fun q => ?_, fun q => ?_⟩
  · have hpos : 0 < lv := by
      rcases Nat.eq_zero_or_pos lv with z | z
      · exact absurd (by rw [h2, z]; rfl) q
      · exact z
    obtain ⟨g15, g16, g17, g18⟩ := h10 lv (Nat.le_refl _)
    have hv : vp_in (i 22) 7 := by rw [h2]; exact vp_in_nI hl (by decide)
    have e1 : i 22 - (1 : Int32) = nI (lv - 1) := by
      rw [h2]
      have z : nI lv = nI (lv - 1) + 1 := by rw [nI_1]; congr 1; omega
      rw [z, Int32.add_sub_cancel]
    rw [e1, h2, nI_clamp (by omega), h1, nI_1, g15, g18]
    rw [h2] at hv
    refine ⟨hv, hv, hK hpos _ ⟨s, rfl, rfl, rfl, h4, h5, h6, h7, h8, h9, fun k hk => h10 k (by have : k ≤ lv - 1 := hk; show k ≤ lv; omega)⟩ ⟨fun k hk => ?_, fun _ _ => rfl⟩⟩
    rw [ud_n (by omega), ud_n (by omega), ud_n (by omega)]
  · have hz : lv = 0 := by rw [h2] at q; exact (nI_eq (by omega) (by decide)).mp q
    exact d_refuse h0 (hN hz)
/-- '(?0)' .. -/
theorem d_call {K : Int32 → mm_i → mm_j → mm_a → mm_b → Prop} (ht : ∀ j, tx j < 128) (h : rD tx tl (ap, lv, az, hn, gd, P, ni, nr, gr, Lv) i a) (hp : ap < 900) (hhn : hn ≤ 4) (hi : ni < 32) (hl : lv < 7) (hrow : (Lv lv).2.1 < nr) (hlast : ∀ k, (Lv lv).2.2.1 = some k → k < ni) {g : Nat} (hg : g ≤ 9) (hd : q_at tx tl (ap + 2) = some (48 + g)) (hN : ¬ (g ≤ 4 ∧ q_at tx tl (ap + 3) = some 41) → ∀ i', rD tx tl (ap, lv, az, hn, 0, P, ni, nr, gr, Lv) i' a → rW i a i' a → K (-1) i' l a b) (hK : g ≤ 4 → q_at tx tl (ap + 3) = some 41 → ∀ i' a', rD tx tl (ap + 4, lv, 1, max hn g, gd, d_put P ni 4 (nI g) (Lv lv).2.1 (Lv lv).2.2.1, ni + 1, nr, gr, va_up Lv lv ((Lv lv).1, (Lv lv).2.1, some ni, (Lv lv).2.2.2)) i' a' → rW i a i' a' → K (nI ni) i' l a' b) : wp_Reader_readCall_1 n1 n2 i l a b K := by
  unfold wp_Reader_readCall_1
  refine d_ahead h (by omega) (d := 2) (by decide) rfl ?_
  rw [hd]
  have e : rN (some (48 + g)) = nI (48 + g) := rfl
  rw [e]
  refine ⟨fun q => ?_, fun q => ?_⟩
  · have hq := (dg_5 _ (by omega)).mp q
    exact d_refuse h (hN (by omega))
  · have hq : g ≤ 4 := by
      rcases Nat.lt_or_ge 4 g with z | z
      · exact absurd ((dg_5 _ (by omega)).mpr (by omega)) q
      · exact z
    rw [dg_s g (by omega)]
    refine d_ahead h (by omega) (d := 3) (by decide) rfl ⟨fun q3 => ?_, fun q3 => ?_⟩
    · have q3 := (q_is ht (by decide)).mp q3
      have e25 : i 25 = nI hn := h.2.2.2.2.1
      have e23 : i 23 = nI ap := h.2.1
      rw [e25, dg_m hn (by omega) g (by omega)]
      have r1 := rD_at (rD_hn h (max hn g) rfl) (ap + 4) (x := i 23 + 4) (by rw [e23]; exact nI_add ap 4)
      exact d_app r1 hi hl hrow hlast (by decide) rfl (fun i' a' r w => hK hq q3 i' a' r (rW_tr (rW_tr rW_hn rW_at) w))
    · exact d_refuse h (hN (fun z => q3 ((q_is ht (by decide)).mpr z.2)))
/-- a backslash and a digit -/
theorem d_ref {K : Int32 → mm_i → mm_j → mm_a → mm_b → Prop} (ht : ∀ j, tx j < 128) (h : rD tx tl (ap, lv, az, hn, gd, P, ni, nr, gr, Lv) i a) (hp : ap < 900) (hhn : hn ≤ 4) (hi : ni < 32) (hl : lv < 7) (hrow : (Lv lv).2.1 < nr) (hlast : ∀ k, (Lv lv).2.2.1 = some k → k < ni) (hN : (∀ g, 1 ≤ g → g ≤ 4 → ¬ q_at tx tl (ap + 1) = some (48 + g)) → ∀ i', rD tx tl (ap, lv, az, hn, 0, P, ni, nr, gr, Lv) i' a → rW i a i' a → K (-1) i' l a b) (hK : ∀ g, 1 ≤ g → g ≤ 4 → q_at tx tl (ap + 1) = some (48 + g) → ∀ i' a', rD tx tl (ap + 2, lv, 1, max hn g, gd, d_put P ni 3 (nI g) (Lv lv).2.1 (Lv lv).2.2.1, ni + 1, nr, gr, va_up Lv lv ((Lv lv).1, (Lv lv).2.1, some ni, (Lv lv).2.2.2)) i' a' → rW i a i' a' → K (nI ni) i' l a' b) : wp_Reader_readReference_1 n1 n2 i l a b K := by
  unfold wp_Reader_readReference_1
  refine d_ahead h (by omega) (d := 1) (by decide) rfl ?_
  cases hc : q_at tx tl (ap + 1) with
  | none => exact ⟨fun _ => d_refuse h (hN (fun g _ _ z => by rw [hc] at z; cases z)), fun q => absurd (by decide) q⟩
  | some c =>
    have hlo := q_lo ht hc
    have e : rN (some c) = nI c := rfl
    rw [e]
    refine ⟨fun q => ?_, fun q => ⟨fun q2 => ?_, fun q2 => ?_⟩⟩
    · have hq := (dg_1 c hlo).mp q
      exact d_refuse h (hN (fun g g1 g2 z => by rw [hc] at z; injection z with z; omega))
    · have hq2 := (dg_4 c hlo).mp q2
      have hq : 49 ≤ c := by
        rcases Nat.lt_or_ge c 49 with z | z
        · exact absurd ((dg_1 c hlo).mpr z) q
        · exact z
      obtain ⟨g, rfl⟩ : ∃ g, c = 48 + g := ⟨c - 48, by omega⟩
      rw [dg_s g (by omega)]
      have e25 : i 25 = nI hn := h.2.2.2.2.1
      have e23 : i 23 = nI ap := h.2.1
      rw [e25, dg_m hn (by omega) g (by omega)]
      have r1 := rD_at (rD_hn h (max hn g) rfl) (ap + 2) (x := i 23 + 2) (by rw [e23]; exact nI_add ap 2)
      exact d_app r1 hi hl hrow hlast (by decide) rfl (fun i' a' r w => hK g (by omega) (by omega) hc i' a' r (rW_tr (rW_tr rW_hn rW_at) w))
    · have hq2 : 53 ≤ c := by
        rcases Nat.lt_or_ge c 53 with z | z
        · exact absurd ((dg_4 c hlo).mpr z) q2
        · exact z
      exact d_refuse h (hN (fun g g1 g2 z => by rw [hc] at z; injection z with z; omega))
end READ
