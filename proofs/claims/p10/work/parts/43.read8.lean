section READ
variable {n1 n2 tl : Nat} {tx : Nat → Nat} {i : mm_i} {l : mm_j} {a : mm_a} {b : mm_b}
variable {ap lv hn gd ni nr gr : Nat} {az : Int32} {P : pg} {Lv : Nat → dL}
theorem nI_z {n : Nat} (h : n < 2 ^ 31) : nI n = 0 ↔ n = 0 := nI_eq h (by decide)
/-- after the letters of a class -/
theorem d_clsE {K : Int32 → mm_i → mm_j → mm_a → mm_b → Prop} (ht : ∀ j, tx j < 128) (h : rD tx tl (ap, lv, az, hn, gd, P, ni, nr, gr, Lv) i a) (hp : ap < 900) (hi : ni < 32) (hl : lv < 7) (hrow : (Lv lv).2.1 < nr) (hlast : ∀ k, (Lv lv).2.2.1 = some k → k < ni) {z1 z2 : Int32} (hN : (z2 = 0 ∨ ¬ q_at tx tl ap = some 93) → ∀ i', rD tx tl (ap, lv, az, hn, 0, P, ni, nr, gr, Lv) i' a → rW i a i' a → K (-1) i' l a b) (hY : ¬ (z2 = 0 ∨ ¬ q_at tx tl ap = some 93) → ∀ i' a', rD tx tl (d_one (ap + 1) lv hn gd P ni nr gr Lv 0 (if z1 = 0 then z2 else (67108863 : Int32) &&& (z2 ^^^ (-1)))) i' a' → rW i a i' a' → K (nI ni) i' l a' b) : (z2 = 0 → wp_Reader_refuse_1 n1 n2 i l a b (fun r1 i1 l1 a1 b1 => K r1 i1 l1 a1 b1)) ∧ (¬ z2 = 0 → wp_Reader_ahead_1 n1 n2 i l a b 0 (fun r2 i2 l2 a2 b2 => (r2 = (93 : Int32) → (z1 = 0 → wp_Reader_appendItem_1 n1 n2 (upd i2 23 ((i2 23) + (1 : Int32))) l2 a2 b2 0 z2 (fun r3 i3 l3 a3 b3 => K r3 i3 l3 a3 b3)) ∧ (¬ z1 = 0 → wp_Reader_appendItem_1 n1 n2 (upd i2 23 ((i2 23) + (1 : Int32))) l2 a2 b2 0 ((67108863 : Int32) &&& (z2 ^^^ ((-1) : Int32))) (fun r4 i4 l4 a4 b4 => K r4 i4 l4 a4 b4))) ∧ (¬ r2 = (93 : Int32) → wp_Reader_refuse_1 n1 n2 i2 l2 a2 b2 (fun r5 i5 l5 a5 b5 => K r5 i5 l5 a5 b5)))) := by
  have e23 : i 23 = nI ap := h.2.1
  have r1 := rD_at h (ap + 1) (x := i 23 + 1) (by rw [e23, nI_1])
  refine ⟨fun q => d_refuse h (hN (Or.inl q)), fun q => d_ahead0 h (by omega) ⟨fun q2 => ⟨fun q3 => ?_, fun q3 => ?_⟩, fun q2 => ?_⟩⟩
  · have q2 := (q_is ht (by decide)).mp q2
    rw [if_pos q3] at hY
    exact d_app r1 hi hl hrow hlast (by decide) rfl (fun i' a' r w => hY (fun z => z.elim q (fun y => y q2)) i' a' r (rW_tr rW_at w))
  · have q2 := (q_is ht (by decide)).mp q2
    rw [if_neg q3] at hY
    exact d_app r1 hi hl hrow hlast (by decide) rfl (fun i' a' r w => hY (fun z => z.elim q (fun y => y q2)) i' a' r (rW_tr rW_at w))
  · exact d_refuse h (hN (Or.inr (fun z => q2 ((q_is ht (by decide)).mpr z))))
theorem d_clsL {K : Int32 → mm_i → mm_j → mm_a → mm_b → Prop} (ht : ∀ j, tx j < 128) (hi : ni < 32) (hl : lv < 7) (hrow : (Lv lv).2.1 < nr) (hlast : ∀ k, (Lv lv).2.2.1 = some k → k < ni) {z1 : Int32} {i0 : mm_i} : ∀ (n t ap gd : Nat) (z2 : Int32) (i : mm_i), n + t = 32 → ap ≤ 100 + 3 * t → gd ≤ 1 → rD tx tl (ap, lv, az, hn, gd, P, ni, nr, gr, Lv) i a → rW i0 a i a → (((q_cls tx tl n ap z2 gd).1 = 0 ∨ ¬ q_at tx tl (q_cls tx tl n ap z2 gd).2.1 = some 93) → ∀ i', rD tx tl ((q_cls tx tl n ap z2 gd).2.1, lv, az, hn, 0, P, ni, nr, gr, Lv) i' a → rW i0 a i' a → K (-1) i' l a b) → (¬ ((q_cls tx tl n ap z2 gd).1 = 0 ∨ ¬ q_at tx tl (q_cls tx tl n ap z2 gd).2.1 = some 93) → ∀ i' a', rD tx tl (d_one ((q_cls tx tl n ap z2 gd).2.1 + 1) lv hn (q_cls tx tl n ap z2 gd).2.2 P ni nr gr Lv 0 (if z1 = 0 then (q_cls tx tl n ap z2 gd).1 else (67108863 : Int32) &&& ((q_cls tx tl n ap z2 gd).1 ^^^ (-1)))) i' a' → rW i0 a i' a' → K (nI ni) i' l a' b) → wl_Reader_readClass_1 n1 n2 K (n + 1) i l a b z1 z2 (nI t) := by
  intro n
  induction n with
  | zero =>
    intro t ap gd z2 i hnt hap hgd h w hN hY
    have et : t = 32 := by omega
    subst et
    refine ⟨fun _ => ?_, fun q => absurd (by decide) q⟩
    exact d_clsE ht h (by omega) hi hl hrow hlast (fun q i' r w' => hN q i' r (rW_tr w w')) (fun q i' a' r w' => hY q i' a' r (rW_tr w w'))
  | succ n ih =>
    intro t ap gd z2 i hnt hap hgd h w hN hY
    have e26 : i 26 = nI gd := h.2.2.2.2.2.1
    refine ⟨fun q => absurd ((nI_leI (a := 32) (by decide) (by omega)).mp q) (by omega), fun _ => ⟨fun q => ?_, fun q => ?_⟩⟩
    · have hz : gd = 0 := (nI_z (by omega)).mp (e26 ▸ q)
      have e : q_cls tx tl (n + 1) ap z2 gd = (z2, ap, gd) := by rw [q_cls, if_pos hz]
      rw [e] at hN hY
      exact d_clsE ht h (by omega) hi hl hrow hlast (fun q i' r w' => hN q i' r (rW_tr w w')) (fun q i' a' r w' => hY q i' a' r (rW_tr w w'))
    · have hz : ¬ gd = 0 := fun y => q (by rw [e26, y]; rfl)
      refine d_ahead0 h (by omega) ?_
      refine d_islet ht (fun q2 => ⟨fun _ => ?_, fun z => absurd rfl z⟩) (fun c c1 c2 q2 qc => ⟨fun z => absurd z (by decide), fun _ => ?_⟩)
      · have e : q_cls tx tl (n + 1) ap z2 gd = (z2, ap, gd) := by rw [q_cls, if_neg hz, q2]
        rw [e] at hN hY
        exact d_clsE ht h (by omega) hi hl hrow hlast (fun q i' r w' => hN q i' r (rW_tr w w')) (fun q i' a' r w' => hY q i' a' r (rW_tr w w'))
      · have e : q_cls tx tl (n + 1) ap z2 gd = q_cls tx tl n (q_prt tx tl ap c gd).2.1 (z2 ||| (q_prt tx tl ap c gd).1) (q_prt tx tl ap c gd).2.2 := by rw [q_cls, if_neg hz, q2]
        rw [e] at hN hY
        refine d_cpart ht h (by omega) qc (fun i' r w' => ?_)
        rw [nI_1]
        have hp := q_prt_p (tx := tx) (tl := tl) (p := ap) (c := c) (g := gd)
        exact ih (t + 1) _ _ _ i' (by omega) (by omega) (q_prt_g hgd) r (rW_tr w w') hN hY
/-- a class: its first place behind '[' and '^' -/
def q_inv (tx : Nat → Nat) (tl p : Nat) : Int32 × Nat := if q_at tx tl (p + 1) = some 94 then (1, p + 2) else (0, p + 1)
def q_class (tx : Nat → Nat) (tl p g : Nat) : Int32 × Nat × Nat := q_cls tx tl 32 (q_inv tx tl p).2 0 g
theorem d_class {K : Int32 → mm_i → mm_j → mm_a → mm_b → Prop} (ht : ∀ j, tx j < 128) (h : rD tx tl (ap, lv, az, hn, gd, P, ni, nr, gr, Lv) i a) (hp : ap ≤ 90) (hgd : gd ≤ 1) (hi : ni < 32) (hl : lv < 7) (hrow : (Lv lv).2.1 < nr) (hlast : ∀ k, (Lv lv).2.2.1 = some k → k < ni) (hN : ((q_class tx tl ap gd).1 = 0 ∨ ¬ q_at tx tl (q_class tx tl ap gd).2.1 = some 93) → ∀ i', rD tx tl ((q_class tx tl ap gd).2.1, lv, az, hn, 0, P, ni, nr, gr, Lv) i' a → rW i a i' a → K (-1) i' l a b) (hY : ¬ ((q_class tx tl ap gd).1 = 0 ∨ ¬ q_at tx tl (q_class tx tl ap gd).2.1 = some 93) → ∀ i' a', rD tx tl (d_one ((q_class tx tl ap gd).2.1 + 1) lv hn (q_class tx tl ap gd).2.2 P ni nr gr Lv 0 (if (q_inv tx tl ap).1 = 0 then (q_class tx tl ap gd).1 else (67108863 : Int32) &&& ((q_class tx tl ap gd).1 ^^^ (-1)))) i' a' → rW i a i' a' → K (nI ni) i' l a' b) : wp_Reader_readClass_1 n1 n2 i l a b K := by
  unfold wp_Reader_readClass_1
  have e23 : i 23 = nI ap := h.2.1
  unfold q_class at hN hY
  refine d_ahead h (by omega) (d := 1) (by decide) rfl ⟨fun q => ⟨33, ?_⟩, fun q => ⟨33, ?_⟩⟩
  · have e : q_inv tx tl ap = (0, ap + 1) := if_neg (fun z => q ((q_is ht (by decide)).mpr z))
    rw [e] at hN hY
    exact d_clsL ht hi hl hrow hlast 32 0 (ap + 1) gd 0 _ rfl (by omega) hgd (rD_at h (ap + 1) (x := i 23 + 1) (by rw [e23, nI_1])) rW_at hN hY
  · have e : q_inv tx tl ap = (1, ap + 2) := if_pos ((q_is ht (by decide)).mp q)
    rw [e] at hN hY
    exact d_clsL ht hi hl hrow hlast 32 0 (ap + 2) gd 0 _ rfl (by omega) hgd (rD_at h (ap + 2) (x := i 23 + 2) (by rw [e23]; exact nI_add ap 2)) rW_at hN hY
end READ
