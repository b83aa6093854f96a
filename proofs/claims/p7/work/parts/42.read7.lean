/-! letters, signs, classes -/
def q_bt (x1 x2 : Int32) : Int32 := ((((2 : Int32) <<< ((x2 - x1) &&& 31)) - (1 : Int32)) <<< ((x1 - (97 : Int32)) &&& 31))
def q_let (x : Option Nat) : Option Nat := match x with
  | some c => if 97 ≤ c ∧ c ≤ 122 then some c else none
  | none => none
def q_sign (x : Option Nat) : Option (Nat × Int32) := match q_let x with
  | some c => some (0, q_bt (nI c) (nI c))
  | none => if x = some 36 then some (2, 0) else if x = some 46 then some (0, 67108863) else if x = some 94 then some (1, 0) else none
/-- a part of a class that begins with the letter c at p: its letters, where it ends, good -/
def q_prt (tx : Nat → Nat) (tl p c g : Nat) : Int32 × Nat × Nat :=
  if q_at tx tl (p + 1) = some 45 then (match q_let (q_at tx tl (p + 2)) with
    | some h => if c ≤ h then (q_bt (nI c) (nI h), p + 3, g) else (0, p + 3, 0)
    | none => (0, p + 3, 0))
  else (q_bt (nI c) (nI c), p + 1, g)
def q_cls (tx : Nat → Nat) (tl : Nat) : Nat → Nat → Int32 → Nat → Int32 × Nat × Nat
  | 0, p, z, g => (z, p, g)
  | n + 1, p, z, g => if g = 0 then (z, p, g) else match q_let (q_at tx tl p) with
    | some c => q_cls tx tl n (q_prt tx tl p c g).2.1 (z ||| (q_prt tx tl p c g).1) (q_prt tx tl p c g).2.2
    | none => (z, p, g)
theorem q_prt_g {tx : Nat → Nat} {tl p c g : Nat} (hg : g ≤ 1) : (q_prt tx tl p c g).2.2 ≤ 1 := by
  unfold q_prt
  split
  · split
    · split
      · exact hg
      · exact Nat.zero_le _
    · exact Nat.zero_le _
  · exact hg
theorem q_prt_p {tx : Nat → Nat} {tl p c g : Nat} : p + 1 ≤ (q_prt tx tl p c g).2.1 ∧ (q_prt tx tl p c g).2.1 ≤ p + 3 := by
  unfold q_prt
  split
  · split
    · split
      · exact ⟨by show p + 1 ≤ p + 3; omega, Nat.le_refl _⟩
      · exact ⟨by show p + 1 ≤ p + 3; omega, Nat.le_refl _⟩
    · exact ⟨by show p + 1 ≤ p + 3; omega, Nat.le_refl _⟩
  · exact ⟨Nat.le_refl _, by show p + 1 ≤ p + 3; omega⟩
theorem dg_le : ∀ c, c < 128 → ∀ h, h < 128 → (nI c ≤ nI h ↔ c ≤ h) := fun c hc h hh => nI_leI (by omega) (by omega)
def d_one (ap lv hn gd : Nat) (P : pg) (ni nr gr : Nat) (Lv : Nat → dL) (kd : Nat) (v : Int32) : dS :=
  (ap, lv, 1, hn, gd, d_put P ni kd v (Lv lv).2.1 (Lv lv).2.2.1, ni + 1, nr, gr, va_up Lv lv ((Lv lv).1, (Lv lv).2.1, some ni, (Lv lv).2.2.2))
section READ
variable {n1 n2 tl : Nat} {tx : Nat → Nat} {i : mm_i} {l : mm_j} {a : mm_a} {b : mm_b}
variable {ap lv hn gd ni nr gr : Nat} {az : Int32} {P : pg} {Lv : Nat → dL}
theorem d_islet {K : Int32 → mm_i → mm_j → mm_a → mm_b → Prop} (ht : ∀ j, tx j < 128) {p : Nat} (hN : q_let (q_at tx tl p) = none → K 0 i l a b) (hY : ∀ c, 97 ≤ c → c ≤ 122 → q_let (q_at tx tl p) = some c → q_at tx tl p = some c → K 1 i l a b) : wp_Bench_isLetter n1 n2 i l a b (rN (q_at tx tl p)) K := by
  unfold wp_Bench_isLetter
  cases hc : q_at tx tl p with
  | none => exact ⟨fun _ => hN (by rw [hc]; rfl), fun q => absurd (by decide) q⟩
  | some c =>
    have hlo := q_lo ht hc
    have e : rN (some c) = nI c := rfl
    rw [e]
    refine ⟨fun q => ?_, fun q => ⟨fun q2 => ?_, fun q2 => ?_⟩⟩
    · have hq := (dg_a c hlo).mp q
      exact hN (by rw [hc]; exact if_neg (by omega))
    · have hq := (dg_z c hlo).mp q2
      exact hN (by rw [hc]; exact if_neg (by omega))
    · have hq : ¬ c < 97 := fun z => q ((dg_a c hlo).mpr z)
      have hq2 : ¬ 122 < c := fun z => q2 ((dg_z c hlo).mpr z)
      exact hY c (by omega) (by omega) (by rw [hc]; exact if_pos (by omega)) hc
theorem d_sign {K : Int32 → mm_i → mm_j → mm_a → mm_b → Prop} (ht : ∀ j, tx j < 128) (h : rD tx tl (ap, lv, az, hn, gd, P, ni, nr, gr, Lv) i a) (hp : ap < 900) (hi : ni < 32) (hl : lv < 7) (hrow : (Lv lv).2.1 < nr) (hlast : ∀ k, (Lv lv).2.2.1 = some k → k < ni) (hN : q_sign (q_at tx tl ap) = none → ∀ i', rD tx tl (ap + 1, lv, az, hn, 0, P, ni, nr, gr, Lv) i' a → rW i a i' a → K (-1) i' l a b) (hY : ∀ kd v, q_sign (q_at tx tl ap) = some (kd, v) → ∀ i' a', rD tx tl (d_one (ap + 1) lv hn gd P ni nr gr Lv kd v) i' a' → rW i a i' a' → K (nI ni) i' l a' b) : wp_Reader_readSign_1 n1 n2 i l a b K := by
  unfold wp_Reader_readSign_1
  have e23 : i 23 = nI ap := h.2.1
  have r1 := rD_at h (ap + 1) (x := i 23 + 1) (by rw [e23, nI_1])
  refine d_ahead0 h (by omega) ?_
  unfold q_sign at hN hY
  refine d_islet ht (fun q => ⟨fun _ => ⟨fun q1 => ?_, fun q1 => ⟨fun q2 => ?_, fun q2 => ⟨fun q3 => ?_, fun q3 => ?_⟩⟩⟩, fun z => absurd rfl z⟩) (fun c c1 c2 q qc => ⟨fun z => absurd z (by decide), fun _ => ?_⟩)
  · rw [q] at hY
    exact d_app r1 hi hl hrow hlast (by decide) rfl (fun i' a' r w => hY 2 0 (if_pos ((q_is ht (by decide)).mp q1)) i' a' r (rW_tr rW_at w))
  · rw [q] at hY
    exact d_app r1 hi hl hrow hlast (by decide) rfl (fun i' a' r w => hY 0 67108863 ((if_neg (fun z => q1 ((q_is ht (by decide)).mpr z))).trans (if_pos ((q_is ht (by decide)).mp q2))) i' a' r (rW_tr rW_at w))
  · rw [q] at hY
    exact d_app r1 hi hl hrow hlast (by decide) rfl (fun i' a' r w => hY 1 0 ((if_neg (fun z => q1 ((q_is ht (by decide)).mpr z))).trans ((if_neg (fun z => q2 ((q_is ht (by decide)).mpr z))).trans (if_pos ((q_is ht (by decide)).mp q3)))) i' a' r (rW_tr rW_at w))
  · rw [q] at hN
    exact d_refuse r1 (fun i' r w => hN ((if_neg (fun z => q1 ((q_is ht (by decide)).mpr z))).trans ((if_neg (fun z => q2 ((q_is ht (by decide)).mpr z))).trans (if_neg (fun z => q3 ((q_is ht (by decide)).mpr z))))) i' r (rW_tr rW_at w))
  · rw [q] at hY
    unfold wp_Reader_lettersBetween
    rw [qc]
    exact d_app r1 hi hl hrow hlast (by decide) rfl (fun i' a' r w => hY 0 _ rfl i' a' r (rW_tr rW_at w))
theorem d_cpart {K : Int32 → mm_i → mm_j → mm_a → mm_b → Prop} (ht : ∀ j, tx j < 128) (h : rD tx tl (ap, lv, az, hn, gd, P, ni, nr, gr, Lv) i a) (hp : ap < 900) {c : Nat} (hc : q_at tx tl ap = some c) (hK : ∀ i', rD tx tl ((q_prt tx tl ap c gd).2.1, lv, az, hn, (q_prt tx tl ap c gd).2.2, P, ni, nr, gr, Lv) i' a → rW i a i' a → K (q_prt tx tl ap c gd).1 i' l a b) : wp_Reader_readClassPart_1 n1 n2 i l a b K := by
  unfold wp_Reader_readClassPart_1
  have e23 : i 23 = nI ap := h.2.1
  have hlo := q_lo ht hc
  refine d_ahead0 h (by omega) ?_
  rw [hc, show rN (some c) = nI c from rfl]
  unfold q_prt at hK
  refine d_ahead h (by omega) (d := 1) (by decide) rfl ⟨fun q => ?_, fun q => ?_⟩
  · rw [if_pos ((q_is ht (by decide)).mp q)] at hK
    refine d_ahead h (by omega) (d := 2) (by decide) rfl ?_
    have r1 := rD_at h (ap + 3) (x := i 23 + 3) (by rw [e23]; exact nI_add ap 3)
    refine d_islet ht (fun q2 => ⟨fun _ => ?_, fun z => absurd rfl z⟩) (fun d d1 d2 q2 qd => ⟨fun z => absurd z (by decide), fun _ => ?_⟩)
    · rw [q2] at hK
      exact hK _ (rD_gd r1) (rW_tr rW_at rW_gd)
    · rw [q2] at hK
      rw [qd, show rN (some d) = nI d from rfl]
      refine ⟨fun q3 => ?_, fun q3 => ?_⟩
      · have q3 := (dg_le c hlo d (by omega)).mp q3
        have hK : ∀ i', rD tx tl (ap + 3, lv, az, hn, gd, P, ni, nr, gr, Lv) i' a → rW i a i' a → K (q_bt (nI c) (nI d)) i' l a b := by
          have e : (if c ≤ d then (q_bt (nI c) (nI d), ap + 3, gd) else (0, ap + 3, 0)) = (q_bt (nI c) (nI d), ap + 3, gd) := if_pos q3
          have hK := hK
          simp only [e] at hK
          exact hK
        exact hK _ r1 rW_at
      · have q3 : ¬ c ≤ d := fun z => q3 ((dg_le c hlo d (by omega)).mpr z)
        have hK : ∀ i', rD tx tl (ap + 3, lv, az, hn, 0, P, ni, nr, gr, Lv) i' a → rW i a i' a → K 0 i' l a b := by
          have e : (if c ≤ d then (q_bt (nI c) (nI d), ap + 3, gd) else (0, ap + 3, 0)) = (0, ap + 3, 0) := if_neg q3
          have hK := hK
          simp only [e] at hK
          exact hK
        exact hK _ (rD_gd r1) (rW_tr rW_at rW_gd)
  · rw [if_neg (fun z => q ((q_is ht (by decide)).mpr z))] at hK
    exact hK _ (rD_at h (ap + 1) (x := i 23 + 1) (by rw [e23, nI_1])) rW_at
end READ
