/-! a part of the pattern -/
def d_bad (d : dS) (p : Nat) : dS := (p, d.2.1, d.2.2.1, d.2.2.2.1, 0, d.2.2.2.2.2)
def d_one' (d : dS) (p hn gd kd : Nat) (v : Int32) : dS := d_one p d.2.1 hn gd d.2.2.2.2.2.1 d.2.2.2.2.2.2.1 d.2.2.2.2.2.2.2.1 d.2.2.2.2.2.2.2.2.1 d.2.2.2.2.2.2.2.2.2 kd v
def d_pCall (tx : Nat → Nat) (tl : Nat) (d : dS) (g : Nat) : Option Nat × dS :=
  if g ≤ 4 ∧ q_at tx tl (d.1 + 3) = some 41 then (some d.2.2.2.2.2.2.1, d_one' d (d.1 + 4) (max d.2.2.2.1 g) d.2.2.2.2.1 4 (nI g)) else (none, d_bad d d.1)
def d_pOpen (tx : Nat → Nat) (tl : Nat) (d : dS) : Option Nat × dS := match q_kind tx tl d.1 with
  | none => (none, d_bad d d.1)
  | some kd => if 6 ≤ d.2.1 ∨ (kd = 5 ∧ 4 ≤ d.2.2.2.2.2.2.2.2.1) then (none, d_bad d d.1) else (none, d_opn d.1 d.2.1 d.2.2.2.1 d.2.2.2.2.1 d.2.2.2.2.2.1 d.2.2.2.2.2.2.1 d.2.2.2.2.2.2.2.1 d.2.2.2.2.2.2.2.2.1 d.2.2.2.2.2.2.2.2.2 kd)
def d_pClose (d : dS) : Option Nat × dS :=
  if d.2.1 = 0 then (none, d_bad d d.1) else ((d.2.2.2.2.2.2.2.2.2 d.2.1).1, (d.1 + 1, d.2.1 - 1, (d.2.2.2.2.2.2.2.2.2 d.2.1).2.2.2 + 2, d.2.2.2))
def d_pClass (tx : Nat → Nat) (tl : Nat) (d : dS) : Option Nat × dS :=
  if (q_class tx tl d.1 d.2.2.2.2.1).1 = 0 ∨ ¬ q_at tx tl (q_class tx tl d.1 d.2.2.2.2.1).2.1 = some 93 then (none, d_bad d (q_class tx tl d.1 d.2.2.2.2.1).2.1)
  else (some d.2.2.2.2.2.2.1, d_one' d ((q_class tx tl d.1 d.2.2.2.2.1).2.1 + 1) d.2.2.2.1 (q_class tx tl d.1 d.2.2.2.2.1).2.2 0 (if (q_inv tx tl d.1).1 = 0 then (q_class tx tl d.1 d.2.2.2.2.1).1 else (67108863 : Int32) &&& ((q_class tx tl d.1 d.2.2.2.2.1).1 ^^^ (-1))))
def d_pRef (tx : Nat → Nat) (tl : Nat) (d : dS) : Option Nat × dS := match q_dig (q_at tx tl (d.1 + 1)) with
  | some g => if 1 ≤ g ∧ g ≤ 4 then (some d.2.2.2.2.2.2.1, d_one' d (d.1 + 2) (max d.2.2.2.1 g) d.2.2.2.2.1 3 (nI g)) else (none, d_bad d d.1)
  | none => (none, d_bad d d.1)
def d_pBar (d : dS) : dS := (d.1 + 1, d.2.1, d.2.2.1, d.2.2.2.1, d.2.2.2.2.1, P_nr (P_row d.2.2.2.2.2.1 d.2.2.2.2.2.2.2.1) (d.2.2.2.2.2.2.2.2.2 d.2.1).2.1 d.2.2.2.2.2.2.2.1, d.2.2.2.2.2.2.1, d.2.2.2.2.2.2.2.1 + 1, d.2.2.2.2.2.2.2.2.1, va_up d.2.2.2.2.2.2.2.2.2 d.2.1 ((d.2.2.2.2.2.2.2.2.2 d.2.1).1, d.2.2.2.2.2.2.2.1, none, (d.2.2.2.2.2.2.2.2.2 d.2.1).2.2.2 + 1))
def d_pSign (tx : Nat → Nat) (tl : Nat) (d : dS) : Option Nat × dS := match q_sign (q_at tx tl d.1) with
  | none => (none, d_bad d (d.1 + 1))
  | some x => (some d.2.2.2.2.2.2.1, d_one' d (d.1 + 1) d.2.2.2.1 d.2.2.2.2.1 x.1 x.2)
def d_pParen (tx : Nat → Nat) (tl : Nat) (d : dS) : Option Nat × dS :=
  if q_at tx tl (d.1 + 1) = some 63 then (match q_dig (q_at tx tl (d.1 + 2)) with
    | some g => d_pCall tx tl d g
    | none => d_pOpen tx tl d)
  else d_pOpen tx tl d
def d_part (tx : Nat → Nat) (tl : Nat) (d : dS) : Option Nat × dS :=
  if q_at tx tl d.1 = some 40 then d_pParen tx tl d
  else if q_at tx tl d.1 = some 41 then d_pClose d
  else if q_at tx tl d.1 = some 91 then d_pClass tx tl d
  else if q_at tx tl d.1 = some 92 then d_pRef tx tl d
  else if q_at tx tl d.1 = some 124 then (none, d_pBar d)
  else d_pSign tx tl d
/-- what stands at the head of a part -/
def wD (d : dS) : Prop := d.1 ≤ 200 ∧ d.2.1 ≤ 6 ∧ d.2.2.2.1 ≤ 4 ∧ d.2.2.2.2.1 ≤ 1 ∧ d.2.2.2.2.2.2.1 ≤ d.1 ∧ d.2.2.2.2.2.2.2.1 ≤ d.1 + 1 ∧ d.2.2.2.2.2.2.2.2.1 ≤ 4 ∧ ∀ k, k ≤ d.2.1 → (d.2.2.2.2.2.2.2.2.2 k).2.1 < d.2.2.2.2.2.2.2.1 ∧ (∀ j, (d.2.2.2.2.2.2.2.2.2 k).2.2.1 = some j → j < d.2.2.2.2.2.2.1) ∧ (∀ j, (d.2.2.2.2.2.2.2.2.2 k).1 = some j → j < d.2.2.2.2.2.2.1)
section READ
variable {n1 n2 tl : Nat} {tx : Nat → Nat} {i : mm_i} {l : mm_j} {a : mm_a} {b : mm_b}
variable {ap lv hn gd ni nr gr : Nat} {az : Int32} {P : pg} {Lv : Nat → dL} {K : Int32 → mm_i → mm_j → mm_a → mm_b → Prop}
theorem d_open' (ht : ∀ j, tx j < 128) (h : rD tx tl (ap, lv, az, hn, gd, P, ni, nr, gr, Lv) i a) (hw : wD (ap, lv, az, hn, gd, P, ni, nr, gr, Lv)) (ha : ap < 32) (hK : ∀ i' a', rD tx tl (d_pOpen tx tl (ap, lv, az, hn, gd, P, ni, nr, gr, Lv)).2 i' a' → rW i a i' a' → K (rN (d_pOpen tx tl (ap, lv, az, hn, gd, P, ni, nr, gr, Lv)).1) i' l a' b) : wp_Reader_openChoice_1 n1 n2 i l a b K := by
  obtain ⟨w1, w2, w3, w4, w5, w6, w7, w8⟩ := hw
  simp only at w1 w2 w3 w4 w5 w6 w7
  obtain ⟨v1, v2, v3⟩ := w8 lv (Nat.le_refl _)
  refine d_choice ht h (by omega) w7 (by omega) (by omega) (by omega) v1 v2 (fun q i' r w => ?_) (fun kd q ql qg i' a' r w => ?_)
  · have e : d_pOpen tx tl (ap, lv, az, hn, gd, P, ni, nr, gr, Lv) = (none, d_bad (ap, lv, az, hn, gd, P, ni, nr, gr, Lv) ap) := by
      unfold d_pOpen
      simp only
      split
      · rfl
      · rename_i kd hk
        rw [hk] at q
        refine if_pos ?_
        rcases q with q | q | q
        · cases q
        · exact Or.inl q
        · exact Or.inr ⟨by injection q.1, q.2⟩
    rw [e] at hK
    exact hK i' a r w
  · have e : d_pOpen tx tl (ap, lv, az, hn, gd, P, ni, nr, gr, Lv) = (none, d_opn ap lv hn gd P ni nr gr Lv kd) := by
      unfold d_pOpen
      simp only
      rw [q]
      refine if_neg ?_
      rintro (z | z)
      · omega
      · have := qg z.1; omega
    rw [e] at hK
    exact hK i' a' r w
theorem d_partT (ht : ∀ j, tx j < 128) (h : rD tx tl (ap, lv, az, hn, gd, P, ni, nr, gr, Lv) i a) (hw : wD (ap, lv, az, hn, gd, P, ni, nr, gr, Lv)) (ha : ap < 32) (hK : ∀ i' a', rD tx tl (d_part tx tl (ap, lv, az, hn, gd, P, ni, nr, gr, Lv)).2 i' a' → rW i a i' a' → K (rN (d_part tx tl (ap, lv, az, hn, gd, P, ni, nr, gr, Lv)).1) i' l a' b) : wp_Reader_readPart_1 n1 n2 i l a b K := by
  have hw0 := hw
  obtain ⟨w1, w2, w3, w4, w5, w6, w7, w8⟩ := hw
  simp only at w1 w2 w3 w4 w5 w6 w7
  obtain ⟨v1, v2, v3⟩ := w8 lv (Nat.le_refl _)
  have v1 : (Lv lv).2.1 < nr := v1
  unfold wp_Reader_readPart_1
  unfold d_part at hK
  simp only at hK
  refine d_ahead0 h (by omega) ⟨fun q => ?_, fun q => ⟨fun q2 => ?_, fun q2 => ⟨fun q3 => ?_, fun q3 => ⟨fun q4 => ?_, fun q4 => ⟨fun q5 => ?_, fun q5 => ?_⟩⟩⟩⟩⟩
  · rw [if_pos ((q_is ht (by decide)).mp q)] at hK
    unfold d_pParen at hK
    simp only at hK
    refine d_ahead h (by omega) (d := 1) (by decide) rfl ⟨fun y => ?_, fun y => ?_⟩
    · rw [if_neg (fun z => y ((q_is ht (by decide)).mpr z))] at hK
      exact d_open' ht h hw0 ha hK
    · rw [if_pos ((q_is ht (by decide)).mp y)] at hK
      refine d_ahead h (by omega) (d := 2) (by decide) rfl ?_
      refine d_isdig ht (fun y2 => ⟨fun _ => ?_, fun z => absurd rfl z⟩) (fun g hg y2 yg => ⟨fun z => absurd z (by decide), fun _ => ?_⟩)
      · rw [y2] at hK
        exact d_open' ht h hw0 ha hK
      · rw [y2] at hK
        unfold d_pCall at hK
        simp only at hK
        refine d_call ht h (by omega) w3 (by omega) (by omega) v1 v2 hg yg (fun z i' r w => ?_) (fun z1 z2 i' a' r w => ?_)
        · rw [if_neg z] at hK
          exact hK i' a r w
        · rw [if_pos ⟨z1, z2⟩] at hK
          exact hK i' a' r w
  · rw [if_neg (fun z => q ((q_is ht (by decide)).mpr z)), if_pos ((q_is ht (by decide)).mp q2)] at hK
    unfold d_pClose at hK
    simp only at hK
    refine d_close h (by omega) (fun z i' r w => ?_) (fun z i' r w => ?_)
    · rw [if_pos z] at hK
      exact hK i' a r w
    · rw [if_neg (by omega)] at hK
      exact hK i' a r w
  · rw [if_neg (fun z => q ((q_is ht (by decide)).mpr z)), if_neg (fun z => q2 ((q_is ht (by decide)).mpr z)), if_pos ((q_is ht (by decide)).mp q3)] at hK
    unfold d_pClass at hK
    simp only at hK
    refine d_class ht h (by omega) w4 (by omega) (by omega) v1 v2 (fun z i' r w => ?_) (fun z i' a' r w => ?_)
    · rw [if_pos z] at hK
      exact hK i' a r w
    · rw [if_neg z] at hK
      exact hK i' a' r w
  · rw [if_neg (fun z => q ((q_is ht (by decide)).mpr z)), if_neg (fun z => q2 ((q_is ht (by decide)).mpr z)), if_neg (fun z => q3 ((q_is ht (by decide)).mpr z)), if_pos ((q_is ht (by decide)).mp q4)] at hK
    unfold d_pRef at hK
    simp only at hK
    refine d_ref ht h (by omega) w3 (by omega) (by omega) v1 v2 (fun z i' r w => ?_) (fun g g1 g2 z i' a' r w => ?_)
    · cases hd : q_dig (q_at tx tl (ap + 1)) with
      | none =>
        rw [hd] at hK
        exact hK i' a r w
      | some g =>
        rw [hd] at hK
        simp only at hK
        have hg : ¬ (1 ≤ g ∧ g ≤ 4) := by
          intro y
          refine z g y.1 y.2 ?_
          cases hc : q_at tx tl (ap + 1) with
          | none => rw [hc] at hd; cases hd
          | some c =>
            rw [hc] at hd
            unfold q_dig at hd
            simp only at hd
            split at hd
            · injection hd with hd
              congr 1
              omega
            · cases hd
        rw [if_neg hg] at hK
        exact hK i' a r w
    · have hd : q_dig (q_at tx tl (ap + 1)) = some g := by
        rw [z]
        show (if 48 ≤ 48 + g ∧ 48 + g ≤ 57 then some (48 + g - 48) else none) = some g
        rw [if_pos (by omega)]
        congr 1
        omega
      rw [hd] at hK
      simp only at hK
      rw [if_pos ⟨g1, g2⟩] at hK
      exact hK i' a' r w
  · rw [if_neg (fun z => q ((q_is ht (by decide)).mpr z)), if_neg (fun z => q2 ((q_is ht (by decide)).mpr z)), if_neg (fun z => q3 ((q_is ht (by decide)).mpr z)), if_neg (fun z => q4 ((q_is ht (by decide)).mpr z)), if_pos ((q_is ht (by decide)).mp q5)] at hK
    exact d_next h (by omega) (by omega) v1 hK
  · rw [if_neg (fun z => q ((q_is ht (by decide)).mpr z)), if_neg (fun z => q2 ((q_is ht (by decide)).mpr z)), if_neg (fun z => q3 ((q_is ht (by decide)).mpr z)), if_neg (fun z => q4 ((q_is ht (by decide)).mpr z)), if_neg (fun z => q5 ((q_is ht (by decide)).mpr z))] at hK
    unfold d_pSign at hK
    simp only at hK
    refine d_sign ht h (by omega) (by omega) (by omega) v1 v2 (fun z i' r w => ?_) (fun kd v z i' a' r w => ?_)
    · rw [z] at hK
      exact hK i' a r w
    · rw [z] at hK
      exact hK i' a' r w
end READ
