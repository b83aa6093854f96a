theorem dg_0 : ∀ c, c < 128 → (nI c < (48 : Int32) ↔ c < 48) := by decide +kernel
theorem dg_9 : ∀ c, c < 128 → ((57 : Int32) < nI c ↔ 57 < c) := by decide +kernel
def d_reps (tx : Nat → Nat) (tl ap lv : Nat) (az : Int32) (hn gd : Nat) (P : pg) (ni nr gr : Nat) (Lv : Nat → dL) (it rp c : Nat) (z : Int32) : dS :=
  ((d_mann tx tl (ap + c) (P_rp P it rp) it).2, lv, az, hn, gd, (d_mann tx tl (ap + c) (P_rp P it rp) it).1, ni, nr, gr, d_sz Lv lv z)
def d_tms (tx : Nat → Nat) (tl ap lv : Nat) (az : Int32) (hn gd : Nat) (P : pg) (ni nr gr : Nat) (Lv : Nat → dL) (it : Nat) : dS := match q_dig (q_at tx tl (ap + 1)) with
  | some g => if q_at tx tl (ap + 2) = some 125 then d_reps tx tl ap lv az hn gd (P_tm P it g) ni nr gr Lv it (if g = 0 then 1 else 5) 3 (nI g * az + 1) else (ap, lv, az, hn, 0, P, ni, nr, gr, Lv)
  | none => (ap, lv, az, hn, 0, P, ni, nr, gr, Lv)
def d_rep (tx : Nat → Nat) (tl ap lv : Nat) (az : Int32) (hn gd : Nat) (P : pg) (ni nr gr : Nat) (Lv : Nat → dL) (it : Nat) : dS :=
  if q_at tx tl ap = some 42 then d_reps tx tl ap lv az hn gd P ni nr gr Lv it 3 1 (az + 2)
  else if q_at tx tl ap = some 43 then d_reps tx tl ap lv az hn gd P ni nr gr Lv it 4 1 (2 * az + 2)
  else if q_at tx tl ap = some 63 then d_reps tx tl ap lv az hn gd P ni nr gr Lv it 2 1 (az + 2)
  else if q_at tx tl ap = some 123 then d_tms tx tl ap lv az hn gd P ni nr gr Lv it
  else (ap, lv, az, hn, gd, P, ni, nr, gr, d_sz Lv lv az)
section READ
variable {n1 n2 tl : Nat} {tx : Nat → Nat} {i : mm_i} {l : mm_j} {a : mm_a} {b : mm_b}
variable {ap lv hn gd ni nr gr : Nat} {az : Int32} {P : pg} {Lv : Nat → dL}
theorem rD_gd (h : rD tx tl (ap, lv, az, hn, gd, P, ni, nr, gr, Lv) i a) : rD tx tl (ap, lv, az, hn, 0, P, ni, nr, gr, Lv) (upd i 26 0) a := by
  obtain ⟨s, h1, h2, h3, h4, h5, h6, h7, h8, h9, h10⟩ := h
  exact ⟨s, h1, h2, h3, h4, rfl, h6, h7, h8, h9, h10⟩
theorem rW_gd {x : Int32} : rW i a (upd i 26 x) a := ⟨fun k hk => ud_n (by omega), fun _ _ => rfl⟩
/-- isDigit of a sign -/
theorem d_isdig {K : Int32 → mm_i → mm_j → mm_a → mm_b → Prop} (ht : ∀ j, tx j < 128) {p : Nat} (hN : q_dig (q_at tx tl p) = none → K 0 i l a b) (hY : ∀ g, g ≤ 9 → q_dig (q_at tx tl p) = some g → q_at tx tl p = some (48 + g) → K 1 i l a b) : wp_Bench_isDigit n1 n2 i l a b (rN (q_at tx tl p)) K := by
  unfold wp_Bench_isDigit
  cases hc : q_at tx tl p with
  | none => exact ⟨fun _ => hN (by rw [hc]; rfl), fun q => absurd (by decide) q⟩
  | some c =>
    have hlo := q_lo ht hc
    have e : rN (some c) = nI c := rfl
    rw [e]
    refine ⟨fun q => ?_, fun q => ⟨fun q2 => ?_, fun q2 => ?_⟩⟩
    · have hq := (dg_0 c hlo).mp q
      exact hN (by rw [hc]; exact if_neg (by omega))
    · have hq := (dg_9 c hlo).mp q2
      exact hN (by rw [hc]; exact if_neg (by omega))
    · have hq : ¬ c < 48 := fun z => q ((dg_0 c hlo).mpr z)
      have hq2 : ¬ 57 < c := fun z => q2 ((dg_9 c hlo).mpr z)
      refine hY (c - 48) (by omega) (by rw [hc]; exact if_pos (by omega)) (by rw [hc]; congr 1; omega)
theorem d_times {K : mm_i → mm_j → mm_a → mm_b → Prop} (ht : ∀ j, tx j < 128) (h : rD tx tl (ap, lv, az, hn, gd, P, ni, nr, gr, Lv) i a) (hp : ap < 900) (hl : lv < 7) {it : Nat} (hi : it < ni) {x1 : Int32} (e1 : x1 = nI it) (hK : ∀ i' a', rD tx tl (d_tms tx tl ap lv az hn gd P ni nr gr Lv it) i' a' → rW i a i' a' → K i' l a' b) : wp_Reader_readTimes_1 n1 n2 i l a b x1 K := by
  unfold wp_Reader_readTimes_1
  have hni : ni ≤ 32 := h.2.2.2.2.2.2.1.1
  have e24 : i 24 = az := h.2.2.2.1
  have hv1 : vp_in x1 32 := by rw [e1]; exact vp_in_nI (by omega) (by decide)
  have hc1 : x1.toNatClampNeg = it := by rw [e1]; exact nI_clamp (by omega)
  unfold d_tms at hK
  refine d_ahead h (by omega) (d := 1) (by decide) rfl ?_
  refine d_isdig ht (fun q => ?_) (fun g hg q qg => ?_)
  · rw [q] at hK
    exact ⟨fun _ => hK _ _ (rD_gd h) rW_gd, fun z => absurd rfl z⟩
  · rw [q] at hK
    refine ⟨fun z => absurd z (by decide), fun _ => ?_⟩
    refine d_ahead h (by omega) (d := 2) (by decide) rfl ⟨fun q2 => ?_, fun q2 => ?_⟩
    · have q2 := (q_is ht (by decide)).mp q2
      have hK : ∀ i' a', rD tx tl (d_reps tx tl ap lv az hn gd (P_tm P it g) ni nr gr Lv it (if g = 0 then 1 else 5) 3 (nI g * az + 1)) i' a' → rW i a i' a' → K i' l a' b := by
        intro i' a' r
        refine hK i' a' ?_
        show rD tx tl (if q_at tx tl (ap + 2) = some 125 then _ else _) i' a'
        rw [if_pos q2]
        exact r
      refine d_ahead h (by omega) (d := 1) (by decide) rfl ⟨hv1, ?_⟩
      rw [qg, show rN (some (48 + g)) = nI (48 + g) from rfl, dg_s g (by omega), hc1, e24]
      have r1 := rD_P (P' := P_tm P it g) (a' := mm_ua a 8 (upd (a 8) it (nI g))) h (rP_tm h.2.2.2.2.2.2.1 hg rfl) (fun t ht => mu_n (by omega))
      refine ⟨fun z => ?_, fun z => ?_⟩
      · have hz : ¬ g = 0 := fun y => z (by rw [y]; rfl)
        rw [if_neg hz] at hK
        exact d_set ht r1 hp hl hi (by decide) (by decide) e1 rfl rfl (fun i' a' r w => hK i' a' r (rW_tr (rW_ua (by decide) (by decide)) w))
      · have hz : g = 0 := (nI_eq (by omega) (by decide)).mp z
        rw [if_pos hz] at hK
        exact d_set ht r1 hp hl hi (by decide) (by decide) e1 rfl rfl (fun i' a' r w => hK i' a' r (rW_tr (rW_ua (by decide) (by decide)) w))
    · have q2 : ¬ q_at tx tl (ap + 2) = some 125 := fun z => q2 ((q_is ht (by decide)).mpr z)
      refine hK _ _ ?_ rW_gd
      show rD tx tl (if q_at tx tl (ap + 2) = some 125 then _ else _) _ _
      rw [if_neg q2]
      exact rD_gd h
theorem d_repeat {K : mm_i → mm_j → mm_a → mm_b → Prop} (ht : ∀ j, tx j < 128) (h : rD tx tl (ap, lv, az, hn, gd, P, ni, nr, gr, Lv) i a) (hp : ap < 900) (hl : lv < 7) {it : Nat} (hi : it < ni) {x1 : Int32} (e1 : x1 = nI it) (hK : ∀ i' a', rD tx tl (d_rep tx tl ap lv az hn gd P ni nr gr Lv it) i' a' → rW i a i' a' → K i' l a' b) : wp_Reader_readRepeat_1 n1 n2 i l a b x1 K := by
  unfold wp_Reader_readRepeat_1
  have e24 : i 24 = az := h.2.2.2.1
  have e22 : i 22 = nI lv := h.2.2.1
  have hv : vp_in (i 22) 7 := by rw [e22]; exact vp_in_nI hl (by decide)
  have e18 : a 18 lv = (Lv lv).2.2.2 := (h.2.2.2.2.2.2.2.2.2.2 lv (Nat.le_refl _)).2.2.2
  unfold d_rep at hK
  refine d_ahead0 h (by omega) ⟨fun q => ?_, fun q => ⟨fun q2 => ?_, fun q2 => ⟨fun q3 => ?_, fun q3 => ⟨fun q4 => ?_, fun q4 => ?_⟩⟩⟩⟩
  · rw [if_pos ((q_is ht (by decide)).mp q)] at hK
    rw [e24]
    exact d_set ht h hp hl hi (by decide) (by decide) e1 rfl rfl hK
  · rw [if_neg (fun z => q ((q_is ht (by decide)).mpr z)), if_pos ((q_is ht (by decide)).mp q2)] at hK
    rw [e24]
    exact d_set ht h hp hl hi (by decide) (by decide) e1 rfl rfl hK
  · rw [if_neg (fun z => q ((q_is ht (by decide)).mpr z)), if_neg (fun z => q2 ((q_is ht (by decide)).mpr z)), if_pos ((q_is ht (by decide)).mp q3)] at hK
    rw [e24]
    exact d_set ht h hp hl hi (by decide) (by decide) e1 rfl rfl hK
  · rw [if_neg (fun z => q ((q_is ht (by decide)).mpr z)), if_neg (fun z => q2 ((q_is ht (by decide)).mpr z)), if_neg (fun z => q3 ((q_is ht (by decide)).mpr z)), if_pos ((q_is ht (by decide)).mp q4)] at hK
    exact d_times ht h hp hl hi e1 hK
  · rw [if_neg (fun z => q ((q_is ht (by decide)).mpr z)), if_neg (fun z => q2 ((q_is ht (by decide)).mpr z)), if_neg (fun z => q3 ((q_is ht (by decide)).mpr z)), if_neg (fun z => q4 ((q_is ht (by decide)).mpr z))] at hK
    refine ⟨hv, hv, hK _ _ (rD_sz h az ?_) (rW_ua (by decide) (by decide))⟩
    rw [e22, nI_clamp (by omega), e18, e24]
end READ
