/-! a good read's program stands at places of its text -/
def ST (tx : Nat → Nat) (n : Nat) (P : pg) (ni nr : Nat) (ip rp : Nat → Nat) : Prop :=
  (∀ it, it < ni → ip it < n ∧ ¬ x_re tx n (ip it) ∧ itK tx n P nr rp (ip it) it ∧ itR tx n P (ip it) it ∧ ((∃ b, q_nx P it = some b ∧ b < ni ∧ ip b = x_bh tx n (ip it)) ∨ (q_nx P it = none ∧ x_re tx n (x_bh tx n (ip it))))) ∧
  (∀ r, r < nr → rp r ≤ n ∧ rwC tx n P ni nr ip rp r) ∧ sF tx n (x_gc tx n n) P nr rp ∧ ∀ k, k < n → x_nm tx n k ≤ x_gc tx n n
section SL
variable {tx : Nat → Nat} {n : Nat}
theorem hi_ge : ∀ (m j : Nat), j < m → x_nm tx n j ≤ x_hi tx n m
  | 0, j, h => absurd h (Nat.not_lt_zero _)
  | m + 1, j, h => by
    have e : x_hi tx n (m + 1) = max (x_hi tx n m) (x_nm tx n m) := rfl
    rcases (by omega : j < m ∨ j = m) with w | w
    · have := hi_ge m j w
      omega
    · subst w
      omega
theorem st_end {P : pg} {ni nr : Nat} {Lv : Nat → dL} {ip rp : Nat → Nat} (h : SI tx n n 0 P ni nr (x_gc tx n n) Lv ip rp) (hh : x_hi tx n n ≤ x_gc tx n n) : ST tx n P ni nr ip rp := by
  obtain ⟨hkn, hA, hB, hC, hD, hE, hF, hG⟩ := h
  have hre : x_re tx n n := Or.inl (Nat.le_refl _)
  have x0 : xt tx n n = 0 := if_neg (Nat.lt_irrefl _)
  refine ⟨fun it hit => ?_, fun r hr => ?_, hF, fun k hk => Nat.le_trans (hi_ge n k hk) hh⟩
  · obtain ⟨d1, d2, d3, d4⟩ := hD it hit
    obtain ⟨f1, f2⟩ := d4 (fun w => by obtain ⟨j, j1, j2, _⟩ := w; omega)
    refine ⟨d1, d2, d3, f1, ?_⟩
    rcases f2 with f2 | ⟨b1, b2⟩
    · exact Or.inl f2
    · refine Or.inr ⟨b1, ?_⟩
      rcases b2 with b2 | b2
      · exact b2
      · rw [(sC_last hC b2).2.1]
        exact hre
  · obtain ⟨e1, e2⟩ := hE r hr
    refine ⟨e1, ?_⟩
    rcases e2 with ⟨j, j1, j2⟩ | e2
    · have j0 : j = 0 := by omega
      subst j0
      rw [← j2]
      refine ⟨?_, Or.inl ⟨(hB.1 0 (Nat.le_refl _)).2, nr_none (hB.2.2.1.trans (en_re hre)) (by omega)⟩⟩
      rcases hC.2 with ⟨w1, w2, w3⟩ | ⟨la, w1, w2, w3, w4, w5, fi, w6, w7, w8⟩
      · exact Or.inl ⟨w2, by rw [w3]; exact hre⟩
      · exact Or.inr ⟨fi, w6, w7, w8⟩
    · exact e2
theorem st_loop (ht : ∀ j, tx j < 128) (hn32 : n ≤ 32) : ∀ (m k lv hn : Nat) (az : Int32) (P : pg) (ni nr : Nat) (Lv : Nat → dL) (ip rp : Nat → Nat), n ≤ k + m → lv ≤ 6 → hn = x_hi tx n k → x_gc tx n k ≤ 4 → SI tx n k lv P ni nr (x_gc tx n k) Lv ip rp → d_ok (d_loop tx n m (k, lv, az, hn, 1, P, ni, nr, x_gc tx n k, Lv)) → ∃ ip' rp', ST tx n (d_loop tx n m (k, lv, az, hn, 1, P, ni, nr, x_gc tx n k, Lv)).2.2.2.2.2.1 (d_loop tx n m (k, lv, az, hn, 1, P, ni, nr, x_gc tx n k, Lv)).2.2.2.2.2.2.1 (d_loop tx n m (k, lv, az, hn, 1, P, ni, nr, x_gc tx n k, Lv)).2.2.2.2.2.2.2.1 ip' rp' := by
  have fin : ∀ (k lv hn : Nat) (az : Int32) (P : pg) (ni nr : Nat) (Lv : Nat → dL) (ip rp : Nat → Nat), n ≤ k → hn = x_hi tx n k → SI tx n k lv P ni nr (x_gc tx n k) Lv ip rp → d_ok (k, lv, az, hn, 1, P, ni, nr, x_gc tx n k, Lv) → ∃ ip' rp', ST tx n P ni nr ip' rp' := by
    intro k lv hn az P ni nr Lv ip rp q1 q2 hS hok
    have hk : k = n := by have := hS.1; omega
    subst hk
    have h0 : lv = 0 := hok.2.1
    subst h0
    have hh : hn ≤ x_gc tx k k := hok.2.2
    exact ⟨ip, rp, st_end hS (by omega)⟩
  intro m
  induction m with
  | zero =>
    intro k lv hn az P ni nr Lv ip rp q1 q2 q3 q4 hS hok
    exact fin k lv hn az P ni nr Lv ip rp (by omega) q3 hS hok
  | succ m ih =>
    intro k lv hn az P ni nr Lv ip rp q1 q2 q3 q4 hS hok
    by_cases hk : n ≤ k
    · have e : d_loop tx n (m + 1) (k, lv, az, hn, 1, P, ni, nr, x_gc tx n k, Lv) = (k, lv, az, hn, 1, P, ni, nr, x_gc tx n k, Lv) := if_pos (Or.inr hk)
      rw [e] at hok ⊢
      exact fin k lv hn az P ni nr Lv ip rp hk q3 hS hok
    · have hk' : k < n := by omega
      have e : d_loop tx n (m + 1) (k, lv, az, hn, 1, P, ni, nr, x_gc tx n k, Lv) = d_loop tx n m (d_turn tx n (k, lv, az, hn, 1, P, ni, nr, x_gc tx n k, Lv)) := if_neg (fun w => w.elim (by decide : ¬ (1 : Nat) = 0) hk)
      rw [e] at hok ⊢
      have gc1 : x_gc tx n (k + 1) = x_gc tx n k + (if xt tx n k = 40 ∧ ¬ xt tx n (k + 1) = 63 then 1 else 0) := rfl
      have hi1 : x_hi tx n (k + 1) = max (x_hi tx n k) (x_nm tx n k) := rfl
      have hlv : 0 < lv → ∃ it, (Lv lv).1 = some it := fun w => by
        obtain ⟨it, b, _⟩ := hS.2.1 lv w (Nat.le_refl _)
        exact ⟨it, b⟩
      rcases turn_is (az := az) (hn := hn) (P := P) (ni := ni) (nr := nr) (gr := x_gc tx n k) ht hn32 hk' q2 hlv with c | c | c | c | c
      · obtain ⟨c1, c2⟩ := c
        rw [lp_0 c1] at hok
        exact absurd c1 hok.1
      · obtain ⟨kd, c1, c2, c3, c4, c5⟩ := c
        rw [c4] at hok ⊢
        have hop := (y_op_le (dx := tx) (n := n) (k := k)).2
        rcases c3 with c3 | c3
        · obtain ⟨d1, d2, d3, d4⟩ := c3
          have hop := hop (by omega)
          rw [d4] at hop
          rw [if_pos ⟨c2, d3⟩] at gc1
          have hnm : x_nm tx n k = 0 := by
            unfold x_nm
            rw [if_pos c2, if_neg (fun w => d3 w.1)]
          rw [hnm] at hi1
          have ed : d_opn k lv hn 1 P ni nr (x_gc tx n k) Lv kd = (k + 1, lv + 1, 1, hn, 1, P_gb (d_opP P ni nr 5 (nI (x_gc tx n (k + 1))) (Lv lv).2.1 (Lv lv).2.2.1) (x_gc tx n k + 1) nr, ni + 1, nr + 1, x_gc tx n (k + 1), d_lvo Lv lv ni nr) := by
            rw [gc1]
            exact if_pos d1
          rw [ed] at hok ⊢
          refine ih (k + 1) (lv + 1) hn 1 _ (ni + 1) (nr + 1) (d_lvo Lv lv ni nr) (va_up ip ni k) (va_up rp nr (k + 1)) (by omega) (by omega) (by omega) (by omega) ?_ hok
          refine si_open (P' := P_gb (d_opP P ni nr 5 (nI (x_gc tx n (k + 1))) (Lv lv).2.1 (Lv lv).2.2.1) (x_gc tx n k + 1) nr) hS c2 hop (Or.inl ⟨rfl, d3, rfl, rfl⟩) (put_kd (P := P) (row := (Lv lv).2.1) (last := (Lv lv).2.2.1)) (put_vl (P := P) (kd := 5) (row := (Lv lv).2.1) (last := (Lv lv).2.2.1)) (put_rp (P := P) (kd := 5) (v := nI (x_gc tx n (k + 1))) (row := (Lv lv).2.1) (last := (Lv lv).2.2.1)) (put_mn (P := P) (kd := 5) (v := nI (x_gc tx n (k + 1))) (row := (Lv lv).2.1) (last := (Lv lv).2.2.1)) (put_tm (P := P) (kd := 5) (v := nI (x_gc tx n (k + 1))) (row := (Lv lv).2.1) (last := (Lv lv).2.2.1)) (fun j => ?_) (put_nx (P := P) (kd := 5) (v := nI (x_gc tx n (k + 1))) (row := (Lv lv).2.1) (last := (Lv lv).2.2.1)) (fun j => ?_) (fun j => ?_) ?_
          · show (if j = ni then some nr else q_bd (d_put P ni 5 (nI (x_gc tx n (k + 1))) (Lv lv).2.1 (Lv lv).2.2.1) j) = _
            by_cases w : j = ni
            · rw [if_pos w, if_pos w]
            · rw [if_neg w, if_neg w, put_bd, if_neg w]
          · show (if j = nr then none else q_fi (d_put P ni 5 (nI (x_gc tx n (k + 1))) (Lv lv).2.1 (Lv lv).2.2.1) j) = _
            rw [put_fi]
          · show (if j = nr then none else q_nr (d_put P ni 5 (nI (x_gc tx n (k + 1))) (Lv lv).2.1 (Lv lv).2.2.1) j) = _
            rw [put_nr]
          · obtain ⟨⟨f1, f2, f3⟩, f4⟩ := hS.2.2.2.2.2.2.1
            have gb : ∀ g, q_gb (P_gb (d_opP P ni nr 5 (nI (x_gc tx n (k + 1))) (Lv lv).2.1 (Lv lv).2.2.1) (x_gc tx n k + 1) nr) g = if g = x_gc tx n k + 1 then nr else q_gb P g := by
              intro g
              show (if g = x_gc tx n k + 1 then nr else q_gb (d_put P ni 5 (nI (x_gc tx n (k + 1))) (Lv lv).2.1 (Lv lv).2.2.1) g) = _
              rw [put_gb]
            refine ⟨⟨by rw [gb, if_neg (by omega)]; exact f1, ?_, by omega⟩, fun g g1 g2 => ?_⟩
            · rw [show va_up rp nr (k + 1) 0 = rp 0 from if_neg (by omega)]
              exact f2
            · rw [gb]
              by_cases w : g = x_gc tx n k + 1
              · rw [if_pos w, w, show va_up rp nr (k + 1) nr = k + 1 from if_pos rfl, co_at c2 d3]
                exact ⟨by omega, rfl⟩
              · rw [if_neg w]
                obtain ⟨r1, r2⟩ := f4 g g1 (by omega)
                rw [show va_up rp nr (k + 1) (q_gb P g) = rp (q_gb P g) from if_neg (by omega)]
                exact ⟨by omega, r2⟩
        · obtain ⟨d3, d4, d5⟩ := c3
          have hop := hop (by omega)
          rw [d4] at hop
          rw [if_neg (fun w => w.2 d3)] at gc1
          have hnm : x_nm tx n k = 0 := by
            unfold x_nm
            rw [if_pos c2, if_neg (fun w => by omega)]
          rw [hnm] at hi1
          obtain ⟨g1, g2⟩ := gc_hi2 (tx := tx) (n := n) (show k + 1 ≤ k + 3 by omega) (fun j w1 w2 => by
            rcases (by omega : j = k + 1 ∨ j = k + 2) with e1 | e1
            · rw [e1]; omega
            · rw [e1]; omega)
          have eg : x_gc tx n k = x_gc tx n (k + 3) := by omega
          have ed : d_opn k lv hn 1 P ni nr (x_gc tx n k) Lv kd = (k + 3, lv + 1, 1, hn, 1, d_opP P ni nr kd 0 (Lv lv).2.1 (Lv lv).2.2.1, ni + 1, nr + 1, x_gc tx n (k + 3), d_lvo Lv lv ni nr) := by
            rw [← eg]
            exact if_neg (by omega)
          rw [ed] at hok ⊢
          refine ih (k + 3) (lv + 1) hn 1 _ (ni + 1) (nr + 1) (d_lvo Lv lv ni nr) (va_up ip ni k) (va_up rp nr (k + 3)) (by omega) (by omega) (by omega) (by omega) ?_ hok
          refine si_open (P' := d_opP P ni nr kd 0 (Lv lv).2.1 (Lv lv).2.2.1) (v := 0) hS c2 hop (Or.inr ⟨rfl, d3, d5⟩) (put_kd (P := P) (v := 0) (row := (Lv lv).2.1) (last := (Lv lv).2.2.1)) (put_vl (P := P) (kd := kd) (row := (Lv lv).2.1) (last := (Lv lv).2.2.1)) (put_rp (P := P) (kd := kd) (v := 0) (row := (Lv lv).2.1) (last := (Lv lv).2.2.1)) (put_mn (P := P) (kd := kd) (v := 0) (row := (Lv lv).2.1) (last := (Lv lv).2.2.1)) (put_tm (P := P) (kd := kd) (v := 0) (row := (Lv lv).2.1) (last := (Lv lv).2.2.1)) (fun j => ?_) (put_nx (P := P) (kd := kd) (v := 0) (row := (Lv lv).2.1) (last := (Lv lv).2.2.1)) (fun j => ?_) (fun j => ?_) ?_
          · show (if j = ni then some nr else q_bd (d_put P ni kd 0 (Lv lv).2.1 (Lv lv).2.2.1) j) = _
            by_cases w : j = ni
            · rw [if_pos w, if_pos w]
            · rw [if_neg w, if_neg w, put_bd, if_neg w]
          · show (if j = nr then none else q_fi (d_put P ni kd 0 (Lv lv).2.1 (Lv lv).2.2.1) j) = _
            rw [put_fi]
          · show (if j = nr then none else q_nr (d_put P ni kd 0 (Lv lv).2.1 (Lv lv).2.2.1) j) = _
            rw [put_nr]
          · obtain ⟨⟨f1, f2, f3⟩, f4⟩ := hS.2.2.2.2.2.2.1
            have gb : q_gb (d_opP P ni nr kd 0 (Lv lv).2.1 (Lv lv).2.2.1) = q_gb P := put_gb
            unfold sF
            rw [gb]
            refine ⟨⟨f1, ?_, by omega⟩, fun g g1 g2 => ?_⟩
            · rw [show va_up rp nr (k + 3) 0 = rp 0 from if_neg (by omega)]
              exact f2
            · obtain ⟨r1, r2⟩ := f4 g g1 (by omega)
              rw [show va_up rp nr (k + 3) (q_gb P g) = rp (q_gb P g) from if_neg (by omega)]
              exact ⟨by omega, r2⟩
      · obtain ⟨c1, c2, c3⟩ := c
        rw [c2] at hok ⊢
        rw [if_neg (fun w => by omega)] at gc1
        rw [nm_0 (by omega)] at hi1
        have eg : x_gc tx n k = x_gc tx n (k + 1) := by omega
        have ed : d_pBar (k, lv, az, hn, 1, P, ni, nr, x_gc tx n k, Lv) = (k + 1, lv, az, hn, 1, P_nr (P_row P nr) (Lv lv).2.1 nr, ni, nr + 1, x_gc tx n (k + 1), va_up Lv lv ((Lv lv).1, nr, none, (Lv lv).2.2.2 + 1)) := by
          rw [← eg]
          rfl
        rw [ed] at hok ⊢
        refine ih (k + 1) lv hn az _ ni (nr + 1) _ ip (va_up rp nr (k + 1)) (by omega) q2 (by omega) (by omega) ?_ hok
        rw [← eg]
        exact si_bar hS c1
      · obtain ⟨k2, it, c1, c2, c3, c4, c5, c6⟩ := c
        rw [c5] at hok ⊢
        rw [if_neg (fun w => by omega)] at gc1
        rw [nm_0 (by omega)] at hi1
        obtain ⟨b1, b2⟩ := br_inn c4
        obtain ⟨g1, g2⟩ := gc_hi2 b1 b2
        have eg : x_gc tx n k = x_gc tx n k2 := by omega
        obtain ⟨lv, rfl⟩ : ∃ l, lv = l + 1 := ⟨lv - 1, by omega⟩
        rw [show lv + 1 - 1 = lv from rfl, eg] at hok ⊢
        refine ih k2 lv hn _ _ ni nr _ ip rp (by omega) (by omega) (by omega) (by omega) ?_ hok
        rw [← eg]
        exact (si_close hS c1 c3 c4).1
      · obtain ⟨e, k2, c1, c2, c3, c4, c5, c6, c7⟩ := c
        rw [c6] at hok ⊢
        have b0 := y_bp_le c4
        have hc40 : ¬ (xt tx n k = 40 ∧ ¬ xt tx n (k + 1) = 63) := by
          intro w
          unfold y_op at c1
          rw [if_pos w.1, if_neg w.2] at c1
          omega
        rw [if_neg hc40] at gc1
        obtain ⟨b1, b2⟩ := br_inn c5
        obtain ⟨g1, g2⟩ := gc_hi2 (show k + 1 ≤ k2 by omega) (inn_cat (bp_inn c4) b2)
        have eg : x_gc tx n k = x_gc tx n k2 := by omega
        rw [eg] at hok ⊢
        refine ih k2 lv _ _ _ (ni + 1) nr _ (va_up ip ni k) rp (by omega) q2 (by rw [g2, hi1, q3]) (by omega) ?_ hok
        rw [← eg]
        exact si_atom hS c1 c4 c5
theorem st_read (ht : ∀ j, tx j < 128) (hn32 : n ≤ 32) {G : Nat → Nat} {az : Int32} (hok : d_ok (d_loop tx n 32 (d_ini G az))) : ∃ ip rp, ST tx n (d_loop tx n 32 (d_ini G az)).2.2.2.2.2.1 (d_loop tx n 32 (d_ini G az)).2.2.2.2.2.2.1 (d_loop tx n 32 (d_ini G az)).2.2.2.2.2.2.2.1 ip rp := by
  refine st_loop (tx := tx) (n := n) ht hn32 32 0 0 0 az (P_gb (P_row (fun _ => 0, fun _ => 0, fun _ => 0, fun _ => 0, fun _ => 0, fun _ => none, fun _ => none, fun _ => none, fun _ => none, G) 0) 0 0) 0 1 (fun _ => (none, 0, none, 0)) (fun _ => 0) (fun _ => 0) (by omega) (by omega) rfl (Nat.zero_le _) ?_ hok
  refine ⟨Nat.zero_le _, fun j j1 j2 => by omega, ⟨fun j hj => ⟨by show 0 < 1; decide, rfl⟩, fun j it hj => absurd hj (Nat.not_lt_zero _), rfl, fun _ _ => rfl⟩, ⟨fun j hj => absurd hj (Nat.not_lt_zero _), Or.inl ⟨rfl, rfl, rfl⟩⟩, fun it hit => absurd hit (Nat.not_lt_zero _), fun r hr => ⟨Nat.zero_le _, Or.inl ⟨0, Nat.le_refl _, by show 0 = r; omega⟩⟩, ⟨⟨rfl, rfl, by decide⟩, fun g g1 g2 => ?_⟩, ⟨fun i j a b i1 ij jl => by omega, fun i j ij jl => by omega⟩⟩
  have : g ≤ 0 := g2
  omega
end SL
