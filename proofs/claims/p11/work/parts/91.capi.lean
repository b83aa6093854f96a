/-! the program between two calls, and its calls -/
/-- the program is what the reader makes of the text -/
def cR (tx : Nat → Nat) (n : Nat) (P : pg) (ni nr : Nat) : Prop := n ≤ 32 ∧ (∀ j, tx j < 128) ∧ y_good tx n ∧ ∃ (G : Nat → Nat) (az : Int32), d_ok (d_loop tx n 32 (d_ini G az)) ∧ P = (d_loop tx n 32 (d_ini G az)).2.2.2.2.2.1 ∧ ni = (d_loop tx n 32 (d_ini G az)).2.2.2.2.2.2.1 ∧ nr = (d_loop tx n 32 (d_ini G az)).2.2.2.2.2.2.2.1
def cq (q : Option (Nat × (Nat → Nat))) (i : mm_i) (a : mm_a) : Prop := (i 2 = 0 ∧ q = none) ∨ (i 2 = 1 ∧ ∃ P ni nr n tx, rP P ni nr a ∧ wP P ni nr ∧ q = some (n, tx) ∧ cR tx n P ni nr ∧ i 364 = nI (x_gc tx n n) ∧ i 365 = y_m0 tx n)
theorem cq_same {q : Option (Nat × (Nat → Nat))} {i i' : mm_i} {a a' : mm_a} (h : cq q i a) (e2 : i' 2 = i 2) (e4 : i' 364 = i 364) (e5 : i' 365 = i 365) (ha : ∀ t, 23 ≤ t → t ≤ 32 → a' t = a t) : cq q i' a' := by
  rcases h with ⟨w1, w2⟩ | ⟨w, P, ni, nr, n, tx, p1, p2, p3, p4, p5, p6⟩
  · exact Or.inl ⟨by rw [e2]; exact w1, w2⟩
  · refine Or.inr ⟨by rw [e2]; exact w, P, ni, nr, n, tx, ?_, p2, p3, p4, by rw [e4]; exact p5, by rw [e5]; exact p6⟩
    unfold rP at p1 ⊢
    rw [ha 23 (by decide) (by decide), ha 24 (by decide) (by decide), ha 25 (by decide) (by decide), ha 26 (by decide) (by decide), ha 27 (by decide) (by decide), ha 28 (by decide) (by decide), ha 29 (by decide) (by decide), ha 30 (by decide) (by decide), ha 31 (by decide) (by decide), ha 32 (by decide) (by decide)]
    exact p1
def IC (n1 n2 lim dl : Nat) (dx : Nat → Nat) (sl : Nat) (su : Nat → Nat) (q : Option (Nat × (Nat → Nat))) (st : Nat) (mq : Option (Nat × Nat)) (i : mm_i) (l : mm_j) (a : mm_a) (b : mm_b) : Prop :=
  (n1 = 3 * (lim + 1) + 4 ∧ n2 = 13 * (lim + 1) + 4 ∧ lim ≤ 300) ∧ ∃ (tk cu : Nat),
  (dl ≤ 32 ∧ i 33 = nI dl ∧ (∀ k, k < dl → a 3 k = nI (dx k)) ∧ ∀ k, dx k < 128) ∧ (∃ G : Nat → Nat, ∀ g, g < 5 → a 14 g = nI (G g)) ∧ (∃ G : Nat → Nat, ∀ g, g < 5 → a 32 g = nI (G g)) ∧ (i 306 = nI lim ∧ i 321 = nI sl ∧ sl ≤ 40 ∧ (∀ k, k < sl → a 21 k = nI (su k)) ∧ (∀ k, su k < 128) ∧ ∀ k, k < sl → 97 ≤ su k ∧ su k ≤ 122) ∧ (i 314 = nI tk ∧ tk ≤ lim ∧ rF [f0] a b ∧ cu ≤ n2 ∧ i 661 = nI cu) ∧
  cq q i a ∧ ((i 3 = 0 ∧ mq = none) ∨ (i 3 = 1 ∧ i 2 = 1 ∧ ∃ (s e : Nat) (C : Nat → Nat), mq = some (s, e) ∧ i 4 = nI s ∧ i 5 = nI e ∧ s ≤ e ∧ e ≤ sl ∧ l 6 = lN (cp_enc C) ∧ cp_ok C)) ∧ i 7 = nI st
theorem good_xG {tx : Nat → Nat} {n : Nat} (hn : n ≤ 32) (h : y_good tx n) : ∃ Q, xG tx n Q :=
  xG_of hn (fun q => (y_ms_F (n + 1) 0 0 _ (i32_nl.mpr h.1)).1 q (Nat.zero_le _)) h.2.2
theorem sg_dec : ∀ j, j < 128 → ((mm_ix (nI j).toInt8.toInt32 mm_by 0) < 0 ↔ ¬ ((40 ≤ nI j ∧ nI j ≤ 43) ∨ nI j = 45 ∨ nI j = 46 ∨ nI j = 58 ∨ (61 ≤ nI j ∧ nI j ≤ 63) ∨ nI j = 33 ∨ nI j = 36 ∨ (91 ≤ nI j ∧ nI j ≤ 94) ∨ (123 ≤ nI j ∧ nI j ≤ 125))) := by decide +kernel
theorem sg_pos : ¬ ((40 ≤ nI 0 ∧ nI 0 ≤ 43) ∨ nI 0 = 45 ∨ nI 0 = 46 ∨ nI 0 = 58 ∨ (61 ≤ nI 0 ∧ nI 0 ≤ 63) ∨ nI 0 = 33 ∨ nI 0 = 36 ∨ (91 ≤ nI 0 ∧ nI 0 ≤ 94) ∨ (123 ≤ nI 0 ∧ nI 0 ≤ 125)) := by decide
section CA
variable {n1 n2 lim dl sl : Nat} {dx su : Nat → Nat} {q : Option (Nat × (Nat → Nat))} {st : Nat} {mq : Option (Nat × Nat)} {i : mm_i} {l : mm_j} {a : mm_a} {b : mm_b} {K : KI}
theorem c_letter {x1 : Int32} (h1 : 97 ≤ x1 ∧ x1 ≤ 122 → K 1 i l a b) (h0 : ¬ (97 ≤ x1 ∧ x1 ≤ 122) → K 0 i l a b) : wp_Bench_isLetter n1 n2 i l a b x1 K := by
  unfold wp_Bench_isLetter
  refine ⟨fun q => h0 (fun w => absurd q (i32_nl.mpr w.1)), fun q => ⟨fun r => h0 (fun w => absurd r (i32_nl.mpr w.2)), fun r => h1 ⟨i32_nl.mp q, i32_nl.mp r⟩⟩⟩
theorem c_digit {x1 : Int32} (h1 : 48 ≤ x1 ∧ x1 ≤ 57 → K 1 i l a b) (h0 : ¬ (48 ≤ x1 ∧ x1 ≤ 57) → K 0 i l a b) : wp_Bench_isDigit n1 n2 i l a b x1 K := by
  unfold wp_Bench_isDigit
  refine ⟨fun q => h0 (fun w => absurd q (i32_nl.mpr w.1)), fun q => ⟨fun r => h0 (fun w => absurd r (i32_nl.mpr w.2)), fun r => h1 ⟨i32_nl.mp q, i32_nl.mp r⟩⟩⟩
theorem c_may {x1 : Int32} (h1 : yOK x1 → K 1 i l a b) (h0 : ¬ yOK x1 → K 0 i l a b) : wp_Bench_mayStandInPattern n1 n2 i l a b x1 K := by
  unfold wp_Bench_mayStandInPattern
  refine c_letter (fun q => ⟨fun _ => h1 (Or.inl q), fun z => absurd z (by decide)⟩) (fun q => ⟨fun z => absurd rfl z, fun _ => ?_⟩)
  refine c_digit (fun r => ⟨fun z => absurd z (by decide), fun _ => h1 (Or.inr (Or.inl r))⟩) (fun r => ⟨fun _ => ⟨fun s => h0 (fun w => ?_), fun s => ⟨fun u => h0 (fun w => ?_), fun u => ?_⟩⟩, fun z => absurd rfl z⟩)
  · obtain ⟨c, hc, e⟩ := y_ok_nat w
    have : c = 0 := by
      have h2 := i32_le.mp s
      rw [e, nI_toInt (by omega)] at h2
      have h3 : (0 : Int32).toInt = 0 := rfl
      omega
    rw [this] at e
    rcases w with w | w | w
    · exact q w
    · exact r w
    · rw [e] at w; exact sg_pos w
  · obtain ⟨c, hc, e⟩ := y_ok_nat w
    have h2 := i32_le.mp u
    rw [e, nI_toInt (by omega)] at h2
    have h3 : (128 : Int32).toInt = 128 := rfl
    omega
  · rcases pk_ix x1 (n := 128) (by decide) with w | w | ⟨j, w1, w2⟩
    · exact absurd (i32_le.mpr (by have := i32_lt.mp w; have h3 : (0 : Int32).toInt = 0 := rfl; omega)) s
    · exact absurd w u
    · rw [w2]
      have hs := sg_dec j w1
      refine ⟨fun v => h0 (fun w => ?_), fun v => h1 ?_⟩
      · rcases w with w | w | w
        · exact q w
        · exact r w
        · rw [w2] at w; exact hs.mp v w
      · rw [w2]
        exact Or.inr (Or.inr (Classical.not_not.mp (fun w => v (hs.mpr w))))
theorem cm_write (h : IC n1 n2 lim dl dx sl su q st mq i l a b) {x1 : Int32} (h0 : ¬ yOK x1 → K (-1) i l a b) (h1 : yOK x1 → dl = 32 → K (-2) i l a b) (h2 : yOK x1 → ¬ dl = 32 → ∀ i' a', IC n1 n2 lim (dl + 1) (va_up dx dl x1.toNatClampNeg) sl su q st mq i' l a' b → K (nI (dl + 1)) i' l a' b) : wp_Bench_write_0 n1 n2 i l a b x1 K := by
  obtain ⟨hn, tk, cu, ⟨d1, d2, d3, d4⟩, g1, g2, s1, t1, r1, m1⟩ := h
  unfold wp_Bench_write_0 wp_Text_isFull_2 wp_Text_add_2 wp_Text_isFull_2
  refine c_may (fun qx => ⟨fun _ => ?_, fun z => absurd z (by decide)⟩) (fun qx => ⟨fun z => absurd rfl z, fun _ => h0 qx⟩)
  dsimp only
  rw [d2]
  refine ⟨fun r => ⟨fun _ => ⟨fun _ => ⟨fun z => absurd rfl z, fun _ => ?_⟩, fun z => absurd r z⟩, fun z => absurd rfl z⟩, fun r => ⟨fun z => absurd z (by decide), fun _ => h1 qx ?_⟩⟩
  · have r1' := (nI_ltI (b := 32) (by omega) (by decide)).mp r
    obtain ⟨c, hc, ex⟩ := y_ok_nat qx
    have hcc : x1.toNatClampNeg = c := by rw [ex]; exact nI_clamp (by omega)
    refine ⟨vp_in_nI r1' (by decide), ?_⟩
    rw [nI_1, nI_clamp (by omega)]
    refine h2 qx (by omega) _ _ ⟨hn, tk, cu, ⟨by omega, rfl, fun k hk => ?_, fun k => ?_⟩, ?_, ?_, ?_, ?_, ?_, m1⟩
    · rw [mu_s]
      show upd (a 3) dl x1 k = nI (if k = dl then x1.toNatClampNeg else dx k)
      by_cases w : k = dl
      · rw [w, if_pos rfl, pk_us, hcc]; exact ex
      · rw [if_neg w, pk_un w]; exact d3 k (by omega)
    · show (if k = dl then x1.toNatClampNeg else dx k) < 128
      rw [hcc]
      split
      · exact hc
      · exact d4 k
    · exact g1
    · exact g2
    · exact s1
    · exact ⟨t1.1, t1.2.1, rF_same t1.2.2.1 (fun t ht _ => mu_n (by omega)) rfl, t1.2.2.2⟩
    · exact cq_same r1 rfl rfl rfl (fun t t1 t2 => mu_n (by omega))
  · rcases Nat.lt_or_ge dl 32 with y | y
    · exact absurd ((nI_ltI (b := 32) (by omega) (by decide)).mpr y) r
    · omega
theorem cm_feed (h : IC n1 n2 lim dl dx sl su q st mq i l a b) {x1 : Int32} (h0 : ¬ (97 ≤ x1 ∧ x1 ≤ 122) → K (-1) i l a b) (h1 : 97 ≤ x1 ∧ x1 ≤ 122 → sl = 40 → K (-2) i l a b) (h2 : 97 ≤ x1 ∧ x1 ≤ 122 → ¬ sl = 40 → ∀ i' a', IC n1 n2 lim dl dx (sl + 1) (va_up su sl x1.toNatClampNeg) q st none i' l a' b → K (nI (sl + 1)) i' l a' b) : wp_Bench_feed_0 n1 n2 i l a b x1 K := by
  obtain ⟨hn, tk, cu, ⟨d1, d2, d3, d4⟩, g1, g2, ⟨s1, s2, s3, s4, s5, s6⟩, t1, r1, m1, m7⟩ := h
  unfold wp_Bench_feed_0 wp_Text_isFull_20 wp_Text_add_20 wp_Text_isFull_20
  refine c_letter (fun qx => ⟨fun _ => ?_, fun z => absurd z (by decide)⟩) (fun qx => ⟨fun z => absurd rfl z, fun _ => h0 qx⟩)
  have e3 : upd i 3 0 321 = i 321 := ud_n (by decide)
  dsimp only
  rw [e3, s2]
  refine ⟨fun r => ⟨fun _ => ⟨fun _ => ⟨fun z => absurd rfl z, fun _ => ?_⟩, fun z => absurd r z⟩, fun z => absurd rfl z⟩, fun r => ⟨fun z => absurd z (by decide), fun _ => h1 qx ?_⟩⟩
  · have r1' := (nI_ltI (b := 40) (by omega) (by decide)).mp r
    obtain ⟨c, hc, ex⟩ := y_ok_nat (Or.inl qx)
    have hcc : x1.toNatClampNeg = c := by rw [ex]; exact nI_clamp (by omega)
    refine ⟨vp_in_nI r1' (by decide), ?_⟩
    rw [nI_1, nI_clamp (by omega)]
    refine h2 qx (by omega) _ _ ⟨hn, tk, cu, ⟨d1, d2, fun k hk => ?_, d4⟩, g1, g2, ⟨s1, rfl, by omega, fun k hk => ?_, fun k => ?_, fun k hk => ?_⟩, ?_, ?_, Or.inl ⟨rfl, rfl⟩, m7⟩
    · exact d3 k hk
    · rw [mu_s]
      show upd (a 21) sl x1 k = nI (if k = sl then x1.toNatClampNeg else su k)
      by_cases w : k = sl
      · rw [w, if_pos rfl, pk_us, hcc]; exact ex
      · rw [if_neg w, pk_un w]; exact s4 k (by omega)
    · show (if k = sl then x1.toNatClampNeg else su k) < 128
      rw [hcc]
      split
      · exact hc
      · exact s5 k
    · show 97 ≤ (if k = sl then x1.toNatClampNeg else su k) ∧ (if k = sl then x1.toNatClampNeg else su k) ≤ 122
      by_cases w : k = sl
      · rw [if_pos w, hcc]
        rw [ex] at qx
        exact ⟨(nI_leI (a := 97) (by decide) (by omega)).mp qx.1, (nI_leI (b := 122) (by omega) (by decide)).mp qx.2⟩
      · rw [if_neg w]
        exact s6 k (by omega)
    · exact ⟨t1.1, t1.2.1, rF_same t1.2.2.1 (fun t ht _ => mu_n (by omega)) rfl, t1.2.2.2⟩
    · exact cq_same r1 rfl rfl rfl (fun t t1 t2 => mu_n (by omega))
  · rcases Nat.lt_or_ge sl 40 with y | y
    · exact absurd ((nI_ltI (b := 40) (by omega) (by decide)).mpr y) r
    · omega
theorem cm_clear (h : IC n1 n2 lim dl dx sl su q st mq i l a b) (hK : ∀ i', IC n1 n2 lim dl dx 0 su q st none i' l a b → K (nI sl) i' l a b) : wp_Bench_clear_0 n1 n2 i l a b K := by
  obtain ⟨hn, tk, cu, d1, g1, g2, ⟨s1, s2, s3, s4, s5, s6⟩, t1, r1, m1, m7⟩ := h
  unfold wp_Bench_clear_0
  rw [s2]
  exact hK _ ⟨hn, tk, cu, d1, g1, g2, ⟨s1, rfl, by omega, fun k hk => absurd hk (Nat.not_lt_zero _), s5, fun k hk => absurd hk (Nat.not_lt_zero _)⟩, t1, r1, Or.inl ⟨rfl, rfl⟩, m7⟩
/-- searchFrom, the pattern being ready -/
theorem cm_from (h : IC n1 n2 lim dl dx sl su q st mq i l a b) {p : Nat × (Nat → Nat)} (hq : q = some p) {s : Nat} (hs : s ≤ sl) {x1 : Int32} (ex : x1 = nI s) (hK : ∀ i' l' a' b', IC n1 n2 lim dl dx sl su q (s_fnd lim p su sl s).2.1 (s_fnd lim p su sl s).2.2 i' l' a' b' → K (s_fnd lim p su sl s).1 i' l' a' b') : wp_Bench_searchFrom_0 n1 n2 i l a b x1 K := by
  obtain ⟨⟨hn1, hn2, hlim⟩, tk, cu, ⟨d1, d2, d3, d4⟩, ⟨G1, g1⟩, ⟨G2, g2⟩, ⟨s1, s2, s3, s4, s5, s6⟩, ⟨t1, t2, t3, t4, t5⟩, r1, m1, m7⟩ := h
  have hr1 := r1
  rcases r1 with w | ⟨w, P, ni, nr, n, tx, p1, p2, p3, p4, p5, p6⟩
  · rw [hq] at w; cases w.2
  · have hQ : rQ n1 n2 P ni nr su sl lim := ⟨by omega, by omega, by omega, s3, fun k => Nat.lt_trans (s5 k) (by decide), hlim, p2, fun k hk => ⟨(p1.2.2.1 k hk).2.2.2.2.2.2.2.1, (p1.2.2.1 k hk).2.2.2.2.2.2.2.2.2.2⟩⟩
    have p3' := p3
    rw [hq] at p3'
    cases p3'
    obtain ⟨c1, c2, c3, G, az, c4, c5, c6, c7⟩ := p4
    obtain ⟨Q, hG⟩ := good_xG c1 c3
    obtain ⟨ip, rp, hST⟩ := st_read c2 c1 c4
    rw [← c5, ← c6, ← c7] at hST
    have hE : EV (tx, n, P, ni, nr, ip, rp) su Q sl lim := ⟨hST, hG, c1, s3, hlim, s6, p2, hQ.2.2.2.2.2.2.2⟩
    unfold wp_Bench_searchFrom_0
    refine t_find hQ hs ⟨⟨s1, s2, p1, s4⟩, t1, t2, t3, cu, t4, t5⟩ ex (fun i' l' a' b' ans mo tk' y1 y2 y3 y4 => ?_)
    obtain ⟨xo, kp', z1, z2⟩ := bfind hE hn1 hn2 (sl + 1 - s) 0 s (fun _ _ => 0) (Nat.zero_le _) cx_0' y1
    have zfin := fun z => fnd_in (p := (n, tx)) (su := su) hG s3 hlim hs (z := z)
    have zno := fnd_no (p := (n, tx)) (su := su) (sl := sl) (lim := lim) (s := s)
    obtain ⟨f1, f2, f3⟩ := fnd_kp (p := (n, tx)) z1
    rw [f1, f3] at zfin
    rw [f1, f3] at zno
    rw [f1, f2, f3] at hK
    obtain ⟨⟨b1, b2, b3, b4⟩, b5, b6, b7, cu', b8, b9⟩ := y2
    have ei : ∀ k, k < 309 → i' k = i k := fun k hk => y4.1 k (Or.inl hk)
    have ea : ∀ t, t < 34 → a' t = a t := y4.2.2
    have ei3 : i' 364 = i 364 ∧ i' 365 = i 365 := ⟨y4.1 364 (Or.inr (by decide)), y4.1 365 (Or.inr (by decide))⟩
    have base : ∀ (x3 x4 x5 x7 : Int32) (x6 : Int64) (mq' : Option (Nat × Nat)), x7 = nI tk' → ((x3 = 0 ∧ mq' = none) ∨ (x3 = 1 ∧ ∃ (s e : Nat) (C : Nat → Nat), mq' = some (s, e) ∧ x4 = nI s ∧ x5 = nI e ∧ s ≤ e ∧ e ≤ sl ∧ x6 = lN (cp_enc C) ∧ cp_ok C)) → IC n1 n2 lim dl dx sl su q tk' mq' (upd (upd (upd (upd i' 3 x3) 4 x4) 5 x5) 7 x7) (vp_updL l' 6 x6) a' b' := by
      intro x3 x4 x5 x7 x6 mq' h7 hx
      have eu : ∀ k, ¬ k = 3 → ¬ k = 4 → ¬ k = 5 → ¬ k = 7 → upd (upd (upd (upd i' 3 x3) 4 x4) 5 x5) 7 x7 k = i' k := fun k a1 a2 a3 a4 => by rw [ud_n a4, ud_n a3, ud_n a2, ud_n a1]
      refine ⟨⟨hn1, hn2, hlim⟩, tk', cu', ⟨d1, ?_, fun k hk => by rw [ea 3 (by decide)]; exact d3 k hk, d4⟩, ⟨G1, fun g hg => by rw [ea 14 (by decide)]; exact g1 g hg⟩, ⟨G2, fun g hg => by rw [ea 32 (by decide)]; exact g2 g hg⟩, ⟨?_, ?_, s3, fun k hk => by rw [ea 21 (by decide)]; exact s4 k hk, s5, s6⟩, ⟨?_, b6, b7, b8, ?_⟩, ?_, ?_, ?_⟩
      · rw [eu 33 (by decide) (by decide) (by decide) (by decide), ei 33 (by decide)]; exact d2
      · rw [eu 306 (by decide) (by decide) (by decide) (by decide)]; exact b1
      · rw [eu 321 (by decide) (by decide) (by decide) (by decide)]; exact b2
      · rw [eu 314 (by decide) (by decide) (by decide) (by decide)]; exact b5
      · rw [eu 661 (by decide) (by decide) (by decide) (by decide)]; exact b9
      · exact cq_same hr1 (by rw [eu 2 (by decide) (by decide) (by decide) (by decide), ei 2 (by decide)]) (by rw [eu 364 (by decide) (by decide) (by decide) (by decide), ei3.1]) (by rw [eu 365 (by decide) (by decide) (by decide) (by decide), ei3.2]) (fun t t1 t2 => ea t (by omega))
      · rcases hx with hx | ⟨hx, s', e, C, c0, c1, c2, c2b, c3, c4, c5⟩
        · exact Or.inl hx
        · refine Or.inr ⟨hx, ?_, s', e, C, c0, c1, c2, c2b, c3, ?_, c5⟩
          · rw [eu 2 (by decide) (by decide) (by decide) (by decide), ei 2 (by decide)]; exact w
          · rw [pk_uLs]; exact c4
      · rw [ud_s]; exact h7
    rcases z2 with ⟨v1, v2⟩ | ⟨m, x, v1, v2, v3, v4, v5⟩
    · subst v2
      have v2 : ans = -4 ∨ ans = -5 := zno rfl
      refine ⟨fun _ => hK _ _ _ _ (base _ _ _ _ _ _ b5 (Or.inl ⟨rfl, rfl⟩)), fun z => ?_⟩
      rcases v2 with v2 | v2
      · rw [v2] at z; exact absurd (by decide) z
      · rw [v2] at z; exact absurd (by decide) z
    · subst v2
      obtain ⟨k1, k2, k3, k4⟩ := zfin (x.1, x.2.1) rfl
      have k2 : x.1 ≤ x.2.1 := k2
      have k3 : x.2.1 ≤ sl := k3
      obtain ⟨q1, q2, q3⟩ := y3 m v1
      obtain ⟨T, N, F, Pl, C, tk2, fs, cs⟩ := m
      have v4 : Pl = x.2.1 := v4
      have hC : cp_in sl C := q2.2.2.2.2.2.2.1
      have gPl : i' 312 = nI Pl := q1.2.2.2.2.1
      have gC : l' 313 = lN (cp_enc C) := q1.2.2.2.2.2.1
      exact ⟨fun z => absurd z (by rw [v3]; exact nI_pos (by omega)), fun _ => hK _ _ _ _ (base _ _ _ _ _ _ b5 (Or.inr ⟨rfl, x.1, x.2.1, C, rfl, v3, by rw [gPl, v4], k2, k3, gC, cp_in_ok s3 hC⟩))⟩
theorem IC_p (h : IC n1 n2 lim dl dx sl su q st mq i l a b) : sl ≤ 40 ∧ lim ≤ 300 ∧ i 321 = nI sl ∧ (i 2 = 0 ↔ q = none) ∧ (∀ p, q = some p → ∃ Q, xG p.2 p.1 Q) ∧ (i 3 = 0 ↔ mq = none) ∧ (∀ z, mq = some z → z.1 ≤ z.2 ∧ z.2 ≤ sl ∧ i 4 = nI z.1 ∧ i 5 = nI z.2 ∧ ∃ p, q = some p) := by
  obtain ⟨hn, tk, cu, d1, g1, g2, ⟨s1, s2, s3, s4, s5⟩, t1, r1, m1, m7⟩ := h
  refine ⟨s3, hn.2.2, s2, ?_, fun p hp => ?_, ?_, fun z hz => ?_⟩
  · rcases r1 with w | ⟨w, P, ni, nr, n, tx, p1, p2, p3, p4, p5, p6⟩
    · exact ⟨fun _ => w.2, fun _ => w.1⟩
    · rw [w, p3]
      exact ⟨fun z => absurd z (by decide), fun z => by cases z⟩
  · rcases r1 with w | ⟨w, P, ni, nr, n, tx, p1, p2, p3, p4, p5, p6⟩
    · rw [hp] at w; cases w.2
    · rw [hp] at p3
      cases p3
      exact good_xG p4.1 p4.2.2.1
  · rcases m1 with w | ⟨w, w2, s, e, C, c0, c⟩
    · exact ⟨fun _ => w.2, fun _ => w.1⟩
    · rw [w, c0]
      exact ⟨fun z => absurd z (by decide), fun z => by cases z⟩
  · rcases m1 with w | ⟨w, w2, s, e, C, c0, c1, c2, c3, c4, c5, c6⟩
    · rw [hz] at w; cases w.2
    · rw [hz] at c0
      cases c0
      refine ⟨c3, c4, c1, c2, ?_⟩
      rcases r1 with v | ⟨v, P, ni, nr, n, tx, p1, p2, p3, p4, p5, p6⟩
      · rw [w2] at v; exact absurd v.1 (by decide)
      · exact ⟨_, p3⟩
theorem IC_off (h : IC n1 n2 lim dl dx sl su q st mq i l a b) : IC n1 n2 lim dl dx sl su q st none (upd i 3 0) l a b := by
  obtain ⟨hn, tk, cu, d1, g1, g2, s1, t1, r1, m1, m7⟩ := h
  exact ⟨hn, tk, cu, d1, g1, g2, s1, t1, r1, Or.inl ⟨rfl, rfl⟩, m7⟩
theorem cm_search (h : IC n1 n2 lim dl dx sl su q st mq i l a b) {x1 : Int32} (h0 : (q = none ∨ ¬ (0 ≤ x1 ∧ x1 ≤ nI sl)) → K (-1) i l a b) (h1 : ∀ p s, q = some p → s ≤ sl → x1 = nI s → ∀ i' l' a' b', IC n1 n2 lim dl dx sl su q (s_fnd lim p su sl s).2.1 (s_fnd lim p su sl s).2.2 i' l' a' b' → K (s_fnd lim p su sl s).1 i' l' a' b') : wp_Bench_search_0 n1 n2 i l a b x1 K := by
  obtain ⟨p1, p2, p3, p4, p5, p6, p7⟩ := IC_p h
  unfold wp_Bench_search_0
  rw [p3]
  refine ⟨fun w => h0 (Or.inr (fun v => absurd w (i32_nl.mpr v.1))), fun qx => ⟨fun w => h0 (Or.inr (fun v => absurd w (i32_nl.mpr v.2))), fun r => ⟨fun u => ?_, fun u => h0 (Or.inl (p4.mp u))⟩⟩⟩
  cases hq : q with
  | none => exact absurd (p4.mpr hq) u
  | some p =>
    rcases pk_ix x1 (n := sl + 1) (by omega) with w | w | ⟨s, w1, w2⟩
    · exact absurd w qx
    · have h1 := i32_le.mp w
      have h2 := i32_le.mp (i32_nl.mp r)
      rw [nI_toInt (by omega)] at h1 h2
      omega
    · exact cm_from h hq (by omega) w2 (fun i' l' a' b' y => h1 p s hq (by omega) w2 i' l' a' b' y)
theorem cm_again (h : IC n1 n2 lim dl dx sl su q st mq i l a b) (h0 : (∀ z, mq = some z → sl < s_nx z) → ∀ i', IC n1 n2 lim dl dx sl su q 0 none i' l a b → K (-4) i' l a b) (h1 : ∀ z p, mq = some z → q = some p → s_nx z ≤ sl → ∀ i' l' a' b', IC n1 n2 lim dl dx sl su q (s_fnd lim p su sl (s_nx z)).2.1 (s_fnd lim p su sl (s_nx z)).2.2 i' l' a' b' → K (s_fnd lim p su sl (s_nx z)).1 i' l' a' b') : wp_Bench_again_0 n1 n2 i l a b K := by
  have hI := h
  obtain ⟨p1, p2, p3, p4, p5, p6, p7⟩ := IC_p h
  have stop : IC n1 n2 lim dl dx sl su q 0 none (upd (upd i 3 0) 7 0) l a b := by
    obtain ⟨hn, tk, cu, d1, g1, g2, s1, t1, r1, m1, m7⟩ := h
    exact ⟨hn, tk, cu, d1, g1, g2, s1, t1, r1, Or.inl ⟨rfl, rfl⟩, rfl⟩
  unfold wp_Bench_again_0 wp_Bench_placeBehindMatch_0
  have body : ∀ (r : Int32), (∀ z, mq = some z → r = nI (s_nx z)) → ((i 3) = 0 → K (-4) (upd (upd i 3 0) 7 0) l a b) ∧ (¬ (i 3) = 0 → (r ≤ (i 321) → wp_Bench_searchFrom_0 n1 n2 i l a b r (fun r2 i2 l2 a2 b2 => K r2 i2 l2 a2 b2)) ∧ (¬ r ≤ (i 321) → K (-4) (upd (upd i 3 0) 7 0) l a b)) := by
    intro r hr
    refine ⟨fun w => h0 (fun z hz => by rw [p6.mp w] at hz; cases hz) _ stop, fun w => ?_⟩
    cases hm : mq with
    | none => exact absurd (p6.mpr hm) w
    | some z =>
      have er := hr z hm
      obtain ⟨k1, k2, k3, k4, p, k5⟩ := p7 z hm
      have hnx : s_nx z ≤ sl + 1 := by
        unfold s_nx
        split <;> omega
      rw [er, p3]
      refine ⟨fun u => ?_, fun u => h0 (fun z' hz' => ?_) _ stop⟩
      · have hs := (nI_leI (by omega) (by omega)).mp u
        exact cm_from hI k5 hs rfl (fun i' l' a' b' y => h1 z p hm k5 hs i' l' a' b' y)
      · rw [hm] at hz'
        cases hz'
        rcases Nat.lt_or_ge sl (s_nx z) with y | y
        · exact y
        · exact absurd ((nI_leI (by omega) (by omega)).mpr y) u
  refine ⟨fun w => body _ (fun z hz => ?_), fun w => body _ (fun z hz => ?_)⟩
  · obtain ⟨k1, k2, k3, k4, p, k5⟩ := p7 z hz
    rw [k3, k4] at w
    rw [k4]
    unfold s_nx
    rw [if_neg (fun v => w (by rw [v]))]
  · obtain ⟨k1, k2, k3, k4, p, k5⟩ := p7 z hz
    rw [k3, k4] at w
    rw [k4]
    unfold s_nx
    rw [if_pos ((nI_eq (by omega) (by omega)).mp w), nI_1]
theorem cm_steps (h : IC n1 n2 lim dl dx sl su q st mq i l a b) (hK : K (nI st) i l a b) : wp_Bench_steps_0 n1 n2 i l a b K := by
  obtain ⟨hn, tk, cu, d1, g1, g2, s1, t1, r1, m1, m7⟩ := h
  show K (i 7) i l a b
  rw [m7]
  exact hK
theorem cm_start (h : IC n1 n2 lim dl dx sl su q st mq i l a b) {x1 : Int32} (hK : ∀ ans, K ans i l a b) : wp_Bench_start_0 n1 n2 i l a b x1 K := by
  obtain ⟨hn, tk, cu, d1, g1, g2, s1, t1, r1, m1, m7⟩ := h
  unfold wp_Bench_start_0
  refine ⟨fun _ => hK _, fun q => ⟨fun r => ⟨fun u => ⟨fun v => ?_, fun _ => hK _⟩, fun _ => hK _⟩, fun _ => hK _⟩⟩
  rcases m1 with w | ⟨_, _, s, e, C, c0, c1, c2, c2b, c3, c4, c5⟩
  · exact absurd w.1 u
  · rcases pk_ix x1 (n := 5) (by decide) with w | w | ⟨g, w1, w2⟩
    · exact absurd w q
    · have h1 := i32_le.mp w
      have h2 := i32_le.mp r
      rw [nI_toInt (by decide)] at h1
      have h3 : (4 : Int32).toInt = 4 := rfl
      omega
    · have hg : ¬ g = 0 := fun z => v (by rw [w2, z]; rfl)
      rw [c4, w2, show g = g - 1 + 1 by omega]
      exact cp_wfrom c5 (g := g - 1) (by omega) (fun _ => hK _) (fun _ => hK _)
theorem cm_end (h : IC n1 n2 lim dl dx sl su q st mq i l a b) {x1 : Int32} (hK : ∀ ans, K ans i l a b) : wp_Bench_end_0 n1 n2 i l a b x1 K := by
  obtain ⟨hn, tk, cu, d1, g1, g2, s1, t1, r1, m1, m7⟩ := h
  unfold wp_Bench_end_0
  refine ⟨fun _ => hK _, fun q => ⟨fun r => ⟨fun u => ⟨fun v => ?_, fun _ => hK _⟩, fun _ => hK _⟩, fun _ => hK _⟩⟩
  rcases m1 with w | ⟨_, _, s, e, C, c0, c1, c2, c2b, c3, c4, c5⟩
  · exact absurd w.1 u
  · rcases pk_ix x1 (n := 5) (by decide) with w | w | ⟨g, w1, w2⟩
    · exact absurd w q
    · have h1 := i32_le.mp w
      have h2 := i32_le.mp r
      rw [nI_toInt (by decide)] at h1
      have h3 : (4 : Int32).toInt = 4 := rfl
      omega
    · have hg : ¬ g = 0 := fun z => v (by rw [w2, z]; rfl)
      rw [c4, w2, show g = g - 1 + 1 by omega]
      exact cp_wto c5 (g := g - 1) (by omega) (fun _ => hK _) (fun _ => hK _)
theorem cm_count (h : IC n1 n2 lim dl dx sl su q st mq i l a b) {x1 : Int32} (h0 : x1 = 0 → K (nI dl) i l a b) (h1 : x1 = 1 → K (nI sl) i l a b) (h2 : x1 = 2 → K (c_gn q) i l a b) (h3 : x1 = 3 → K (c_sn q) i l a b) (h4 : ¬ (0 ≤ x1 ∧ x1 ≤ 3) → K (-1) i l a b) : wp_Bench_count_0 n1 n2 i l a b x1 K := by
  obtain ⟨hn, tk, cu, ⟨d1, d2, d3, d4⟩, g1, g2, ⟨s1, s2, s3⟩, t1, r1, m1⟩ := h
  unfold wp_Bench_count_0
  refine ⟨fun w => by rw [d2]; exact h0 w, fun w0 => ⟨fun w => by rw [s2]; exact h1 w, fun w1 => ⟨fun w => ?_, fun w2 => ⟨fun w => ?_, fun w3 => h4 (fun v => ?_)⟩⟩⟩⟩
  · rcases r1 with ⟨v1, v2⟩ | ⟨v, P, ni, nr, n, tx, p1, p2, p3, p4, p5, p6⟩
    · rw [v2] at h2
      exact ⟨fun _ => h2 w, fun z => absurd v1 z⟩
    · rw [p3] at h2
      rw [p5]
      exact ⟨fun z => absurd (v.symm.trans z) (by decide), fun _ => h2 w⟩
  · rcases r1 with ⟨v1, v2⟩ | ⟨v, P, ni, nr, n, tx, p1, p2, p3, p4, p5, p6⟩
    · rw [v2] at h3
      exact ⟨fun _ => h3 w, fun z => absurd v1 z⟩
    · rw [p3] at h3
      rw [p6]
      exact ⟨fun z => absurd (v.symm.trans z) (by decide), fun _ => h3 w⟩
  · have a1 := i32_le.mp v.1
    have a2 := i32_le.mp v.2
    have e0 : (0 : Int32).toInt = 0 := rfl
    have e3 : (3 : Int32).toInt = 3 := rfl
    rcases (by omega : x1.toInt = 0 ∨ x1.toInt = 1 ∨ x1.toInt = 2 ∨ x1.toInt = 3) with u | u | u | u
    · exact w0 (Int32.toInt_inj.mp (by rw [u]; rfl))
    · exact w1 (Int32.toInt_inj.mp (by rw [u]; rfl))
    · exact w2 (Int32.toInt_inj.mp (by rw [u]; rfl))
    · exact w3 (Int32.toInt_inj.mp (by rw [u]; rfl))
theorem cm_matchesL {p : Nat × (Nat → Nat)} (hq : q = some p) {R : Int32 × Nat} (hK : ∀ i' l' a' b', IC n1 n2 lim dl dx sl su q R.2 none i' l' a' b' → K R.1 i' l' a' b') : ∀ (f t : Nat), t + f = 42 → t ≤ 41 → ∀ {st : Nat} {mq : Option (Nat × Nat)} {i : mm_i} {l : mm_j} {a : mm_a} {b : mm_b} {z3 : Int32} {s fd : Nat}, IC n1 n2 lim dl dx sl su q st mq i l a b → ¬ z3 = -5 → t ≤ s → s ≤ sl + 1 → s_mt lim p su sl f s fd st = R → wl_Bench_matches_0 n1 n2 K f i l a b (nI fd) (nI s) z3 (nI t) := by
  intro f
  induction f with
  | zero => intro t h1 h2; omega
  | succ f ih =>
    intro t h1 h2 st mq i l a b z3 s fd h hz3 hts hs hR
    obtain ⟨p1, p2, p3, p4, p5, p6, p7⟩ := IC_p h
    obtain ⟨Q, hG⟩ := p5 p hq
    show wt_Bench_matches_0 n1 n2 (wl_Bench_matches_0 n1 n2 K f) i l a b (nI fd) (nI s) z3 (nI t) K
    unfold wt_Bench_matches_0
    rw [p3]
    have stop : sl < s → (¬ z3 = ((-5) : Int32) → K (nI fd) (upd i 3 0) l a b) ∧ (z3 = ((-5) : Int32) → K (-5) (upd i 3 0) l a b) := by
      intro hlt
      have hR2 : s_mt lim p su sl (f + 1) s fd st = (nI fd, st) := if_pos hlt
      rw [hR2] at hR
      subst hR
      exact ⟨fun _ => hK _ _ _ _ (IC_off h), fun z => absurd z hz3⟩
    refine ⟨fun w => stop ?_, fun qx => ⟨fun w => stop ((nI_ltI (by omega) (by omega)).mp w), fun u => ?_⟩⟩
    · have := (nI_ltI (a := 40) (by decide) (by omega)).mp w
      omega
    have ht : t ≤ 40 := by
      rcases Nat.lt_or_ge 40 t with y | y
      · exact absurd ((nI_ltI (a := 40) (by decide) (by omega)).mpr y) qx
      · exact y
    have hs2 : s ≤ sl := by
      rcases Nat.lt_or_ge sl s with y | y
      · exact absurd ((nI_ltI (by omega) (by omega)).mpr y) u
      · exact y
    have hR2 : s_mt lim p su sl (f + 1) s fd st = match (s_fnd lim p su sl s).2.2 with
      | none => (if (s_fnd lim p su sl s).1 = -5 then -5 else nI fd, (s_fnd lim p su sl s).2.1)
      | some z => s_mt lim p su sl f (s_nx z) (fd + 1) (s_fnd lim p su sl s).2.1 := if_neg (by omega)
    rw [hR2] at hR
    refine cm_from h hq hs2 rfl (fun i' l' a' b' y1 => ?_)
    cases hz : (s_fnd lim p su sl s).2.2 with
    | none =>
      rw [hz] at hR y1
      subst hR
      refine ⟨fun w => ?_, fun w => ⟨fun v => ?_, fun v => ?_⟩⟩
      · rcases fnd_no hz with e | e
        · rw [e] at w; exact absurd w (by decide)
        · rw [e] at w; exact absurd w (by decide)
      · rw [if_neg v] at hK
        exact hK _ _ _ _ (IC_off y1)
      · rw [if_pos v] at hK
        exact hK _ _ _ _ (IC_off y1)
    | some z' =>
      obtain ⟨b1, b2, b3, b4⟩ := fnd_in hG p1 p2 hs2 hz
      rw [hz] at hR y1
      obtain ⟨_, _, _, _, _, _, p7'⟩ := IC_p y1
      obtain ⟨k1, k2, k3, k4, _⟩ := p7' z' rfl
      have hn : s + 1 ≤ s_nx z' ∧ s_nx z' ≤ sl + 1 := by
        unfold s_nx
        split <;> omega
      refine ⟨fun _ => ?_, fun w => absurd (by rw [b4]; exact nI_pos' (by omega)) w⟩
      unfold wp_Bench_placeBehindMatch_0
      rw [k3, k4]
      have hne : ¬ (s_fnd lim p su sl s).1 = -5 := by
        intro w
        have h5 : (0 : Int32) ≤ (s_fnd lim p su sl s).1 := by rw [b4]; exact nI_pos' (by omega)
        rw [w] at h5
        exact absurd h5 (by decide)
      have up : ∀ {z : Int32}, z = nI (s_nx z') → wl_Bench_matches_0 n1 n2 K f i' l' a' b' (nI fd + 1) z (s_fnd lim p su sl s).1 (nI t + 1) := by
        intro z ez
        rw [ez, nI_1, nI_1]
        exact ih (t + 1) (by omega) (by omega) y1 hne (by omega) hn.2 hR
      refine ⟨fun w => up ?_, fun w => up ?_⟩
      · unfold s_nx
        rw [if_neg (fun v => w (by rw [v]))]
      · unfold s_nx
        rw [if_pos ((nI_eq (by omega) (by omega)).mp w), nI_1]
theorem cm_matches (h : IC n1 n2 lim dl dx sl su q st mq i l a b) (h0 : q = none → K (-1) i l a b) (h1 : ∀ p, q = some p → ∀ i' l' a' b', IC n1 n2 lim dl dx sl su q (s_mt lim p su sl 42 0 0 st).2 none i' l' a' b' → K (s_mt lim p su sl 42 0 0 st).1 i' l' a' b') : wp_Bench_matches_0 n1 n2 i l a b K := by
  obtain ⟨p1, p2, p3, p4, p5, p6, p7⟩ := IC_p h
  unfold wp_Bench_matches_0
  refine ⟨fun w => ?_, fun w => h0 (p4.mp w)⟩
  cases hq : q with
  | none => exact absurd (p4.mpr hq) w
  | some p => exact ⟨42, cm_matchesL hq (h1 p hq) 42 0 (by omega) (by omega) (s := 0) (fd := 0) h (by decide) (by omega) (by omega) rfl⟩
/-- the two programs change places -/
def sw_i (i : mm_i) : mm_i := fun k => if 64 ≤ k ∧ k < 240 then i (k + 288) else if 352 ≤ k ∧ k < 528 then i (k - 288) else i k
def sw_a (a : mm_a) : mm_a := fun t => if 4 ≤ t ∧ t < 15 then a (t + 18) else if 22 ≤ t ∧ t < 33 then a (t - 18) else a t
theorem sw_in (i : mm_i) {k : Nat} (h : ¬ (64 ≤ k ∧ k < 240)) (h2 : ¬ (352 ≤ k ∧ k < 528)) : sw_i i k = i k := by unfold sw_i; rw [if_neg h, if_neg h2]
theorem sw_an (a : mm_a) {t : Nat} (h : ¬ (4 ≤ t ∧ t < 15)) (h2 : ¬ (22 ≤ t ∧ t < 33)) : sw_a a t = a t := by unfold sw_a; rw [if_neg h, if_neg h2]
theorem sw_a1 (a : mm_a) {t : Nat} (h : 22 ≤ t ∧ t < 33) : sw_a a t = a (t - 18) := by unfold sw_a; rw [if_neg (by omega), if_pos h]
theorem sw_a0 (a : mm_a) {t : Nat} (h : 4 ≤ t ∧ t < 15) : sw_a a t = a (t + 18) := by unfold sw_a; rw [if_pos h]
theorem rP_sw {P : pg} {ni nr : Nat} (h : rP P ni nr (sh a)) : rP P ni nr (sw_a a) := by
  unfold rP at h ⊢
  have e : ∀ t, 22 ≤ t ∧ t < 33 → sw_a a t = sh a t := fun t ht => sw_a1 a ht
  rw [e 23 (by decide), e 24 (by decide), e 25 (by decide), e 26 (by decide), e 27 (by decide), e 28 (by decide), e 29 (by decide), e 30 (by decide), e 31 (by decide), e 32 (by decide)]
  exact h
theorem cm_compile {K2 : KI} (h : IC n1 n2 lim dl dx sl su q st mq i l a b) (h3 : ¬ y_good dx dl → ∀ i' l' a', IC n1 n2 lim 0 dx sl su q st mq i' l' a' b → K (-3) i' l' a' b) (h2 : y_good dx dl → ¬ y_m0 dx dl ≤ 60 → ∀ i' l' a', IC n1 n2 lim 0 dx sl su q st mq i' l' a' b → K (-2) i' l' a' b) (h1 : y_good dx dl → y_m0 dx dl ≤ 60 → ∀ i' l' a', IC n1 n2 lim 0 dx sl su (some (dl, dx)) st none (sw_i i') l' (sw_a a') b → K2 (nI (x_gc dx dl dl)) i' l' a' b) : wp_Bench_compile_0 n1 n2 i l a b K K2 := by
  obtain ⟨hn, tk, cu, ⟨d1, d2, d3, d4⟩, ⟨G1, g1⟩, ⟨G2, g2⟩, ⟨s1, s2, s3, s4, s5⟩, ⟨t1, t2, t3, t4, t5⟩, r1, m1, m7⟩ := h
  unfold wp_Bench_compile_0
  refine d_readT d4 d1 d2 d3 G1 g1 (fun i' a' y1 y2 y3 => ?_)
  obtain ⟨gr1, gr2⟩ := good_rd (tx := dx) (n := dl) d4 d1 (G := G1) (az := i 24)
  have hcR : ∀ h : y_good dx dl, cR dx dl (d_loop dx dl 32 (d_ini G1 (i 24))).2.2.2.2.2.1 (d_loop dx dl 32 (d_ini G1 (i 24))).2.2.2.2.2.2.1 (d_loop dx dl 32 (d_ini G1 (i 24))).2.2.2.2.2.2.2.1 := fun h => ⟨d1, d4, h, G1, i 24, gr1.mpr h, rfl, rfl, rfl⟩
  have hwP' : d_ok (d_loop dx dl 32 (d_ini G1 (i 24))) → wP (d_loop dx dl 32 (d_ini G1 (i 24))).2.2.2.2.2.1 (d_loop dx dl 32 (d_ini G1 (i 24))).2.2.2.2.2.2.1 (d_loop dx dl 32 (d_ini G1 (i 24))).2.2.2.2.2.2.2.1 := d_good d1
  generalize hd : d_loop dx dl 32 (d_ini G1 (i 24)) = d at y1 y2 gr1 gr2 hcR hwP'
  have ei : ∀ k, (k < 22 ∨ (26 < k ∧ k < 74) ∨ 77 < k) → i' k = i k := y3.1
  have ea : ∀ t, (t < 5 ∨ 18 < t) → a' t = a t := y3.2
  have y7 : rP d.2.2.2.2.2.1 d.2.2.2.2.2.2.1 d.2.2.2.2.2.2.2.1 (sh a') := y1.2.2.2.2.2.2.1
  have y76 : i' 76 = nI d.2.2.2.2.2.2.2.2.1 := y1.2.2.2.2.2.2.2.2.2.1
  have g14 : ∀ g, g < 5 → a' 14 g = nI (q_gb d.2.2.2.2.2.1 g) := fun g hg => y7.2.2.2.2 g hg
  have plain : ∀ (z77 : Int32), IC n1 n2 lim 0 dx sl su q st mq (upd (upd i' 77 z77) 33 0) l a' b := by
    intro z77
    have eu : ∀ k, ¬ k = 77 → ¬ k = 33 → upd (upd i' 77 z77) 33 0 k = i' k := fun k a1 a2 => by rw [ud_n a2, ud_n a1]
    refine ⟨hn, tk, cu, ⟨by omega, rfl, fun k hk => absurd hk (Nat.not_lt_zero _), d4⟩, ⟨_, g14⟩, ⟨G2, fun g hg => by rw [ea 32 (by decide)]; exact g2 g hg⟩, ⟨?_, ?_, s3, fun k hk => by rw [ea 21 (by decide)]; exact s4 k hk, s5⟩, ⟨?_, t2, rF_same t3 (fun t ht _ => ea t (Or.inr (by omega))) rfl, t4, ?_⟩, ?_, ?_, ?_⟩
    · rw [eu 306 (by decide) (by decide), ei 306 (by decide)]; exact s1
    · rw [eu 321 (by decide) (by decide), ei 321 (by decide)]; exact s2
    · rw [eu 314 (by decide) (by decide), ei 314 (by decide)]; exact t1
    · rw [eu 661 (by decide) (by decide), ei 661 (by decide)]; exact t5
    · exact cq_same r1 (by rw [eu 2 (by decide) (by decide), ei 2 (by decide)]) (by rw [eu 364 (by decide) (by decide), ei 364 (by decide)]) (by rw [eu 365 (by decide) (by decide), ei 365 (by decide)]) (fun t t1 t2 => ea t (by omega))
    · rw [eu 2 (by decide) (by decide), ei 2 (by decide), eu 3 (by decide) (by decide), ei 3 (by decide), eu 4 (by decide) (by decide), ei 4 (by decide), eu 5 (by decide) (by decide), ei 5 (by decide)]
      exact m1
    · rw [eu 7 (by decide) (by decide), ei 7 (by decide)]; exact m7
  by_cases hok : d_ok d
  · rw [if_pos hok]
    have hgood := gr1.mp hok
    obtain ⟨e1, e2, _⟩ := gr2 hgood
    refine ⟨fun _ => ⟨fun w => ?_, fun w => h2 hgood (fun v => w ?_) _ _ _ (plain _)⟩, fun z => absurd z (by decide)⟩
    · rw [ud_s, e1] at w
      have e76 : upd i' 77 ((d.2.2.2.2.2.2.2.2.2 0).2.2.2) 76 = nI (x_gc dx dl dl) := by rw [ud_n (by decide), y76, e2]
      rw [e76]
      refine h1 hgood w _ _ _ ?_
      have hwP := hwP' hok
      have eu : ∀ (z77 : Int32) k, ¬ k = 77 → ¬ k = 33 → ¬ k = 2 → ¬ k = 3 → upd (upd (upd (upd i' 77 z77) 33 0) 2 1) 3 0 k = i' k := fun z77 k a1 a2 a3 a4 => by rw [ud_n a4, ud_n a3, ud_n a2, ud_n a1]
      refine ⟨hn, tk, cu, ⟨by omega, ?_, fun k hk => absurd hk (Nat.not_lt_zero _), d4⟩, ⟨G2, fun g hg => ?_⟩, ⟨q_gb d.2.2.2.2.2.1, fun g hg => ?_⟩, ⟨?_, ?_, s3, fun k hk => ?_, s5⟩, ⟨?_, t2, ?_, t4, ?_⟩, Or.inr ⟨?_, _, _, _, _, _, rP_sw y7, hwP, rfl, hcR hgood, ?_, ?_⟩, Or.inl ⟨?_, rfl⟩, ?_⟩
      · rw [sw_in _ (by decide) (by decide), ud_n (by decide), ud_n (by decide), ud_s]; rfl
      · rw [sw_a0 a' (by decide), ea 32 (by decide)]; exact g2 g hg
      · rw [sw_a1 a' (by decide)]; exact g14 g hg
      · rw [sw_in _ (by decide) (by decide), eu _ 306 (by decide) (by decide) (by decide) (by decide), ei 306 (by decide)]; exact s1
      · rw [sw_in _ (by decide) (by decide), eu _ 321 (by decide) (by decide) (by decide) (by decide), ei 321 (by decide)]; exact s2
      · rw [sw_an a' (by decide) (by decide), ea 21 (by decide)]; exact s4 k hk
      · rw [sw_in _ (by decide) (by decide), eu _ 314 (by decide) (by decide) (by decide) (by decide), ei 314 (by decide)]; exact t1
      · exact rF_same t3 (fun t h1 h2 => by rw [sw_an a' (by omega) (by omega), ea t (Or.inr (by omega))]) rfl
      · rw [sw_in _ (by decide) (by decide), eu _ 661 (by decide) (by decide) (by decide) (by decide), ei 661 (by decide)]; exact t5
      · rw [sw_in _ (by decide) (by decide), ud_n (by decide), ud_s]
      · show sw_i _ 364 = _
        rw [show ∀ j : mm_i, sw_i j 364 = j 76 from fun j => rfl, ud_n (by decide), ud_n (by decide), ud_n (by decide)]
        exact e76
      · show sw_i _ 365 = _
        rw [show ∀ j : mm_i, sw_i j 365 = j 77 from fun j => rfl, ud_n (by decide), ud_n (by decide), ud_n (by decide), ud_s]
        exact e1
      · rw [sw_in _ (by decide) (by decide), ud_s]
      · rw [sw_in _ (by decide) (by decide), eu _ 7 (by decide) (by decide) (by decide) (by decide), ei 7 (by decide)]; exact m7
    · rw [ud_s, e1]
      exact v
  · rw [if_neg hok]
    exact ⟨fun z => absurd rfl z, fun _ => h3 (fun w => hok (gr1.mpr w)) _ _ _ (plain _)⟩
end CA
