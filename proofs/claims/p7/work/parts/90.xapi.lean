/-! the reference between two calls, and its calls -/
abbrev KI : Type := Int32 → mm_i → mm_j → mm_a → mm_b → Prop
def yOK (x : Int32) : Prop := (97 ≤ x ∧ x ≤ 122) ∨ (48 ≤ x ∧ x ≤ 57) ∨ (40 ≤ x ∧ x ≤ 43) ∨ x = 45 ∨ x = 46 ∨ x = 58 ∨ (61 ≤ x ∧ x ≤ 63) ∨ x = 33 ∨ x = 36 ∨ (91 ≤ x ∧ x ≤ 94) ∨ (123 ≤ x ∧ x ≤ 125)
/-- what both sides share between two calls: the draft, the subject, the ready pattern -/
abbrev LT : Type := Nat × (Nat → Nat) × Nat × (Nat → Nat) × Option (Nat × (Nat → Nat)) × Nat × Option (Nat × Nat)
def y_m0 (tx : Nat → Nat) (n : Nat) : Int32 := y_ms tx n (n + 1) 0 0 (fun _ => 0)
def c_gn (q : Option (Nat × (Nat → Nat))) : Int32 := match q with
  | none => -4
  | some p => nI (x_gc p.2 p.1 p.1)
def c_sn (q : Option (Nat × (Nat → Nat))) : Int32 := match q with
  | none => -4
  | some p => y_m0 p.2 p.1
def y_good (tx : Nat → Nat) (n : Nat) : Prop := 0 ≤ y_m0 tx n ∧ x_hi tx n n ≤ x_gc tx n n ∧ x_gc tx n n ≤ 4
def IM (lim dl : Nat) (dx : Nat → Nat) (sl : Nat) (su : Nat → Nat) (q : Option (Nat × (Nat → Nat))) (st : Nat) (mq : Option (Nat × Nat)) (i : mm_i) (l : mm_j) (a : mm_a) (b : mm_b) : Prop := ∃ (tx : Nat → Nat) (n : Nat) (kp : Nat → Nat → Nat) (mo : Option (Nat × Nat × (Nat → Nat))), rD' dx dl i a ∧ rZ tx n su sl lim st kp i a b ∧ ((i 3 = 0 ∧ mo = none ∧ q = none) ∨ (i 3 = 1 ∧ q = some (n, tx) ∧ (∃ Q, xG tx n Q) ∧ i 5 = nI (x_gc tx n n) ∧ i 6 = y_m0 tx n)) ∧ rMt sl mo i l ∧ mq = mo.map (fun z => (z.1, z.2.1)) ∧ ∀ k, k < sl → 97 ≤ su k ∧ su k ≤ 122
theorem m0_is {tx : Nat → Nat} {n : Nat} (ht : ∀ j, tx j < 128) (hn32 : n ≤ 32) {s : Nat → Int32} (hs : s 0 = 0) : ((0 ≤ y_ms tx n (n + 1) 0 0 s ∧ x_hi tx n n ≤ x_gc tx n n ∧ x_gc tx n n ≤ 4) ↔ y_good tx n) ∧ (y_good tx n → y_ms tx n (n + 1) 0 0 s = y_m0 tx n) := by
  have h1 := read_is (G := fun _ => 0) (az := 0) ht hn32 hs
  have h2 := read_is (G := fun _ => 0) (az := 0) ht hn32 (s := fun _ => 0) rfl
  generalize d_loop tx n 32 (d_ini (fun _ => 0) 0) = D at h1 h2
  have neg : ¬ (0 : Int32) ≤ -1 := by decide
  unfold y_good y_m0
  rcases h1 with ⟨a1, a2⟩ | ⟨a1, y, a2, a3, a4, a5, a6, a7⟩ <;> rcases h2 with ⟨b1, b2⟩ | ⟨b1, y', b2, b3, b4, b5, b6, b7⟩
  · have n1 : ¬ (0 ≤ y_ms tx n (n + 1) 0 0 s ∧ x_hi tx n n ≤ x_gc tx n n ∧ x_gc tx n n ≤ 4) := by
      intro w
      rcases a2 with e | e | e
      · rw [e] at w; exact neg w.1
      · omega
      · omega
    have n2 : ¬ (0 ≤ y_ms tx n (n + 1) 0 0 (fun _ => 0) ∧ x_hi tx n n ≤ x_gc tx n n ∧ x_gc tx n n ≤ 4) := by
      intro w
      rcases b2 with e | e | e
      · rw [e] at w; exact neg w.1
      · omega
      · omega
    exact ⟨⟨fun w => absurd w n1, fun w => absurd w n2⟩, fun w => absurd w n2⟩
  · exact absurd b1 a1
  · exact absurd a1 b1
  · have e : nI y = nI y' := a3.symm.trans b3
    rw [a4, b4, e]
    exact ⟨Iff.rfl, fun _ => rfl⟩
theorem good_rd {tx : Nat → Nat} {n : Nat} (ht : ∀ j, tx j < 128) (hn32 : n ≤ 32) {G : Nat → Nat} {az : Int32} : (d_ok (d_loop tx n 32 (d_ini G az)) ↔ y_good tx n) ∧ (y_good tx n → ((d_loop tx n 32 (d_ini G az)).2.2.2.2.2.2.2.2.2 0).2.2.2 = y_m0 tx n ∧ (d_loop tx n 32 (d_ini G az)).2.2.2.2.2.2.2.2.1 = x_gc tx n n ∧ ∃ y, y < 2 ^ 30 ∧ y_m0 tx n = nI y) := by
  have h2 := read_is (G := G) (az := az) ht hn32 (s := fun _ => 0) rfl
  have neg : ¬ (0 : Int32) ≤ -1 := by decide
  unfold y_good y_m0
  rcases h2 with ⟨b1, b2⟩ | ⟨b1, y', b2, b3, b4, b5, b6, b7⟩
  · have n2 : ¬ (0 ≤ y_ms tx n (n + 1) 0 0 (fun _ => 0) ∧ x_hi tx n n ≤ x_gc tx n n ∧ x_gc tx n n ≤ 4) := by
      intro w
      rcases b2 with e | e | e
      · rw [e] at w; exact neg w.1
      · omega
      · omega
    exact ⟨⟨fun w => absurd w b1, fun w => absurd w n2⟩, fun w => absurd w n2⟩
  · refine ⟨⟨fun _ => ⟨?_, b6, b7⟩, fun _ => b1⟩, fun _ => ⟨by rw [b3, b4], b5, y', b2, b4⟩⟩
    rw [b4]
    exact nI_pos' (by omega)
theorem i32_lt {a b : Int32} : a < b ↔ a.toInt < b.toInt := Int32.lt_iff_toInt_lt
theorem i32_le {a b : Int32} : a ≤ b ↔ a.toInt ≤ b.toInt := Int32.le_iff_toInt_le
theorem i32_nl {a b : Int32} : ¬ a < b ↔ b ≤ a := by rw [i32_lt, i32_le]; omega
section XA
variable {lim dl sl : Nat} {dx su : Nat → Nat} {q : Option (Nat × (Nat → Nat))} {st : Nat} {mq : Option (Nat × Nat)} {i : mm_i} {l : mm_j} {a : mm_a} {b : mm_b} {K : KI}
theorem y_inI {x1 x2 x3 : Int32} (h1 : x2 ≤ x1 ∧ x1 ≤ x3 → K 1 i l a b) (h0 : ¬ (x2 ≤ x1 ∧ x1 ≤ x3) → K 0 i l a b) : wp_Model_in i l a b x1 x2 x3 K := by
  unfold wp_Model_in
  refine ⟨fun q => h0 (fun w => absurd q (i32_nl.mpr w.1)), fun q => ⟨fun r => h0 (fun w => absurd r (i32_nl.mpr w.2)), fun r => h1 ⟨i32_nl.mp q, i32_nl.mp r⟩⟩⟩
theorem y_sign {x1 : Int32} (h1 : ((40 ≤ x1 ∧ x1 ≤ 43) ∨ x1 = 45 ∨ x1 = 46 ∨ x1 = 58 ∨ (61 ≤ x1 ∧ x1 ≤ 63) ∨ x1 = 33 ∨ x1 = 36 ∨ (91 ≤ x1 ∧ x1 ≤ 94) ∨ (123 ≤ x1 ∧ x1 ≤ 125)) → K 1 i l a b) (h0 : ¬ ((40 ≤ x1 ∧ x1 ≤ 43) ∨ x1 = 45 ∨ x1 = 46 ∨ x1 = 58 ∨ (61 ≤ x1 ∧ x1 ≤ 63) ∨ x1 = 33 ∨ x1 = 36 ∨ (91 ≤ x1 ∧ x1 ≤ 94) ∨ (123 ≤ x1 ∧ x1 ≤ 125)) → K 0 i l a b) : wp_Model_sign i l a b x1 K := by
  unfold wp_Model_sign
  refine y_inI (fun q => ⟨fun _ => h1 (Or.inl q), fun z => absurd z (by decide)⟩) (fun q1 => ⟨fun z => absurd rfl z, fun _ => ⟨fun q => h1 (Or.inr (Or.inl q)), fun q2 => ⟨fun q => h1 (Or.inr (Or.inr (Or.inl q))), fun q3 => ⟨fun q => h1 (Or.inr (Or.inr (Or.inr (Or.inl q)))), fun q4 => ?_⟩⟩⟩⟩)
  refine y_inI (fun q => ⟨fun z => absurd z (by decide), fun _ => h1 (Or.inr (Or.inr (Or.inr (Or.inr (Or.inl q)))))⟩) (fun q5 => ⟨fun _ => ⟨fun q => h1 (Or.inr (Or.inr (Or.inr (Or.inr (Or.inr (Or.inl q)))))), fun q6 => ⟨fun q => h1 (Or.inr (Or.inr (Or.inr (Or.inr (Or.inr (Or.inr (Or.inl q))))))), fun q7 => ?_⟩⟩, fun z => absurd rfl z⟩)
  refine y_inI (fun q => ⟨fun _ => h1 (Or.inr (Or.inr (Or.inr (Or.inr (Or.inr (Or.inr (Or.inr (Or.inl q)))))))), fun z => absurd z (by decide)⟩) (fun q8 => ⟨fun z => absurd rfl z, fun _ => ?_⟩)
  refine y_inI (fun q => ⟨fun z => absurd z (by decide), fun _ => h1 (Or.inr (Or.inr (Or.inr (Or.inr (Or.inr (Or.inr (Or.inr (Or.inr q))))))))⟩) (fun q9 => ⟨fun _ => h0 ?_, fun z => absurd rfl z⟩)
  intro w
  rcases w with w | w | w | w | w | w | w | w | w
  · exact q1 w
  · exact q2 w
  · exact q3 w
  · exact q4 w
  · exact q5 w
  · exact q6 w
  · exact q7 w
  · exact q8 w
  · exact q9 w
theorem y_ok_nat {x : Int32} (h : yOK x) : ∃ c, c < 128 ∧ x = nI c := by
  rcases pk_ix x (n := 128) (by decide) with q | q | q
  · exfalso
    unfold yOK at h
    rw [i32_lt] at q
    have e : (0 : Int32).toInt = 0 := rfl
    have hs : ∀ c : Nat, c < 128 → ∀ v : Int32, v = nI c → v.toInt = c := fun c hc v hv => by rw [hv]; exact nI_toInt (by omega)
    rcases h with h | h | h | h | h | h | h | h | h | h | h
    · have := i32_le.mp h.1; rw [hs 97 (by decide) 97 rfl] at this; omega
    · have := i32_le.mp h.1; rw [hs 48 (by decide) 48 rfl] at this; omega
    · have := i32_le.mp h.1; rw [hs 40 (by decide) 40 rfl] at this; omega
    · rw [h, hs 45 (by decide) 45 rfl] at q; omega
    · rw [h, hs 46 (by decide) 46 rfl] at q; omega
    · rw [h, hs 58 (by decide) 58 rfl] at q; omega
    · have := i32_le.mp h.1; rw [hs 61 (by decide) 61 rfl] at this; omega
    · rw [h, hs 33 (by decide) 33 rfl] at q; omega
    · rw [h, hs 36 (by decide) 36 rfl] at q; omega
    · have := i32_le.mp h.1; rw [hs 91 (by decide) 91 rfl] at this; omega
    · have := i32_le.mp h.1; rw [hs 123 (by decide) 123 rfl] at this; omega
  · exfalso
    unfold yOK at h
    rw [i32_le, nI_toInt (by decide)] at q
    have hs : ∀ c : Nat, c < 128 → ∀ v : Int32, v = nI c → v.toInt = c := fun c hc v hv => by rw [hv]; exact nI_toInt (by omega)
    rcases h with h | h | h | h | h | h | h | h | h | h | h
    · have := i32_le.mp h.2; rw [hs 122 (by decide) 122 rfl] at this; omega
    · have := i32_le.mp h.2; rw [hs 57 (by decide) 57 rfl] at this; omega
    · have := i32_le.mp h.2; rw [hs 43 (by decide) 43 rfl] at this; omega
    · rw [h, hs 45 (by decide) 45 rfl] at q; omega
    · rw [h, hs 46 (by decide) 46 rfl] at q; omega
    · rw [h, hs 58 (by decide) 58 rfl] at q; omega
    · have := i32_le.mp h.2; rw [hs 63 (by decide) 63 rfl] at this; omega
    · rw [h, hs 33 (by decide) 33 rfl] at q; omega
    · rw [h, hs 36 (by decide) 36 rfl] at q; omega
    · have := i32_le.mp h.2; rw [hs 94 (by decide) 94 rfl] at this; omega
    · have := i32_le.mp h.2; rw [hs 125 (by decide) 125 rfl] at this; omega
  · obtain ⟨j, h1, h2⟩ := q
    exact ⟨j, h1, h2⟩
/-- write -/
theorem xm_write (h : IM lim dl dx sl su q st mq i l a b) {x1 : Int32} (h0 : ¬ yOK x1 → K (-1) i l a b) (h1 : yOK x1 → dl = 32 → K (-2) i l a b) (h2 : yOK x1 → ¬ dl = 32 → ∀ i' a', IM lim (dl + 1) (va_up dx dl x1.toNatClampNeg) sl su q st mq i' l a' b → K (nI (dl + 1)) i' l a' b) : wp_Model_write_0 i l a b x1 K := by
  obtain ⟨tx, n, kp, mo, hD, hZ, hr, hm, hmq, hll⟩ := h
  have hdl := hD.1
  have fin : yOK x1 → (¬ (i 1) = (32 : Int32) → vp_in (i 1) 32 ∧ (K ((i 1) + (1 : Int32)) (upd i 1 ((i 1) + (1 : Int32))) l (mm_ua a 1 (upd (a 1) (i 1).toNatClampNeg x1)) b)) ∧ ((i 1) = (32 : Int32) → K (-2) i l a b) := by
    intro hy
    obtain ⟨c, hc, ex⟩ := y_ok_nat hy
    have hcc : x1.toNatClampNeg = c := by rw [ex]; exact nI_clamp (by omega)
    rw [hD.2.1]
    refine ⟨fun q => ?_, fun q => h1 hy ((x_is 32 rfl (by omega) (by decide)).mp q)⟩
    have q1 : ¬ dl = 32 := fun w => q (by rw [w]; rfl)
    refine ⟨vp_in_nI (by omega) (by decide), ?_⟩
    rw [nI_1, nI_clamp (by omega)]
    obtain ⟨⟨z0, z1, ⟨z2, z3, z4, z5⟩, z6⟩, z7⟩ := hZ
    refine h2 hy q1 _ _ ⟨tx, n, kp, mo, ⟨by omega, rfl, fun k hk => ?_, fun k => ?_⟩, ⟨⟨z0, z1, ⟨z2, z3, fun k hk => ?_, z5⟩, ?_, z6.2⟩, z7⟩, hr, ?_, hmq, hll⟩
    · rw [mu_s]
      show upd (a 1) dl x1 k = nI (if k = dl then x1.toNatClampNeg else dx k)
      by_cases w : k = dl
      · rw [w, if_pos rfl, pk_us, hcc]; exact ex
      · rw [if_neg w, pk_un w]; exact hD.2.2.1 k (by omega)
    · show (if k = dl then x1.toNatClampNeg else dx k) < 128
      rw [hcc]
      split
      · exact hc
      · exact hD.2.2.2 k
    · rw [mu_n (by decide)]; exact z4 k hk
    · intro k hk
      rw [mu_n (by decide)]; exact z6.1 k hk
    · cases mo with
      | none => exact hm
      | some m => exact hm
  unfold wp_Model_write_0 wp_Model_letter
  refine y_inI (fun q => ⟨Or.inr rfl, fun _ => fin (Or.inl q), fun z => absurd z (by decide)⟩) (fun q => ⟨Or.inl rfl, fun z => absurd rfl z, fun _ => ?_⟩)
  refine y_inI (fun r => ⟨fun _ => fin (Or.inr (Or.inl r)), fun z => absurd z (by decide)⟩) (fun r => ⟨fun z => absurd rfl z, fun _ => ?_⟩)
  refine y_sign (fun s => ⟨fun _ => fin (Or.inr (Or.inr s)), fun z => absurd z (by decide)⟩) (fun s => ⟨fun z => absurd rfl z, fun _ => h0 (fun w => ?_)⟩)
  rcases w with w | w | w
  · exact q w
  · exact r w
  · exact s w
/-- feed -/
theorem xm_feed (h : IM lim dl dx sl su q st mq i l a b) {x1 : Int32} (h0 : ¬ (97 ≤ x1 ∧ x1 ≤ 122) → K (-1) i l a b) (h1 : 97 ≤ x1 ∧ x1 ≤ 122 → sl = 40 → K (-2) i l a b) (h2 : 97 ≤ x1 ∧ x1 ≤ 122 → ¬ sl = 40 → ∀ i' a', IM lim dl dx (sl + 1) (va_up su sl x1.toNatClampNeg) q st none i' l a' b → K (nI (sl + 1)) i' l a' b) : wp_Model_feed_0 i l a b x1 K := by
  obtain ⟨tx, n, kp, mo, hD, hZ, hr, hm, hmq, hll⟩ := h
  obtain ⟨⟨z0, z1, z2, z3, z4, z5, z6⟩, z7⟩ := hZ
  unfold wp_Model_feed_0 wp_Model_letter
  refine y_inI (fun qx => ⟨Or.inr rfl, fun _ => ?_, fun z => absurd z (by decide)⟩) (fun qx => ⟨Or.inl rfl, fun z => absurd rfl z, fun _ => h0 qx⟩)
  obtain ⟨c, hc, ex⟩ := y_ok_nat (Or.inl qx)
  have hcc : x1.toNatClampNeg = c := by rw [ex]; exact nI_clamp (by omega)
  rw [z1]
  refine ⟨fun r => ?_, fun r => h1 qx ((x_is 40 rfl (by omega) (by decide)).mp r)⟩
  have r1 : ¬ sl = 40 := fun w => r (by rw [w]; rfl)
  refine ⟨vp_in_nI (by omega) (by decide), ?_⟩
  rw [nI_1, nI_clamp (by omega)]
  refine h2 qx r1 _ _ ⟨tx, n, kp, none, ⟨hD.1, hD.2.1, fun k hk => ?_, hD.2.2.2⟩, ⟨⟨z0, rfl, ⟨z2.1, z2.2.1, fun k hk => ?_, z2.2.2.2⟩, fun k hk => ?_, by omega, z5, fun k => ?_⟩, z7⟩, ?_, rfl, rfl, fun k hk => ?_⟩
  · rw [mu_n (by decide)]; exact hD.2.2.1 k hk
  · rw [mu_n (by decide)]; exact z2.2.2.1 k hk
  · rw [mu_s]
    show upd (a 3) sl x1 k = nI (if k = sl then x1.toNatClampNeg else su k)
    by_cases w : k = sl
    · rw [w, if_pos rfl, pk_us, hcc]; exact ex
    · rw [if_neg w, pk_un w]; exact z3 k hk
  · show (if k = sl then x1.toNatClampNeg else su k) < 128
    rw [hcc]
    split
    · exact hc
    · exact z6 k
  · rcases hr with w | w
    · exact Or.inl ⟨w.1, rfl, w.2.2⟩
    · exact Or.inr w
  · show 97 ≤ (if k = sl then x1.toNatClampNeg else su k) ∧ (if k = sl then x1.toNatClampNeg else su k) ≤ 122
    by_cases w : k = sl
    · rw [if_pos w, hcc]
      rw [ex] at qx
      exact ⟨(nI_leI (a := 97) (by decide) (by omega)).mp qx.1, (nI_leI (b := 122) (by omega) (by decide)).mp qx.2⟩
    · rw [if_neg w]
      exact hll k (by omega)
/-- clear -/
theorem xm_clear (h : IM lim dl dx sl su q st mq i l a b) (hK : ∀ i', IM lim dl dx 0 su q st none i' l a b → K (nI sl) i' l a b) : wp_Model_clear_0 i l a b K := by
  obtain ⟨tx, n, kp, mo, hD, hZ, hr, hm, hmq, hll⟩ := h
  obtain ⟨⟨z0, z1, z2, z3, z4, z5, z6⟩, z7⟩ := hZ
  unfold wp_Model_clear_0
  rw [z1]
  refine hK _ ⟨tx, n, kp, none, hD, ⟨⟨z0, rfl, z2, z3, by omega, z5, z6⟩, z7⟩, ?_, rfl, rfl, fun k hk => absurd hk (Nat.not_lt_zero _)⟩
  rcases hr with w | w
  · exact Or.inl ⟨w.1, rfl, w.2.2⟩
  · exact Or.inr w
/-- a search of a ready pattern -/
theorem xm_seek (h : IM lim dl dx sl su q st mq i l a b) {p : Nat × (Nat → Nat)} (hq : q = some p) {s : Nat} (hs : s ≤ sl) {x1 : Int32} (ex : x1 = nI s) (hK : ∀ i' l' b', i' 8 = nI sl → i' 3 = i 3 → IM lim dl dx sl su q (s_fnd lim p su sl s).2.1 (s_fnd lim p su sl s).2.2 i' l' a b' → (∀ z, (s_fnd lim p su sl s).2.2 = some z → i' 12 = nI z.1 ∧ i' 13 = nI z.2) → K (s_fnd lim p su sl s).1 i' l' a b') : wp_Model_seek_0 i l a b x1 K := by
  obtain ⟨tx, n, kp, mo, hD, hZ, hr2, hm, hmq, hll⟩ := h
  rcases hr2 with w | ⟨w1, w2, ⟨Q, hG⟩, w3, w4⟩
  · rw [hq] at w; cases w.2.2
  · rw [hq] at w2
    cases w2
    refine x_seek hG hZ hs ex (fun i' l' b' ans st' mo' kp' y1 y2 y3 y4 => ?_)
    have e3 : i' 3 = i 3 := y4.1 3 (by decide) (by decide) (by decide) (by decide)
    have e1 : i' 1 = i 1 := y4.1 1 (by decide) (by decide) (by decide) (by decide)
    have e5 : i' 5 = i 5 := y4.1 5 (by decide) (by decide) (by decide) (by decide)
    have e6 : i' 6 = i 6 := y4.1 6 (by decide) (by decide) (by decide) (by decide)
    obtain ⟨a1, a2, a3⟩ := fnd_kp (p := (n, tx)) y1
    rw [a1, a2, a3] at hK
    refine hK i' l' b' y2.1.2.1 e3 ⟨tx, n, kp', mo', ⟨hD.1, by rw [e1]; exact hD.2.1, hD.2.2⟩, y2, Or.inr ⟨by rw [e3]; exact w1, hq, ⟨Q, hG⟩, by rw [e5]; exact w3, by rw [e6]; exact w4⟩, y3, rfl, hll⟩ (fun z hz => ?_)
    cases mo' with
    | none => cases hz
    | some m =>
      cases hz
      exact ⟨y3.2.1, y3.2.2.1⟩
theorem IM_p (h : IM lim dl dx sl su q st mq i l a b) : sl ≤ 40 ∧ lim ≤ 300 ∧ (i 3 = 0 ↔ q = none) ∧ (∀ p, q = some p → ∃ Q, xG p.2 p.1 Q) ∧ (∀ z, mq = some z → z.1 ≤ z.2 ∧ z.2 ≤ sl ∧ ∃ p, q = some p) := by
  obtain ⟨tx, n, kp, mo, hD, hZ, hr2, hm, hmq, hll⟩ := h
  refine ⟨hZ.1.2.2.2.2.1, hZ.1.2.2.2.2.2.1, ?_, fun p hp => ?_, fun z hz => ?_⟩
  · rcases hr2 with w | w
    · exact ⟨fun _ => w.2.2, fun _ => w.1⟩
    · rw [w.1, w.2.1]
      exact ⟨fun z => absurd z (by decide), fun z => by cases z⟩
  · rcases hr2 with w | w
    · rw [hp] at w; cases w.2.2
    · rw [hp] at w
      cases w.2.1
      exact w.2.2.1
  · rw [hmq] at hz
    cases mo with
    | none => cases hz
    | some m =>
      cases hz
      refine ⟨hm.2.2.2.2.1, hm.2.2.2.2.2.1, ?_⟩
      rcases hr2 with w | w
      · cases w.2.1
      · exact ⟨_, w.2.1⟩
theorem xm_search (h : IM lim dl dx sl su q st mq i l a b) {x1 : Int32} (h0 : (q = none ∨ ¬ (0 ≤ x1 ∧ x1 ≤ nI sl)) → K (-1) i l a b) (h1 : ∀ p s, q = some p → s ≤ sl → x1 = nI s → ∀ i' l' b', IM lim dl dx sl su q (s_fnd lim p su sl s).2.1 (s_fnd lim p su sl s).2.2 i' l' a b' → K (s_fnd lim p su sl s).1 i' l' a b') : wp_Model_search_0 i l a b x1 K := by
  have hI := h
  obtain ⟨p1, p2, p3, p4, p5⟩ := IM_p h
  obtain ⟨tx, n, kp, mo, hD, hZ, hr2, hm, hmq, hll⟩ := h
  have e8 := hZ.1.2.1
  unfold wp_Model_search_0
  refine ⟨fun w => h0 (Or.inl (p3.mp w)), fun qx => ?_⟩
  rw [e8]
  refine y_inI (fun r => ⟨fun _ => ?_, fun z => absurd z (by decide)⟩) (fun r => ⟨fun z => absurd rfl z, fun _ => h0 (Or.inr r)⟩)
  cases hq : q with
  | none => exact absurd (p3.mpr hq) qx
  | some p =>
    rcases pk_ix x1 (n := sl + 1) (by omega) with w | w | ⟨s, w1, w2⟩
    · exact absurd w (i32_nl.mpr r.1)
    · have h1 := i32_le.mp w
      have h2 := i32_le.mp r.2
      rw [nI_toInt (by omega)] at h1 h2
      omega
    · exact xm_seek hI hq (by omega) w2 (fun i' l' b' _ _ y _ => by rw [hq] at y; exact h1 p s hq (by omega) w2 i' l' b' (by rw [hq]; exact y))
theorem xm_again (h : IM lim dl dx sl su q st mq i l a b) (h0 : (∀ z, mq = some z → sl < s_nx z) → ∀ i', IM lim dl dx sl su q 0 none i' l a b → K (-4) i' l a b) (h1 : ∀ z p, mq = some z → q = some p → s_nx z ≤ sl → ∀ i' l' b', IM lim dl dx sl su q (s_fnd lim p su sl (s_nx z)).2.1 (s_fnd lim p su sl (s_nx z)).2.2 i' l' a b' → K (s_fnd lim p su sl (s_nx z)).1 i' l' a b') : wp_Model_again_0 i l a b K := by
  have hI := h
  obtain ⟨p1, p2, p3, p4, p5⟩ := IM_p h
  obtain ⟨tx, n, kp, mo, hD, hZ, hr2, hm, hmq, hll⟩ := h
  have e8 := hZ.1.2.1
  have hsl := hZ.1.2.2.2.2.1
  have stop : IM lim dl dx sl su q 0 none (upd (upd i 11 0) 10 0) l a b := by
    obtain ⟨z0, z1, z2, z3⟩ := hZ
    refine ⟨tx, n, kp, none, hD, ⟨rY_same z0 rfl rfl rfl, rfl, Nat.zero_le _, z3⟩, ?_, rfl, rfl, hll⟩
    rcases hr2 with w | w
    · exact Or.inl ⟨w.1, rfl, w.2.2⟩
    · exact Or.inr w
  unfold wp_Model_again_0 wq_Model_again_0_41
  rw [e8]
  cases mo with
  | none =>
    have e11 : i 11 = 0 := hm
    rw [e11]
    refine ⟨fun _ => ⟨fun _ => h0 (fun z hz => by rw [hmq] at hz; cases hz) _ stop, fun z => ?_⟩, fun z => absurd rfl z⟩
    rw [nI_1] at z
    exact absurd ((nI_ltI (by omega) (by omega)).mpr (by omega)) z
  | some m =>
    obtain ⟨m1, m2, m3, m4, m5, m6, m7⟩ := hm
    have hmz : mq = some (m.1, m.2.1) := hmq
    obtain ⟨q1, q2, pp, hpp⟩ := p5 _ hmz
    have q1 : m.1 ≤ m.2.1 := q1
    have go : ∀ {z : Int32}, z = nI (s_nx (m.1, m.2.1)) → (nI sl < z → K (-4) (upd (upd i 11 0) 10 0) l a b) ∧ (¬ nI sl < z → wp_Model_seek_0 i l a b z (fun r1 i1 l1 a1 b1 => K r1 i1 l1 a1 b1)) := by
      intro z ez
      have hs : s_nx (m.1, m.2.1) ≤ sl + 1 := by
        unfold s_nx
        show (if m.2.1 = m.1 then m.2.1 + 1 else m.2.1) ≤ sl + 1
        split <;> omega
      refine ⟨fun w => h0 (fun z' hz' => ?_) _ stop, fun w => ?_⟩
      · rw [hmz] at hz'
        cases hz'
        rw [ez] at w
        exact (nI_ltI (by omega) (by omega)).mp w
      · have hs2 : s_nx (m.1, m.2.1) ≤ sl := by
          rcases Nat.lt_or_ge sl (s_nx (m.1, m.2.1)) with y | y
          · exact absurd (by rw [ez]; exact (nI_ltI (by omega) (by omega)).mpr y) w
          · exact y
        exact xm_seek hI hpp hs2 ez (fun i' l' b' _ _ y _ => h1 _ pp hmz hpp hs2 i' l' b' y)
    rw [m1, m2, m3]
    refine ⟨fun z => absurd z (by decide), fun _ => ⟨fun qx => ?_, fun qx => ?_⟩⟩
    · refine go ?_
      have hle := (nI_leI (by omega) (by omega)).mp qx
      unfold s_nx
      show nI m.2.1 + 1 = nI (if m.2.1 = m.1 then m.2.1 + 1 else m.2.1)
      rw [if_pos (by omega), nI_1]
    · refine go ?_
      have hle : ¬ m.2.1 ≤ m.1 := fun w => qx ((nI_leI (by omega) (by omega)).mpr w)
      unfold s_nx
      show nI m.2.1 = nI (if m.2.1 = m.1 then m.2.1 + 1 else m.2.1)
      rw [if_neg (by omega)]
theorem xm_bound (h : IM lim dl dx sl su q st mq i l a b) {x1 x2 : Int32} (h2 : x2 = 0 ∨ x2 = 1) (hK : ∀ ans, K ans i l a b) : wp_Model_bound_0 i l a b x1 x2 K := by
  obtain ⟨tx, n, kp, mo, hD, hZ, hr2, hm, hmq, hll⟩ := h
  unfold wp_Model_bound_0
  refine ⟨fun _ => hK _, fun q => ?_⟩
  refine y_inI (fun r => ⟨fun _ => ⟨fun u => ?_, fun _ => ⟨fun _ => hK _, fun _ => hK _⟩⟩, fun z => absurd z (by decide)⟩) (fun r => ⟨fun z => absurd rfl z, fun _ => hK _⟩)
  cases mo with
  | none => exact absurd hm q
  | some m =>
    obtain ⟨m1, m2, m3, m4, m5, m6, m7⟩ := hm
    rcases pk_ix x1 (n := 5) (by decide) with w | w | ⟨g, w1, w2⟩
    · exact absurd w (i32_nl.mpr r.1)
    · have g1 := i32_le.mp w
      have g2 := i32_le.mp r.2
      rw [nI_toInt (by decide)] at g1
      have g3 : (4 : Int32).toInt = 4 := rfl
      omega
    · have hg : ¬ g = 0 := fun z => u (by rw [w2, z]; rfl)
      have ok := cx_ok (Nat.le_refl _) m7
      rcases h2 with e | e
      · rw [e]
        exact x_capF ok (g := g - 1) (by omega) m4 (by rw [w2]; congr 1; omega) (fun _ => hK _) (fun _ => hK _)
      · rw [e]
        exact x_capT ok (g := g - 1) (by omega) m4 (by rw [w2]; congr 1; omega) (fun _ => hK _) (fun _ => hK _)
theorem xm_start (h : IM lim dl dx sl su q st mq i l a b) {x1 : Int32} (hK : ∀ ans, K ans i l a b) : wp_Model_start_0 i l a b x1 K := by
  unfold wp_Model_start_0
  exact xm_bound h (Or.inl rfl) hK
theorem xm_end (h : IM lim dl dx sl su q st mq i l a b) {x1 : Int32} (hK : ∀ ans, K ans i l a b) : wp_Model_end_0 i l a b x1 K := by
  unfold wp_Model_end_0
  exact xm_bound h (Or.inr rfl) hK
theorem xm_steps (h : IM lim dl dx sl su q st mq i l a b) (hK : K (nI st) i l a b) : wp_Model_steps_0 i l a b K := by
  obtain ⟨tx, n, kp, mo, hD, hZ, hr2, hm, hmq, hll⟩ := h
  show K (i 10) i l a b
  rw [hZ.2.1]
  exact hK
theorem xm_count (h : IM lim dl dx sl su q st mq i l a b) {x1 : Int32} (h0 : x1 = 0 → K (nI dl) i l a b) (h1 : x1 = 1 → K (nI sl) i l a b) (h2 : x1 = 2 → K (c_gn q) i l a b) (h3 : x1 = 3 → K (c_sn q) i l a b) (h4 : ¬ (0 ≤ x1 ∧ x1 ≤ 3) → K (-1) i l a b) : wp_Model_count_0 i l a b x1 K := by
  obtain ⟨tx, n, kp, mo, hD, hZ, hr2, hm, hmq, hll⟩ := h
  have two : ∀ {lo : Int32}, lo ≤ x1 ∧ x1 ≤ lo + 1 → (lo = 0 ∨ lo = 2) → x1 = lo ∨ x1 = lo + 1 := by
    intro lo h1 h2
    have a1 := i32_le.mp h1.1
    have a2 := i32_le.mp h1.2
    rcases h2 with e | e
    · subst e
      have e0 : (0 : Int32).toInt = 0 := rfl
      have e1 : ((0 : Int32) + 1).toInt = 1 := rfl
      rcases (by omega : x1.toInt = 0 ∨ x1.toInt = 1) with w | w
      · exact Or.inl (Int32.toInt_inj.mp (by rw [w]; rfl))
      · exact Or.inr (Int32.toInt_inj.mp (by rw [w]; rfl))
    · subst e
      have e0 : (2 : Int32).toInt = 2 := rfl
      have e1 : ((2 : Int32) + 1).toInt = 3 := rfl
      rcases (by omega : x1.toInt = 2 ∨ x1.toInt = 3) with w | w
      · exact Or.inl (Int32.toInt_inj.mp (by rw [w]; rfl))
      · exact Or.inr (Int32.toInt_inj.mp (by rw [w]; rfl))
  unfold wp_Model_count_0
  refine y_inI (fun q1 => ⟨fun z => absurd z (by decide), fun _ => ⟨fun w => ?_, fun w => by rw [hD.2.1]; exact h0 w⟩⟩) (fun q1 => ⟨fun _ => ?_, fun z => absurd rfl z⟩)
  · rw [hZ.1.2.1]
    rcases two (lo := 0) q1 (Or.inl rfl) with e | e
    · exact absurd e w
    · exact h1 e
  · refine y_inI (fun q2 => ⟨fun _ => ?_, fun z => absurd z (by decide)⟩) (fun q2 => ⟨fun z => absurd rfl z, fun _ => h4 (fun w => ?_)⟩)
    · have e23 := two (lo := 2) q2 (Or.inr rfl)
      rcases hr2 with ⟨w1, w2, w3⟩ | ⟨w1, w2, w3, w4, w5⟩
      · rw [w3] at h2 h3
        rw [w1]
        refine ⟨fun z => absurd rfl z, fun _ => ?_⟩
        rcases e23 with e | e
        · exact h2 e
        · exact h3 e
      · rw [w2] at h2 h3
        rw [w1, w4, w5]
        refine ⟨fun _ => ⟨fun z => ?_, fun z => h2 z⟩, fun z => absurd z (by decide)⟩
        rcases e23 with e | e
        · exact absurd e z
        · exact h3 e
    · have a1 := i32_le.mp w.1
      have a2 := i32_le.mp w.2
      have e0 : (0 : Int32).toInt = 0 := rfl
      have e1 : (1 : Int32).toInt = 1 := rfl
      have e2 : (2 : Int32).toInt = 2 := rfl
      have e3 : (3 : Int32).toInt = 3 := rfl
      rcases (by omega : x1.toInt ≤ 1 ∨ 2 ≤ x1.toInt) with v | v
      · exact q1 ⟨w.1, i32_le.mpr (by omega)⟩
      · exact q2 ⟨i32_le.mpr (by omega), w.2⟩
theorem IM_off (h : IM lim dl dx sl su q st mq i l a b) : IM lim dl dx sl su q st none (upd i 11 0) l a b := by
  obtain ⟨tx, n, kp, mo, hD, hZ, hr2, hm, hmq, hll⟩ := h
  obtain ⟨z0, z1', z2, z3⟩ := hZ
  refine ⟨tx, n, kp, none, hD, ⟨rY_same z0 rfl rfl rfl, z1', z2, z3⟩, ?_, rfl, rfl, hll⟩
  rcases hr2 with w | w
  · exact Or.inl ⟨w.1, rfl, w.2.2⟩
  · exact Or.inr w
theorem xm_matchesL {p : Nat × (Nat → Nat)} (hq : q = some p) {R : Int32 × Nat} (hK : ∀ i' l' b', IM lim dl dx sl su q R.2 none i' l' a b' → K R.1 i' l' a b') : ∀ (f g s fd st : Nat), sl + 1 ≤ s + f → 42 ≤ s + g → s ≤ sl + 1 → s_mt lim p su sl g s fd st = R → ∀ {mq : Option (Nat × Nat)} {i : mm_i} {l : mm_j} {b : mm_b}, IM lim dl dx sl su q st mq i l a b → wl_Model_matches_0 K (f + 1) i l a b (nI fd) (nI s) := by
  intro f
  induction f with
  | zero =>
    intro g s fd st hs hg hs1 hR mq i l b h
    obtain ⟨p1, p2, p3, p4, p5⟩ := IM_p h
    have e8 : i 8 = nI sl := by obtain ⟨tx, n, kp, mo, hD, hZ, hr2, hm, hmq, hll⟩ := h; exact hZ.1.2.1
    have hR2 : s_mt lim p su sl g s fd st = (nI fd, st) := by
      cases g with
      | zero => rfl
      | succ g => exact if_pos (by omega)
    rw [hR2] at hR
    subst hR
    show wt_Model_matches_0 _ K i l a b (nI fd) (nI s)
    unfold wt_Model_matches_0
    rw [e8]
    exact ⟨fun _ => hK _ _ _ (IM_off h), fun z => absurd ((nI_ltI (by omega) (by omega)).mpr (by omega)) z⟩
  | succ f ih =>
    intro g s fd st hs hg hs1 hR mq i l b h
    obtain ⟨p1, p2, p3, p4, p5⟩ := IM_p h
    obtain ⟨Q, hG⟩ := p4 p hq
    have e8 : i 8 = nI sl := by obtain ⟨tx, n, kp, mo, hD, hZ, hr2, hm, hmq, hll⟩ := h; exact hZ.1.2.1
    show wt_Model_matches_0 (wl_Model_matches_0 K (f + 1)) K i l a b (nI fd) (nI s)
    unfold wt_Model_matches_0
    rw [e8]
    refine ⟨fun w => ?_, fun z => ?_⟩
    · have hlt := (nI_ltI (by omega) (by omega)).mp w
      have hR2 : s_mt lim p su sl g s fd st = (nI fd, st) := by
        cases g with
        | zero => rfl
        | succ g => exact if_pos hlt
      rw [hR2] at hR
      subst hR
      exact hK _ _ _ (IM_off h)
    · have hs2 : s ≤ sl := by
        rcases Nat.lt_or_ge sl s with y | y
        · exact absurd ((nI_ltI (by omega) (by omega)).mpr y) z
        · exact y
      obtain ⟨g, rfl⟩ : ∃ g', g = g' + 1 := ⟨g - 1, by omega⟩
      have hR2 : s_mt lim p su sl (g + 1) s fd st = match (s_fnd lim p su sl s).2.2 with
        | none => (if (s_fnd lim p su sl s).1 = -5 then -5 else nI fd, (s_fnd lim p su sl s).2.1)
        | some z => s_mt lim p su sl g (s_nx z) (fd + 1) (s_fnd lim p su sl s).2.1 := if_neg (by omega)
      rw [hR2] at hR
      refine xm_seek h hq hs2 rfl (fun i1 l1 b1 y3 y4 y5 y6 => ?_)
      cases hz : (s_fnd lim p su sl s).2.2 with
      | none =>
        rw [hz] at hR y5
        subst hR
        have hno := fnd_no hz
        refine ⟨fun w => ?_, fun w => ⟨fun v => ?_, fun v => ?_⟩⟩
        · rcases hno with e | e
          · rw [e] at w; exact absurd w (by decide)
          · rw [e] at w; exact absurd w (by decide)
        · rw [if_neg v] at hK
          exact hK _ _ _ y5
        · rw [if_pos v] at hK
          exact hK _ _ _ y5
      | some z' =>
        obtain ⟨b1', b2, b3, b4⟩ := fnd_in hG p1 p2 hs2 hz
        rw [hz] at hR
        obtain ⟨y12, y13⟩ := y6 z' hz
        refine ⟨fun _ => ?_, fun w => absurd (by rw [b4]; exact nI_pos' (by omega)) w⟩
        rw [y12, y13]
        have up : ∀ {z : Int32}, z = nI (s_nx z') → wl_Model_matches_0 K (f + 1) i1 l1 a b1 (nI fd + 1) z := by
          intro z ez
          rw [ez, nI_1]
          have hn : s + 1 ≤ s_nx z' ∧ s_nx z' ≤ sl + 1 := by
            unfold s_nx
            split <;> omega
          exact ih g (s_nx z') (fd + 1) _ (by omega) (by omega) hn.2 hR y5
        refine ⟨fun w => up ?_, fun w => up ?_⟩
        · have hle := (nI_leI (by omega) (by omega)).mp w
          unfold s_nx
          rw [if_pos (by omega), nI_1]
        · have hle : ¬ z'.2 ≤ z'.1 := fun v => w ((nI_leI (by omega) (by omega)).mpr v)
          unfold s_nx
          rw [if_neg (by omega)]
theorem xm_matches (h : IM lim dl dx sl su q st mq i l a b) (h0 : q = none → K (-1) i l a b) (h1 : ∀ p, q = some p → ∀ i' l' b', IM lim dl dx sl su q (s_mt lim p su sl 42 0 0 st).2 none i' l' a b' → K (s_mt lim p su sl 42 0 0 st).1 i' l' a b') : wp_Model_matches_0 i l a b K := by
  obtain ⟨p1, p2, p3, p4, p5⟩ := IM_p h
  unfold wp_Model_matches_0
  refine ⟨fun w => ?_, fun w => h0 (p3.mp w)⟩
  cases hq : q with
  | none => exact absurd (p3.mpr hq) w
  | some p => exact ⟨sl + 2, xm_matchesL hq (h1 p hq) (sl + 1) 42 0 0 st (by omega) (by omega) (by omega) rfl h⟩
theorem xm_compileL {dx tx : Nat → Nat} {Kc : KI} {z1 z2 z3 z4 : Int32} {n : Nat} : ∀ (f j : Nat), j + f = 32 → ∀ (a : mm_a), (∀ k, k < j → a 2 k = a 1 k) → (∀ a', (∀ t, ¬ t = 2 → a' t = a t) → (∀ k, k < 32 → a' 2 k = a 1 k) → wq_Model_compile_0_108 Kc (upd (upd (upd i 5 z2) 6 z1) 11 0) l a' b z2 z3 z4) → wl_Model_compile_0 Kc (f + 1) i l a b z1 z2 z3 z4 (nI j) := by
  intro f
  induction f with
  | zero =>
    intro j hj a ha hK
    show wt_Model_compile_0 _ Kc i l a b z1 z2 z3 z4 (nI j)
    unfold wt_Model_compile_0
    exact ⟨fun _ => hK a (fun _ _ => rfl) (fun k hk => ha k (by omega)), fun z => absurd ((nI_leI (a := 32) (by decide) (by omega)).mpr (by omega)) z⟩
  | succ f ih =>
    intro j hj a ha hK
    show wt_Model_compile_0 (wl_Model_compile_0 Kc (f + 1)) Kc i l a b z1 z2 z3 z4 (nI j)
    unfold wt_Model_compile_0
    refine ⟨fun z => absurd ((nI_leI (a := 32) (by decide) (by omega)).mp z) (by omega), fun _ => ⟨vp_in_nI (by omega) (by decide), vp_in_nI (by omega) (by decide), ?_⟩⟩
    rw [nI_clamp (by omega), nI_1]
    refine ih (j + 1) (by omega) _ (fun k hk => ?_) (fun a' h1 h2 => hK a' (fun t ht => by rw [h1 t ht, mu_n ht]) (fun k hk => by rw [h2 k hk, mu_n (by decide)]))
    rw [mu_s, mu_n (by decide)]
    by_cases w : k = j
    · rw [w, pk_us]
    · rw [pk_un w]; exact ha k (by omega)
/-- compile -/
theorem xm_compile (h : IM lim dl dx sl su q st mq i l a b) (h3 : ¬ y_good dx dl → ∀ i' l' a', IM lim 0 dx sl su q st mq i' l' a' b → K (-3) i' l' a' b) (h2 : y_good dx dl → ¬ y_m0 dx dl ≤ 60 → ∀ i' l' a', IM lim 0 dx sl su q st mq i' l' a' b → K (-2) i' l' a' b) (h1 : y_good dx dl → y_m0 dx dl ≤ 60 → ∀ i' l' a', IM lim 0 dx sl su (some (dl, dx)) st none i' l' a' b → K (nI (x_gc dx dl dl)) i' l' a' b) : wp_Model_compile_0 i l a b K := by
  obtain ⟨tx, n, kp, mo, hD, hZ, hr2, hm, hmq, hll⟩ := h
  obtain ⟨⟨y0, y1, y2, y3, y4, y5, y6⟩, z1, z2, z3⟩ := hZ
  have hdl := hD.1
  unfold wp_Model_compile_0
  refine y_measure hD (fun a' ha' => ?_)
  have hD' : rD' dx dl i a' := ⟨hD.1, hD.2.1, fun k hk => by rw [ha' 1 (by decide)]; exact hD.2.2.1 k hk, hD.2.2.2⟩
  obtain ⟨mg, me⟩ := m0_is hD.2.2.2 hdl (s := upd (a 4) 0 0) (pk_us)
  have hF : ¬ y_ms dx dl (dl + 1) 0 0 (upd (a 4) 0 0) < 0 → (∀ q, 0 ≤ q → yF dx dl q) := fun q => (y_ms_F (dl + 1) 0 0 _ q).1
  generalize y_ms dx dl (dl + 1) 0 0 (upd (a 4) 0 0) = ms at mg me hF
  refine y_groupsOf hD' ?_
  have hgl := x_gc_le (tx := dx) (n := dl) dl
  have hI : IM lim 0 dx sl su q st mq (upd i 1 0) l a' b := by
    refine ⟨tx, n, kp, mo, ⟨by omega, rfl, fun k hk => absurd hk (Nat.not_lt_zero _), hD.2.2.2⟩, ⟨⟨y0, y1, ⟨y2.1, y2.2.1, fun k hk => by rw [ha' 2 (by decide)]; exact y2.2.2.1 k hk, y2.2.2.2⟩, fun k hk => by rw [ha' 3 (by decide)]; exact y3 k hk, y4, y5, y6⟩, z1, z2, z3⟩, hr2, ?_, hmq, hll⟩
    cases mo with
    | none => exact hm
    | some m => exact hm
  have bad28 : ∀ (z2 : Int32), ¬ y_good dx dl → wq_Model_compile_0_28 K i l a' b ms z2 0 := by
    intro z2' hb
    unfold wq_Model_compile_0_28 wq_Model_compile_0_45 wq_Model_compile_0_108
    exact ⟨fun _ => ⟨fun _ => ⟨fun _ => ⟨fun _ => h3 hb _ _ _ hI, fun z => absurd rfl z⟩, fun z => absurd rfl z⟩, fun z => absurd rfl z⟩, fun z => absurd rfl z⟩
  refine ⟨fun q => bad28 _ (fun w => absurd (mg.mpr w).1 (fun v => absurd q (i32_nl.mpr v))), fun q => ?_⟩
  refine y_namesGood hD' (g := x_gc dx dl dl) (by omega) rfl (fun g1 g2 => ⟨fun z => absurd z (by decide), fun _ => ?_⟩) (fun g => ⟨fun _ => bad28 _ (fun w => g ⟨(hi_of dl).mpr w.2.1, w.2.2⟩), fun z => absurd rfl z⟩)
  have hgood : y_good dx dl := mg.mp ⟨i32_nl.mp q, (hi_of dl).mp g1, g2⟩
  have hms := me hgood
  have hG : ∃ Q, xG dx dl Q := xG_of hdl (fun p => hF q p (Nat.zero_le _)) g2
  unfold wq_Model_compile_0_28
  refine ⟨fun z => absurd z (by decide), fun _ => ⟨fun w => ?_, fun w => ?_⟩⟩
  · unfold wq_Model_compile_0_45 wq_Model_compile_0_108
    have h60 : ¬ y_m0 dx dl ≤ 60 := by
      rw [← hms]
      exact fun v => absurd w (i32_nl.mpr v)
    exact ⟨fun _ => ⟨fun _ => ⟨fun z => absurd z (by decide), fun _ => h2 hgood h60 _ _ _ hI⟩, fun z => absurd rfl z⟩, fun z => absurd rfl z⟩
  · have h60 : y_m0 dx dl ≤ 60 := by
      rw [← hms]
      exact i32_nl.mp w
    unfold wq_Model_compile_0_45
    refine ⟨fun z => absurd z (by decide), fun _ => ⟨33, xm_compileL (dx := dx) (tx := tx) (n := n) 32 0 rfl a' (fun k hk => absurd hk (Nat.not_lt_zero _)) (fun a2 h1' h2' => ?_)⟩⟩
    unfold wq_Model_compile_0_108
    refine ⟨fun z => absurd z (by decide), fun _ => h1 hgood h60 _ _ _ ?_⟩
    refine ⟨dx, dl, kp, none, ⟨by omega, rfl, fun k hk => absurd hk (Nat.not_lt_zero _), hD.2.2.2⟩, ⟨⟨y0, y1, ⟨hdl, hD.2.1, fun k hk => ?_, hD.2.2.2⟩, fun k hk => ?_, y4, y5, y6⟩, z1, z2, z3⟩, Or.inr ⟨rfl, rfl, hG, rfl, hms⟩, rfl, rfl, hll⟩
    · rw [h2' k (by omega), ha' 1 (by decide)]; exact hD.2.2.1 k hk
    · rw [h1' 3 (by decide), ha' 3 (by decide)]; exact y3 k hk
end XA
