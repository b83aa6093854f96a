/-! captures and plain atoms in the reference -/
def cx_in (sl : Nat) (C : Nat → Nat) : Prop := ∀ g, g < 4 → (C g = 0 ∨ (1 ≤ C g / 64 ∧ C g / 64 ≤ C g % 64 ∧ C g % 64 ≤ sl + 1))
theorem cx_ok {sl : Nat} (hsl : sl ≤ 40) {C : Nat → Nat} (h : cx_in sl C) : cp_ok C := by
  refine ⟨?_, ?_, ?_, ?_⟩
  · have := h 0 (by decide); omega
  · have := h 1 (by decide); omega
  · have := h 2 (by decide); omega
  · have := h 3 (by decide); omega
theorem cx_upd {sl : Nat} {C : Nat → Nat} (h : cx_in sl C) (hsl : sl ≤ 40) {g p q : Nat} (hp : p ≤ q) (hq : q ≤ sl) : cx_in sl (cp_upd C g (64 * (p + 1) + (q + 1))) := by
  intro k hk
  unfold cp_upd
  split
  · right
    omega
  · exact h k hk
theorem cx_getN {C : Nat → Nat} (h : cp_ok C) {g : Nat} (hg : g < 4) : cp_enc C / 2 ^ (12 * g) % 4096 = C g := by
  obtain ⟨h0, h1, h2, h3⟩ := h
  unfold cp_enc
  rcases (by omega : g = 0 ∨ g = 1 ∨ g = 2 ∨ g = 3) with rfl | rfl | rfl | rfl
  · simp only [Nat.mul_zero, Nat.pow_zero, Nat.div_one]; omega
  · rw [show 2 ^ (12 * 1) = 4096 from rfl]; omega
  · rw [show 2 ^ (12 * 2) = 16777216 from rfl]; omega
  · rw [show 2 ^ (12 * 3) = 68719476736 from rfl]; omega
theorem cx_sh (g : Nat) : (12 : Int32) * (nI (g + 1) - (1 : Int32)) = nI (12 * g) := by
  rw [nI_pred, show (12 : Int32) = nI 12 from rfl, pk_mul]
theorem cx_v {C : Nat → Nat} (h : cp_ok C) {g : Nat} (hg : g < 4) : ((lN (cp_enc C) >>> (((12 : Int32) * (nI (g + 1) - (1 : Int32))).toInt64 &&& 63)).toInt32) &&& (4095 : Int32) = nI (C g) := by
  have hl := cp_lt h
  rw [cx_sh, xp_sar (by omega) (by omega), xp_and 12 (by decide) (by decide)]
  congr 1
  exact cx_getN h hg
theorem cx_lt {C : Nat → Nat} (h : cp_ok C) {g : Nat} (hg : g < 4) : C g < 4096 := by
  obtain ⟨h0, h1, h2, h3⟩ := h
  rcases (by omega : g = 0 ∨ g = 1 ∨ g = 2 ∨ g = 3) with rfl | rfl | rfl | rfl <;> assumption
def x_rpB (su : Nat → Nat) (sl f n p : Nat) : Bool := decide (p + n ≤ sl) && (List.range n).all (fun k => decide (su (f + k) = su (p + k)))
theorem x_rpB_iff {su : Nat → Nat} {sl f n p : Nat} : x_rpB su sl f n p = true ↔ q_same su sl f n p := by
  unfold x_rpB q_same
  rw [Bool.and_eq_true, decide_eq_true_iff, List.all_eq_true]
  constructor
  · intro h
    exact ⟨h.1, fun k hk => of_decide_eq_true (h.2 k (List.mem_range.mpr hk))⟩
  · intro h
    exact ⟨h.1, fun k hk => decide_eq_true (h.2 k (List.mem_range.mp hk))⟩
def x_hit (tx : Nat → Nat) (n k c : Nat) : Bool := decide (xt tx n k = 46) || (if xt tx n k = 91 then x_set tx n k c else decide (xt tx n k = c))
def x_pl (tx : Nat → Nat) (n : Nat) (su : Nat → Nat) (sl k p : Nat) (C : Nat → Nat) : Option Nat :=
  if xt tx n k = 94 then (if p = 0 then some p else none)
  else if xt tx n k = 36 then (if p = sl then some p else none)
  else if xt tx n k = 92 then (if C (xt tx n (k + 1) - 49) = 0 then none else if x_rpB su sl (C (xt tx n (k + 1) - 49) / 64 - 1) (C (xt tx n (k + 1) - 49) % 64 - C (xt tx n (k + 1) - 49) / 64) p then some (p + (C (xt tx n (k + 1) - 49) % 64 - C (xt tx n (k + 1) - 49) / 64)) else none)
  else if p < sl ∧ x_hit tx n k (su p) = true then some (p + 1) else none
section XM
variable {tx : Nat → Nat} {n : Nat} {su : Nat → Nat} {sl lim : Nat} {i : mm_i} {l : mm_j} {a : mm_a} {b : mm_b}
variable {M A p k st : Nat} {C : Nat → Nat} {fs : List xF} {bs : List xB} {kp : Nat → Nat → Nat} {K : Int32 → mm_i → mm_j → mm_a → mm_b → Prop}
theorem x_capF (h : cp_ok C) {g : Nat} (hg : g < 4) {x1 : Int64} {x2 : Int32} (e1 : x1 = lN (cp_enc C)) (e2 : x2 = nI (g + 1)) (h0 : C g = 0 → K (-6) i l a b) (h1 : ¬ C g = 0 → K (nI (C g / 64) - 1) i l a b) : wp_Model_capture_0 i l a b x1 x2 0 K := by
  have hl := cx_lt h hg
  unfold wp_Model_capture_0
  rw [e1, e2, cx_v h hg, pk_shrN (by omega) ((6 : Int32) &&& 31) 6 (by decide)]
  exact ⟨fun q => ⟨fun _ => h1 (fun w => q (by rw [w]; rfl)), fun z => absurd rfl z⟩, fun q => h0 ((x_is 0 rfl (by omega) (by decide)).mp q)⟩
theorem x_capT (h : cp_ok C) {g : Nat} (hg : g < 4) {x1 : Int64} {x2 : Int32} (e1 : x1 = lN (cp_enc C)) (e2 : x2 = nI (g + 1)) (h0 : C g = 0 → K (-6) i l a b) (h1 : ¬ C g = 0 → K (nI (C g % 64) - 1) i l a b) : wp_Model_capture_0 i l a b x1 x2 1 K := by
  have hl := cx_lt h hg
  have e : nI (C g) &&& (63 : Int32) = nI (C g % 64) := by
    rw [pk_and (nI (C g)) 6 (by decide), pk_tn (by omega)]
  unfold wp_Model_capture_0
  rw [e1, e2, cx_v h hg, e]
  exact ⟨fun q => ⟨fun z => absurd z (by decide), fun _ => h1 (fun w => q (by rw [w]; rfl))⟩, fun q => h0 ((x_is 0 rfl (by omega) (by decide)).mp q)⟩
theorem x_repL (hY : rY tx n su sl lim i a) (hp : i 24 = nI p) {f m : Nat} (hf : f + m ≤ 40) (hpm : p + m ≤ sl) (h1 : (∀ k, k < m → su (f + k) = su (p + k)) → K 1 (upd i 24 (nI (p + m))) l a b) (h0 : ¬ (∀ k, k < m → su (f + k) = su (p + k)) → K 0 i l a b) : ∀ (r j : Nat), j + r = m → (∀ k, k < j → su (f + k) = su (p + k)) → wl_Model_repeats_0 K (r + 1) i l a b (nI f) (nI m) (nI j) := by
  obtain ⟨y1, y2, y3, y4, y5, y6, y7⟩ := hY
  intro r
  induction r with
  | zero =>
    intro j hj hs
    show wt_Model_repeats_0 _ K i l a b (nI f) (nI m) (nI j)
    unfold wt_Model_repeats_0
    have e : j = m := by omega
    refine ⟨fun _ => ?_, fun q => absurd ((nI_leI (by omega) (by omega)).mpr (by omega)) q⟩
    rw [hp, nI_add]
    exact h1 (fun k hk => hs k (by omega))
  | succ r ih =>
    intro j hj hs
    show wt_Model_repeats_0 (wl_Model_repeats_0 K (r + 1)) K i l a b (nI f) (nI m) (nI j)
    unfold wt_Model_repeats_0
    rw [hp, nI_add, nI_add, nI_add, nI_clamp (by omega), nI_clamp (by omega), y4 (f + j) (by omega), y4 (p + j) (by omega)]
    refine ⟨fun q => absurd ((nI_leI (by omega) (by omega)).mp q) (by omega), fun _ => ⟨vp_in_nI (by omega) (by decide), vp_in_nI (by omega) (by decide), fun q => ?_, fun q => ?_⟩⟩
    · have s1 := y7 (f + j)
      have s2 := y7 (p + j)
      have q1 := (nI_eq (by omega) (by omega)).mp q
      rw [nI_1]
      refine ih (j + 1) (by omega) (fun k hk => ?_)
      rcases Nat.lt_or_ge k j with z | z
      · exact hs k z
      · have e : k = j := by omega
        rw [e]
        exact q1
    · exact h0 (fun w => q (by rw [w j (by omega)]))
theorem x_repeats (h : rX tx n su sl lim (M, A, p, k, C, st, fs, bs, kp) i l a b) (hC : cx_in 40 C) (hp : p ≤ sl) {g : Nat} (hg : g < 4) {x1 : Int32} (ex : x1 = nI (g + 1)) (h0 : C g = 0 → K 0 i l a b) (h1 : ¬ C g = 0 → x_rpB su sl (C g / 64 - 1) (C g % 64 - C g / 64) p = false → K 0 i l a b) (h2 : ¬ C g = 0 → x_rpB su sl (C g / 64 - 1) (C g % 64 - C g / 64) p = true → K 1 (upd i 24 (nI (p + (C g % 64 - C g / 64)))) l a b) : wp_Model_repeats_0 i l a b x1 K := by
  obtain ⟨hY, g1, g2, g3, g4, g5, g6, g7, g8, g9, g10, g11⟩ := h
  have g3 : i 24 = nI p := g3
  have hsl : sl ≤ 40 := hY.2.2.2.2.1
  have hok := cx_ok (Nat.le_refl _) hC
  unfold wp_Model_repeats_0
  refine x_capF hok hg g5 ex (fun q => ?_) (fun q => ?_)
  · refine x_capT hok hg g5 ex (fun _ => ⟨fun _ => h0 q, fun z => absurd rfl z⟩) (fun z => absurd q z)
  · refine x_capT hok hg g5 ex (fun z => absurd z q) (fun _ => ?_)
    have hc := hC g hg
    have e1 : nI (C g / 64) - 1 = nI (C g / 64 - 1) := by rw [show (1 : Int32) = nI 1 from rfl, pk_sub (by omega)]
    have e2 : nI (C g % 64) - 1 = nI (C g % 64 - 1) := by rw [show (1 : Int32) = nI 1 from rfl, pk_sub (by omega)]
    have e3 : nI (C g % 64 - 1) - nI (C g / 64 - 1) = nI (C g % 64 - C g / 64) := by
      rw [pk_sub (by omega)]
      congr 1
      omega
    rw [e1, e2, e3, g3, nI_add, hY.2.1]
    refine ⟨fun z => ?_, fun _ => ⟨fun z => ?_, fun z => ?_⟩⟩
    · exfalso
      have h1 := nI_toInt (show C g / 64 - 1 < 2 ^ 31 by omega)
      rw [z] at h1
      have h2 : (-6 : Int32).toInt = -6 := by decide
      omega
    · have z1 := (nI_leI (by omega) (by omega)).mp z
      refine ⟨C g % 64 - C g / 64 + 1, x_repL hY g3 (by omega) z1 (fun w => h2 q ?_) (fun w => h1 q ?_) _ 0 (by omega) (fun k hk => by omega)⟩
      · exact x_rpB_iff.mpr ⟨z1, w⟩
      · exact Bool.eq_false_iff.mpr (fun v => w (x_rpB_iff.mp v).2)
    · have z1 : ¬ p + (C g % 64 - C g / 64) ≤ sl := fun w => z ((nI_leI (by omega) (by omega)).mpr w)
      exact h1 q (Bool.eq_false_iff.mpr (fun v => z1 (x_rpB_iff.mp v).1))
theorem x_takes (h : rX tx n su sl lim (M, A, p, k, C, st, fs, bs, kp) i l a b) (hp : p ≤ sl) {at' : Nat} (hat : at' < n) {x1 : Int32} (ex : x1 = nI at') (h0 : ¬ (p < sl ∧ x_hit tx n at' (su p) = true) → K 0 i l a b) (h1 : p < sl → x_hit tx n at' (su p) = true → K 1 (upd i 24 (nI (p + 1))) l a b) : wp_Model_takesLetter_0 i l a b x1 K := by
  obtain ⟨hY, g1, g2, g3, g4, g5, g6, g7, g8, g9, g10, g11⟩ := h
  have g3 : i 24 = nI p := g3
  have hT := hY.2.2.1
  have hn := hT.1
  have hsl : sl ≤ 40 := hY.2.2.2.2.1
  have hl := x_lt (n := n) (k := at') hT.2.2.2
  have hs := hY.2.2.2.2.2.2 p
  have fin : ∀ (r : Bool), (p < sl → x_hit tx n at' (su p) = r) → p < sl → wq_Model_takesLetter_0_70 K i l a b (bI r) := by
    intro r hr hpl
    unfold wq_Model_takesLetter_0_70
    refine ⟨fun q => ⟨bI_01 r, ?_⟩, fun q => ⟨bI_01 r, ?_⟩⟩
    · have e := (bI_0 r).mp q
      rw [q]
      exact h0 (fun w => by rw [hr w.1, e] at w; exact absurd w.2 (by decide))
    · have e : r = true := by
        rcases r with _ | _
        · exact absurd rfl q
        · rfl
      rw [g3, nI_1, e]
      exact h1 hpl (by rw [hr hpl, e])
  unfold wp_Model_takesLetter_0
  rw [g3, hY.2.1]
  refine ⟨fun q => ?_, fun q => h0 (fun w => q ((nI_ltI (by omega) (by omega)).mpr w.1))⟩
  have hpl := (nI_ltI (by omega) (by omega)).mp q
  rw [nI_clamp (by omega), hY.2.2.2.1 p (by omega)]
  refine ⟨vp_in_nI (by omega) (by decide), ?_⟩
  refine x_t hT (k := at') (by omega) ex ⟨fun r => ?_, fun r => ?_⟩
  · have r1 := (x_is 46 rfl (by omega) (by decide)).mp r
    exact fin true (fun _ => by rw [x_hit, decide_eq_true r1]; rfl) hpl
  · have r1 : ¬ xt tx n at' = 46 := fun w => r (by rw [w]; rfl)
    refine x_t hT (k := at') (by omega) ex ⟨fun s => ?_, fun s => ?_⟩
    · have s1 : ¬ xt tx n at' = 91 := fun w => s (by rw [w]; rfl)
      refine x_t hT (k := at') (by omega) ex ⟨fun u => ?_, fun u => ?_⟩
      · have u1 : ¬ xt tx n at' = su p := fun w => u (by rw [w])
        exact fin false (fun _ => by rw [x_hit, decide_eq_false r1, if_neg s1, decide_eq_false u1]; rfl) hpl
      · have u1 : xt tx n at' = su p := (nI_eq (by omega) (by omega)).mp u
        exact fin true (fun _ => by rw [x_hit, decide_eq_false r1, if_neg s1, decide_eq_true u1]; rfl) hpl
    · have s1 := (x_is 91 rfl (by omega) (by decide)).mp s
      refine x_inClass hT hat hs ex rfl ⟨fun u => ?_, fun u => ?_⟩
      · have u1 := (bI_0 _).mp u
        exact fin false (fun _ => by rw [x_hit, decide_eq_false r1, if_pos s1, u1]; rfl) hpl
      · have u1 : x_set tx n at' (su p) = true := by
          cases e : x_set tx n at' (su p) with
          | false => exact absurd ((bI_0 _).mpr e) u
          | true => rfl
        exact fin true (fun _ => by rw [x_hit, decide_eq_false r1, if_pos s1, u1]; rfl) hpl
/-- a plain atom -/
theorem x_plain (h : rX tx n su sl lim (M, A, p, k, C, st, fs, bs, kp) i l a b) (hC : cx_in 40 C) (hp : p ≤ sl) {at' : Nat} (hat : at' < n) (hb : xt tx n at' = 92 → 49 ≤ xt tx n (at' + 1) ∧ xt tx n (at' + 1) ≤ 52) {x1 : Int32} (ex : x1 = nI at') (h0 : x_pl tx n su sl at' p C = none → K 0 i l a b) (h1 : ∀ p', x_pl tx n su sl at' p C = some p' → p ≤ p' ∧ p' ≤ sl → ∀ i', rX tx n su sl lim (M, A, p', k, C, st, fs, bs, kp) i' l a b → rV i l i' l → K 1 i' l a b) : wp_Model_plain_0 i l a b x1 K := by
  have h' := h
  obtain ⟨hY, g1, g2, g3, g4, g5, g6, g7, g8, g9, g10, g11⟩ := h
  have g3 : i 24 = nI p := g3
  have hT := hY.2.2.1
  have hn := hT.1
  have hsl : sl ≤ 40 := hY.2.2.2.2.1
  have hl := x_lt (n := n) (k := at') hT.2.2.2
  have hX : ∀ p', rX tx n su sl lim (M, A, p', k, C, st, fs, bs, kp) (upd i 24 (nI p')) l a b ∧ rV i l (upd i 24 (nI p')) l := by
    intro p'
    exact ⟨⟨rY_same hY rfl rfl rfl, g1, g2, rfl, g4, g5, g6, g7, g8, g9, g10, g11⟩, ⟨fun j a1 a2 a3 a4 => ud_n (by omega), fun _ _ => rfl⟩⟩
  unfold wp_Model_plain_0
  refine x_t hT (k := at') (by omega) ex ⟨fun q => ?_, fun q => ?_⟩
  · have q1 : ¬ xt tx n at' = 94 := fun w => q (by rw [w]; rfl)
    refine x_t hT (k := at') (by omega) ex ⟨fun r => ?_, fun r => ?_⟩
    · have r1 : ¬ xt tx n at' = 36 := fun w => r (by rw [w]; rfl)
      refine x_t hT (k := at') (by omega) ex ⟨fun s => ?_, fun s => ?_⟩
      · have s1 : ¬ xt tx n at' = 92 := fun w => s (by rw [w]; rfl)
        refine x_takes h' hp hat ex (fun z => ⟨Or.inl rfl, h0 (by rw [x_pl, if_neg q1, if_neg r1, if_neg s1, if_neg z])⟩) (fun z1 z2 => ⟨Or.inr rfl, h1 (p + 1) (by rw [x_pl, if_neg q1, if_neg r1, if_neg s1, if_pos ⟨z1, z2⟩]) (by omega) _ (hX _).1 (hX _).2⟩)
      · have s1 := (x_is 92 rfl (by omega) (by decide)).mp s
        obtain ⟨b1, b2⟩ := hb s1
        refine x_t hT (k := at' + 1) (by omega) (by rw [ex, nI_1]) ?_
        have e : nI (xt tx n (at' + 1)) - (48 : Int32) = nI (xt tx n (at' + 1) - 49 + 1) := by
          rw [show (48 : Int32) = nI 48 from rfl, pk_sub (by omega)]
          congr 1
          omega
        have hc := hC (xt tx n (at' + 1) - 49) (by omega)
        refine x_repeats h' hC hp (g := xt tx n (at' + 1) - 49) (by omega) e (fun z => ⟨Or.inl rfl, h0 (by rw [x_pl, if_neg q1, if_neg r1, if_pos s1, if_pos z])⟩) (fun z1 z2 => ⟨Or.inl rfl, h0 (by rw [x_pl, if_neg q1, if_neg r1, if_pos s1, if_neg z1, z2]; rfl)⟩) (fun z1 z2 => ⟨Or.inr rfl, h1 _ (by rw [x_pl, if_neg q1, if_neg r1, if_pos s1, if_neg z1, z2]; rfl) ?_ _ (hX _).1 (hX _).2⟩)
        have := (x_rpB_iff.mp z2).1
        exact ⟨by omega, this⟩
    · have r1 := (x_is 36 rfl (by omega) (by decide)).mp r
      rw [g3, hY.2.1]
      refine ⟨fun z => h0 ?_, fun z => h1 p ?_ (by omega) i h' rV_rf⟩
      · rw [x_pl, if_neg q1, if_pos r1, if_neg (fun w => z (by rw [w]))]
      · rw [x_pl, if_neg q1, if_pos r1, if_pos ((nI_eq (by omega) (by omega)).mp z)]
  · have q1 := (x_is 94 rfl (by omega) (by decide)).mp q
    rw [g3]
    refine ⟨fun z => h0 ?_, fun z => h1 p ?_ (by omega) i h' rV_rf⟩
    · rw [x_pl, if_pos q1, if_neg (fun w => z (by rw [w]; rfl))]
    · rw [x_pl, if_pos q1, if_pos ((x_is 0 rfl (by omega) (by decide)).mp z)]
end XM
