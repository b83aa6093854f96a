/-! ===== lN n to 2^64: shifts, and, or, masks, one bit ===== -/
theorem wb_tb (n : Nat) : (lN n).toBitVec = BitVec.ofNat 64 n := rfl
theorem wb_inj {a b : Int64} (h : a.toBitVec = b.toBitVec) : a = b := Int64.toBitVec_inj.mp h
theorem wb_tn {n : Nat} (h : n < 2 ^ 64) : (lN n).toBitVec.toNat = n := by rw [wb_tb, BitVec.toNat_ofNat, Nat.mod_eq_of_lt h]
theorem wb_of (x : Int64) : ∃ n, n < 2 ^ 64 ∧ x = lN n := ⟨x.toBitVec.toNat, x.toBitVec.isLt, wb_inj (by rw [wb_tb]; simp)⟩
theorem wb_of32 (x : Int32) : ∃ n, n < 2 ^ 32 ∧ x = nI n := ⟨x.toBitVec.toNat, x.toBitVec.isLt, Int32.toBitVec_inj.mp (by show _ = BitVec.ofNat 32 _; simp)⟩
theorem wb_c : ∀ k, k < 64 → ((nI k).toInt64 &&& 63) = lN k := by decide +kernel
theorem wb_cu : ∀ k, k < 64 → ((nI k).toInt64.toUInt64 &&& Int64.toUInt64 63) = UInt64.ofNat k := by decide +kernel
theorem wb_sm : ∀ k, k < 64 → (BitVec.ofNat 64 k).smod 64 = BitVec.ofNat 64 k := by decide +kernel
theorem wb_pw {a b : Nat} (h : a ≤ b) : 2 ^ b = 2 ^ a * 2 ^ (b - a) := by rw [← Nat.pow_add]; congr 1; omega
theorem wb_lt2 {a b : Nat} (h : a < b) : 2 ^ a < 2 ^ b := Nat.pow_lt_pow_right (by decide) h
theorem wb_mod (n : Nat) : lN n = lN (n % 2 ^ 64) := wb_inj (by rw [wb_tb, wb_tb]; apply BitVec.eq_of_toNat_eq; rw [BitVec.toNat_ofNat, BitVec.toNat_ofNat, Nat.mod_mod])
theorem wb_shr {n k : Nat} (hn : n < 2 ^ 64) (hk : k < 64) : ((lN n).toUInt64 >>> ((nI k).toInt64.toUInt64 &&& Int64.toUInt64 63)).toInt64 = lN (n / 2 ^ k) := by
  rw [wb_cu k hk]
  apply wb_inj
  apply BitVec.eq_of_toNat_eq
  show ((lN n).toUInt64 >>> UInt64.ofNat k).toNat = (BitVec.ofNat 64 _).toNat
  have h1 : (UInt64.ofNat k).toNat = k := by
    show (BitVec.ofNat 64 k).toNat = k
    rw [BitVec.toNat_ofNat, Nat.mod_eq_of_lt (by omega)]
  have h2 : (lN n).toUInt64.toNat = n := wb_tn hn
  rw [UInt64.toNat_shiftRight, h1, h2, Nat.mod_eq_of_lt hk, Nat.shiftRight_eq_div_pow, BitVec.toNat_ofNat, Nat.mod_eq_of_lt (Nat.lt_of_le_of_lt (Nat.div_le_self _ _) hn)]
theorem wb_shl (n : Nat) {k : Nat} (hk : k < 64) : lN n <<< ((nI k).toInt64 &&& 63) = lN (n * 2 ^ k) := by
  rw [wb_c k hk]
  apply wb_inj
  rw [Int64.toBitVec_shiftLeft, wb_tb, wb_tb, wb_tb, wb_sm k hk]
  apply BitVec.eq_of_toNat_eq
  rw [BitVec.shiftLeft_eq', BitVec.toNat_shiftLeft, BitVec.toNat_ofNat, BitVec.toNat_ofNat, BitVec.toNat_ofNat, Nat.mod_eq_of_lt (show k < 2 ^ 64 by omega), Nat.shiftLeft_eq, Nat.mul_mod, Nat.mod_mod, ← Nat.mul_mod]
theorem wb_and {a b : Nat} (ha : a < 2 ^ 64) (hb : b < 2 ^ 64) : lN a &&& lN b = lN (a &&& b) := by
  apply wb_inj
  rw [Int64.toBitVec_and, wb_tb, wb_tb, wb_tb]
  apply BitVec.eq_of_toNat_eq
  rw [BitVec.toNat_and, BitVec.toNat_ofNat, BitVec.toNat_ofNat, BitVec.toNat_ofNat, Nat.mod_eq_of_lt ha, Nat.mod_eq_of_lt hb, Nat.mod_eq_of_lt (Nat.and_lt_two_pow _ hb)]
theorem wb_or {a b : Nat} (ha : a < 2 ^ 64) (hb : b < 2 ^ 64) : lN a ||| lN b = lN (a ||| b) := by
  apply wb_inj
  rw [Int64.toBitVec_or, wb_tb, wb_tb, wb_tb]
  apply BitVec.eq_of_toNat_eq
  rw [BitVec.toNat_or, BitVec.toNat_ofNat, BitVec.toNat_ofNat, BitVec.toNat_ofNat, Nat.mod_eq_of_lt ha, Nat.mod_eq_of_lt hb, Nat.mod_eq_of_lt (Nat.or_lt_two_pow ha hb)]
theorem wb_mask {n k : Nat} (hn : n < 2 ^ 64) (hk : k < 64) : lN n &&& lN (2 ^ k - 1) = lN (n % 2 ^ k) := by
  rw [wb_and hn (by have := wb_lt2 hk; omega), Nat.and_two_pow_sub_one_eq_mod]
theorem wb_a1 {n : Nat} (hn : n < 2 ^ 64) : lN n &&& 1 = lN (n % 2) := wb_mask (k := 1) hn (by decide)
theorem wb_bit {n k : Nat} (hn : n < 2 ^ 64) (hk : k < 64) : ((lN n).toUInt64 >>> ((nI k).toInt64.toUInt64 &&& Int64.toUInt64 63)).toInt64 &&& 1 = lN (n / 2 ^ k % 2) := by
  rw [wb_shr hn hk, wb_a1 (Nat.lt_of_le_of_lt (Nat.div_le_self _ _) hn)]
theorem wb_xor {q k : Nat} (hk : k < 63) (h : 2 ^ k ≤ q) (h2 : q < 2 ^ (k + 1)) : lN q ^^^ lN (2 ^ k) = lN (q - 2 ^ k) := by
  obtain ⟨r, rfl⟩ : ∃ r, q = 2 ^ k + r := ⟨q - 2 ^ k, by omega⟩
  have hr : r < 2 ^ k := by rw [Nat.pow_succ] at h2; omega
  have hx : (2 ^ k + r) ^^^ 2 ^ k = r := by
    apply Nat.eq_of_testBit_eq
    intro i
    rw [Nat.testBit_xor, Nat.testBit_two_pow]
    rcases Nat.lt_trichotomy i k with h | h | h
    · rw [Nat.testBit_two_pow_add_gt h]
      simp [show ¬ k = i by omega]
    · subst h
      rw [Nat.testBit_two_pow_add_eq]
      simp
    · have a1 : 2 ^ (k + 1) ≤ 2 ^ i := Nat.pow_le_pow_right (by decide) h
      rw [Nat.testBit_lt_two_pow (show 2 ^ k + r < 2 ^ i by omega), Nat.testBit_lt_two_pow (show r < 2 ^ i by omega)]
      simp [show ¬ k = i by omega]
  have b1 := wb_lt2 (show k + 1 < 64 by omega)
  have b2 := wb_lt2 (show k < 64 by omega)
  apply wb_inj
  rw [Int64.toBitVec_xor, wb_tb, wb_tb, wb_tb]
  apply BitVec.eq_of_toNat_eq
  rw [BitVec.toNat_xor, BitVec.toNat_ofNat, BitVec.toNat_ofNat, BitVec.toNat_ofNat, Nat.mod_eq_of_lt (by omega : 2 ^ k + r < 2 ^ 64), Nat.mod_eq_of_lt b2, hx, Nat.add_sub_cancel_left, Nat.mod_eq_of_lt (by omega)]
/-! the captures: four numbers below 4096 in one long -/
theorem cp_bits (n s i : Nat) : ((n / 2 ^ (s + 12)) * 2 ^ (s + 12) + n % 2 ^ s).testBit i = (n.testBit i && !(decide (s ≤ i) && decide (i - s < 12))) := by
  have h1 : n % 2 ^ s < 2 ^ (s + 12) := Nat.lt_of_lt_of_le (Nat.mod_lt _ (Nat.two_pow_pos s)) (Nat.pow_le_pow_right (by decide) (by omega))
  rw [Nat.mul_comm, Nat.testBit_two_pow_mul_add _ h1]
  by_cases h2 : i < s + 12
  · rw [if_pos h2, Nat.testBit_mod_two_pow]
    by_cases h3 : i < s
    · have h4 : ¬ s ≤ i := by omega
      simp [h3, h4]
    · have h4 : s ≤ i := by omega
      have h5 : i - s < 12 := by omega
      simp [h3, h4, h5]
  · rw [if_neg h2, Nat.testBit_div_two_pow]
    have h5 : ¬ i - s < 12 := by omega
    have h6 : i - (s + 12) + (s + 12) = i := by omega
    simp [h5, h6]
theorem cp_and {n s : Nat} (hn : n < 2 ^ 64) (hs : s + 12 ≤ 64) : lN n &&& (((4095 : Int64) <<< ((nI s).toInt64 &&& 63)) ^^^ (-1)) = lN ((n / 2 ^ (s + 12)) * 2 ^ (s + 12) + n % 2 ^ s) := by
  rw [show (4095 : Int64) = lN 4095 from rfl, wb_shl 4095 (by omega)]
  apply wb_inj
  show BitVec.ofNat 64 n &&& (BitVec.ofNat 64 (4095 * 2 ^ s) ^^^ BitVec.allOnes 64) = BitVec.ofNat 64 _
  apply BitVec.eq_of_getLsbD_eq
  intro i hi
  rw [BitVec.getLsbD_and, BitVec.getLsbD_xor, BitVec.getLsbD_ofNat, BitVec.getLsbD_ofNat, BitVec.getLsbD_ofNat, BitVec.getLsbD_allOnes, cp_bits, Nat.testBit_mul_two_pow, show 4095 = 2 ^ 12 - 1 from rfl, Nat.testBit_two_pow_sub_one]
  simp [hi]
theorem cp_or {A B c s : Nat} (hc : c < 4096) (hB : B < 2 ^ s) : (A * 2 ^ (s + 12) + B) ||| (c * 2 ^ s) = (A * 4096 + c) * 2 ^ s + B := by
  apply Nat.eq_of_testBit_eq
  intro i
  have h1 : B < 2 ^ (s + 12) := Nat.lt_of_lt_of_le hB (Nat.pow_le_pow_right (by decide) (by omega))
  rw [Nat.testBit_or, Nat.mul_comm A, Nat.testBit_two_pow_mul_add _ h1, Nat.testBit_mul_two_pow, Nat.mul_comm (A * 4096 + c), Nat.testBit_two_pow_mul_add _ hB, Nat.mul_comm A 4096, show 4096 = 2 ^ 12 from rfl, Nat.testBit_two_pow_mul_add A (show c < 2 ^ 12 from hc)]
  by_cases h2 : i < s
  · have h3 : i < s + 12 := by omega
    have h4 : ¬ s ≤ i := by omega
    simp [h2, h3, h4]
  · have h4 : s ≤ i := by omega
    by_cases h3 : i < s + 12
    · have h5 : i - s < 12 := by omega
      have h6 : B.testBit i = false := Nat.testBit_lt_two_pow (Nat.lt_of_lt_of_le hB (Nat.pow_le_pow_right (by decide) h4))
      simp [h2, h3, h4, h5, h6]
    · have h5 : ¬ i - s < 12 := by omega
      have h6 : c.testBit (i - s) = false := Nat.testBit_lt_two_pow (Nat.lt_of_lt_of_le hc (by rw [show 4096 = 2 ^ 12 from rfl]; exact Nat.pow_le_pow_right (by decide) (by omega)))
      have h7 : i - (s + 12) = i - s - 12 := by omega
      simp [h2, h3, h4, h5, h6, h7]
def cp_enc (C : Nat → Nat) : Nat := C 0 + C 1 * 4096 + C 2 * 16777216 + C 3 * 68719476736
def cp_ok (C : Nat → Nat) : Prop := C 0 < 4096 ∧ C 1 < 4096 ∧ C 2 < 4096 ∧ C 3 < 4096
def cp_upd (C : Nat → Nat) (g c : Nat) : Nat → Nat := fun k => if k = g then c else C k
theorem cp_lt {C : Nat → Nat} (h : cp_ok C) : cp_enc C < 2 ^ 48 := by
  obtain ⟨h0, h1, h2, h3⟩ := h
  unfold cp_enc
  omega
theorem cp_ok_upd {C : Nat → Nat} {g c : Nat} (h : cp_ok C) (hc : c < 4096) : cp_ok (cp_upd C g c) := by
  obtain ⟨h0, h1, h2, h3⟩ := h
  unfold cp_ok cp_upd
  refine ⟨?_, ?_, ?_, ?_⟩ <;> split <;> assumption
theorem cp_fromN {C : Nat → Nat} (h : cp_ok C) {g : Nat} (hg : g < 4) : cp_enc C / 2 ^ (12 * g) % 64 = C g % 64 := by
  obtain ⟨h0, h1, h2, h3⟩ := h
  unfold cp_enc
  rcases (by omega : g = 0 ∨ g = 1 ∨ g = 2 ∨ g = 3) with rfl | rfl | rfl | rfl
  · simp only [Nat.mul_zero, Nat.pow_zero, Nat.div_one]; omega
  · rw [show 2 ^ (12 * 1) = 4096 from rfl]; omega
  · rw [show 2 ^ (12 * 2) = 16777216 from rfl]; omega
  · rw [show 2 ^ (12 * 3) = 68719476736 from rfl]; omega
theorem cp_toN {C : Nat → Nat} (h : cp_ok C) {g : Nat} (hg : g < 4) : cp_enc C / 2 ^ (12 * g + 6) % 64 = C g / 64 := by
  obtain ⟨h0, h1, h2, h3⟩ := h
  unfold cp_enc
  rcases (by omega : g = 0 ∨ g = 1 ∨ g = 2 ∨ g = 3) with rfl | rfl | rfl | rfl
  · rw [show 2 ^ (12 * 0 + 6) = 64 from rfl]; omega
  · rw [show 2 ^ (12 * 1 + 6) = 262144 from rfl]; omega
  · rw [show 2 ^ (12 * 2 + 6) = 1073741824 from rfl]; omega
  · rw [show 2 ^ (12 * 3 + 6) = 4398046511104 from rfl]; omega
theorem cp_withN {C : Nat → Nat} (h : cp_ok C) {g c : Nat} (hg : g < 4) : (cp_enc C / 2 ^ (12 * g + 12) * 4096 + c) * 2 ^ (12 * g) + cp_enc C % 2 ^ (12 * g) = cp_enc (cp_upd C g c) := by
  obtain ⟨h0, h1, h2, h3⟩ := h
  unfold cp_enc cp_upd
  rcases (by omega : g = 0 ∨ g = 1 ∨ g = 2 ∨ g = 3) with rfl | rfl | rfl | rfl
  · simp only [Nat.mul_zero, Nat.pow_zero, Nat.zero_add, show 2 ^ 12 = 4096 from rfl, if_true, show (1 = 0) = False by simp, show (2 = 0) = False by simp, show (3 = 0) = False by simp, if_false]; omega
  · rw [show 2 ^ (12 * 1) = 4096 from rfl, show 2 ^ (12 * 1 + 12) = 16777216 from rfl]
    simp only [if_true, show (0 = 1) = False by simp, show (2 = 1) = False by simp, show (3 = 1) = False by simp, if_false]; omega
  · rw [show 2 ^ (12 * 2) = 16777216 from rfl, show 2 ^ (12 * 2 + 12) = 68719476736 from rfl]
    simp only [if_true, show (0 = 2) = False by simp, show (1 = 2) = False by simp, show (3 = 2) = False by simp, if_false]; omega
  · rw [show 2 ^ (12 * 3) = 68719476736 from rfl, show 2 ^ (12 * 3 + 12) = 281474976710656 from rfl]
    simp only [if_true, show (0 = 3) = False by simp, show (1 = 3) = False by simp, show (2 = 3) = False by simp, if_false]; omega
theorem cp_sh (g : Nat) : (nI (g + 1) - (1 : Int32)) * (12 : Int32) = nI (12 * g) := by
  rw [nI_pred, show (12 : Int32) = nI 12 from rfl, pk_mul, Nat.mul_comm]
theorem cp_and63 (m : Nat) : (lN m).toInt32 &&& (63 : Int32) = nI (m % 64) := by
  rw [lN_i, pk_and (nI m) 6 rfl]
  congr 1
  have e : (nI m).toBitVec.toNat = m % 2 ^ 32 := by
    show (BitVec.ofNat 32 m).toNat = m % 2 ^ 32
    rw [BitVec.toNat_ofNat]
  rw [e]
  omega
theorem cp_nI0 {m : Nat} (h : m < 64) : nI m = 0 ↔ m = 0 := by
  rw [← nI_0]
  exact nI_eq (by omega) (by decide)
theorem cp_wfrom {n1 n2 : Nat} {i : mm_i} {l : mm_j} {a : mm_a} {b : mm_b} {K : Int32 → mm_i → mm_j → mm_a → mm_b → Prop} {C : Nat → Nat} {g : Nat} (h : cp_ok C) (hg : g < 4) (h0 : C g % 64 = 0 → K (-6) i l a b) (h1 : ¬ C g % 64 = 0 → K (nI (C g % 64 - 1)) i l a b) : wp_Captures_from n1 n2 i l a b (lN (cp_enc C)) (nI (g + 1)) K := by
  unfold wp_Captures_from
  rw [cp_sh, wb_shr (Nat.lt_trans (cp_lt h) (by decide)) (by omega), cp_and63, cp_fromN h hg]
  have hlt : C g % 64 < 64 := Nat.mod_lt _ (by decide)
  refine ⟨fun q => ?_, fun q => h0 ((cp_nI0 hlt).mp q)⟩
  have q2 : ¬ C g % 64 = 0 := fun z => q ((cp_nI0 hlt).mpr z)
  have e : nI (C g % 64) - (1 : Int32) = nI (C g % 64 - 1) := by
    rw [show (1 : Int32) = nI 1 from rfl, pk_sub (by omega)]
  rw [e]
  exact h1 q2
theorem cp_wto {n1 n2 : Nat} {i : mm_i} {l : mm_j} {a : mm_a} {b : mm_b} {K : Int32 → mm_i → mm_j → mm_a → mm_b → Prop} {C : Nat → Nat} {g : Nat} (h : cp_ok C) (hg : g < 4) (h0 : C g / 64 = 0 → K (-6) i l a b) (h1 : ¬ C g / 64 = 0 → K (nI (C g / 64 - 1)) i l a b) : wp_Captures_to n1 n2 i l a b (lN (cp_enc C)) (nI (g + 1)) K := by
  unfold wp_Captures_to
  have e1 : nI (12 * g) + (6 : Int32) = nI (12 * g + 6) := by
    rw [show (6 : Int32) = nI 6 from rfl, nI_add]
  have hlt : C g / 64 < 64 := by
    obtain ⟨q0, q1, q2, q3⟩ := h
    rcases (by omega : g = 0 ∨ g = 1 ∨ g = 2 ∨ g = 3) with rfl | rfl | rfl | rfl <;> omega
  rw [cp_sh, e1, wb_shr (Nat.lt_trans (cp_lt h) (by decide)) (by omega), cp_and63, cp_toN h hg]
  refine ⟨fun q => ?_, fun q => h0 ((cp_nI0 hlt).mp q)⟩
  have q2 : ¬ C g / 64 = 0 := fun z => q ((cp_nI0 hlt).mpr z)
  have e : nI (C g / 64) - (1 : Int32) = nI (C g / 64 - 1) := by
    rw [show (1 : Int32) = nI 1 from rfl, pk_sub (by omega)]
  rw [e]
  exact h1 q2
theorem cp_both {p q : Nat} (hp : p < 63) (hq : q < 63) : ((nI p + (1 : Int32)) ||| ((nI q + (1 : Int32)) <<< ((6 : Int32) &&& 31))).toInt64 = lN ((q + 1) * 64 + (p + 1)) := by
  rw [nI_1, nI_1, pk_shlN ((6 : Int32) &&& 31) 6 (by decide) (by omega)]
  have e : nI (p + 1) ||| nI ((q + 1) * 2 ^ 6) = nI ((q + 1) * 64 + (p + 1)) := by
    have e2 : (p + 1) ||| (q + 1) * 2 ^ 6 = (q + 1) * 64 + (p + 1) := by
      apply Nat.eq_of_testBit_eq
      intro j
      rw [Nat.testBit_or, Nat.testBit_mul_two_pow, show 64 = 2 ^ 6 from rfl, Nat.mul_comm (q + 1), Nat.testBit_two_pow_mul_add _ (show p + 1 < 2 ^ 6 by omega)]
      by_cases hj : j < 6
      · have hj2 : ¬ 6 ≤ j := by omega
        simp [hj, hj2]
      · have hj2 : 6 ≤ j := by omega
        have h6 : (p + 1).testBit j = false := Nat.testBit_lt_two_pow (Nat.lt_of_lt_of_le (show p + 1 < 2 ^ 6 by omega) (Nat.pow_le_pow_right (by decide) hj2))
        simp [hj, hj2, h6]
    rw [← e2]
    apply Int32.toBitVec_inj.mp
    show BitVec.ofNat 32 (p + 1) ||| BitVec.ofNat 32 ((q + 1) * 2 ^ 6) = BitVec.ofNat 32 _
    rw [BitVec.ofNat_or]
  rw [e, nI_l (by omega)]
theorem cp_wwith {n1 n2 : Nat} {i : mm_i} {l : mm_j} {a : mm_a} {b : mm_b} {K : Int64 → mm_i → mm_j → mm_a → mm_b → Prop} {C : Nat → Nat} {g p q : Nat} (h : cp_ok C) (hg : g < 4) (hp : p < 63) (hq : q < 63) (hK : K (lN (cp_enc (cp_upd C g ((q + 1) * 64 + (p + 1))))) i l a b) : wp_Captures_with n1 n2 i l a b (lN (cp_enc C)) (nI (g + 1)) (nI p) (nI q) K := by
  unfold wp_Captures_with
  have hl := cp_lt h
  have hm : cp_enc C % 2 ^ (12 * g) < 2 ^ (12 * g) := Nat.mod_lt _ (Nat.two_pow_pos _)
  have hu := cp_lt (cp_ok_upd (g := g) h (show (q + 1) * 64 + (p + 1) < 4096 by omega))
  have e := cp_withN (c := (q + 1) * 64 + (p + 1)) h hg
  have hb : ((q + 1) * 64 + (p + 1)) * 2 ^ (12 * g) < 2 ^ 64 := by
    have h1 : 2 ^ (12 * g) ≤ 2 ^ 36 := Nat.pow_le_pow_right (by decide) (by omega)
    have h2 : ((q + 1) * 64 + (p + 1)) * 2 ^ (12 * g) ≤ 4095 * 2 ^ 36 := Nat.mul_le_mul (by omega) h1
    omega
  have ha : cp_enc C / 2 ^ (12 * g + 12) * 2 ^ (12 * g + 12) + cp_enc C % 2 ^ (12 * g) < 2 ^ 64 := by
    have h1 := Nat.div_mul_le_self (cp_enc C) (2 ^ (12 * g + 12))
    have h2 := Nat.mod_le (cp_enc C) (2 ^ (12 * g))
    omega
  rw [cp_sh, cp_both hp hq, cp_and (Nat.lt_trans hl (by decide)) (by omega), wb_shl _ (by omega), wb_or ha hb, cp_or (by omega) hm, e]
  exact hK
