/-! letters: bits of a set against the reference's look at the text -/
theorem hit_sh : ∀ k, k < 26 → ((nI (97 + k) - (97 : Int32)) &&& 31) = nI k ∧ ((nI k).toBitVec.smod 32).toNat = k := by decide +kernel
theorem hit_bit {m : Int32} {k : Nat} (hk : k < 26) : q_hit m (97 + k) ↔ m.toBitVec.getLsbD k = true := by
  unfold q_hit
  obtain ⟨e1, e2⟩ := hit_sh k hk
  rw [e1]
  have key : (((m >>> nI k) &&& (1 : Int32)) = 0) ↔ m.toBitVec.getLsbD k = false := by
    rw [← Int32.toBitVec_inj, Int32.toBitVec_and, Int32.toBitVec_shiftRight]
    have h1 : (1 : Int32).toBitVec = 1#32 := rfl
    have h0 : (0 : Int32).toBitVec = 0#32 := rfl
    rw [h1, h0]
    have h2 : (BitVec.sshiftRight' m.toBitVec ((nI k).toBitVec.smod 32)) = m.toBitVec.sshiftRight k := by
      rw [BitVec.sshiftRight', e2]
    rw [h2]
    constructor
    · intro h
      have h3 : (m.toBitVec.sshiftRight k &&& 1#32).getLsbD 0 = false := by rw [h]; exact BitVec.getLsbD_zero
      rw [BitVec.getLsbD_and, BitVec.getLsbD_sshiftRight] at h3
      simpa [show k < 32 by omega] using h3
    · intro h
      apply BitVec.eq_of_getLsbD_eq
      intro i hi
      rw [BitVec.getLsbD_and, BitVec.getLsbD_sshiftRight]
      by_cases i0 : i = 0
      · subst i0
        have h' : m.toBitVec[k]'(by omega) = false := by rw [← BitVec.getLsbD_eq_getElem]; exact h
        simp [show k < 32 by omega, h']
      · have : (1#32).getLsbD i = false := by
          rw [BitVec.getLsbD_one]
          simp [i0]
        rw [this]
        simp
  constructor
  · intro h
    cases hb : m.toBitVec.getLsbD k with
    | true => rfl
    | false => exact absurd (key.mpr hb) h
  · intro h h2
    rw [key.mp h2] at h
    cases h
theorem hit_or {m w : Int32} {k : Nat} (hk : k < 26) : q_hit (m ||| w) (97 + k) ↔ q_hit m (97 + k) ∨ q_hit w (97 + k) := by
  rw [hit_bit hk, hit_bit hk, hit_bit hk, Int32.toBitVec_or, BitVec.getLsbD_or, Bool.or_eq_true]
theorem all_bit : ∀ k, k < 26 → (67108863 : Int32).toBitVec.getLsbD k = true ∧ (-1 : Int32).toBitVec.getLsbD k = true := by decide +kernel
theorem hit_all {k : Nat} (hk : k < 26) : q_hit 67108863 (97 + k) := (hit_bit hk).mpr (all_bit k hk).1
theorem hit_inv {m : Int32} {k : Nat} (hk : k < 26) : q_hit ((67108863 : Int32) &&& (m ^^^ (-1))) (97 + k) ↔ ¬ q_hit m (97 + k) := by
  obtain ⟨a1, a2⟩ := all_bit k hk
  rw [hit_bit hk, hit_bit hk, Int32.toBitVec_and, Int32.toBitVec_xor, BitVec.getLsbD_and, BitVec.getLsbD_xor, a1, a2]
  cases m.toBitVec.getLsbD k <;> decide
theorem hit_0 {k : Nat} (hk : k < 26) : ¬ q_hit 0 (97 + k) := by
  rw [hit_bit hk]
  have : (0 : Int32).toBitVec.getLsbD k = false := BitVec.getLsbD_zero
  rw [this]
  decide
theorem hit_dec : ∀ i, i < 26 → ∀ j, j < 26 → ∀ k, k < 26 → i ≤ j → ((q_bt (nI (97 + i)) (nI (97 + j))).toBitVec.getLsbD k = true ↔ i ≤ k ∧ k ≤ j) := by decide +kernel
theorem hit_bt {c h k : Nat} (hc : 97 ≤ c) (hh : h ≤ 122) (hch : c ≤ h) (hk : k < 26) : q_hit (q_bt (nI c) (nI h)) (97 + k) ↔ c ≤ 97 + k ∧ 97 + k ≤ h := by
  have := hit_dec (c - 97) (by omega) (h - 97) (by omega) k hk (by omega)
  rw [show 97 + (c - 97) = c by omega, show 97 + (h - 97) = h by omega] at this
  rw [hit_bit hk, this]
  omega
section SH
variable {tx : Nat → Nat} {n : Nat}
theorem cls_hit {k : Nat} (hk : k < 26) : ∀ (f m p c e : Nat) (z : Int32) (is : Bool), n + 1 ≤ p + f → n ≤ p + m → y_bcl tx n f p c = some e → (q_hit z (97 + k) ↔ is = true) → (q_hit (q_cls tx n m p z 1).1 (97 + k) ↔ x_ic tx n (97 + k) f is p = true) := by
  intro f
  induction f with
  | zero => intro m p c e z is h1 h2 h3; cases h3
  | succ f ih =>
    intro m p c e z is h1 h2 h3 h4
    have ey : y_bcl tx n (f + 1) p c = if y_let (xt tx n p) then (if xt tx n (p + 1) = 45 then (if y_let (xt tx n (p + 2)) ∧ xt tx n p ≤ xt tx n (p + 2) then y_bcl tx n f (p + 3) (c + 1) else none) else y_bcl tx n f (p + 1) (c + 1)) else if 0 < c ∧ xt tx n p = 93 then some (p + 1) else none := rfl
    have ex : x_ic tx n (97 + k) (f + 1) is p = if xt tx n p = 93 ∨ n ≤ p then is else if xt tx n (p + 1) = 45 then x_ic tx n (97 + k) f (is || decide (xt tx n p ≤ 97 + k ∧ 97 + k ≤ xt tx n (p + 2))) (p + 3) else x_ic tx n (97 + k) f (is || decide (97 + k = xt tx n p)) (p + 1) := rfl
    rw [ey] at h3
    rw [ex]
    by_cases hl : y_let (xt tx n p)
    · have hp : p < n := (x_in (c := xt tx n p) rfl (by omega)).1
      obtain ⟨m, rfl⟩ : ∃ m', m = m' + 1 := ⟨m - 1, by omega⟩
      have eq : q_cls tx n (m + 1) p z 1 = q_cls tx n m (q_prt tx n p (xt tx n p) 1).2.1 (z ||| (q_prt tx n p (xt tx n p) 1).1) (q_prt tx n p (xt tx n p) 1).2.2 := by
        show (if (1 : Nat) = 0 then (z, p, 1) else match q_let (q_at tx n p) with | some c => q_cls tx n m (q_prt tx n p c 1).2.1 (z ||| (q_prt tx n p c 1).1) (q_prt tx n p c 1).2.2 | none => (z, p, 1)) = _
        rw [if_neg (by decide), ql_is.1 hl]
      rw [if_pos hl] at h3
      rw [eq, if_neg (by omega)]
      have hpr := prt_is (tx := tx) (n := n) (p := p) (g := 1) hl
      by_cases h45 : xt tx n (p + 1) = 45
      · rw [if_pos h45] at h3 ⊢
        by_cases h6 : y_let (xt tx n (p + 2)) ∧ xt tx n p ≤ xt tx n (p + 2)
        · rw [if_pos h6] at h3
          rw [hpr.1 h45 h6]
          refine ih m (p + 3) (c + 1) e _ _ (by omega) (by omega) h3 ?_
          rw [hit_or hk, h4, hit_bt hl.1 h6.1.2 h6.2 hk, Bool.or_eq_true, decide_eq_true_iff]
        · rw [if_neg h6] at h3
          cases h3
      · rw [if_neg h45] at h3 ⊢
        rw [hpr.2.2 h45]
        refine ih m (p + 1) (c + 1) e _ _ (by omega) (by omega) h3 ?_
        have e3 : (xt tx n p ≤ 97 + k ∧ 97 + k ≤ xt tx n p) ↔ 97 + k = xt tx n p := by omega
        rw [hit_or hk, h4, hit_bt hl.1 hl.2 (Nat.le_refl _) hk, Bool.or_eq_true, decide_eq_true_iff, e3]
    · rw [if_neg hl] at h3
      have eq : q_cls tx n m p z 1 = (z, p, 1) := by
        cases m with
        | zero => rfl
        | succ m =>
          show (if (1 : Nat) = 0 then (z, p, 1) else match q_let (q_at tx n p) with | some c => _ | none => (z, p, 1)) = _
          rw [if_neg (by decide), ql_is.2 hl]
      rw [eq]
      by_cases h7 : 0 < c ∧ xt tx n p = 93
      · rw [if_pos (Or.inl h7.2)]
        exact h4
      · rw [if_neg h7] at h3
        cases h3
/-- the kinds that look at one letter -/
theorem kv_hit (hn32 : n ≤ 32) {A e k : Nat} (hA : A < n) (hp : y_bp tx n A = some e) (h0 : (x_kv tx n A).1 = 0) (hk : k < 26) : (q_hit (x_kv tx n A).2 (97 + k) ↔ x_hit tx n A (97 + k) = true) ∧ ¬ xt tx n A = 94 ∧ ¬ xt tx n A = 36 ∧ ¬ xt tx n A = 92 ∧ ¬ xt tx n A = 40 := by
  unfold x_kv at h0 ⊢
  unfold x_hit
  by_cases h40 : xt tx n A = 40
  · rw [if_pos h40] at h0; cases h0
  rw [if_neg h40] at h0 ⊢
  by_cases h92 : xt tx n A = 92
  · rw [if_pos h92] at h0; cases h0
  rw [if_neg h92] at h0 ⊢
  by_cases h91 : xt tx n A = 91
  · rw [if_pos h91, if_pos h91]
    refine ⟨?_, by omega, by omega, h92, h40⟩
    rw [Bool.or_eq_true, decide_eq_true_iff, or_iff_right (by omega : ¬ xt tx n A = 46)]
    have hb : y_bc tx n A = some e := by
      unfold y_bp at hp
      rw [if_neg (by omega), if_pos h91] at hp
      exact hp
    unfold y_bc at hb
    unfold x_set q_class q_inv
    by_cases h94 : xt tx n (A + 1) = 94
    · rw [if_pos h94] at hb ⊢
      rw [if_pos ((qa_is (by decide)).mpr h94)]
      show q_hit (if (1 : Int32) = 0 then (q_cls tx n 32 (A + 2) 0 1).1 else (67108863 : Int32) &&& ((q_cls tx n 32 (A + 2) 0 1).1 ^^^ (-1))) (97 + k) ↔ _
      rw [if_neg (by decide), hit_inv hk, cls_hit hk (n + 1) 32 (A + 2) 0 e 0 false (by omega) (by omega) hb ⟨fun w => absurd w (hit_0 hk), fun w => by cases w⟩]
      cases x_ic tx n (97 + k) (n + 1) false (A + 2) <;> simp
    · rw [if_neg h94] at hb ⊢
      rw [if_neg (fun w => h94 ((qa_is (by decide)).mp w))]
      show q_hit (if (0 : Int32) = 0 then (q_cls tx n 32 (A + 1) 0 1).1 else (67108863 : Int32) &&& ((q_cls tx n 32 (A + 1) 0 1).1 ^^^ (-1))) (97 + k) ↔ _
      rw [if_pos rfl]
      exact cls_hit hk (n + 1) 32 (A + 1) 0 e 0 false (by omega) (by omega) hb ⟨fun w => absurd w (hit_0 hk), fun w => by cases w⟩
  rw [if_neg h91] at h0 ⊢
  rw [if_neg h91]
  by_cases h36 : xt tx n A = 36
  · rw [if_pos h36] at h0; cases h0
  rw [if_neg h36] at h0 ⊢
  by_cases h46 : xt tx n A = 46
  · rw [if_pos h46]
    refine ⟨?_, by omega, h36, h92, h40⟩
    rw [Bool.or_eq_true, decide_eq_true_iff]
    exact ⟨fun _ => Or.inl h46, fun _ => hit_all hk⟩
  rw [if_neg h46] at h0 ⊢
  by_cases h94 : xt tx n A = 94
  · rw [if_pos h94] at h0; cases h0
  rw [if_neg h94]
  refine ⟨?_, h94, h36, h92, h40⟩
  have hl : y_let (xt tx n A) := by
    unfold y_bp at hp
    by_cases w : y_let (xt tx n A)
    · exact w
    · rw [if_neg (by omega), if_neg h91, if_neg h92, if_neg (fun v => h40 v.1)] at hp
      cases hp
  rw [Bool.or_eq_true, decide_eq_true_iff, decide_eq_true_iff, or_iff_right h46, hit_bt hl.1 hl.2 (Nat.le_refl _) hk]
  omega
end SH
