/-! the two readers: characters and letters in brackets -/
theorem qa_is {tx : Nat → Nat} {n p c : Nat} (hc : ¬ c = 0) : q_at tx n p = some c ↔ xt tx n p = c := by
  unfold q_at xt
  by_cases h : p < n
  · rw [if_pos h, if_pos h]
    exact ⟨fun w => Option.some.inj w, fun w => by rw [w]⟩
  · rw [if_neg h, if_neg h]
    exact ⟨fun w => (by cases w), fun w => absurd w.symm hc⟩
theorem ql_is {tx : Nat → Nat} {n p : Nat} : (y_let (xt tx n p) → q_let (q_at tx n p) = some (xt tx n p)) ∧ (¬ y_let (xt tx n p) → q_let (q_at tx n p) = none) := by
  unfold q_at xt
  by_cases h : p < n
  · rw [if_pos h, if_pos h]
    refine ⟨fun w => ?_, fun w => ?_⟩
    · show (if 97 ≤ tx p ∧ tx p ≤ 122 then some (tx p) else none) = _
      rw [if_pos w]
    · show (if 97 ≤ tx p ∧ tx p ≤ 122 then some (tx p) else none) = _
      rw [if_neg w]
  · rw [if_neg h, if_neg h]
    exact ⟨fun w => absurd w (by omega), fun _ => rfl⟩
theorem qd_is {tx : Nat → Nat} {n p : Nat} : (48 ≤ xt tx n p ∧ xt tx n p ≤ 57 → q_dig (q_at tx n p) = some (xt tx n p - 48)) ∧ (¬ (48 ≤ xt tx n p ∧ xt tx n p ≤ 57) → q_dig (q_at tx n p) = none) := by
  unfold q_at xt
  by_cases h : p < n
  · rw [if_pos h, if_pos h]
    refine ⟨fun w => ?_, fun w => ?_⟩
    · show (if 48 ≤ tx p ∧ tx p ≤ 57 then some (tx p - 48) else none) = _
      rw [if_pos w]
    · show (if 48 ≤ tx p ∧ tx p ≤ 57 then some (tx p - 48) else none) = _
      rw [if_neg w]
  · rw [if_neg h, if_neg h]
    exact ⟨fun w => absurd w (by omega), fun _ => rfl⟩
theorem bt_dec : ∀ i, i < 26 → ∀ j, j < 26 → i ≤ j → ¬ q_bt (nI (97 + i)) (nI (97 + j)) = 0 := by decide +kernel
theorem bt_ne {c h : Nat} (hc : 97 ≤ c) (hh : h ≤ 122) (hch : c ≤ h) : ¬ q_bt (nI c) (nI h) = 0 := by
  have := bt_dec (c - 97) (by omega) (h - 97) (by omega) (by omega)
  rw [show 97 + (c - 97) = c by omega, show 97 + (h - 97) = h by omega] at this
  exact this
theorem or_ne {x y : Int32} (h : ¬ y = 0) : ¬ x ||| y = 0 := by
  intro q
  apply h
  apply Int32.toBitVec_inj.mp
  have q2 : x.toBitVec ||| y.toBitVec = 0#32 := by
    rw [← Int32.toBitVec_or, q]
    rfl
  apply BitVec.eq_of_getLsbD_eq
  intro i hi
  have q3 : (x.toBitVec ||| y.toBitVec).getLsbD i = (0#32).getLsbD i := by rw [q2]
  rw [BitVec.getLsbD_or] at q3
  have q4 : (0#32).getLsbD i = false := BitVec.getLsbD_zero
  rw [q4] at q3
  have q5 := (Bool.or_eq_false_iff.mp q3).2
  show y.toBitVec.getLsbD i = (0#32).getLsbD i
  rw [q5, q4]
section RS
variable {tx : Nat → Nat} {n : Nat}
/-- one part of a set: as the reference reads it -/
theorem prt_is {p g : Nat} (hl : y_let (xt tx n p)) : (xt tx n (p + 1) = 45 → y_let (xt tx n (p + 2)) ∧ xt tx n p ≤ xt tx n (p + 2) → q_prt tx n p (xt tx n p) g = (q_bt (nI (xt tx n p)) (nI (xt tx n (p + 2))), p + 3, g)) ∧ (xt tx n (p + 1) = 45 → ¬ (y_let (xt tx n (p + 2)) ∧ xt tx n p ≤ xt tx n (p + 2)) → q_prt tx n p (xt tx n p) g = (0, p + 3, 0)) ∧ (¬ xt tx n (p + 1) = 45 → q_prt tx n p (xt tx n p) g = (q_bt (nI (xt tx n p)) (nI (xt tx n p)), p + 1, g)) := by
  unfold q_prt
  refine ⟨fun h1 h2 => ?_, fun h1 h2 => ?_, fun h1 => ?_⟩
  · rw [if_pos ((qa_is (by decide)).mpr h1), ql_is.1 h2.1]
    show (if xt tx n p ≤ xt tx n (p + 2) then _ else _) = _
    rw [if_pos h2.2]
  · rw [if_pos ((qa_is (by decide)).mpr h1)]
    by_cases h3 : y_let (xt tx n (p + 2))
    · rw [ql_is.1 h3]
      show (if xt tx n p ≤ xt tx n (p + 2) then _ else _) = _
      rw [if_neg (fun w => h2 ⟨h3, w⟩)]
    · rw [ql_is.2 h3]
  · rw [if_neg (fun w => h1 ((qa_is (by decide)).mp w))]
theorem cls_is : ∀ (f m p c : Nat) (z : Int32), n + 1 ≤ p + f → n ≤ p + m → (0 < c → ¬ z = 0) → (c = 0 → z = 0) → (∀ e, y_bcl tx n f p c = some e → 1 ≤ e ∧ (q_cls tx n m p z 1).2.1 = e - 1 ∧ (q_cls tx n m p z 1).2.2 = 1 ∧ ¬ (q_cls tx n m p z 1).1 = 0 ∧ xt tx n (e - 1) = 93) ∧ (y_bcl tx n f p c = none → (q_cls tx n m p z 1).2.2 = 0 ∨ (q_cls tx n m p z 1).1 = 0 ∨ ¬ xt tx n (q_cls tx n m p z 1).2.1 = 93) := by
  intro f
  induction f with
  | zero =>
    intro m p c z h1 h2 h3 h4
    have h5 : xt tx n p = 0 := by rw [xt, if_neg (by omega)]
    refine ⟨fun e h => (by cases h), fun _ => ?_⟩
    have e : q_cls tx n m p z 1 = (z, p, 1) := by
      cases m with
      | zero => rfl
      | succ m =>
        show (if (1 : Nat) = 0 then (z, p, 1) else match q_let (q_at tx n p) with | some c => _ | none => (z, p, 1)) = _
        rw [if_neg (by decide), ql_is.2 (by rw [h5]; omega)]
    rw [e]
    right; right
    show ¬ xt tx n p = 93
    omega
  | succ f ih =>
    intro m p c z h1 h2 h3 h4
    have ey : y_bcl tx n (f + 1) p c = if y_let (xt tx n p) then (if xt tx n (p + 1) = 45 then (if y_let (xt tx n (p + 2)) ∧ xt tx n p ≤ xt tx n (p + 2) then y_bcl tx n f (p + 3) (c + 1) else none) else y_bcl tx n f (p + 1) (c + 1)) else if 0 < c ∧ xt tx n p = 93 then some (p + 1) else none := rfl
    rw [ey]
    by_cases hl : y_let (xt tx n p)
    · have hp : p < n := (x_in (c := xt tx n p) rfl (by omega)).1
      obtain ⟨m, rfl⟩ : ∃ m', m = m' + 1 := ⟨m - 1, by omega⟩
      have eq : q_cls tx n (m + 1) p z 1 = q_cls tx n m (q_prt tx n p (xt tx n p) 1).2.1 (z ||| (q_prt tx n p (xt tx n p) 1).1) (q_prt tx n p (xt tx n p) 1).2.2 := by
        show (if (1 : Nat) = 0 then (z, p, 1) else match q_let (q_at tx n p) with | some c => q_cls tx n m (q_prt tx n p c 1).2.1 (z ||| (q_prt tx n p c 1).1) (q_prt tx n p c 1).2.2 | none => (z, p, 1)) = _
        rw [if_neg (by decide), ql_is.1 hl]
      rw [eq, if_pos hl]
      have hpr := prt_is (tx := tx) (n := n) (p := p) (g := 1) hl
      by_cases h45 : xt tx n (p + 1) = 45
      · rw [if_pos h45]
        by_cases h6 : y_let (xt tx n (p + 2)) ∧ xt tx n p ≤ xt tx n (p + 2)
        · rw [if_pos h6, hpr.1 h45 h6]
          exact ih m (p + 3) (c + 1) _ (by omega) (by omega) (fun _ => or_ne (bt_ne hl.1 h6.1.2 h6.2)) (fun w => by omega)
        · rw [if_neg h6, hpr.2.1 h45 h6]
          refine ⟨fun e h => (by cases h), fun _ => Or.inl ?_⟩
          cases m with
          | zero => rfl
          | succ m => rfl
      · rw [if_neg h45, hpr.2.2 h45]
        exact ih m (p + 1) (c + 1) _ (by omega) (by omega) (fun _ => or_ne (bt_ne hl.1 hl.2 (Nat.le_refl _))) (fun w => by omega)
    · rw [if_neg hl]
      have eq : q_cls tx n m p z 1 = (z, p, 1) := by
        cases m with
        | zero => rfl
        | succ m =>
          show (if (1 : Nat) = 0 then (z, p, 1) else match q_let (q_at tx n p) with | some c => _ | none => (z, p, 1)) = _
          rw [if_neg (by decide), ql_is.2 hl]
      rw [eq]
      by_cases h7 : 0 < c ∧ xt tx n p = 93
      · rw [if_pos h7]
        refine ⟨fun e h => ?_, fun h => (by cases h)⟩
        cases h
        exact ⟨by omega, rfl, rfl, h3 h7.1, by rw [Nat.add_sub_cancel]; exact h7.2⟩
      · rw [if_neg h7]
        refine ⟨fun e h => (by cases h), fun _ => ?_⟩
        rcases Nat.eq_zero_or_pos c with w | w
        · exact Or.inr (Or.inl (h4 w))
        · exact Or.inr (Or.inr (fun v => h7 ⟨w, v⟩))
/-- a set in brackets -/
theorem class_is (hn : n ≤ 32) {p : Nat} (hp : p < n) : (∀ e, y_bc tx n p = some e → 1 ≤ e ∧ (q_class tx n p 1).2.1 = e - 1 ∧ (q_class tx n p 1).2.2 = 1 ∧ ¬ (q_class tx n p 1).1 = 0 ∧ xt tx n (e - 1) = 93) ∧ (y_bc tx n p = none → (q_class tx n p 1).2.2 = 0 ∨ (q_class tx n p 1).1 = 0 ∨ ¬ xt tx n (q_class tx n p 1).2.1 = 93) := by
  unfold y_bc q_class q_inv
  by_cases h : xt tx n (p + 1) = 94
  · rw [if_pos h, if_pos ((qa_is (by decide)).mpr h)]
    exact cls_is (n + 1) 32 (p + 2) 0 0 (by omega) (by omega) (fun w => absurd w (Nat.lt_irrefl _)) (fun _ => rfl)
  · rw [if_neg h, if_neg (fun w => h ((qa_is (by decide)).mp w))]
    exact cls_is (n + 1) 32 (p + 1) 0 0 (by omega) (by omega) (fun w => absurd w (Nat.lt_irrefl _)) (fun _ => rfl)
end RS
