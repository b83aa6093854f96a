section XW
variable {tx : Nat → Nat} {n Q sl lim : Nat} {su : Nat → Nat}
variable {M A p k st e : Nat} {C : Nat → Nat} {fs : List xF} {bs : List xB} {kp : Nat → Nat → Nat}
theorem k_carry (hG : xG tx n Q) (hsl : sl ≤ 40) (h : xW tx n Q sl lim (5, A, p, k, C, st, fs, bs, kp)) {x : xF} (hx : fs[k]? = some x) (hk1 : 1 ≤ k) : xW tx n Q sl lim (x_carry tx n x p C st fs bs kp) := by
  have hn := hG.1
  obtain ⟨w1, w2, w3⟩ := h
  obtain ⟨w3, w4⟩ := w3 (by decide)
  rw [z_A (by omega)] at w3
  rw [z_B (by omega)] at w4
  have w3 : fs.length + (xg fs k).2.2.2.2.2.1 ≤ 21 + 23 * st + 0 := w3
  have w4 : bs.length + (xg fs k).2.2.2.2.2.2.1 ≤ 11 + 13 * st + 0 := w4
  obtain ⟨r1, r2, r3, r4, r5, r6, r7, r8, r9, r10, r11⟩ := (w2 : w_R tx n Q sl lim 0 p k C st fs bs kp)
  obtain ⟨g0, g1, g2, g3, g4, g5, g6, g7, g8, g9, g10, g11⟩ := r1.2 k x hx hk1
  rw [xg_of hx] at w3 w4 r3 r6
  have eA : x.2.2.2.2.2.1 = x_pA tx n x.1 x.2.1 + (xg fs x.2.2.2.1).2.2.2.2.2.1 := by
    conv => lhs; rw [g0]
    rfl
  have eB : x.2.2.2.2.2.2.1 = x_pB tx n x.1 x.2.1 + (xg fs x.2.2.2.1).2.2.2.2.2.2.1 := by
    conv => lhs; rw [g0]
    rfl
  have eM : x.2.2.2.2.2.2.2.2 = if 7 ≤ x.1 ∧ x.1 ≤ 9 then x.2.2.1 else (xg fs x.2.2.2.1).2.2.2.2.2.2.2.2 := by
    conv => lhs; rw [g0]
    rfl
  have hpr : x.2.2.2.1 < fs.length := by omega
  have hMp : (xg fs x.2.2.2.1).2.2.2.2.2.2.2.2 ≤ bs.length := by
    rw [eM] at r6
    split at r6
    · have := g6 (by omega); omega
    · exact r6
  -- out to the parent
  have up : ∀ {p' : Nat} {C' : Nat → Nat}, x.2.2.2.2.1 ≤ p' → p' ≤ sl → cx_in 40 C' → w_R tx n Q sl lim 0 p' x.2.2.2.1 C' st fs bs kp := fun a1 a2 a3 => ⟨r1, hpr, by omega, a2, a3, hMp, r7, r8, r9, r10, r11⟩
  have up5 : ∀ {p' W : Nat} {C' : Nat → Nat}, W < 64 → x.2.2.2.2.1 ≤ p' → p' ≤ sl → cx_in 40 C' → xW tx n Q sl lim (5, W, p', x.2.2.2.1, C', st, fs, bs, kp) := by
    intro p' W C' a0 a1 a2 a3
    refine ⟨a_5 a0, up a1 a2 a3, fun _ => ⟨?_, ?_⟩⟩
    · rw [z_A (by omega)]; show _ ≤ 21 + 23 * st + 0; omega
    · rw [z_B (by omega)]; show _ ≤ 11 + 13 * st + 0; omega
  -- the ways back are cut
  have cut : (x.1 = 7 ∨ x.1 = 8 ∨ x.1 = 9) → ∀ {p' : Nat} {C' : Nat → Nat}, x.2.2.2.2.1 ≤ p' → p' ≤ sl → cx_in 40 C' → w_R tx n Q sl lim 0 p' x.2.2.2.1 C' st fs (bs.take x.2.2.1) kp ∧ (bs.take x.2.2.1).length ≤ bs.length := by
    intro q p' C' a1 a2 a3
    have hm : x.2.2.1 ≤ bs.length := by rw [eM, if_pos (by omega)] at r6; exact r6
    have hl : (bs.take x.2.2.1).length = x.2.2.1 := by rw [List.length_take, Nat.min_eq_left hm]
    exact ⟨⟨r1, hpr, by omega, a2, a3, by rw [hl]; exact g6 q, w_Bs_take r7 _, r8, r9, r10, by rw [hl]; omega⟩, by rw [hl]; exact hm⟩
  unfold x_carry
  split
  · rename_i q
    have e1 : x_pA tx n x.1 x.2.1 = 2 * x_lz tx n x.2.1 := by rw [x_pA, if_pos q]
    have e2 : x_pB tx n x.1 x.2.1 = x_lz tx n x.2.1 := by rw [x_pB, if_pos q]
    refine ⟨a_0 (by omega), up r3 r4 r5, fun _ => ⟨?_, ?_⟩⟩
    · show fs.length + (2 * x_lz tx n x.2.1 + _) ≤ 21 + 23 * st + 0
      omega
    · show bs.length + (x_lz tx n x.2.1 + _) ≤ 11 + 13 * st + 0
      omega
  · rename_i q1
    split
    · rename_i q
      obtain ⟨b1, b2⟩ := g7 q
      refine up5 (by decide) r3 r4 (cx_upd r5 (Nat.le_refl _) (by omega) (by omega))
    · rename_i q2
      split
      · exact up5 (by decide) r3 r4 (r8 _)
      · rename_i q3
        split
        · rename_i q
          have hA : x.2.1 < n := g10 (by omega)
          by_cases hp : x.2.2.1 = p
          · rw [if_pos hp]
            exact up5 (by omega) r3 r4 r5
          · rw [if_neg hp]
            rcases q with q | q
            · rw [show x.1 - 1 = 3 by omega]
              refine ⟨a_234 hn (Or.inr (Or.inl rfl)) hA, up r3 r4 r5, fun _ => ⟨?_, ?_⟩⟩
              · rw [z_A (by omega)]; omega
              · rw [z_B (by omega)]; show _ ≤ 11 + 13 * st + 0; omega
            · rw [show x.1 - 1 = 4 by omega]
              have e1 : x_pA tx n x.1 x.2.1 = 1 := by rw [x_pA, if_neg q1, if_pos (Or.inl q)]
              have e2 : x_pB tx n x.1 x.2.1 = 1 := by rw [x_pB, if_neg q1, if_pos (Or.inl q)]
              refine ⟨a_234 hn (Or.inr (Or.inr rfl)) hA, up r3 r4 r5, fun _ => ⟨?_, ?_⟩⟩
              · show fs.length + (1 + _) ≤ 21 + 23 * st + 0
                omega
              · show bs.length + (1 + _) ≤ 11 + 13 * st + 0
                omega
        · rename_i q45
          split
          · rename_i q
            have hA : x.2.1 < n := g10 (by omega)
            by_cases hp : x.2.2.1 = 0
            · rw [if_pos hp]
              exact up5 (by omega) r3 r4 r5
            · rw [if_neg hp]
              have h1 := w_R_push (kd := 6) (wh := x.2.1) (nm := x.2.2.1 - 1) (up r3 r4 r5) (by decide) (by decide) (fun w => absurd w (by decide)) (fun w => absurd w (by decide)) (fun w => absurd w (by decide)) (fun w => absurd w (by decide)) (fun w => absurd w (by decide)) (fun _ => hA) (by omega) (by omega)
              have hp2 : 2 ≤ p_A tx n 2 x.2.1 := by
                show 2 ≤ (if x_how tx n x.2.1 = 43 then 3 else 2)
                split <;> omega
              refine ⟨a_234 hn (Or.inl rfl) hA, w_R_e h1 (by decide), fun _ => ⟨?_, ?_⟩⟩
              · rw [z_A (by omega), mk_A, len1]
                show fs.length + 1 + (0 + _) ≤ _
                omega
              · rw [z_B (by omega), mk_B]
                show bs.length + (0 + _) ≤ 11 + 13 * st + 1
                omega
          · rename_i q6
            split
            · rename_i q
              obtain ⟨h1, h2⟩ := cut (Or.inl q) r3 r4 r5
              refine ⟨a_50, h1, fun _ => ⟨?_, ?_⟩⟩
              · rw [z_A (by omega)]; show _ ≤ 21 + 23 * st + 0; omega
              · rw [z_B (by omega)]; show _ ≤ 11 + 13 * st + 0; omega
            · rename_i q7
              split
              · rename_i q
                have e8 := g9 q
                obtain ⟨h1, h2⟩ := cut (Or.inr (Or.inl q)) (p' := x.2.1) (C' := C) (by omega) (by omega) r5
                refine ⟨a_50, h1, fun _ => ⟨?_, ?_⟩⟩
                · rw [z_A (by omega)]; show _ ≤ 21 + 23 * st + 0; omega
                · rw [z_B (by omega)]; show _ ≤ 11 + 13 * st + 0; omega
              · rename_i q8
                split
                · rename_i q
                  obtain ⟨h1, h2⟩ := cut (Or.inr (Or.inr q)) r3 r4 r5
                  exact ⟨a_60, h1, fun w => absurd rfl w⟩
                · rename_i q9
                  have hA : x.2.1 < n := g10 (by omega)
                  rcases (by omega : x.1 = 10 ∨ x.1 = 11) with q | q
                  · rw [show x.1 - 7 = 3 by omega]
                    refine ⟨a_234 hn (Or.inr (Or.inl rfl)) hA, up r3 r4 r5, fun _ => ⟨?_, ?_⟩⟩
                    · rw [z_A (by omega)]; omega
                    · rw [z_B (by omega)]; show _ ≤ 11 + 13 * st + 0; omega
                  · rw [show x.1 - 7 = 4 by omega]
                    have e1 : x_pA tx n x.1 x.2.1 = 1 := by rw [x_pA, if_neg q1, if_pos (Or.inr q)]
                    have e2 : x_pB tx n x.1 x.2.1 = 1 := by rw [x_pB, if_neg q1, if_pos (Or.inr q)]
                    refine ⟨a_234 hn (Or.inr (Or.inr rfl)) hA, up r3 r4 r5, fun _ => ⟨?_, ?_⟩⟩
                    · show fs.length + (1 + _) ≤ 21 + 23 * st + 0
                      omega
                    · show bs.length + (1 + _) ≤ 11 + 13 * st + 0
                      omega
/-- one act -/
def x_act (tx : Nat → Nat) (n : Nat) (su : Nat → Nat) (sl : Nat) : xS → xS
  | (M, A, p, k, C, st, fs, bs, kp) =>
    if M = 0 then (if x_re tx n A then (5, 0, p, k, C, st, fs, bs, kp) else x_item tx n A p k C st fs bs kp)
    else if M = 1 then (0, A, p, k, C, st, fs, (match x_nr tx n A with
      | none => bs
      | some j => bs ++ [(1, j, p, k, fs.length - 1, C)]), kp)
    else if M = 2 then x_atom tx n su sl A p k C st fs bs kp
    else if M = 3 then x_st tx n false A p k C st fs bs kp
    else if M = 4 then x_st tx n true A p k C st fs bs kp
    else if M = 5 then x_carry tx n (xg fs k) p C st fs bs kp
    else (M, A, p, k, C, st, fs, bs, kp)
theorem x_pl_in {at' : Nat} (hC : cx_in 40 C) (hp : p ≤ sl) (hb : xt tx n at' = 92 → 49 ≤ xt tx n (at' + 1) ∧ xt tx n (at' + 1) ≤ 52) : ∀ p', x_pl tx n su sl at' p C = some p' → p ≤ p' ∧ p' ≤ sl := by
  intro p' h
  unfold x_pl at h
  split at h
  · split at h
    · cases h; omega
    · cases h
  · split at h
    · split at h
      · cases h; omega
      · cases h
    · split at h
      · rename_i q
        split at h
        · cases h
        · split at h
          · rename_i q2 q3
            cases h
            have := (x_rpB_iff.mp q3).1
            omega
          · cases h
      · split at h
        · rename_i q
          cases h
          omega
        · cases h
theorem k_act (hG : xG tx n Q) (hsl : sl ≤ 40) (hlim : lim ≤ 300) (h : xW tx n Q sl lim (M, A, p, k, C, st, fs, bs, kp)) (h6 : ¬ M = 6) (h5 : ¬ (M = 5 ∧ k = 0)) (h2 : ¬ (M = 2 ∧ st = lim)) : xW tx n Q sl lim (x_act tx n su sl (M, A, p, k, C, st, fs, bs, kp)) := by
  have hM := h.1.1
  rcases (by omega : M = 0 ∨ M = 1 ∨ M = 2 ∨ M = 3 ∨ M = 4 ∨ M = 5) with q | q | q | q | q | q
  · subst q
    show xW tx n Q sl lim (if x_re tx n A then (5, 0, p, k, C, st, fs, bs, kp) else x_item tx n A p k C st fs bs kp)
    split
    · exact k_end h
    · rename_i q
      exact k_item hG h q
  · subst q
    exact k_row hG h
  · subst q
    have hl := h.2.1.2.2.2.2.2.2.2.2.1
    exact k_atom hG hsl (by omega) hlim h (x_pl_in h.2.1.2.2.2.2.1 h.2.1.2.2.2.1 (hG.2.1 A))
  · subst q
    exact k_star hG false h
  · subst q
    exact k_star hG true h
  · subst q
    have hk := h.2.1.2.1
    have hx : fs[k]? = some fs[k] := List.getElem?_eq_getElem hk
    show xW tx n Q sl lim (x_carry tx n (xg fs k) p C st fs bs kp)
    rw [xg_of hx]
    exact k_carry hG hsl h hx (by omega)
end XW
