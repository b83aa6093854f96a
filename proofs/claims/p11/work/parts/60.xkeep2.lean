theorem x_co_le {tx : Nat → Nat} {n : Nat} : ∀ (f g j : Nat), x_co tx n f g j ≤ n
  | 0, _, _ => Nat.zero_le _
  | f + 1, g, j => by
    unfold x_co
    have h1 := x_co_le (tx := tx) (n := n) f (g - 1) (j + 1)
    have h2 := x_co_le (tx := tx) (n := n) f g (j + 1)
    split
    · exact Nat.zero_le _
    · split
      · exact Nat.zero_le _
      · split
        · split
          · omega
          · exact h1
        · exact h2
section XW
variable {tx : Nat → Nat} {n Q sl lim : Nat} {su : Nat → Nat}
variable {M A p k st e : Nat} {C : Nat → Nat} {fs : List xF} {bs : List xB} {kp : Nat → Nat → Nat}
theorem a_50 : w_A n 5 0 := ⟨by decide, fun w => absurd w (by decide), fun w => absurd w (by decide), fun w => absurd w (by decide), by decide⟩
theorem a_60 : w_A n 6 0 := ⟨by decide, fun w => absurd w (by decide), fun w => absurd w (by decide), fun w => absurd w (by decide), by decide⟩
theorem a_5 {W : Nat} (h : W < 64) : w_A n 5 W := ⟨by decide, fun w => absurd w (by decide), fun w => absurd w (by decide), fun w => absurd w (by decide), h⟩
theorem a_0 {W : Nat} (h : W ≤ 40) : w_A n 0 W := ⟨by decide, fun _ => h, fun w => absurd w (by decide), fun w => absurd w (by decide), by omega⟩
theorem a_1 {W : Nat} (hn : n ≤ 32) (h : W ≤ n) : w_A n 1 W := ⟨by decide, fun w => absurd w (by decide), fun _ => h, fun w => absurd w (by decide), by omega⟩
theorem a_234 {m W : Nat} (hn : n ≤ 32) (hm : m = 2 ∨ m = 3 ∨ m = 4) (h : W < n) : w_A n m W := ⟨by omega, fun w => absurd w (by omega), fun w => absurd w (by omega), fun _ => h, by omega⟩
theorem z_A {F : List xF} {m W K : Nat} (hm : m = 2 ∨ m = 3 ∨ m = 5) : c_A tx n Q F m W K = (xg F K).2.2.2.2.2.1 := by
  rcases hm with rfl | rfl | rfl <;> exact Nat.zero_add _
theorem z_B {F : List xF} {m W K : Nat} (hm : m = 2 ∨ m = 3 ∨ m = 5) : c_B tx n Q F m W K = (xg F K).2.2.2.2.2.2.1 := by
  rcases hm with rfl | rfl | rfl <;> exact Nat.zero_add _
theorem k_star (hG : xG tx n Q) (lz : Bool) (h : xW tx n Q sl lim (if lz then 4 else 3, A, p, k, C, st, fs, bs, kp)) : xW tx n Q sl lim (x_st tx n lz A p k C st fs bs kp) := by
  have hn := hG.1
  cases lz with
  | false =>
    obtain ⟨w1, w2, w3⟩ := h
    obtain ⟨w3, w4⟩ := w3 (by decide)
    have w2 : w_R tx n Q sl lim 0 p k C st fs bs kp := w2
    have hA : A < n := w1.2.2.2.1 (Or.inr (Or.inl rfl))
    have hp3 : p_A tx n 3 A ≤ 2 := by
      show (if x_how tx n A = 43 then 2 else 1) ≤ 2
      split <;> omega
    have hp2 : p_A tx n 2 A = p_A tx n 3 A + 1 := by
      show (if x_how tx n A = 43 then 3 else 2) = (if x_how tx n A = 43 then 2 else 1) + 1
      split <;> omega
    have w3 : fs.length + c_A tx n Q fs 3 A k ≤ 21 + 23 * st + p_A tx n 3 A := w3
    have w4 : bs.length + c_B tx n Q fs 3 A k ≤ 11 + 13 * st + 0 := w4
    rw [z_A (by omega)] at w3
    rw [z_B (by omega)] at w4
    rw [x_st, if_neg (by decide)]
    have h1 := w_R_push (kd := 4) (wh := A) (nm := p) w2 (by decide) (by decide) (fun w => absurd w (by decide)) (fun w => absurd w (by decide)) (fun w => absurd w (by decide)) (fun w => absurd w (by decide)) (fun w => absurd w (by decide)) (fun _ => hA) (by omega) (by omega)
    have hk := w2.2.1
    have h2 := w_R_back (md := 5) (wh := A) (fr := k) (e' := 1) h1 (by decide) (Or.inr (Or.inr ⟨rfl, by omega⟩)) (by rw [len1]; omega) (by rw [xg_app hk]; exact w2.2.2.1) (by rw [xg_app hk]; exact w2.2.2.2.2.2.1) (by rw [z_A (by omega), xg_app hk, len1]; show _ ≤ 21 + 23 * st + 0 + 3 * 1; omega) (by rw [z_B (by omega), xg_app hk]; show _ ≤ 11 + 13 * st + 0 + 1; omega) (by omega)
    rw [len1, Nat.add_sub_cancel] at h2
    refine ⟨a_234 hn (Or.inl rfl) hA, h2, fun _ => ⟨?_, ?_⟩⟩
    · rw [z_A (by omega), mk_A, len1, hp2]
      show fs.length + 1 + (0 + _) ≤ _
      omega
    · rw [z_B (by omega), mk_B, lenB]
      show bs.length + 1 + (0 + _) ≤ 11 + 13 * st + 1
      omega
  | true =>
    obtain ⟨w1, w2, w3⟩ := h
    obtain ⟨w3, w4⟩ := w3 (by decide)
    have w2 : w_R tx n Q sl lim 0 p k C st fs bs kp := w2
    have hA : A < n := w1.2.2.2.1 (Or.inr (Or.inr rfl))
    have w3 : fs.length + (1 + (xg fs k).2.2.2.2.2.1) ≤ 21 + 23 * st + 0 := w3
    have w4 : bs.length + (1 + (xg fs k).2.2.2.2.2.2.1) ≤ 11 + 13 * st + 0 := w4
    rw [x_st, if_pos rfl]
    have h1 := w_R_push (kd := 5) (wh := A) (nm := p) w2 (by decide) (by decide) (fun w => absurd w (by decide)) (fun w => absurd w (by decide)) (fun w => absurd w (by decide)) (fun w => absurd w (by decide)) (fun w => absurd w (by decide)) (fun _ => hA) (by omega) (by omega)
    have hk := w2.2.1
    have hp2 : 2 ≤ p_A tx n 2 A := by
      show 2 ≤ (if x_how tx n A = 43 then 3 else 2)
      split <;> omega
    have h2 := w_R_back (md := 2) (wh := A) (fr := fs.length) (e' := 0) h1 (by decide) (Or.inr (Or.inl ⟨rfl, hA⟩)) (by rw [len1]; omega) h1.2.2.1 h1.2.2.2.2.2.1 (by rw [z_A (by omega), mk_A, len1]; show fs.length + 1 + (1 + _) ≤ _; omega) (by rw [z_B (by omega), mk_B]; show bs.length + (1 + _) ≤ 11 + 13 * st + 1 + 0; omega) (by omega)
    rw [len1, Nat.add_sub_cancel] at h2
    obtain ⟨r1, r2, r3, r4, r5, r6, r7, r8, r9, r10, r11⟩ := h2
    refine ⟨a_5 (by omega), ⟨r1, by rw [len1]; omega, by rw [xg_app hk]; exact w2.2.2.1, r4, r5, by rw [xg_app hk, lenB]; have := w2.2.2.2.2.2.1; omega, r7, r8, r9, r10, r11⟩, fun _ => ⟨?_, ?_⟩⟩
    · rw [z_A (by omega), xg_app hk, len1]
      show _ ≤ 21 + 23 * st + 0
      omega
    · rw [z_B (by omega), xg_app hk, lenB]
      show _ ≤ 11 + 13 * st + 0
      omega
theorem k_row (hG : xG tx n Q) (h : xW tx n Q sl lim (1, A, p, k, C, st, fs, bs, kp)) : xW tx n Q sl lim (0, A, p, k, C, st, fs, match x_nr tx n A with
    | none => bs
    | some j => bs ++ [(1, j, p, k, fs.length - 1, C)], kp) := by
  have hn := hG.1
  obtain ⟨w1, w2, w3⟩ := h
  obtain ⟨w3, w4⟩ := w3 (by decide)
  have w2 : w_R tx n Q sl lim 0 p k C st fs bs kp := w2
  have hA : A ≤ n := w1.2.2.1 rfl
  have w3 : fs.length + (2 * Q + (xg fs k).2.2.2.2.2.1) ≤ 21 + 23 * st + 0 := w3
  have w4 : bs.length + (1 + Q + (xg fs k).2.2.2.2.2.2.1) ≤ 11 + 13 * st + 0 := w4
  have hlz := hG.2.2.2.2.2.1 A
  cases hr : x_nr tx n A with
  | none =>
    refine ⟨a_0 (by omega), w2, fun _ => ⟨?_, ?_⟩⟩
    · show fs.length + (2 * x_lz tx n A + _) ≤ 21 + 23 * st + 0
      omega
    · show bs.length + (x_lz tx n A + _) ≤ 11 + 13 * st + 0
      omega
  | some j =>
    have hj : j ≤ n := by
      unfold x_nr at hr
      split at hr
      · rename_i q
        have := (x_in q (by decide)).1
        cases hr
        omega
      · cases hr
    refine ⟨a_0 (by omega), w_R_back w2 (Nat.le_refl _) (Or.inl ⟨rfl, hj⟩) w2.2.1 w2.2.2.1 w2.2.2.2.2.2.1 ?_ ?_ (by omega), fun _ => ⟨?_, ?_⟩⟩
    · show fs.length + (2 * Q + _) ≤ 21 + 23 * st + 0 + 3 * 0
      omega
    · show bs.length + (1 + Q + _) ≤ 11 + 13 * st + 0 + 0
      omega
    · show fs.length + (2 * x_lz tx n A + _) ≤ 21 + 23 * st + 0
      omega
    · show (bs ++ [(1, j, p, k, fs.length - 1, C)]).length + (x_lz tx n A + _) ≤ 11 + 13 * st + 0
      rw [lenB]
      omega
theorem k_end (h : xW tx n Q sl lim (0, A, p, k, C, st, fs, bs, kp)) : xW tx n Q sl lim (5, 0, p, k, C, st, fs, bs, kp) := by
  obtain ⟨w1, w2, w3⟩ := h
  obtain ⟨w3, w4⟩ := w3 (by decide)
  have w3 : fs.length + (2 * x_lz tx n A + (xg fs k).2.2.2.2.2.1) ≤ 21 + 23 * st + 0 := w3
  have w4 : bs.length + (x_lz tx n A + (xg fs k).2.2.2.2.2.2.1) ≤ 11 + 13 * st + 0 := w4
  refine ⟨a_50, w2, fun _ => ⟨?_, ?_⟩⟩
  · rw [z_A (by omega)]; show _ ≤ 21 + 23 * st + 0; omega
  · rw [z_B (by omega)]; show _ ≤ 11 + 13 * st + 0; omega
theorem k_atom (hG : xG tx n Q) (hsl : sl ≤ 40) (hst : st < lim) (hlim : lim ≤ 300) (h : xW tx n Q sl lim (2, A, p, k, C, st, fs, bs, kp)) (hpl : ∀ p', x_pl tx n su sl A p C = some p' → p ≤ p' ∧ p' ≤ sl) : xW tx n Q sl lim (x_atom tx n su sl A p k C st fs bs kp) := by
  have hn := hG.1
  obtain ⟨w1, w2, w3⟩ := h
  obtain ⟨w3, w4⟩ := w3 (by decide)
  have hA : A < n := w1.2.2.2.1 (Or.inl rfl)
  rw [z_A (by omega)] at w3
  rw [z_B (by omega)] at w4
  have w4 : bs.length + (xg fs k).2.2.2.2.2.2.1 ≤ 11 + 13 * st + 1 := w4
  have hpa : p_A tx n 2 A = if x_how tx n A = 43 then 3 else 2 := rfl
  have hp3 : p_A tx n 2 A ≤ 3 := by rw [hpa]; split <;> omega
  -- the ask is counted
  have h1 : w_R tx n Q sl lim 0 p k C (st + 1) fs bs kp := by
    obtain ⟨r1, r2, r3, r4, r5, r6, r7, r8, r9, r10, r11⟩ := (w2 : w_R tx n Q sl lim 1 p k C st fs bs kp)
    exact ⟨r1, r2, r3, r4, r5, r6, w_Bs_st (e := 1) (by omega) (by omega) r7, r8, by omega, by omega, by omega⟩
  unfold x_atom
  split
  · rename_i h40
    have hgc := hG.2.2.2.1 (A + 1)
    have hgc1 : x_x tx n A = 0 → 1 ≤ x_gc tx n (A + 1) := by
      intro q
      have : ¬ xt tx n (A + 1) = 63 := fun w => by
        have := hG.2.2.2.2.1 A h40 w
        omega
      rw [x_gc, if_pos ⟨h40, this⟩]
      omega
    have hA3 : ¬ x_x tx n A = 0 → A + 3 ≤ n := fun q => by
      unfold x_x at q
      split at q
      · have := (x_in (c := xt tx n (A + 2)) rfl q).1
        omega
      · exact absurd rfl q
    have hQ10 := hG.2.2.2.2.2.2.1
    have hQ9 := hG.2.2.2.2.2.2.2.1 A h40
    have hQc := hG.2.2.2.2.2.2.2.2 A h40
    have hcost : p_A tx n 2 A + 1 + 2 * Q ≤ 23 := by
      rw [hpa]
      split
      · rename_i q; have := hQ9 q; omega
      · omega
    have opn : ∀ {F : List xF} {B : List xB} {KP : Nat → Nat → Nat} {W K : Nat}, W ≤ n → w_R tx n Q sl lim 0 p K C (st + 1) F B KP → F.length ≤ fs.length + 1 → (xg F K).2.2.2.2.2.1 = (xg fs k).2.2.2.2.2.1 → B.length ≤ bs.length + 1 → (xg F K).2.2.2.2.2.2.1 = (xg fs k).2.2.2.2.2.2.1 → xW tx n Q sl lim (1, W, p, K, C, st + 1, F, B, KP) := by
      intro F B KP W K hW hR f1 f2 f3 f4
      refine ⟨a_1 hn hW, hR, fun _ => ⟨?_, ?_⟩⟩
      · show F.length + (2 * Q + _) ≤ 21 + 23 * (st + 1) + 0
        rw [f2]; omega
      · show B.length + (1 + Q + _) ≤ 11 + 13 * (st + 1) + 0
        rw [f4]; omega
    unfold x_open
    split
    · rename_i q
      refine opn (by omega) (w_R_push h1 (by decide) (by decide) (fun w => absurd w (by decide)) (fun w => absurd w (by decide)) (fun _ => ⟨⟨hgc1 q, hgc⟩, rfl⟩) (fun w => absurd w (by decide)) (fun w => absurd w (by decide)) (fun w => absurd w (by omega)) (by omega) (by omega)) (by rw [len1]; exact Nat.le_refl _) (by rw [mk_A]; exact Nat.zero_add _) (by omega) (by rw [mk_B]; exact Nat.zero_add _)
    · rename_i q0
      have ha := hA3 q0
      split
      · exact opn ha h1 (by omega) rfl (by omega) rfl
      · split
        · exact opn ha (w_R_push h1 (by decide) (by decide) (fun w => absurd w (by decide)) (fun _ => rfl) (fun w => absurd w (by decide)) (fun w => absurd w (by decide)) (fun w => absurd w (by decide)) (fun w => absurd w (by omega)) (by omega) (by omega)) (by rw [len1]; exact Nat.le_refl _) (by rw [mk_A]; exact Nat.zero_add _) (by omega) (by rw [mk_B]; exact Nat.zero_add _)
        · split
          · have hpsl := h1.2.2.2.1
            exact opn ha (w_R_push h1 (by decide) (by decide) (fun w => absurd w (by decide)) (fun _ => rfl) (fun w => absurd w (by decide)) (fun w => absurd w (by decide)) (fun _ => rfl) (fun w => absurd w (by omega)) (by omega) (by omega)) (by rw [len1]; exact Nat.le_refl _) (by rw [mk_A]; exact Nat.zero_add _) (by omega) (by rw [mk_B]; exact Nat.zero_add _)
          · split
            · have h2 := w_R_push (kd := 9) (wh := 0) (nm := bs.length) h1 (by decide) (by decide) (fun w => absurd w (by decide)) (fun _ => rfl) (fun w => absurd w (by decide)) (fun w => absurd w (by decide)) (fun w => absurd w (by decide)) (fun w => absurd w (by omega)) (by omega) (by omega)
              have hk := h1.2.1
              have h3 := w_R_back (md := 5) (wh := 0) (fr := k) (e' := 0) h2 (by decide) (Or.inr (Or.inr ⟨rfl, by decide⟩)) (by rw [len1]; omega) (by rw [xg_app hk]; exact h1.2.2.1) (by rw [xg_app hk]; exact h1.2.2.2.2.2.1) (by rw [z_A (by omega), xg_app hk, len1]; show _ ≤ 21 + 23 * (st + 1) + 0 + 3 * 0; omega) (by rw [z_B (by omega), xg_app hk]; show _ ≤ 11 + 13 * (st + 1) + 0 + 0; omega) (by omega)
              rw [len1, Nat.add_sub_cancel] at h3
              exact opn ha h3 (by rw [len1]; exact Nat.le_refl _) (by rw [mk_A]; exact Nat.zero_add _) (by rw [lenB]; exact Nat.le_refl _) (by rw [mk_B]; exact Nat.zero_add _)
            · rename_i q58 q62 q61 q33
              split
              · exact ⟨a_60, h1, fun w => absurd rfl w⟩
              · rename_i q12
                have hco : x_co tx n (n + 1) (x_x tx n A - 48) 0 ≤ n := x_co_le _ _ _
                have h2 := w_R_push (kd := 3) (wh := 0) (nm := st + 1) h1 (by decide) (by decide) (fun _ => by omega) (fun w => absurd w (by decide)) (fun w => absurd w (by decide)) (fun _ => by omega) (fun w => absurd w (by decide)) (fun w => absurd w (by omega)) (by omega) (by omega)
                have h3 : w_R tx n Q sl lim 0 p fs.length C (st + 1) (fs ++ [x_mk tx n fs 3 0 (st + 1) k p]) bs (fun s => if s = st + 1 then C else kp s) := by
                  obtain ⟨r1, r2, r3, r4, r5, r6, r7, r8, r9⟩ := h2
                  refine ⟨r1, r2, r3, r4, r5, r6, r7, fun s => ?_, r9⟩
                  show cx_in 40 (if s = st + 1 then C else kp s)
                  split
                  · exact r5
                  · exact r8 s
                exact opn hco h3 (by rw [len1]; exact Nat.le_refl _) (by rw [mk_A]; exact Nat.zero_add _) (by omega) (by rw [mk_B]; exact Nat.zero_add _)
  · split
    · exact ⟨a_60, h1, fun w => absurd rfl w⟩
    · rename_i p' hp'
      obtain ⟨q1, q2⟩ := hpl p' hp'
      obtain ⟨r1, r2, r3, r4, r5⟩ := h1
      refine ⟨a_50, ⟨r1, r2, by omega, q2, r5⟩, fun _ => ⟨?_, ?_⟩⟩
      · rw [z_A (by omega)]; show _ ≤ 21 + 23 * (st + 1) + 0; omega
      · rw [z_B (by omega)]; show _ ≤ 11 + 13 * (st + 1) + 0; omega
/-- a way back is taken -/
theorem k_ret (hn : n ≤ 32) (h : xW tx n Q sl lim (6, A, p, k, C, st, fs, bs, kp)) {m : xS} (hm : x_ret st fs bs kp = some m) : xW tx n Q sl lim m ∧ ¬ m.1 = 6 := by
  obtain ⟨w1, w2, w3⟩ := h
  have w2 : w_R tx n Q sl lim 0 p k C st fs bs kp := w2
  obtain ⟨r1, r2, r3, r4, r5, r6, r7, r8, r9, r10, r11⟩ := w2
  unfold x_ret at hm
  split at hm
  · cases hm
  · rename_i y hy
    cases hm
    have hb := r7.1 _ y hy
    have hb2 := w_B_take hb (m := y.2.2.2.2.1 + 1) (Nat.le_refl _)
    obtain ⟨b1, b2, b3, b4, b5, b6, b7, b8, b9⟩ := hb
    obtain ⟨d1, d2, d3, d4, d5, d6, d7, d8, d9⟩ := hb2
    have hlt := (List.getElem?_eq_some_iff.mp hy).1
    have hlen : (fs.take (y.2.2.2.2.1 + 1)).length = y.2.2.2.2.1 + 1 := by rw [List.length_take, Nat.min_eq_left b3]
    have hblen : (bs.take (bs.length - 1)).length = bs.length - 1 := by rw [List.length_take, Nat.min_eq_left (by omega)]
    refine ⟨⟨?_, ⟨w_Fs_take r1 (by omega), by rw [hlen]; exact b4, d5, b2, b6, by rw [hblen]; exact d7, ?_, r8, r9, by rw [hlen]; omega, by rw [hblen]; omega⟩, fun _ => ⟨?_, ?_⟩⟩, by omega⟩
    · rcases b1 with ⟨c1, c2⟩ | ⟨c1, c2⟩ | ⟨c1, c2⟩
      · exact ⟨by omega, fun w => absurd w (by omega), fun _ => c2, fun w => absurd w (by omega), by have := d1; omega⟩
      · exact ⟨by omega, fun w => absurd w (by omega), fun w => absurd w (by omega), fun _ => c2, by omega⟩
      · exact ⟨by omega, fun w => absurd w (by omega), fun w => absurd w (by omega), fun w => absurd w (by omega), c2⟩
    · have r7' : w_Bs tx n Q sl fs st (if y.1 = 2 then 1 else 0) bs := w_Bs_st (by omega) (by omega) r7
      refine ⟨fun j z hz => ?_, (w_Bs_take r7' _).2⟩
      have hz2 := hz
      rw [List.getElem?_take] at hz2
      split at hz2
      · rename_i q
        have hs := r7.2 j (bs.length - 1) z y q hz2 hy
        exact w_B_take (r7'.1 j z hz2) (by omega)
      · cases hz2
    · rw [hlen]
      show _ ≤ 21 + 23 * st + p_A tx n y.1 y.2.1
      omega
    · rw [hblen]
      show _ ≤ 11 + 13 * st + p_B y.1
      omega
end XW
