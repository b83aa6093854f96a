/-! every act keeps it -/
theorem x_lzf_fuel {tx : Nat → Nat} {n : Nat} : ∀ (f k : Nat), n ≤ k + f → x_lzf tx n (f + 1) k = x_lzf tx n f k
  | 0, k, h => by
    show (if x_re tx n k then 0 else _) = 0
    rw [if_pos (Or.inl (by omega))]
  | f + 1, k, h => by
    have e1 : x_lzf tx n (f + 1 + 1) k = if x_re tx n k then 0 else x_lzy tx n k + x_lzf tx n (f + 1) (x_bh tx n k) := rfl
    have e2 : x_lzf tx n (f + 1) k = if x_re tx n k then 0 else x_lzy tx n k + x_lzf tx n f (x_bh tx n k) := rfl
    rw [e1, e2]
    by_cases q : x_re tx n k
    · rw [if_pos q, if_pos q]
    · have h2 := (x_bh_gt (tx := tx) (n := n) (k := k)).1
      rw [if_neg q, if_neg q, x_lzf_fuel f _ (by omega)]
theorem x_lz_re {tx : Nat → Nat} {n k : Nat} (h : x_re tx n k) : x_lz tx n k = 0 := by
  show (if x_re tx n k then 0 else _) = 0
  rw [if_pos h]
theorem x_lz_nx {tx : Nat → Nat} {n k : Nat} (h : ¬ x_re tx n k) : x_lz tx n k = x_lzy tx n k + x_lz tx n (x_bh tx n k) := by
  have e : x_lz tx n k = if x_re tx n k then 0 else x_lzy tx n k + x_lzf tx n n (x_bh tx n k) := rfl
  rw [e, if_neg h]
  have h2 := (x_bh_gt (tx := tx) (n := n) (k := k)).1
  rw [x_lz, x_lzf_fuel n _ (by omega)]
section XW
variable {tx : Nat → Nat} {n Q sl lim : Nat} {su : Nat → Nat}
variable {M A p k st e : Nat} {C : Nat → Nat} {fs : List xF} {bs : List xB} {kp : Nat → Nat → Nat}
theorem w_R_push (h : w_R tx n Q sl lim e p k C st fs bs kp) {kd wh nm : Nat} (h1 : 1 ≤ kd) (h11 : kd ≤ 11) (hN : kd = 3 → (xg fs k).2.2.2.2.2.2.2.1 ≤ 11) (h7 : kd = 7 ∨ kd = 8 ∨ kd = 9 → nm = bs.length) (h2 : kd = 2 → (1 ≤ wh ∧ wh ≤ 4) ∧ nm = p) (h3 : kd = 3 → nm ≤ 300) (h8 : kd = 8 → wh = p) (h4 : kd = 4 ∨ kd = 5 ∨ kd = 6 ∨ kd = 10 ∨ kd = 11 → wh < n) (hw : wh ≤ 40) (hlen : fs.length + 1 ≤ 24 + 23 * st) : w_R tx n Q sl lim e p fs.length C st (fs ++ [x_mk tx n fs kd wh nm k p]) bs kp := by
  obtain ⟨r1, r2, r3, r4, r5, r6, r7, r8, r9, r10, r11⟩ := h
  have hN' := w_Fs_N r1 r2
  refine ⟨w_Fs_push r1 r2 h1 h11 r4 r3 ?_ (fun w => by rw [h7 w]; exact r6) h2 h3 h8 h4 hw, by rw [List.length_append]; show fs.length < fs.length + 1; omega, ?_, r4, r5, ?_, w_Bs_push r7, r8, r9, by rw [List.length_append]; exact hlen, r11⟩
  · split
    · rename_i q; have := hN q; omega
    · omega
  · rw [xg_new]; exact Nat.le_refl _
  · rw [xg_new]
    show (if 7 ≤ kd ∧ kd ≤ 9 then nm else (xg fs k).2.2.2.2.2.2.2.2) ≤ bs.length
    split
    · rw [h7 (by omega)]; exact Nat.le_refl _
    · exact r6
theorem mk_A {kd wh nm gp : Nat} : (xg (fs ++ [x_mk tx n fs kd wh nm k gp]) fs.length).2.2.2.2.2.1 = x_pA tx n kd wh + (xg fs k).2.2.2.2.2.1 := by rw [xg_new]; rfl
theorem mk_B {kd wh nm gp : Nat} : (xg (fs ++ [x_mk tx n fs kd wh nm k gp]) fs.length).2.2.2.2.2.2.1 = x_pB tx n kd wh + (xg fs k).2.2.2.2.2.2.1 := by rw [xg_new]; rfl
theorem len1 {x : xF} : (fs ++ [x]).length = fs.length + 1 := by rw [List.length_append]; rfl
theorem lenB {y : xB} : (bs ++ [y]).length = bs.length + 1 := by rw [List.length_append]; rfl
/-- with a way back more -/
theorem w_R_back (h : w_R tx n Q sl lim e p k C st fs bs kp) {md wh fr e' : Nat} (he : e ≤ e') (hm : (md = 1 ∧ wh ≤ n) ∨ (md = 2 ∧ wh < n) ∨ (md = 5 ∧ wh < 64)) (hk : fr < fs.length) (hgp : (xg fs fr).2.2.2.2.1 ≤ p) (hM : (xg fs fr).2.2.2.2.2.2.2.2 ≤ bs.length) (hA : fs.length + c_A tx n Q fs md wh fr ≤ 21 + 23 * st + p_A tx n md wh + 3 * e') (hB : bs.length + c_B tx n Q fs md wh fr ≤ 11 + 13 * st + p_B md + e') (hlen : bs.length + 1 ≤ 12 + 13 * st) : w_R tx n Q sl lim e' p k C st fs (bs ++ [(md, wh, p, fr, fs.length - 1, C)]) kp := by
  obtain ⟨r1, r2, r3, r4, r5, r6, r7, r8, r9, r10, r11⟩ := h
  refine ⟨r1, r2, r3, r4, r5, by rw [lenB]; omega, ?_, r8, r9, r10, by rw [lenB]; exact hlen⟩
  exact w_Bs_app (w_Bs_st (by omega) (by omega) r7) hm r4 (w_Fs_len r1) hk hgp r5 hM hA hB
theorem w_R_e (h : w_R tx n Q sl lim e p k C st fs bs kp) {e' : Nat} (he : e ≤ e') : w_R tx n Q sl lim e' p k C st fs bs kp := by
  obtain ⟨r1, r2, r3, r4, r5, r6, r7, r8, r9, r10, r11⟩ := h
  exact ⟨r1, r2, r3, r4, r5, r6, w_Bs_st (by omega) (by omega) r7, r8, r9, r10, r11⟩
/-- an item, its frames made -/
theorem k_item2 (hG : xG tx n Q) (hA : A < n) {nx d : Nat} (h : w_R tx n Q sl lim 0 p nx C st fs bs kp) (hd : d = if x_how tx n A = 43 then 1 else 0) (hf : fs.length + (xg fs nx).2.2.2.2.2.1 + 2 * x_lzy tx n A ≤ 21 + 23 * st + 1 + d) (hb : bs.length + (xg fs nx).2.2.2.2.2.2.1 + x_lzy tx n A ≤ 11 + 13 * st) : xW tx n Q sl lim (x_item2 tx n A nx p C st fs bs kp) := by
  have hn := hG.1
  have hr2 := h.2.1
  have hpa : p_A tx n 2 A = 2 + d := by
    show (if x_how tx n A = 43 then 3 else 2) = 2 + d
    rw [hd]; split <;> rfl
  have hpa3 : p_A tx n 3 A = 1 + d := by
    show (if x_how tx n A = 43 then 2 else 1) = 1 + d
    rw [hd]; split <;> rfl
  have hd1 : d ≤ 1 := by rw [hd]; split <;> omega
  have a2 : w_A n 2 A := ⟨by decide, fun w => absurd w (by decide), fun w => absurd w (by decide), fun _ => hA, by omega⟩
  have c2 : ∀ {F : List xF} {K : Nat}, c_A tx n Q F 2 A K = (xg F K).2.2.2.2.2.1 := fun {F K} => Nat.zero_add _
  have c2b : ∀ {F : List xF} {K : Nat}, c_B tx n Q F 2 A K = (xg F K).2.2.2.2.2.2.1 := fun {F K} => Nat.zero_add _
  have c5 : ∀ {F : List xF} {K W : Nat}, c_A tx n Q F 5 W K = (xg F K).2.2.2.2.2.1 := fun {F K W} => Nat.zero_add _
  have c5b : ∀ {F : List xF} {K W : Nat}, c_B tx n Q F 5 W K = (xg F K).2.2.2.2.2.2.1 := fun {F K W} => Nat.zero_add _
  unfold x_item2
  split
  · refine ⟨a2, w_R_e h (by decide), fun _ => ⟨?_, ?_⟩⟩
    · rw [c2, hpa]; omega
    · rw [c2b]; show _ ≤ 11 + 13 * st + 1; omega
  · rename_i hany
    split
    · rename_i r42
      by_cases hw : x_how tx n A = 63
      · rw [if_pos hw]
        have hl : x_lzy tx n A = 1 := by rw [x_lzy, if_pos ⟨Or.inl r42, hw⟩]
        refine ⟨⟨by decide, fun w => absurd w (by decide), fun w => absurd w (by decide), fun _ => hA, by omega⟩, h, fun _ => ⟨?_, ?_⟩⟩
        · show fs.length + (1 + (xg fs nx).2.2.2.2.2.1) ≤ 21 + 23 * st + 0
          have : d = 0 := by rw [hd, if_neg (by omega)]
          omega
        · show bs.length + (1 + (xg fs nx).2.2.2.2.2.2.1) ≤ 11 + 13 * st + 0
          omega
      · rw [if_neg hw]
        refine ⟨⟨by decide, fun w => absurd w (by decide), fun w => absurd w (by decide), fun _ => hA, by omega⟩, h, fun _ => ⟨?_, ?_⟩⟩
        · rw [hpa3]
          show fs.length + (0 + (xg fs nx).2.2.2.2.2.1) ≤ _
          omega
        · show bs.length + (0 + (xg fs nx).2.2.2.2.2.2.1) ≤ 11 + 13 * st + 0
          omega
    · split
      · rename_i r42 r43
        have hb43 : xW tx n Q sl lim (2, A, p, fs.length, C, st, fs ++ [x_mk tx n fs (if x_how tx n A = 63 then 11 else 10) A 0 nx p], bs, kp) := by
          have hkd : ∀ kd : Nat, kd = (if x_how tx n A = 63 then 11 else 10) → kd = 10 ∨ kd = 11 := fun kd hkd => by rw [hkd]; split <;> omega
          generalize hke : (if x_how tx n A = 63 then 11 else 10) = kd
          have hk2 := hkd kd hke.symm
          have hpAk : x_pA tx n kd A ≤ x_lzy tx n A := by
            by_cases hw : x_how tx n A = 63
            · rw [x_lzy, if_pos ⟨Or.inr (Or.inl r43), hw⟩, x_pA, if_neg (by omega)]
              split <;> omega
            · rw [if_neg hw] at hke
              rw [← hke, x_pA, if_neg (by decide), if_neg (by decide)]
              exact Nat.zero_le _
          have hpBk : x_pB tx n kd A ≤ x_lzy tx n A := by
            by_cases hw : x_how tx n A = 63
            · rw [x_lzy, if_pos ⟨Or.inr (Or.inl r43), hw⟩, x_pB, if_neg (by omega)]
              split <;> omega
            · rw [if_neg hw] at hke
              rw [← hke, x_pB, if_neg (by decide), if_neg (by decide)]
              exact Nat.zero_le _
          refine ⟨a2, w_R_e (w_R_push h (by omega) (by omega) (fun w => absurd w (by omega)) (fun w => absurd w (by omega)) (fun w => absurd w (by omega)) (fun w => absurd w (by omega)) (fun w => absurd w (by omega)) (fun _ => hA) (by omega) (by omega)) (by decide), fun _ => ⟨?_, ?_⟩⟩
          · rw [c2, mk_A, len1, hpa]; omega
          · rw [c2b, mk_B]; show _ ≤ 11 + 13 * st + 1; omega
        exact hb43
      · split
        · rename_i r42 r43 r123
          refine ⟨a2, w_R_e (w_R_push h (by decide) (by decide) (fun w => absurd w (by decide)) (fun w => absurd w (by decide)) (fun w => absurd w (by decide)) (fun w => absurd w (by decide)) (fun w => absurd w (by decide)) (fun _ => hA) (by omega) (by omega)) (by decide), fun _ => ⟨?_, ?_⟩⟩
          · rw [c2, mk_A, len1, hpa]
            show fs.length + 1 + (0 + _) ≤ _
            omega
          · rw [c2b, mk_B]
            show bs.length + (0 + _) ≤ 11 + 13 * st + 1
            omega
        · rename_i r42 r43 r123
          have r63 : x_r tx n A = 63 := by
            rcases Classical.not_not.mp hany with w | w | w | w
            · exact absurd w r42
            · exact absurd w r43
            · exact w
            · exact absurd w r123
          by_cases hw : x_how tx n A = 63
          · rw [if_pos hw, if_pos hw]
            have hl : x_lzy tx n A = 1 := by rw [x_lzy, if_pos ⟨Or.inr (Or.inr r63), hw⟩]
            have hd0 : d = 0 := by rw [hd, if_neg (by omega)]
            refine ⟨⟨by decide, fun w => absurd w (by decide), fun w => absurd w (by decide), fun w => absurd w (by decide), by omega⟩, w_R_back h (Nat.le_refl _) (Or.inr (Or.inl ⟨rfl, hA⟩)) hr2 h.2.2.1 h.2.2.2.2.2.1 (by rw [c2, hpa]; omega) (by rw [c2b]; show _ ≤ 11 + 13 * st + 1 + 0; omega) (by omega), fun _ => ⟨?_, ?_⟩⟩
            · rw [c5]; show _ ≤ 21 + 23 * st + 0; omega
            · rw [c5b, lenB]; show _ ≤ 11 + 13 * st + 0; omega
          · rw [if_neg hw, if_neg hw]
            refine ⟨a2, w_R_back h (by decide) (Or.inr (Or.inr ⟨rfl, by omega⟩)) hr2 h.2.2.1 h.2.2.2.2.2.1 (by rw [c5]; show _ ≤ 21 + 23 * st + 0 + 3 * 1; omega) (by rw [c5b]; show _ ≤ 11 + 13 * st + 0 + 1; omega) (by omega), fun _ => ⟨?_, ?_⟩⟩
            · rw [c2, hpa]; omega
            · rw [c2b, lenB]; show _ ≤ 11 + 13 * st + 1; omega
theorem k_item (hG : xG tx n Q) (h : xW tx n Q sl lim (0, A, p, k, C, st, fs, bs, kp)) (hre : ¬ x_re tx n A) : xW tx n Q sl lim (x_item tx n A p k C st fs bs kp) := by
  obtain ⟨w1, w2, w3⟩ := h
  obtain ⟨w3, w4⟩ := w3 (by decide)
  have w3 : fs.length + (2 * x_lz tx n A + (xg fs k).2.2.2.2.2.1) ≤ 21 + 23 * st + 0 := w3
  have w4 : bs.length + (x_lz tx n A + (xg fs k).2.2.2.2.2.2.1) ≤ 11 + 13 * st + 0 := w4
  have w2 : w_R tx n Q sl lim 0 p k C st fs bs kp := w2
  have hn := hG.1
  have hA : A < n := by
    rcases Nat.lt_or_ge A n with q | q
    · exact q
    · exact absurd (Or.inl q) hre
  have hbh := x_bh_gt (tx := tx) (n := n) (k := A)
  have hb2 := hbh.2.2.1 hA
  have hlz := x_lz_nx hre
  have hlzy : x_lzy tx n A ≤ 1 := by unfold x_lzy; split <;> omega
  unfold x_item
  split
  · refine ⟨⟨by decide, fun _ => by omega, fun w => absurd w (by decide), fun w => absurd w (by decide), by omega⟩, w2, fun _ => ⟨?_, ?_⟩⟩
    · show fs.length + (2 * x_lz tx n (x_bh tx n A) + _) ≤ 21 + 23 * st + 0
      omega
    · show bs.length + (x_lz tx n (x_bh tx n A) + _) ≤ 11 + 13 * st + 0
      omega
  · have h1 : w_R tx n Q sl lim 0 p fs.length C st (fs ++ [x_mk tx n fs 1 (x_bh tx n A) 0 k p]) bs kp := w_R_push w2 (by decide) (by decide) (fun w => absurd w (by decide)) (fun w => absurd w (by decide)) (fun w => absurd w (by decide)) (fun w => absurd w (by decide)) (fun w => absurd w (by decide)) (fun w => absurd w (by decide)) (by omega) (by omega)
    split
    · rename_i hz hw
      have hl0 : x_lzy tx n A = 0 := by rw [x_lzy, if_neg (by omega)]
      have h2 := w_R_push (kd := 7) (wh := 0) (nm := bs.length) h1 (by decide) (by decide) (fun w => absurd w (by decide)) (fun _ => rfl) (fun w => absurd w (by decide)) (fun w => absurd w (by decide)) (fun w => absurd w (by decide)) (fun w => absurd w (by decide)) (by decide) (by rw [len1]; omega)
      rw [len1] at h2
      refine k_item2 hG hA h2 (by rw [if_pos hw]) ?_ ?_
      · have e := mk_A (tx := tx) (n := n) (fs := fs ++ [x_mk tx n fs 1 (x_bh tx n A) 0 k p]) (k := fs.length) (kd := 7) (wh := 0) (nm := bs.length) (gp := p)
        rw [len1, mk_A] at e
        rw [e, len1, len1]
        show fs.length + 1 + 1 + (0 + (2 * x_lz tx n (x_bh tx n A) + _)) + _ ≤ _
        omega
      · have e := mk_B (tx := tx) (n := n) (fs := fs ++ [x_mk tx n fs 1 (x_bh tx n A) 0 k p]) (k := fs.length) (kd := 7) (wh := 0) (nm := bs.length) (gp := p)
        rw [len1, mk_B] at e
        rw [e]
        show bs.length + (0 + (x_lz tx n (x_bh tx n A) + _)) + _ ≤ _
        omega
    · rename_i hz hw
      refine k_item2 hG hA h1 (by rw [if_neg hw]) ?_ ?_
      · rw [mk_A, len1]
        show fs.length + 1 + (2 * x_lz tx n (x_bh tx n A) + _) + _ ≤ _
        omega
      · rw [mk_B]
        show bs.length + (x_lz tx n (x_bh tx n A) + _) + _ ≤ _
        omega
end XW
