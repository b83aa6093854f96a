/-! the two machines: forks and items -/
section BV
variable {tx : Nat → Nat} {n : Nat} {P : pg} {ni nr : Nat} {ip rp : Nat → Nat} {su : Nat → Nat} {Q sl lim : Nat}
variable {T F Pl tk : Nat} {N : Option Nat} {C : Nat → Nat} {fs : List mF} {cs : List mC}
variable {M A K : Nat} {C' : Nat → Nat} {xs : List xF} {bs : List xB} {kp : Nat → Nat → Nat} {m1 : mS}
theorem fork_ok (hE : EV (tx, n, P, ni, nr, ip, rp) su Q sl lim) (hfi : fiO fs) {it r : Nat} (hit : it < ni) (hrp : q_rp P it = 3 ∨ q_rp P it = 4) (hC : cE C C') (hCs : bCs (tx, n, P, ni, nr, ip, rp) (fs, xs, cs, kp, tk) bs) (hD : bDk (tx, n, P, ni, nr, ip, rp) (fs, xs, cs, kp, tk) r it F K cs.length) (hxW : xW tx n Q sl lim (if q_mn P it = 1 then 4 else 3, ip it, Pl, K, C', tk, xs, bs, kp)) : ∃ x1, (∀ f, x_wk tx n su sl lim (f + 1) (if q_mn P it = 1 then 4 else 3, ip it, Pl, K, C', tk, xs, bs, kp) = x_wk tx n su sl lim f x1) ∧ (wM P ni nr sl lim (m_fork P it F Pl C tk fs cs) → b_F (m_fork P it F Pl C tk fs cs) → SR (tx, n, P, ni, nr, ip, rp) Q sl lim (m_fork P it F Pl C tk fs cs) x1) ∧ psi (tx, n, P, ni, nr, ip, rp) lim (m_fork P it F Pl C tk fs cs) x1.2.1 = 2604 * (lim - tk) + 1302 * nA cs + (if q_mn P it = 1 then 3 * (n - x_ba tx n (ip it)) + 2 + 100 * m_cl fs F else 3) := by
  obtain ⟨e1, e2, e3, e4, e5, e6, e7, e8⟩ := hE
  obtain ⟨c1, c2, c3, c4, c5⟩ := sr_ch hxW
  obtain ⟨d1, d2, d3, d4⟩ := bDk_F c1 hD
  have hr0 : ¬ q_rp P it = 0 := by omega
  by_cases hmn : q_mn P it = 1
  · rw [if_pos hmn] at hxW ⊢
    have hk := k_act (su := su) e2 e4 e5 hxW (by decide) (by intro w; omega) (by intro w; omega)
    have wk := wk_act (tx := tx) (n := n) (su := su) (sl := sl) (lim := lim) (x := (4, ip it, Pl, K, C', tk, xs, bs, kp)) (by show ¬ (4 : Nat) = 6; decide) (by intro w; have : (4 : Nat) = 5 := w.1; omega) (by intro w; have : (4 : Nat) = 2 := w.1; omega)
    have ex : x_act tx n su sl (4, ip it, Pl, K, C', tk, xs, bs, kp) = (5, ip it, Pl, K, C', tk, xs ++ [x_mk tx n xs 5 (ip it) Pl K Pl], bs ++ [(2, ip it, Pl, xs.length, xs.length, C')], kp) := rfl
    have em : m_fork P it F Pl C tk fs cs = (5, some it, F, Pl, C, tk, fs, cs ++ [(2, it, Pl, C, F)]) := if_pos hmn
    rw [ex] at hk wk
    rw [em, if_pos hmn]
    have hX1 := bX_x (xs := xs) (cs := cs) (kp := kp) (S := tk) (b := [x_mk tx n xs 5 (ip it) Pl K Pl]) hfi
    have hX2 := bX_c (xs := xs ++ [x_mk tx n xs 5 (ip it) Pl K Pl]) (cs := cs) (kp := kp) (S := tk) (c := [((2, it, Pl, C, F) : mC)]) hfi
    have hl : (xs ++ [x_mk tx n xs 5 (ip it) Pl K Pl]).length = xs.length + 1 := by rw [List.length_append]; rfl
    have hlc : (cs ++ [((2, it, Pl, C, F) : mC)]).length = cs.length + 1 := by rw [List.length_append]; rfl
    have hD1 := bDk_x hX1 d4 (Nat.le_refl _) (Nat.le_refl _) hD
    have hD2 := bDk_x (L1 := cs.length) hX2 (by omega) (Nat.le_refl _) (Nat.le_refl _) hD1
    have hCs1 := bCs_x hCs hX1 (by omega)
    refine ⟨_, wk, fun w1 w2 => ⟨rfl, rfl, hC, ⟨r, mk_5 hit hr0 (bDk_x hX2 (by omega) (Nat.le_refl _) (by omega) hD1)⟩, bCs_push hCs1 hfi hl.symm ⟨rfl, hC, Nat.lt_succ_self _, Or.inr (Or.inl rfl), r, mk_2 hit (Or.inr ⟨hrp, x_mk tx n xs 5 (ip it) Pl K Pl, get_new, by omega, d4, by rw [if_pos hmn]; rfl, rfl, rfl, hD2⟩)⟩, hk, w1, w2⟩, ?_⟩
    show 2604 * (lim - tk) + 1302 * nA (cs ++ [(2, it, Pl, C, F)]) + (3 * (n - x_ba tx n (ip it)) + 2 + 100 * m_cl fs F) = _
    rw [nA_app (by show ¬ (2 : Nat) = 4; decide)]
  · rw [if_neg hmn] at hxW ⊢
    have hk := k_act (su := su) e2 e4 e5 hxW (by decide) (by intro w; omega) (by intro w; omega)
    have wk := wk_act (tx := tx) (n := n) (su := su) (sl := sl) (lim := lim) (x := (3, ip it, Pl, K, C', tk, xs, bs, kp)) (by show ¬ (3 : Nat) = 6; decide) (by intro w; have : (3 : Nat) = 5 := w.1; omega) (by intro w; have : (3 : Nat) = 2 := w.1; omega)
    have ex : x_act tx n su sl (3, ip it, Pl, K, C', tk, xs, bs, kp) = (2, ip it, Pl, xs.length, C', tk, xs ++ [x_mk tx n xs 4 (ip it) Pl K Pl], bs ++ [(5, ip it, Pl, K, xs.length, C')], kp) := rfl
    have em : m_fork P it F Pl C tk fs cs = (2, some it, F, Pl, C, tk, fs, cs ++ [(5, it, Pl, C, F)]) := if_neg hmn
    rw [ex] at hk wk
    rw [em, if_neg hmn]
    have hX1 := bX_x (xs := xs) (cs := cs) (kp := kp) (S := tk) (b := [x_mk tx n xs 4 (ip it) Pl K Pl]) hfi
    have hX2 := bX_c (xs := xs ++ [x_mk tx n xs 4 (ip it) Pl K Pl]) (cs := cs) (kp := kp) (S := tk) (c := [((5, it, Pl, C, F) : mC)]) hfi
    have hl : (xs ++ [x_mk tx n xs 4 (ip it) Pl K Pl]).length = xs.length + 1 := by rw [List.length_append]; rfl
    have hlc : (cs ++ [((5, it, Pl, C, F) : mC)]).length = cs.length + 1 := by rw [List.length_append]; rfl
    have hD1 := bDk_x hX1 d4 (Nat.le_refl _) (Nat.le_refl _) hD
    have hD2 := bDk_x (L1 := cs.length) hX2 (by omega) (Nat.le_refl _) (Nat.le_refl _) hD1
    have hCs1 := bCs_x hCs hX1 (by omega)
    refine ⟨_, wk, fun w1 w2 => ⟨rfl, rfl, hC, ⟨r, mk_2 hit (Or.inr ⟨hrp, x_mk tx n xs 4 (ip it) Pl K Pl, get_new, by omega, d4, by rw [if_neg hmn]; rfl, rfl, rfl, bDk_x (K := K) hX2 (by omega) (Nat.le_refl _) (by omega) hD1⟩)⟩, bCs_push hCs1 hfi hl.symm ⟨rfl, hC, by show K < xs.length + 1; omega, Or.inr (Or.inr (Or.inr rfl)), r, mk_5 hit hr0 hD2⟩, hk, w1, w2⟩, ?_⟩
    show 2604 * (lim - tk) + 1302 * nA (cs ++ [(5, it, Pl, C, F)]) + 3 = _
    rw [nA_app (by show ¬ (5 : Nat) = 4; decide)]
/-- behind the frames of an item, what it is to do first; W: the potential ahead -/
theorem item2_ok (hE : EV (tx, n, P, ni, nr, ip, rp) su Q sl lim) (hfi : fiO fs) {it r : Nat} (hit : it < ni) (hn1 : ¬ q_rp P it = 1) (hC : cE C C') (hCs : bCs (tx, n, P, ni, nr, ip, rp) (fs, xs, cs, kp, tk) bs) (hD : bDk (tx, n, P, ni, nr, ip, rp) (fs, xs, cs, kp, tk) r it F K cs.length) (hxW : xW tx n Q sl lim (x_item2 tx n (ip it) K Pl C' tk xs bs kp)) (hch : x_ch xs) : ∃ x1 c, c ≤ 1 ∧ (∀ f, x_wk tx n su sl lim (f + 1 + c) (x_item2 tx n (ip it) K Pl C' tk xs bs kp) = x_wk tx n su sl lim (f + 1) x1) ∧ (wM P ni nr sl lim (m_item2 P it F Pl C tk fs cs) → b_F (m_item2 P it F Pl C tk fs cs) → SR (tx, n, P, ni, nr, ip, rp) Q sl lim (m_item2 P it F Pl C tk fs cs) x1) ∧ psi (tx, n, P, ni, nr, ip, rp) lim (m_item2 P it F Pl C tk fs cs) x1.2.1 ≤ 2604 * (lim - tk) + 1302 * nA cs + (3 * (n - ip it) + 2 + 100 * m_cl fs F) := by
  have hE0 := hE
  obtain ⟨e1, e2, e3, e4, e5, e6, e7, e8⟩ := hE
  obtain ⟨d1, d2, d3, d4⟩ := bDk_F hch hD
  have hF : itF tx n P (ip it) it := it_f e1 hit
  obtain ⟨⟨f1, f2, f3, f4, f5⟩, ⟨g0, g1, g2, g3, g4, g5⟩, ⟨m1', m2', m3'⟩, n1, n2, n3, n4⟩ := hF
  by_cases r0 : q_rp P it = 0
  · have ex : x_item2 tx n (ip it) K Pl C' tk xs bs kp = (2, ip it, Pl, K, C', tk, xs, bs, kp) := if_pos (g0.mp r0)
    have em : m_item2 P it F Pl C tk fs cs = (3, some it, F, Pl, C, tk, fs, cs) := by
      unfold m_item2
      rw [if_neg (by omega), if_neg (by omega), if_neg (by omega)]
    rw [ex] at hxW ⊢
    rw [em]
    refine ⟨_, 0, by decide, fun f => rfl, fun w1 w2 => ⟨rfl, rfl, hC, ⟨r, mk_3 hit (Or.inl ⟨Or.inl r0, hD⟩)⟩, hCs, hxW, w1, w2⟩, ?_⟩
    show 2604 * (lim - tk) + 1302 * nA cs + 2 ≤ _
    omega
  · have any : x_any (x_r tx n (ip it)) := Classical.not_not.mp (fun w => r0 (g0.mpr w))
    obtain ⟨b1, b2⟩ := n1 any
    have ex0 : x_item2 tx n (ip it) K Pl C' tk xs bs kp = _ := if_neg (fun w => w any)
    by_cases r3 : q_rp P it = 3
    · have r42 := g3.mp r3
      have em : m_item2 P it F Pl C tk fs cs = m_fork P it F Pl C tk fs cs := if_pos (Or.inr r3)
      have ex : x_item2 tx n (ip it) K Pl C' tk xs bs kp = (if q_mn P it = 1 then 4 else 3, ip it, Pl, K, C', tk, xs, bs, kp) := by
        rw [ex0, if_pos r42]
        by_cases w : q_mn P it = 1
        · rw [if_pos w, if_pos (m1'.mp w)]
        · rw [if_neg w, if_neg (fun v => w (m1'.mpr v))]
      rw [ex] at hxW ⊢
      rw [em]
      obtain ⟨x1, y1, y2, y3⟩ := fork_ok hE0 hfi hit (Or.inl r3) hC hCs hD hxW
      refine ⟨x1, 1, by decide, fun f => y1 (f + 1), y2, ?_⟩
      rw [y3]
      split
      · omega
      · omega
    · have h42 : ¬ x_r tx n (ip it) = 42 := fun w => r3 (g3.mpr w)
      have ex1 : x_item2 tx n (ip it) K Pl C' tk xs bs kp = _ := ex0.trans (if_neg h42)
      by_cases r4 : q_rp P it = 4
      · have r43 := g4.mp r4
        have em : m_item2 P it F Pl C tk fs cs = (3, some it, fs.length, Pl, C, tk, fs ++ [(4, it, 0, Pl, C, F, m_cl fs F)], cs) := by
          unfold m_item2
          rw [if_neg (by omega), if_pos r4]
          rfl
        have ex : x_item2 tx n (ip it) K Pl C' tk xs bs kp = (2, ip it, Pl, xs.length, C', tk, xs ++ [x_mk tx n xs (if q_mn P it = 1 then 11 else 10) (ip it) 0 K Pl], bs, kp) := by
          rw [ex1, if_pos r43]
          by_cases w : q_mn P it = 1
          · rw [if_pos w, if_pos (m1'.mp w)]
          · rw [if_neg w, if_neg (fun v => w (m1'.mpr v))]
        rw [ex] at hxW ⊢
        rw [em]
        have hX1 := bX_fx (xs := xs) (cs := cs) (kp := kp) (S := tk) (a := [((4, it, 0, Pl, C, F, m_cl fs F) : mF)]) (b := [x_mk tx n xs (if q_mn P it = 1 then 11 else 10) (ip it) 0 K Pl]) hfi
        have hl : (xs ++ [x_mk tx n xs (if q_mn P it = 1 then 11 else 10) (ip it) 0 K Pl]).length = xs.length + 1 := by rw [List.length_append]; rfl
        have hD1 := bDk_x hX1 d4 (Nat.le_refl _) (Nat.le_refl _) hD
        have hcl : (xg (xs ++ [x_mk tx n xs (if q_mn P it = 1 then 11 else 10) (ip it) 0 K Pl]) xs.length).2.2.2.2.2.2.2.1 = (xg xs K).2.2.2.2.2.2.2.1 := by
          rw [xg_new]
          show (if (if q_mn P it = 1 then 11 else 10) = 3 then 1 else 0) + (xg xs K).2.2.2.2.2.2.2.1 = _
          rw [if_neg (by split <;> omega), Nat.zero_add]
        have hRn : bR (tx, n, P, ni, nr, ip, rp) (fs ++ [(4, it, 0, Pl, C, F, m_cl fs F)], xs ++ [x_mk tx n xs (if q_mn P it = 1 then 11 else 10) (ip it) 0 K Pl], cs, kp, tk) (r + 1) fs.length xs.length cs.length := by
          refine ⟨(4, it, 0, Pl, C, F, m_cl fs F), get_new, ?_, Or.inr ⟨hit, ?_⟩, Or.inr (Or.inr ⟨x_mk tx n xs (if q_mn P it = 1 then 11 else 10) (ip it) 0 K Pl, get_new, by omega, d4, Or.inr (Or.inr (Or.inr (Or.inr (Or.inr (Or.inr (Or.inl ⟨rfl, r4, rfl, rfl, hD1⟩))))))⟩)⟩
          · exact d2.trans hcl.symm
          · show m_cl fs F = (if (4 : Nat) = 2 then 1 else 0) + m_cl (fs ++ [(4, it, 0, Pl, C, F, m_cl fs F)]) F
            rw [mcl_app d1, if_neg (by decide), Nat.zero_add]
        refine ⟨_, 0, by decide, fun f => rfl, fun w1 w2 => ⟨rfl, rfl, hC, ⟨r + 1, mk_3 hit (Or.inr ⟨by show ¬ (q_rp P it = 0 ∨ q_rp P it = 2); omega, hRn, (4, it, 0, Pl, C, F, m_cl fs F), get_new, Or.inr (Or.inl rfl), rfl⟩)⟩, bCs_x hCs hX1 (by omega), hxW, w1, w2⟩, ?_⟩
        show 2604 * (lim - tk) + 1302 * nA cs + 2 ≤ _
        omega
      · have h43 : ¬ x_r tx n (ip it) = 43 := fun w => r4 (g4.mpr w)
        have ex2 : x_item2 tx n (ip it) K Pl C' tk xs bs kp = _ := ex1.trans (if_neg h43)
        by_cases r5 : q_rp P it = 5
        · have r123 := g5.mp r5
          obtain ⟨t1, t2, t3⟩ := n4 r123.1
          have em : m_item2 P it F Pl C tk fs cs = (3, some it, fs.length, Pl, C, tk, fs ++ [(5, it, q_tm P it, Pl, C, F, m_cl fs F)], cs) := by
            unfold m_item2
            rw [if_neg (by omega), if_neg (by omega), if_pos r5]
            rfl
          have ex : x_item2 tx n (ip it) K Pl C' tk xs bs kp = (2, ip it, Pl, xs.length, C', tk, xs ++ [x_mk tx n xs 6 (ip it) (xt tx n (x_ba tx n (ip it) + 1) - 49) K Pl], bs, kp) := ex2.trans (if_pos r123.1)
          rw [ex] at hxW ⊢
          rw [em]
          have hX1 := bX_fx (xs := xs) (cs := cs) (kp := kp) (S := tk) (a := [((5, it, q_tm P it, Pl, C, F, m_cl fs F) : mF)]) (b := [x_mk tx n xs 6 (ip it) (xt tx n (x_ba tx n (ip it) + 1) - 49) K Pl]) hfi
          have hl : (xs ++ [x_mk tx n xs 6 (ip it) (xt tx n (x_ba tx n (ip it) + 1) - 49) K Pl]).length = xs.length + 1 := by rw [List.length_append]; rfl
          have hD1 := bDk_x hX1 d4 (Nat.le_refl _) (Nat.le_refl _) hD
          have hcl : (xg (xs ++ [x_mk tx n xs 6 (ip it) (xt tx n (x_ba tx n (ip it) + 1) - 49) K Pl]) xs.length).2.2.2.2.2.2.2.1 = (xg xs K).2.2.2.2.2.2.2.1 := by
            rw [xg_new]
            show (if (6 : Nat) = 3 then 1 else 0) + (xg xs K).2.2.2.2.2.2.2.1 = _
            rw [if_neg (by decide), Nat.zero_add]
          have hRn : bR (tx, n, P, ni, nr, ip, rp) (fs ++ [(5, it, q_tm P it, Pl, C, F, m_cl fs F)], xs ++ [x_mk tx n xs 6 (ip it) (xt tx n (x_ba tx n (ip it) + 1) - 49) K Pl], cs, kp, tk) (r + 1) fs.length xs.length cs.length := by
            refine ⟨(5, it, q_tm P it, Pl, C, F, m_cl fs F), get_new, ?_, Or.inr ⟨hit, ?_⟩, Or.inr (Or.inr ⟨x_mk tx n xs 6 (ip it) (xt tx n (x_ba tx n (ip it) + 1) - 49) K Pl, get_new, by omega, d4, Or.inr (Or.inr (Or.inr (Or.inr (Or.inr (Or.inr (Or.inr (Or.inl ⟨rfl, r5, rfl, rfl, ?_, hD1⟩)))))))⟩)⟩
            · exact d2.trans hcl.symm
            · show m_cl fs F = (if (5 : Nat) = 2 then 1 else 0) + m_cl (fs ++ [(5, it, q_tm P it, Pl, C, F, m_cl fs F)]) F
              rw [mcl_app d1, if_neg (by decide), Nat.zero_add]
            · show xt tx n (x_ba tx n (ip it) + 1) - 49 + 1 = q_tm P it
              have := r123.2
              omega
          refine ⟨_, 0, by decide, fun f => rfl, fun w1 w2 => ⟨rfl, rfl, hC, ⟨r + 1, mk_3 hit (Or.inr ⟨by show ¬ (q_rp P it = 0 ∨ q_rp P it = 2); omega, hRn, (5, it, q_tm P it, Pl, C, F, m_cl fs F), get_new, Or.inr (Or.inr rfl), rfl⟩)⟩, bCs_x hCs hX1 (by omega), hxW, w1, w2⟩, ?_⟩
          show 2604 * (lim - tk) + 1302 * nA cs + 2 ≤ _
          omega
        · have h123 : ¬ x_r tx n (ip it) = 123 := by
            intro w
            by_cases v : xt tx n (x_ba tx n (ip it) + 1) = 48
            · exact hn1 (g1.mpr ⟨w, v⟩)
            · exact r5 (g5.mpr ⟨w, v⟩)
          have r2 : q_rp P it = 2 := g2.mpr (by unfold x_any at any; omega)
          have ex3 : x_item2 tx n (ip it) K Pl C' tk xs bs kp = _ := ex2.trans (if_neg h123)
          have em : m_item2 P it F Pl C tk fs cs = m_fork P it F Pl C tk fs cs := if_pos (Or.inl r2)
          have hK1 : 1 ≤ xs.length := by omega
          by_cases hmn : q_mn P it = 1
          · have h63 := m1'.mp hmn
            rw [if_pos h63, if_pos h63] at ex3
            have em2 : m_fork P it F Pl C tk fs cs = (5, some it, F, Pl, C, tk, fs, cs ++ [(2, it, Pl, C, F)]) := if_pos hmn
            rw [ex3] at hxW ⊢
            rw [em, em2]
            have hX2 := bX_c (xs := xs) (cs := cs) (kp := kp) (S := tk) (c := [((2, it, Pl, C, F) : mC)]) hfi
            have hlc : (cs ++ [((2, it, Pl, C, F) : mC)]).length = cs.length + 1 := by rw [List.length_append]; rfl
            refine ⟨_, 0, by decide, fun f => rfl, fun w1 w2 => ⟨rfl, rfl, hC, ⟨r, mk_5 hit r0 (bDk_x hX2 d4 (Nat.le_refl _) (by omega) hD)⟩, bCs_push hCs hfi (by show xs.length - 1 + 1 = xs.length; omega) ⟨rfl, hC, by show K < xs.length - 1 + 1; omega, Or.inr (Or.inl rfl), r, mk_2 hit (Or.inl ⟨r2, bDk_x hX2 d4 (Nat.le_refl _) (Nat.le_refl _) hD⟩)⟩, hxW, w1, w2⟩, ?_⟩
            show 2604 * (lim - tk) + 1302 * nA (cs ++ [(2, it, Pl, C, F)]) + (3 * (n - x_ba tx n (ip it)) + 2 + 100 * m_cl fs F) ≤ _
            rw [nA_app (by show ¬ (2 : Nat) = 4; decide)]
            omega
          · have h63 : ¬ x_how tx n (ip it) = 63 := fun v => hmn (m1'.mpr v)
            rw [if_neg h63, if_neg h63] at ex3
            have em2 : m_fork P it F Pl C tk fs cs = (2, some it, F, Pl, C, tk, fs, cs ++ [(5, it, Pl, C, F)]) := if_neg hmn
            rw [ex3] at hxW ⊢
            rw [em, em2]
            have hX2 := bX_c (xs := xs) (cs := cs) (kp := kp) (S := tk) (c := [((5, it, Pl, C, F) : mC)]) hfi
            have hlc : (cs ++ [((5, it, Pl, C, F) : mC)]).length = cs.length + 1 := by rw [List.length_append]; rfl
            refine ⟨_, 0, by decide, fun f => rfl, fun w1 w2 => ⟨rfl, rfl, hC, ⟨r, mk_2 hit (Or.inl ⟨r2, bDk_x hX2 d4 (Nat.le_refl _) (by omega) hD⟩)⟩, bCs_push hCs hfi (by show xs.length - 1 + 1 = xs.length; omega) ⟨rfl, hC, by show K < xs.length - 1 + 1; omega, Or.inr (Or.inr (Or.inr rfl)), r, mk_5 hit r0 (bDk_x hX2 d4 (Nat.le_refl _) (Nat.le_refl _) hD)⟩, hxW, w1, w2⟩, ?_⟩
            show 2604 * (lim - tk) + 1302 * nA (cs ++ [(5, it, Pl, C, F)]) + 3 ≤ _
            rw [nA_app (by show ¬ (5 : Nat) = 4; decide)]
            omega
end BV
