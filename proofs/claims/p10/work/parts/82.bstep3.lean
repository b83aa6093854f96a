/-! the two machines: items, tries, behind atoms and items -/
section BV
variable {tx : Nat → Nat} {n : Nat} {P : pg} {ni nr : Nat} {ip rp : Nat → Nat} {su : Nat → Nat} {Q sl lim : Nat}
variable {T F Pl tk : Nat} {N : Option Nat} {C : Nat → Nat} {fs : List mF} {cs : List mC}
variable {M A K : Nat} {C' : Nat → Nat} {xs : List xF} {bs : List xB} {kp : Nat → Nat → Nat} {m1 : mS}
theorem x_ch_push (h : x_ch xs) (h1 : 1 ≤ xs.length) {kd wh nm pr gp : Nat} (hp : pr < xs.length) : x_ch (xs ++ [x_mk tx n xs kd wh nm pr gp]) := by
  refine ⟨by rw [xg_app (by omega)]; exact h.1, fun f x hx hf => ?_⟩
  rcases Nat.lt_or_ge f xs.length with q | q
  · rw [List.getElem?_append_left q] at hx
    obtain ⟨a1, a2⟩ := h.2 f x hx hf
    exact ⟨a1, by rw [xg_app (by omega)]; exact a2⟩
  · have hl := (List.getElem?_eq_some_iff.mp hx).1
    rw [List.length_append, List.length_singleton] at hl
    have ef : f = xs.length := by omega
    subst ef
    rw [get_new] at hx
    cases Option.some.inj hx
    refine ⟨hp, ?_⟩
    show (if kd = 3 then 1 else 0) + (xg xs pr).2.2.2.2.2.2.2.1 = (if kd = 3 then 1 else 0) + (xg (xs ++ [x_mk tx n xs kd wh nm pr gp]) pr).2.2.2.2.2.2.2.1
    rw [xg_app hp]
theorem cl_n (d : Nat) : n - x_cl tx n n d A ≤ n - A := by
  rcases Nat.lt_or_ge n A with q | q
  · rw [cl_up (f := 0) (by omega) (Nat.zero_le _)]
    show n - n ≤ _
    omega
  · have := (x_cl_ge (tx := tx) (n := n) n d A q).1
    omega
theorem kd_5 (h : ST tx n P ni nr ip rp) {it : Nat} (hit : it < ni) (hk : 5 ≤ q_kd P it) : xt tx n (ip it) = 40 ∧ x_ba tx n (ip it) = x_cl tx n n 1 (ip it + 1) + 1 := by
  obtain ⟨a1, a2, a3, a4, a5⟩ := h.1 it hit
  have h40 : xt tx n (ip it) = 40 := by
    rcases a3 with ⟨w, _⟩ | ⟨w, _⟩ | ⟨e, w1, w2, w3, w4⟩
    · exact w
    · exact w
    · exfalso
      have : (x_kv tx n (ip it)).1 ≤ 4 := by
        unfold x_kv
        repeat' split
        all_goals simp
      omega
  exact ⟨h40, if_pos h40⟩
theorem st_item (hE : EV (tx, n, P, ni, nr, ip, rp) su Q sl lim) (h : SR (tx, n, P, ni, nr, ip, rp) Q sl lim (1, N, F, Pl, C, tk, fs, cs) (M, A, Pl, K, C', tk, xs, bs, kp)) (hm : m_turn P su sl lim (1, N, F, Pl, C, tk, fs, cs) m1) : sOK (tx, n, P, ni, nr, ip, rp) su Q sl lim (1, N, F, Pl, C, tk, fs, cs) (M, A, Pl, K, C', tk, xs, bs, kp) m1 := by
  obtain ⟨-, -, hC, ⟨r, hT⟩, hCs, hxW, hwM, hbF⟩ := h
  have hE0 := hE
  obtain ⟨e1, e2, e3, e4, e5, e6, e7, e8⟩ := hE
  have e1 : ST tx n P ni nr ip rp := e1
  have hfi := sr_fi hwM
  obtain ⟨c1, c2, c3, c4, c5⟩ := sr_ch hxW
  obtain ⟨rfl, hat, hRw⟩ := bT_1 hT
  have hk := k_act (su := su) e2 e4 e5 hxW (by decide) (by intro w; omega) (by intro w; omega)
  have wk := wk_act (tx := tx) (n := n) (su := su) (sl := sl) (lim := lim) (x := (0, A, Pl, K, C', tk, xs, bs, kp)) (by show ¬ (0 : Nat) = 6; decide) (by intro w; have : (0 : Nat) = 5 := w.1; omega) (by intro w; have : (0 : Nat) = 2 := w.1; omega)
  have hlen : cs.length = bs.length := hCs.1
  rcases hat with ⟨rfl, hre⟩ | ⟨it, rfl, hit, rfl⟩
  · have hm1 : m1 = (6, none, F, Pl, C, tk, fs, cs) := (hm.2.1 rfl).1 rfl
    subst hm1
    obtain ⟨w1, w2⟩ := sr_w hE0 (by decide) hm hCs hxW hwM hbF (by show ¬ (6 : Nat) = 10; decide)
    have ex : x_act tx n su sl (0, A, Pl, K, C', tk, xs, bs, kp) = (5, 0, Pl, K, C', tk, xs, bs, kp) := by
      show (if x_re tx n A then _ else _) = _
      rw [if_pos hre]
    rw [ex] at hk wk
    obtain ⟨hR, y, hy, hy2, hy3⟩ := hRw
    have hy : fs[F]? = some y := hy
    have hp : ptR (tx, n, P, ni, nr, ip, rp) y + 1 ≤ 3 * (n - A) + 4 + 100 * m_cl fs F := by
      rw [mcl_eq hy]
      unfold ptR
      by_cases y0 : y.1 = 0
      · rw [if_pos y0]; omega
      · rw [if_neg y0]
        by_cases y1 : y.1 = 1
        · rw [if_pos y1]
          by_cases k8 : q_kd P y.2.1 = 8
          · rw [if_pos k8]; omega
          · rw [if_neg k8]
            have hw := (hwM.2.2.2.2.2.2.2.2.1 F y hy).1
            have hb := (kd_5 e1 (hw.2.1 (by omega)) (hw.2.2.2.2.2.2.1 y1)).2
            have hc : x_cl tx n n 1 A = x_cl tx n n 1 (ip y.2.1 + 1) := hy3 y1
            have hn := cl_n (tx := tx) (n := n) (A := A) 1
            show 3 * (n - (x_ba tx n (ip y.2.1) - 1)) + 3 + 100 * y.2.2.2.2.2.2 + 1 ≤ _
            rw [hb, Nat.add_sub_cancel, ← hc]
            omega
        · rw [if_neg y1, if_pos (by omega)]
          omega
    have hg : (fs[F]?).getD f0 = y := by rw [hy]; rfl
    refine ⟨_, 1, by decide, fun f => wk (f + 1), ⟨rfl, rfl, hC, ⟨r, mk_6 hR⟩, hCs, hk, w1, w2⟩, ?_, ?_⟩
    · show 2604 * (lim - tk) + 1302 * nA cs + ptR (tx, n, P, ni, nr, ip, rp) ((fs[F]?).getD f0) + 1 ≤ 2604 * (lim - tk) + 1302 * nA cs + (3 * (n - A) + 4 + 100 * m_cl fs F)
      rw [hg]
      omega
    · show 2604 * (lim - tk) + 1302 * nA cs + ptR (tx, n, P, ni, nr, ip, rp) ((fs[F]?).getD f0) + 1 ≤ 2604 * (lim - tk) + 1302 * nA cs + (3 * (n - A) + 4 + 100 * m_cl fs F)
      rw [hg]
      omega
  · have hit : it < ni := hit
    have hF : itF tx n P (ip it) it := it_f e1 hit
    obtain ⟨⟨f1, f2, f3, f4, f5⟩, ⟨g0, g1, g2, g3, g4, g5⟩, ⟨m1', m2', m3'⟩, n1, n2, n3, n4⟩ := hF
    have hm1 : m1 = m_item P it F Pl C tk fs cs := (hm.2.1 rfl).2 it rfl
    subst hm1
    have hRB : bRw (tx, n, P, ni, nr, ip, rp) (fs, xs, cs, kp, tk) r F K cs.length (x_bh tx n (ip it)) := by
      obtain ⟨a1, y, a2, a3, a4⟩ := hRw
      exact ⟨a1, y, a2, a3, fun w => (it_cl e1 hit (Nat.le_refl _)).symm.trans (a4 w)⟩
    have ex : x_act tx n su sl (0, ip it, Pl, K, C', tk, xs, bs, kp) = x_item tx n (ip it) Pl K C' tk xs bs kp := by
      show (if x_re tx n (ip it) then _ else _) = _
      rw [if_neg f2]
    have hFl : F < fs.length := (bR_F hRw.1).1
    have hcl : m_cl fs F = (xg xs K).2.2.2.2.2.2.2.1 := (bR_F hRw.1).2
    by_cases r1 : q_rp P it = 1
    · have em : m_item P it F Pl C tk fs cs = (1, q_nx P it, F, Pl, C, tk, fs, cs) := if_pos r1
      have ex2 : x_item tx n (ip it) Pl K C' tk xs bs kp = (0, x_bh tx n (ip it), Pl, K, C', tk, xs, bs, kp) := if_pos (g1.mp r1)
      obtain ⟨w1, w2⟩ := sr_w hE0 (by decide) hm hCs hxW hwM hbF (by rw [em]; show ¬ (1 : Nat) = 10; decide)
      rw [em] at w1 w2 ⊢
      rw [ex, ex2] at hk wk
      refine ⟨_, 1, by decide, fun f => wk (f + 1), ⟨rfl, rfl, hC, ⟨r, mk_1 (it_nx e1 hit) hRB⟩, hCs, hk, w1, w2⟩, ?_, ?_⟩
      · show 2604 * (lim - tk) + 1302 * nA cs + (3 * (n - x_bh tx n (ip it)) + 4 + 100 * m_cl fs F) + 1 ≤ 2604 * (lim - tk) + 1302 * nA cs + (3 * (n - ip it) + 4 + 100 * m_cl fs F)
        omega
      · show 2604 * (lim - tk) + 1302 * nA cs + (3 * (n - x_bh tx n (ip it)) + 4 + 100 * m_cl fs F) + 1 ≤ 2604 * (lim - tk) + 1302 * nA cs + (3 * (n - ip it) + 4 + 100 * m_cl fs F)
        omega
    · have ex1 : x_item tx n (ip it) Pl K C' tk xs bs kp = _ := if_neg (fun w => r1 (g1.mpr w))
      have hch1 := x_ch_push (tx := tx) (n := n) (kd := 1) (wh := x_bh tx n (ip it)) (nm := 0) (gp := Pl) c1 c5 c2
      have hl1 : (xs ++ [x_mk tx n xs 1 (x_bh tx n (ip it)) 0 K Pl]).length = xs.length + 1 := by rw [List.length_append]; rfl
      by_cases mn2 : q_mn P it = 2
      · have em : m_item P it F Pl C tk fs cs = m_item2 P it fs.length Pl C tk (fs ++ [(6, it, cs.length, Pl, C, F, m_cl fs F)]) cs := by
          unfold m_item
          rw [if_neg r1, if_pos mn2]
          rfl
        have ex2 : x_item tx n (ip it) Pl K C' tk xs bs kp = x_item2 tx n (ip it) (xs.length + 1) Pl C' tk ((xs ++ [x_mk tx n xs 1 (x_bh tx n (ip it)) 0 K Pl]) ++ [x_mk tx n (xs ++ [x_mk tx n xs 1 (x_bh tx n (ip it)) 0 K Pl]) 7 0 bs.length xs.length Pl]) bs kp := ex1.trans (if_pos (m2'.mp mn2))
        rw [ex, ex2] at hk wk
        have hfi2 : fiO (fs ++ [(6, it, cs.length, Pl, C, F, m_cl fs F)]) := fiO_push hfi hFl
        generalize hx1 : x_mk tx n xs 1 (x_bh tx n (ip it)) 0 K Pl = q1 at hk wk hch1 hl1
        generalize hx7 : x_mk tx n (xs ++ [q1]) 7 0 bs.length xs.length Pl = q7 at hk wk
        have hch2 : x_ch ((xs ++ [q1]) ++ [q7]) := by
          rw [← hx7]
          exact x_ch_push hch1 (by omega) (by omega)
        have hl2 : ((xs ++ [q1]) ++ [q7]).length = xs.length + 2 := by rw [List.length_append, hl1]; rfl
        have e71 : q7.1 = 7 ∧ q7.2.2.1 = bs.length ∧ q7.2.2.2.1 = xs.length := by rw [← hx7]; exact ⟨rfl, rfl, rfl⟩
        have e11 : q1.1 = 1 ∧ q1.2.1 = x_bh tx n (ip it) ∧ q1.2.2.2.1 = K := by rw [← hx1]; exact ⟨rfl, rfl, rfl⟩
        have hX1 : bX (fs, xs, cs, kp, tk) (fs ++ [(6, it, cs.length, Pl, C, F, m_cl fs F)], (xs ++ [q1]) ++ [q7], cs, kp, tk) xs.length cs.length := by
          rw [List.append_assoc]
          exact bX_fx hfi
        have hg7 : ((xs ++ [q1]) ++ [q7])[xs.length + 1]? = some q7 := by
          have := get_new (l := xs ++ [q1]) (y := q7)
          rw [hl1] at this
          exact this
        have hg1 : ((xs ++ [q1]) ++ [q7])[xs.length]? = some q1 := get_app get_new
        have hcal : (xg ((xs ++ [q1]) ++ [q7]) (xs.length + 1)).2.2.2.2.2.2.2.1 = m_cl fs F := by
          have a1 := (hch2.2 (xs.length + 1) q7 hg7 (by omega)).2
          have a2 := (hch2.2 xs.length q1 hg1 (by omega)).2
          have x7 : xg ((xs ++ [q1]) ++ [q7]) (xs.length + 1) = q7 := by unfold xg; rw [hg7]; rfl
          have x1 : xg ((xs ++ [q1]) ++ [q7]) xs.length = q1 := by unfold xg; rw [hg1]; rfl
          rw [x7, a1, e71.1, e71.2.2, x1, a2, e11.1, e11.2.2, if_neg (by decide), if_neg (by decide), Nat.zero_add, Nat.zero_add, hcl, xg_app (by omega), xg_app c2]
        have hD : bDk (tx, n, P, ni, nr, ip, rp) (fs ++ [(6, it, cs.length, Pl, C, F, m_cl fs F)], (xs ++ [q1]) ++ [q7], cs, kp, tk) (r + 1) it fs.length (xs.length + 1) cs.length := by
          refine Or.inl ⟨mn2, ?_, (6, it, cs.length, Pl, C, F, m_cl fs F), get_new, rfl, rfl⟩
          refine ⟨(6, it, cs.length, Pl, C, F, m_cl fs F), get_new, hcal.symm, Or.inr ⟨hit, ?_⟩, Or.inr (Or.inr ⟨q7, hg7, by omega, by rw [e71.2.2]; omega, Or.inr (Or.inr (Or.inr (Or.inr (Or.inr (Or.inr (Or.inr (Or.inr ⟨rfl, mn2, e71.1, e71.2.1.trans hlen.symm, Nat.le_refl _, q1, by rw [e71.2.2]; exact hg1, e11.1, e11.2.1, by rw [e71.2.2, e11.2.2]; exact c2, ?_⟩)))))))⟩)⟩
          · show m_cl fs F = (if (6 : Nat) = 2 then 1 else 0) + m_cl (fs ++ [(6, it, cs.length, Pl, C, F, m_cl fs F)]) F
            rw [mcl_app hFl, if_neg (by decide), Nat.zero_add]
          · rw [e11.2.2]
            exact bRw_x hX1 c2 (Nat.le_refl _) (Nat.le_refl _) hRB
        obtain ⟨x1, cc, y1, y2, y3, y4⟩ := item2_ok hE0 hfi2 hit r1 hC (bCs_x hCs hX1 (by omega)) hD hk hch2
        obtain ⟨w1, w2⟩ := sr_w hE0 (by decide) hm hCs hxW hwM hbF (by
          rw [em]
          unfold m_item2 m_fork
          repeat' split
          all_goals simp)
        rw [em] at w1 w2 ⊢
        have hmc : m_cl (fs ++ [(6, it, cs.length, Pl, C, F, m_cl fs F)]) fs.length = m_cl fs F := mcl_eq get_new
        rw [hmc] at y4
        refine ⟨x1, 1 + cc, by omega, fun f => ?_, y3 w1 w2, ?_, ?_⟩
        · rw [show f + 1 + (1 + cc) = f + 1 + cc + 1 by omega, wk]
          exact y2 f
        · show _ ≤ 2604 * (lim - tk) + 1302 * nA cs + (3 * (n - ip it) + 4 + 100 * m_cl fs F)
          omega
        · show _ ≤ 2604 * (lim - tk) + 1302 * nA cs + (3 * (n - ip it) + 4 + 100 * m_cl fs F)
          omega
      · have em : m_item P it F Pl C tk fs cs = m_item2 P it F Pl C tk fs cs := by
          unfold m_item
          rw [if_neg r1, if_neg mn2]
        have ex2 : x_item tx n (ip it) Pl K C' tk xs bs kp = x_item2 tx n (ip it) xs.length Pl C' tk (xs ++ [x_mk tx n xs 1 (x_bh tx n (ip it)) 0 K Pl]) bs kp := ex1.trans (if_neg (fun w => mn2 (m2'.mpr w)))
        rw [ex, ex2] at hk wk
        have hX1 := bX_x (xs := xs) (cs := cs) (kp := kp) (S := tk) (b := [x_mk tx n xs 1 (x_bh tx n (ip it)) 0 K Pl]) hfi
        have hD : bDk (tx, n, P, ni, nr, ip, rp) (fs, xs ++ [x_mk tx n xs 1 (x_bh tx n (ip it)) 0 K Pl], cs, kp, tk) r it F xs.length cs.length := Or.inr ⟨mn2, x_mk tx n xs 1 (x_bh tx n (ip it)) 0 K Pl, get_new, rfl, rfl, c2, bRw_x hX1 c2 (Nat.le_refl _) (Nat.le_refl _) hRB⟩
        obtain ⟨x1, cc, y1, y2, y3, y4⟩ := item2_ok hE0 hfi hit r1 hC (bCs_x hCs hX1 (by omega)) hD hk hch1
        obtain ⟨w1, w2⟩ := sr_w hE0 (by decide) hm hCs hxW hwM hbF (by
          rw [em]
          unfold m_item2 m_fork
          repeat' split
          all_goals simp)
        rw [em] at w1 w2 ⊢
        refine ⟨x1, 1 + cc, by omega, fun f => ?_, y3 w1 w2, ?_, ?_⟩
        · rw [show f + 1 + (1 + cc) = f + 1 + cc + 1 by omega, wk]
          exact y2 f
        · show _ ≤ 2604 * (lim - tk) + 1302 * nA cs + (3 * (n - ip it) + 4 + 100 * m_cl fs F)
          omega
        · show _ ≤ 2604 * (lim - tk) + 1302 * nA cs + (3 * (n - ip it) + 4 + 100 * m_cl fs F)
          omega
theorem st_try (hE : EV (tx, n, P, ni, nr, ip, rp) su Q sl lim) (h : SR (tx, n, P, ni, nr, ip, rp) Q sl lim (2, N, F, Pl, C, tk, fs, cs) (M, A, Pl, K, C', tk, xs, bs, kp)) (hm : m_turn P su sl lim (2, N, F, Pl, C, tk, fs, cs) m1) : sOK (tx, n, P, ni, nr, ip, rp) su Q sl lim (2, N, F, Pl, C, tk, fs, cs) (M, A, Pl, K, C', tk, xs, bs, kp) m1 := by
  obtain ⟨-, -, hC, ⟨r, hT⟩, hCs, hxW, hwM, hbF⟩ := h
  have hfi := sr_fi hwM
  obtain ⟨c1, c2, c3, c4, c5⟩ := sr_ch hxW
  obtain ⟨rfl, it, rfl, hit, rfl, hTr⟩ := bT_2 hT
  have hm1 : m1 = m_try P it F Pl C tk fs cs := hm.2.2.1 rfl it rfl
  subst hm1
  rcases hTr with ⟨r2, hD⟩ | ⟨r34, x, hx, hk1, hpr, hkd, hwh, hnm, hD⟩
  · have r2 : q_rp P it = 2 := r2
    have em : m_try P it F Pl C tk fs cs = (3, some it, F, Pl, C, tk, fs, cs) := if_pos r2
    obtain ⟨w1, w2⟩ := sr_w hE (by decide) hm hCs hxW hwM hbF (by rw [em]; show ¬ (3 : Nat) = 10; decide)
    rw [em] at w1 w2 ⊢
    refine ⟨_, 0, by decide, fun f => rfl, ⟨rfl, rfl, hC, ⟨r, mk_3 hit (Or.inl ⟨Or.inr r2, hD⟩)⟩, hCs, hxW, w1, w2⟩, ?_, ?_⟩
    · show 2604 * (lim - tk) + 1302 * nA cs + 2 + 1 ≤ 2604 * (lim - tk) + 1302 * nA cs + 3
      omega
    · show 2604 * (lim - tk) + 1302 * nA cs + 2 + 0 ≤ 2604 * (lim - tk) + 1302 * nA cs + 3
      omega
  · have r34 : q_rp P it = 3 ∨ q_rp P it = 4 := r34
    have hx : xs[K]? = some x := hx
    have em : m_try P it F Pl C tk fs cs = (3, some it, fs.length, Pl, C, tk, fs ++ [(3, it, 0, Pl, C, F, m_cl fs F)], cs) := by
      unfold m_try
      rw [if_neg (by omega)]
      rfl
    obtain ⟨w1, w2⟩ := sr_w hE (by decide) hm hCs hxW hwM hbF (by rw [em]; show ¬ (3 : Nat) = 10; decide)
    rw [em] at w1 w2 ⊢
    obtain ⟨d1, d2, d3, d4⟩ := bDk_F c1 hD
    have hX1 := bX_f (xs := xs) (cs := cs) (kp := kp) (S := tk) (a := [((3, it, 0, Pl, C, F, m_cl fs F) : mF)]) hfi
    have hD1 := bDk_x hX1 d4 (Nat.le_refl _) (Nat.le_refl _) hD
    have hcal : m_cl fs F = (xg xs K).2.2.2.2.2.2.2.1 := by
      have a1 := (c1.2 K x hx hk1).2
      have x7 : xg xs K = x := by unfold xg; rw [hx]; rfl
      have hk3 : ¬ x.1 = 3 := by
        rw [hkd]
        split <;> omega
      rw [x7, a1, if_neg hk3, Nat.zero_add]
      exact d2
    have hRn : bR (tx, n, P, ni, nr, ip, rp) (fs ++ [(3, it, 0, Pl, C, F, m_cl fs F)], xs, cs, kp, tk) (r + 1) fs.length K cs.length := by
      refine ⟨(3, it, 0, Pl, C, F, m_cl fs F), get_new, hcal, Or.inr ⟨hit, ?_⟩, Or.inr (Or.inr ⟨x, hx, hk1, hpr, Or.inr (Or.inr (Or.inr (Or.inr (Or.inr (Or.inl ⟨rfl, r34, hkd, hwh, hnm, hD1⟩)))))⟩)⟩
      show m_cl fs F = (if (3 : Nat) = 2 then 1 else 0) + m_cl (fs ++ [(3, it, 0, Pl, C, F, m_cl fs F)]) F
      rw [mcl_app d1, if_neg (by decide), Nat.zero_add]
    refine ⟨_, 0, by decide, fun f => rfl, ⟨rfl, rfl, hC, ⟨r + 1, mk_3 hit (Or.inr ⟨by show ¬ (q_rp P it = 0 ∨ q_rp P it = 2); omega, hRn, (3, it, 0, Pl, C, F, m_cl fs F), get_new, Or.inl rfl, rfl⟩)⟩, bCs_x hCs hX1 (Nat.le_refl _), hxW, w1, w2⟩, ?_, ?_⟩
    · show 2604 * (lim - tk) + 1302 * nA cs + 2 + 1 ≤ 2604 * (lim - tk) + 1302 * nA cs + 3
      omega
    · show 2604 * (lim - tk) + 1302 * nA cs + 2 + 0 ≤ 2604 * (lim - tk) + 1302 * nA cs + 3
      omega
end BV
