/-! the two machines: an ask -/
section BV
variable {tx : Nat → Nat} {n : Nat} {P : pg} {ni nr : Nat} {ip rp : Nat → Nat} {su : Nat → Nat} {Q sl lim : Nat}
variable {T F Pl tk : Nat} {N : Option Nat} {C : Nat → Nat} {fs : List mF} {cs : List mC}
variable {M A K : Nat} {C' : Nat → Nat} {xs : List xF} {bs : List xB} {kp : Nat → Nat → Nat} {m1 : mS}
theorem bX_s (hfi : fiO fs) {a : List mF} {b : List xF} {c : List mC} : bX (fs, xs, cs, kp, tk) (fs ++ a, xs ++ b, cs ++ c, kp, tk + 1) xs.length cs.length := by
  obtain ⟨h1, h2, h3, h4, h5, h6⟩ := bX_app (a := a) (b := b) (c := c) (xs := xs) (cs := cs) (kp := kp) (S := tk) hfi
  exact ⟨h1, h2, h3, Nat.le_succ _, h5, h6⟩
theorem bX_s0 (hfi : fiO fs) : bX (fs, xs, cs, kp, tk) (fs, xs, cs, kp, tk + 1) xs.length cs.length := ⟨fun _ _ h => h, hfi, fun _ _ => rfl, Nat.le_succ _, fun _ _ => rfl, fun _ _ => rfl⟩
theorem bX_sf (hfi : fiO fs) {a : List mF} {b : List xF} : bX (fs, xs, cs, kp, tk) (fs ++ a, xs ++ b, cs, kp, tk + 1) xs.length cs.length := by
  have := bX_s (c := []) (a := a) (b := b) (xs := xs) (cs := cs) (kp := kp) (tk := tk) hfi
  rw [List.append_nil] at this
  exact this
theorem bX_sg (hfi : fiO fs) {a : List mF} : bX (fs, xs, cs, kp, tk) (fs ++ a, xs, cs, kp, tk + 1) xs.length cs.length := by
  have := bX_sf (b := []) (a := a) (xs := xs) (cs := cs) (kp := kp) (tk := tk) hfi
  rw [List.append_nil] at this
  exact this
theorem bX_sk (hfi : fiO fs) {a : List mF} {b : List xF} {D : Nat → Nat} : bX (fs, xs, cs, kp, tk) (fs ++ a, xs ++ b, cs, fun s => if s = tk + 1 then D else kp s, tk + 1) xs.length cs.length := by
  obtain ⟨h1, h2, h3, h4, h5, h6⟩ := bX_sf (a := a) (b := b) (xs := xs) (cs := cs) (kp := kp) (tk := tk) hfi
  refine ⟨h1, h2, fun s hs => ?_, h4, h5, h6⟩
  have hs : s ≤ tk := hs
  show (if s = tk + 1 then D else kp s) = kp s
  rw [if_neg (by omega)]
theorem st_ask (hE : EV (tx, n, P, ni, nr, ip, rp) su Q sl lim) (h : SR (tx, n, P, ni, nr, ip, rp) Q sl lim (3, N, F, Pl, C, tk, fs, cs) (M, A, Pl, K, C', tk, xs, bs, kp)) (hm : m_turn P su sl lim (3, N, F, Pl, C, tk, fs, cs) m1) : sOK (tx, n, P, ni, nr, ip, rp) su Q sl lim (3, N, F, Pl, C, tk, fs, cs) (M, A, Pl, K, C', tk, xs, bs, kp) m1 ∨ fin (tx, n, P, ni, nr, ip, rp) su sl lim (M, A, Pl, K, C', tk, xs, bs, kp) m1 := by
  obtain ⟨-, -, hC, ⟨r, hT⟩, hCs, hxW, hwM, hbF⟩ := h
  have hE0 := hE
  obtain ⟨e1, e2, e3, e4, e5, e6, e7, e8⟩ := hE
  have e1 : ST tx n P ni nr ip rp := e1
  have e3 : n ≤ 32 := e3
  have hfi := sr_fi hwM
  obtain ⟨c1, c2, c3, c4, c5⟩ := sr_ch hxW
  have hlen : cs.length = bs.length := hCs.1
  obtain ⟨rfl, it, rfl, hit, rfl, hAk⟩ := bT_3 hT
  have hit : it < ni := hit
  have hask : m_ask P su sl lim it (some it) F Pl C tk fs cs m1 := hm.2.2.2.1 rfl it rfl
  obtain ⟨d1, d2, d3, d4⟩ := bAk_F c1 hAk
  by_cases hlt : tk < lim
  · left
    have hk := k_act (su := su) e2 e4 e5 hxW (by decide) (by intro w; omega) (by intro w; omega)
    have wk := wk_act (tx := tx) (n := n) (su := su) (sl := sl) (lim := lim) (x := (2, ip it, Pl, K, C', tk, xs, bs, kp)) (by show ¬ (2 : Nat) = 6; decide) (by intro w; have : (2 : Nat) = 5 := w.1; omega) (by intro w; have : tk = lim := w.2; omega)
    have ex0 : x_act tx n su sl (2, ip it, Pl, K, C', tk, xs, bs, kp) = x_atom tx n su sl (ip it) Pl K C' tk xs bs kp := rfl
    have hcin : cp_in sl C := hwM.2.2.2.2.2.2.1
    have hPl : Pl ≤ sl := hwM.2.2.2.2.2.1
    have hF12 := mcl_12 hwM d1
    have old : psi (tx, n, P, ni, nr, ip, rp) lim (3, some it, F, Pl, C, tk, fs, cs) (ip it) = 2604 * (lim - tk) + 1302 * nA cs + 2 := rfl
    have hsub : 2604 * (lim - tk) = 2604 * (lim - (tk + 1)) + 2604 := by omega
    by_cases hkd4 : q_kd P it < 4
    · obtain ⟨n40, hcase⟩ := ask_pl hE0 hit hPl hcin hC hkd4 hask hlt
      rcases hcase with ⟨p', hp1, rfl⟩ | ⟨hp1, rfl⟩
      · have ex : x_atom tx n su sl (ip it) Pl K C' tk xs bs kp = (5, 0, p', K, C', tk + 1, xs, bs, kp) := by
          unfold x_atom
          rw [if_neg n40, hp1]
        rw [ex0, ex] at hk wk
        obtain ⟨w1, w2⟩ := sr_w hE0 (by decide) hm hCs hxW hwM hbF (by simp)
        have hp := (pt_le (N := some it) (F := F) (fs := fs) (A := 0) (e := (tx, n, P, ni, nr, ip, rp)) (T := 4) e3 hF12 (by decide)).1
        have new : psi (tx, n, P, ni, nr, ip, rp) lim (4, some it, F, p', C, tk + 1, fs, cs) 0 = 2604 * (lim - (tk + 1)) + 1302 * nA cs + pt (tx, n, P, ni, nr, ip, rp) 4 (some it) F 0 fs := rfl
        refine ⟨_, 1, by decide, fun f => wk (f + 1), ⟨rfl, rfl, hC, ⟨r, mk_4 hit (bAk_x (bX_s0 hfi) d4 (Nat.le_refl _) (Nat.le_refl _) hAk)⟩, bCs_x hCs (bX_s0 hfi) (Nat.le_refl _), hk, w1, w2⟩, ?_, ?_⟩
        · rw [old]
          show psi (tx, n, P, ni, nr, ip, rp) lim (4, some it, F, p', C, tk + 1, fs, cs) 0 + 1 ≤ _
          rw [new]; omega
        · rw [old]
          show psi (tx, n, P, ni, nr, ip, rp) lim (4, some it, F, p', C, tk + 1, fs, cs) 0 + 1 ≤ _
          rw [new]; omega
      · have ex : x_atom tx n su sl (ip it) Pl K C' tk xs bs kp = (6, 0, Pl, K, C', tk + 1, xs, bs, kp) := by
          unfold x_atom
          rw [if_neg n40, hp1]
        rw [ex0, ex] at hk wk
        obtain ⟨w1, w2⟩ := sr_w hE0 (by decide) hm hCs hxW hwM hbF (by simp)
        have new : psi (tx, n, P, ni, nr, ip, rp) lim (7, some it, F, Pl, C, tk + 1, fs, cs) 0 = 2604 * (lim - (tk + 1)) + 1302 * nA cs + 1302 := rfl
        refine ⟨_, 1, by decide, fun f => wk (f + 1), ⟨rfl, rfl, hC, ⟨r, mk_7⟩, bCs_x hCs (bX_s0 hfi) (Nat.le_refl _), hk, w1, w2⟩, ?_, ?_⟩
        · rw [old]
          show psi (tx, n, P, ni, nr, ip, rp) lim (7, some it, F, Pl, C, tk + 1, fs, cs) 0 + 1 ≤ _
          rw [new]; omega
        · rw [old]
          show psi (tx, n, P, ni, nr, ip, rp) lim (7, some it, F, Pl, C, tk + 1, fs, cs) 0 + 1 ≤ _
          rw [new]; omega
    · have ex1 : x_act tx n su sl (2, ip it, Pl, K, C', tk, xs, bs, kp) = x_atom tx n su sl (ip it) Pl K C' tk xs bs kp := rfl
      obtain ⟨a1, a2, a3, a4, a5⟩ := e1.1 it hit
      obtain ⟨m0, m1', m2, m3, m4, m5⟩ := hask.2 hlt
      by_cases hkd : q_kd P it = 4
      · -- a call
        have hm1 := m4 hkd
        obtain ⟨k1, k2, k3, k4, k5⟩ := kv_k (tx := tx) (n := n) (A := ip it)
        have hkv : xt tx n (ip it) = 40 ∧ q_vl P it = nI (xt tx n (ip it + 2) - 48) ∧ xt tx n (ip it + 1) = 63 ∧ 48 ≤ xt tx n (ip it + 2) ∧ xt tx n (ip it + 2) ≤ 52 := by
          rcases a3 with ⟨_, _, q3, _⟩ | ⟨_, _, q3, _⟩ | ⟨e, b1, b2, b3, b4⟩
          · omega
          · omega
          · obtain ⟨h1, h2⟩ := k4 (by omega)
            unfold y_bp at b2
            rw [if_neg (by omega), if_neg (by omega), if_neg (by omega)] at b2
            split at b2
            · rename_i hc
              exact ⟨h1, by rw [b4, h2], hc.2.1, hc.2.2.1⟩
            · cases b2
        obtain ⟨v1, v2, v3, v4, v5⟩ := hkv
        have hxx : x_x tx n (ip it) = xt tx n (ip it + 2) := if_pos v3
        have hg : (q_vl P it).toNatClampNeg = xt tx n (ip it + 2) - 48 := by rw [v2]; exact nI_clamp (by omega)
        rw [hg] at hm1
        have ex : x_atom tx n su sl (ip it) Pl K C' tk xs bs kp = if 12 ≤ (xg xs K).2.2.2.2.2.2.2.1 then (6, 0, Pl, K, C', tk + 1, xs, bs, kp) else (1, x_co tx n (n + 1) (xt tx n (ip it + 2) - 48) 0, Pl, xs.length, C', tk + 1, xs ++ [x_mk tx n xs 3 0 (tk + 1) K Pl], bs, fun s => if s = tk + 1 then C' else kp s) := by
          unfold x_atom
          rw [if_pos v1]
          unfold x_open
          rw [hxx, if_neg (by omega), if_neg (by omega), if_neg (by omega), if_neg (by omega), if_neg (by omega)]
        rw [ex0, ex, ← d2] at hk wk
        subst hm1
        unfold m_call at hm ⊢
        by_cases h12 : m_cl fs F < 12
        · rw [if_neg (by omega)] at hk wk
          rw [if_pos h12] at hm ⊢
          obtain ⟨w1, w2⟩ := sr_w hE0 (by decide) hm hCs hxW hwM hbF (by simp)
          have epush : m_push fs F 2 it 0 Pl C = fs ++ [(2, it, 0, Pl, C, F, m_cl fs F + 1)] := rfl
          rw [epush] at w1 w2 ⊢
          have hnm : xt tx n (ip it + 2) - 48 ≤ x_gc tx n n := by
            have := e1.2.2.2 (ip it) a1
            unfold x_nm at this
            rw [if_pos v1, if_pos ⟨v3, v4, v5⟩] at this
            exact this
          have hgb : q_gb P (xt tx n (ip it + 2) - 48) < nr ∧ rp (q_gb P (xt tx n (ip it + 2) - 48)) = x_co tx n (n + 1) (xt tx n (ip it + 2) - 48) 0 := by
            by_cases hz : xt tx n (ip it + 2) - 48 = 0
            · rw [hz]
              obtain ⟨⟨z1, z2, z3⟩, _⟩ := e1.2.2.1
              rw [z1, z2]
              refine ⟨z3, ?_⟩
              show 0 = (if n ≤ 0 then 0 else if (0 : Nat) = 0 then 0 else _)
              split <;> rfl
            · exact e1.2.2.1.2 _ (by omega) hnm
          have hX := bX_sk (a := [((2, it, 0, Pl, C, F, m_cl fs F + 1) : mF)]) (b := [x_mk tx n xs 3 0 (tk + 1) K Pl]) (D := C') (xs := xs) (cs := cs) (kp := kp) (tk := tk) hfi
          have hl : (xs ++ [x_mk tx n xs 3 0 (tk + 1) K Pl]).length = xs.length + 1 := by rw [List.length_append]; rfl
          have hA1 := bAk_x hX d4 (Nat.le_refl _) (Nat.le_refl _) hAk
          have hcal : (xg (xs ++ [x_mk tx n xs 3 0 (tk + 1) K Pl]) xs.length).2.2.2.2.2.2.2.1 = m_cl fs F + 1 := by
            rw [xg_new]
            show (if (3 : Nat) = 3 then 1 else 0) + (xg xs K).2.2.2.2.2.2.2.1 = _
            rw [if_pos rfl, d2]
            omega
          have hRn : bR (tx, n, P, ni, nr, ip, rp) (fs ++ [(2, it, 0, Pl, C, F, m_cl fs F + 1)], xs ++ [x_mk tx n xs 3 0 (tk + 1) K Pl], cs, (fun s => if s = tk + 1 then C' else kp s), tk + 1) (r + 1) fs.length xs.length cs.length := by
            refine ⟨(2, it, 0, Pl, C, F, m_cl fs F + 1), get_new, hcal.symm, Or.inr ⟨hit, ?_⟩, Or.inr (Or.inr ⟨x_mk tx n xs 3 0 (tk + 1) K Pl, get_new, by omega, d4, Or.inr (Or.inr (Or.inr (Or.inr (Or.inl ⟨rfl, rfl, Nat.le_refl _, ?_, hA1⟩))))⟩)⟩
            · show m_cl fs F + 1 = (if (2 : Nat) = 2 then 1 else 0) + m_cl (fs ++ [(2, it, 0, Pl, C, F, m_cl fs F + 1)]) F
              rw [mcl_app d1, if_pos rfl]
              omega
            · show cE C (if tk + 1 = tk + 1 then C' else kp (tk + 1))
              rw [if_pos rfl]
              exact hC
          rw [← hgb.2] at hk wk
          have hmc : m_cl (fs ++ [(2, it, 0, Pl, C, F, m_cl fs F + 1)]) fs.length = m_cl fs F + 1 := mcl_eq get_new
          have hp := (pt_le (N := some (q_gb P (xt tx n (ip it + 2) - 48))) (F := fs.length) (fs := fs ++ [(2, it, 0, Pl, C, F, m_cl fs F + 1)]) (A := rp (q_gb P (xt tx n (ip it + 2) - 48))) (e := (tx, n, P, ni, nr, ip, rp)) (T := 0) e3 (by omega) (by decide)).1
          have new : psi (tx, n, P, ni, nr, ip, rp) lim (0, some (q_gb P (xt tx n (ip it + 2) - 48)), fs.length, Pl, C, tk + 1, fs ++ [(2, it, 0, Pl, C, F, m_cl fs F + 1)], cs) (rp (q_gb P (xt tx n (ip it + 2) - 48))) = 2604 * (lim - (tk + 1)) + 1302 * nA cs + pt (tx, n, P, ni, nr, ip, rp) 0 (some (q_gb P (xt tx n (ip it + 2) - 48))) fs.length (rp (q_gb P (xt tx n (ip it + 2) - 48))) (fs ++ [(2, it, 0, Pl, C, F, m_cl fs F + 1)]) := rfl
          refine ⟨_, 1, by decide, fun f => wk (f + 1), ⟨rfl, rfl, hC, ⟨r + 1, mk_0 hgb.1 ⟨hRn, (2, it, 0, Pl, C, F, m_cl fs F + 1), get_new, Nat.le_refl _, fun w => absurd w (show ¬ (2 : Nat) = 1 by decide)⟩⟩, bCs_x hCs hX (by omega), hk, w1, w2⟩, ?_, ?_⟩
          · rw [old]
            show psi (tx, n, P, ni, nr, ip, rp) lim (0, some (q_gb P (xt tx n (ip it + 2) - 48)), fs.length, Pl, C, tk + 1, fs ++ [(2, it, 0, Pl, C, F, m_cl fs F + 1)], cs) (rp (q_gb P (xt tx n (ip it + 2) - 48))) + 1 ≤ _
            rw [new]; omega
          · rw [old]
            show psi (tx, n, P, ni, nr, ip, rp) lim (0, some (q_gb P (xt tx n (ip it + 2) - 48)), fs.length, Pl, C, tk + 1, fs ++ [(2, it, 0, Pl, C, F, m_cl fs F + 1)], cs) (rp (q_gb P (xt tx n (ip it + 2) - 48))) + 1 ≤ _
            rw [new]; omega
        · rw [if_pos (by omega)] at hk wk
          rw [if_neg h12] at hm ⊢
          obtain ⟨w1, w2⟩ := sr_w hE0 (by decide) hm hCs hxW hwM hbF (by simp)
          have new : psi (tx, n, P, ni, nr, ip, rp) lim (7, some it, F, Pl, C, tk + 1, fs, cs) 0 = 2604 * (lim - (tk + 1)) + 1302 * nA cs + 1302 := rfl
          refine ⟨_, 1, by decide, fun f => wk (f + 1), ⟨rfl, rfl, hC, ⟨r, mk_7⟩, bCs_x hCs (bX_s0 hfi) (Nat.le_refl _), hk, w1, w2⟩, ?_, ?_⟩
          · rw [old]
            show psi (tx, n, P, ni, nr, ip, rp) lim (7, some it, F, Pl, C, tk + 1, fs, cs) 0 + 1 ≤ _
            rw [new]; omega
          · rw [old]
            show psi (tx, n, P, ni, nr, ip, rp) lim (7, some it, F, Pl, C, tk + 1, fs, cs) 0 + 1 ≤ _
            rw [new]; omega
      · -- a body
        have hm1 := m5 (by omega)
        subst hm1
        obtain ⟨h40, _⟩ := kd_5 e1 hit (by omega)
        have ex : x_atom tx n su sl (ip it) Pl K C' tk xs bs kp = x_open tx n (ip it) Pl K C' (tk + 1) xs bs kp := if_pos h40
        rw [ex0, ex] at hk wk
        have h10 : ¬ (m_body P it F Pl C (tk + 1) fs cs).1 = 10 := by unfold m_body; simp
        obtain ⟨w1, w2⟩ := sr_w hE0 (by decide) hm hCs hxW hwM hbF h10
        -- the frame of the class
        have epush : m_push fs F 1 it cs.length Pl C = fs ++ [(1, it, cs.length, Pl, C, F, m_cl fs F)] := rfl
        unfold m_body at w1 w2 ⊢
        rw [epush] at w1 w2 ⊢
        have hmc : m_cl (fs ++ [(1, it, cs.length, Pl, C, F, m_cl fs F)]) fs.length = m_cl fs F := mcl_eq get_new
        have hown : ∀ {xs' : List xF} {K' : Nat}, (xg xs' K').2.2.2.2.2.2.2.1 = m_cl fs F → m_cl fs F = (xg xs' K').2.2.2.2.2.2.2.1 := fun w => w.symm
        have hmo : m_cl fs F = (if (1 : Nat) = 2 then 1 else 0) + m_cl (fs ++ [(1, it, cs.length, Pl, C, F, m_cl fs F)]) F := by
          rw [mcl_app d1, if_neg (by decide), Nat.zero_add]
        have hnew : ∀ (kd wh nm : Nat), ¬ kd = 3 → (xg (xs ++ [x_mk tx n xs kd wh nm K Pl]) xs.length).2.2.2.2.2.2.2.1 = m_cl fs F := by
          intro kd wh nm h3
          rw [xg_new]
          show (if kd = 3 then 1 else 0) + (xg xs K).2.2.2.2.2.2.2.1 = _
          rw [if_neg h3, Nat.zero_add, d2]
        have hpt : ∀ (N' : Option Nat) (A' : Nat), pt (tx, n, P, ni, nr, ip, rp) 0 N' fs.length A' (fs ++ [(1, it, cs.length, Pl, C, F, m_cl fs F)]) ≤ 1301 := fun N' A' => (pt_le (N := N') (F := fs.length) (A := A') (e := (tx, n, P, ni, nr, ip, rp)) (T := 0) e3 (by omega) (by decide)).2 (by decide)
        have hsk : xt tx n (ip it + 1) = 63 → (xt tx n (ip it + 2) = 33 ∨ xt tx n (ip it + 2) = 58 ∨ xt tx n (ip it + 2) = 61 ∨ xt tx n (ip it + 2) = 62) → x_cl tx n n 1 (ip it + 3) = x_cl tx n n 1 (ip it + 1) := by
          intro q1 q2
          have i1 := (x_in q1 (by decide)).1
          have i2 : ip it + 2 < n := by
            rcases q2 with w | w | w | w
            · exact (x_in w (by decide)).1
            · exact (x_in w (by decide)).1
            · exact (x_in w (by decide)).1
            · exact (x_in w (by decide)).1
          exact (cl_skip (by omega) (fun q z1 z2 => by
            rcases (by omega : q = ip it + 1 ∨ q = ip it + 2) with e | e
            · rw [e]; omega
            · rw [e]; omega)).symm
        rcases a3 with ⟨_, q2, q3, q4, r0, q5, q6, q7⟩ | ⟨_, q2, q3, r0, q5, q6, q7⟩ | ⟨e, b1, b2, b3, b4⟩
        · -- a group
          have hxx : x_x tx n (ip it) = 0 := if_neg q2
          have eo : x_open tx n (ip it) Pl K C' (tk + 1) xs bs kp = (1, rp r0, Pl, xs.length, C', tk + 1, xs ++ [x_mk tx n xs 2 (x_gc tx n (ip it + 1)) Pl K Pl], bs, kp) := by
            unfold x_open
            rw [if_pos hxx, q7]
          rw [eo] at hk wk
          rw [q5, if_neg (by omega)] at w1 w2 ⊢
          have hX := bX_sf (a := [((1, it, cs.length, Pl, C, F, m_cl fs F) : mF)]) (b := [x_mk tx n xs 2 (x_gc tx n (ip it + 1)) Pl K Pl]) (xs := xs) (cs := cs) (kp := kp) (tk := tk) hfi
          have hl : (xs ++ [x_mk tx n xs 2 (x_gc tx n (ip it + 1)) Pl K Pl]).length = xs.length + 1 := by rw [List.length_append]; rfl
          have hRn : bR (tx, n, P, ni, nr, ip, rp) (fs ++ [(1, it, cs.length, Pl, C, F, m_cl fs F)], xs ++ [x_mk tx n xs 2 (x_gc tx n (ip it + 1)) Pl K Pl], cs, kp, tk + 1) (r + 1) fs.length xs.length cs.length := ⟨(1, it, cs.length, Pl, C, F, m_cl fs F), get_new, (hnew 2 _ _ (by decide)).symm, Or.inr ⟨hit, hmo⟩, Or.inr (Or.inr ⟨x_mk tx n xs 2 (x_gc tx n (ip it + 1)) Pl K Pl, get_new, by omega, d4, Or.inl ⟨rfl, q3, rfl, rfl, rfl, bAk_x hX d4 (Nat.le_refl _) (Nat.le_refl _) hAk⟩⟩)⟩
          have hp := hpt (some r0) (rp r0)
          have new : psi (tx, n, P, ni, nr, ip, rp) lim (0, some r0, fs.length, Pl, C, tk + 1, fs ++ [(1, it, cs.length, Pl, C, F, m_cl fs F)], cs) (rp r0) = 2604 * (lim - (tk + 1)) + 1302 * nA cs + pt (tx, n, P, ni, nr, ip, rp) 0 (some r0) fs.length (rp r0) (fs ++ [(1, it, cs.length, Pl, C, F, m_cl fs F)]) := rfl
          refine ⟨_, 1, by decide, fun f => wk (f + 1), ⟨rfl, rfl, hC, ⟨r + 1, mk_0 q6 ⟨hRn, (1, it, cs.length, Pl, C, F, m_cl fs F), get_new, (show (1 : Nat) ≤ 2 by decide), fun _ => by show x_cl tx n n 1 (rp r0) = x_cl tx n n 1 (ip it + 1); rw [q7]⟩⟩, bCs_x hCs hX (by omega), hk, w1, w2⟩, ?_, ?_⟩
          · rw [old]
            show psi (tx, n, P, ni, nr, ip, rp) lim (0, some r0, fs.length, Pl, C, tk + 1, fs ++ [(1, it, cs.length, Pl, C, F, m_cl fs F)], cs) (rp r0) + 1 ≤ _
            rw [new]; omega
          · rw [old]
            show psi (tx, n, P, ni, nr, ip, rp) lim (0, some r0, fs.length, Pl, C, tk + 1, fs ++ [(1, it, cs.length, Pl, C, F, m_cl fs F)], cs) (rp r0) + 1 ≤ _
            rw [new]; omega
        · have hxx : x_x tx n (ip it) = xt tx n (ip it + 2) := if_pos q2
          have hclo : x_cl tx n n 1 (rp r0) = x_cl tx n n 1 (ip it + 1) := by
            rw [q7]
            exact hsk q2 (by omega)
          rcases q3 with ⟨k8, c33⟩ | ⟨k6, c58⟩ | ⟨k7, c61⟩ | ⟨k9, c62⟩
          · -- "(?!"
            have eo : x_open tx n (ip it) Pl K C' (tk + 1) xs bs kp = (1, rp r0, Pl, xs.length, C', tk + 1, xs ++ [x_mk tx n xs 9 0 bs.length K Pl], bs ++ [(5, 0, Pl, K, xs.length, C')], kp) := by
              unfold x_open
              rw [hxx, c33, if_neg (by decide), if_neg (by decide), if_neg (by decide), if_neg (by decide), if_pos rfl, q7]
            rw [eo] at hk wk
            rw [q5, if_pos k8] at w1 w2 ⊢
            have hX := bX_s (a := [((1, it, cs.length, Pl, C, F, m_cl fs F) : mF)]) (b := [x_mk tx n xs 9 0 bs.length K Pl]) (c := [((4, it, Pl, C, F) : mC)]) (xs := xs) (cs := cs) (kp := kp) (tk := tk) hfi
            have hX1 := bX_sf (a := [((1, it, cs.length, Pl, C, F, m_cl fs F) : mF)]) (b := [x_mk tx n xs 9 0 bs.length K Pl]) (xs := xs) (cs := cs) (kp := kp) (tk := tk) hfi
            have hl : (xs ++ [x_mk tx n xs 9 0 bs.length K Pl]).length = xs.length + 1 := by rw [List.length_append]; rfl
            have hlc : (cs ++ [((4, it, Pl, C, F) : mC)]).length = cs.length + 1 := by rw [List.length_append]; rfl
            have hRn : bR (tx, n, P, ni, nr, ip, rp) (fs ++ [(1, it, cs.length, Pl, C, F, m_cl fs F)], xs ++ [x_mk tx n xs 9 0 bs.length K Pl], cs ++ [(4, it, Pl, C, F)], kp, tk + 1) (r + 1) fs.length xs.length (cs ++ [((4, it, Pl, C, F) : mC)]).length := ⟨(1, it, cs.length, Pl, C, F, m_cl fs F), get_new, (hnew 9 _ _ (by decide)).symm, Or.inr ⟨hit, hmo⟩, Or.inr (Or.inr ⟨x_mk tx n xs 9 0 bs.length K Pl, get_new, by omega, d4, Or.inr (Or.inr (Or.inr (Or.inl ⟨rfl, k8, rfl, hlen.symm, by show cs.length < _; omega, (4, it, Pl, C, F), get_new, rfl⟩)))⟩)⟩
            have hfi2 : fiO (fs ++ [(1, it, cs.length, Pl, C, F, m_cl fs F)]) := fiO_push hfi d1
            have hp := hpt (some r0) (rp r0)
            have new : psi (tx, n, P, ni, nr, ip, rp) lim (0, some r0, fs.length, Pl, C, tk + 1, fs ++ [(1, it, cs.length, Pl, C, F, m_cl fs F)], cs ++ [(4, it, Pl, C, F)]) (rp r0) = 2604 * (lim - (tk + 1)) + 1302 * nA (cs ++ [(4, it, Pl, C, F)]) + pt (tx, n, P, ni, nr, ip, rp) 0 (some r0) fs.length (rp r0) (fs ++ [(1, it, cs.length, Pl, C, F, m_cl fs F)]) := rfl
            have hA4 : nA (cs ++ [((4, it, Pl, C, F) : mC)]) = nA cs + 1 := nA_4 rfl
            refine ⟨_, 1, by decide, fun f => wk (f + 1), ⟨rfl, rfl, hC, ⟨r + 1, mk_0 q6 ⟨hRn, (1, it, cs.length, Pl, C, F, m_cl fs F), get_new, (show (1 : Nat) ≤ 2 by decide), fun _ => hclo⟩⟩, bCs_push (bCs_x hCs hX1 (by omega)) hfi2 hl.symm ⟨rfl, hC, by show K < xs.length + 1; omega, Or.inr (Or.inr (Or.inl rfl)), r, mk_4 hit (bAk_x hX d4 (Nat.le_refl _) (Nat.le_refl _) hAk)⟩, hk, w1, w2⟩, ?_, ?_⟩
            · rw [old]
              show psi (tx, n, P, ni, nr, ip, rp) lim (0, some r0, fs.length, Pl, C, tk + 1, fs ++ [(1, it, cs.length, Pl, C, F, m_cl fs F)], cs ++ [(4, it, Pl, C, F)]) (rp r0) + 1 ≤ _
              rw [new, hA4]; omega
            · rw [old]
              show psi (tx, n, P, ni, nr, ip, rp) lim (0, some r0, fs.length, Pl, C, tk + 1, fs ++ [(1, it, cs.length, Pl, C, F, m_cl fs F)], cs ++ [(4, it, Pl, C, F)]) (rp r0) + 1 ≤ _
              rw [new, hA4]; omega
          · -- "(?:"
            have eo : x_open tx n (ip it) Pl K C' (tk + 1) xs bs kp = (1, rp r0, Pl, K, C', tk + 1, xs, bs, kp) := by
              unfold x_open
              rw [hxx, c58, if_neg (by decide), if_pos rfl, q7]
            rw [eo] at hk wk
            rw [q5, if_neg (by omega)] at w1 w2 ⊢
            have hX := bX_sg (a := [((1, it, cs.length, Pl, C, F, m_cl fs F) : mF)]) (xs := xs) (cs := cs) (kp := kp) (tk := tk) hfi
            have hRn : bR (tx, n, P, ni, nr, ip, rp) (fs ++ [(1, it, cs.length, Pl, C, F, m_cl fs F)], xs, cs, kp, tk + 1) (r + 1) fs.length K cs.length := ⟨(1, it, cs.length, Pl, C, F, m_cl fs F), get_new, d2, Or.inr ⟨hit, hmo⟩, Or.inr (Or.inl ⟨rfl, k6, bAk_x hX d4 (Nat.le_refl _) (Nat.le_refl _) hAk⟩)⟩
            have hp := hpt (some r0) (rp r0)
            have new : psi (tx, n, P, ni, nr, ip, rp) lim (0, some r0, fs.length, Pl, C, tk + 1, fs ++ [(1, it, cs.length, Pl, C, F, m_cl fs F)], cs) (rp r0) = 2604 * (lim - (tk + 1)) + 1302 * nA cs + pt (tx, n, P, ni, nr, ip, rp) 0 (some r0) fs.length (rp r0) (fs ++ [(1, it, cs.length, Pl, C, F, m_cl fs F)]) := rfl
            refine ⟨_, 1, by decide, fun f => wk (f + 1), ⟨rfl, rfl, hC, ⟨r + 1, mk_0 q6 ⟨hRn, (1, it, cs.length, Pl, C, F, m_cl fs F), get_new, (show (1 : Nat) ≤ 2 by decide), fun _ => hclo⟩⟩, bCs_x hCs hX (Nat.le_refl _), hk, w1, w2⟩, ?_, ?_⟩
            · rw [old]
              show psi (tx, n, P, ni, nr, ip, rp) lim (0, some r0, fs.length, Pl, C, tk + 1, fs ++ [(1, it, cs.length, Pl, C, F, m_cl fs F)], cs) (rp r0) + 1 ≤ _
              rw [new]; omega
            · rw [old]
              show psi (tx, n, P, ni, nr, ip, rp) lim (0, some r0, fs.length, Pl, C, tk + 1, fs ++ [(1, it, cs.length, Pl, C, F, m_cl fs F)], cs) (rp r0) + 1 ≤ _
              rw [new]; omega
          · -- "(?="
            have eo : x_open tx n (ip it) Pl K C' (tk + 1) xs bs kp = (1, rp r0, Pl, xs.length, C', tk + 1, xs ++ [x_mk tx n xs 8 Pl bs.length K Pl], bs, kp) := by
              unfold x_open
              rw [hxx, c61, if_neg (by decide), if_neg (by decide), if_neg (by decide), if_pos rfl, q7]
            rw [eo] at hk wk
            rw [q5, if_neg (by omega)] at w1 w2 ⊢
            have hX := bX_sf (a := [((1, it, cs.length, Pl, C, F, m_cl fs F) : mF)]) (b := [x_mk tx n xs 8 Pl bs.length K Pl]) (xs := xs) (cs := cs) (kp := kp) (tk := tk) hfi
            have hl : (xs ++ [x_mk tx n xs 8 Pl bs.length K Pl]).length = xs.length + 1 := by rw [List.length_append]; rfl
            have hRn : bR (tx, n, P, ni, nr, ip, rp) (fs ++ [(1, it, cs.length, Pl, C, F, m_cl fs F)], xs ++ [x_mk tx n xs 8 Pl bs.length K Pl], cs, kp, tk + 1) (r + 1) fs.length xs.length cs.length := ⟨(1, it, cs.length, Pl, C, F, m_cl fs F), get_new, (hnew 8 _ _ (by decide)).symm, Or.inr ⟨hit, hmo⟩, Or.inr (Or.inr ⟨x_mk tx n xs 8 Pl bs.length K Pl, get_new, by omega, d4, Or.inr (Or.inr (Or.inl ⟨rfl, k7, rfl, rfl, hlen.symm, Nat.le_refl _, bAk_x hX d4 (Nat.le_refl _) (Nat.le_refl _) hAk⟩))⟩)⟩
            have hp := hpt (some r0) (rp r0)
            have new : psi (tx, n, P, ni, nr, ip, rp) lim (0, some r0, fs.length, Pl, C, tk + 1, fs ++ [(1, it, cs.length, Pl, C, F, m_cl fs F)], cs) (rp r0) = 2604 * (lim - (tk + 1)) + 1302 * nA cs + pt (tx, n, P, ni, nr, ip, rp) 0 (some r0) fs.length (rp r0) (fs ++ [(1, it, cs.length, Pl, C, F, m_cl fs F)]) := rfl
            refine ⟨_, 1, by decide, fun f => wk (f + 1), ⟨rfl, rfl, hC, ⟨r + 1, mk_0 q6 ⟨hRn, (1, it, cs.length, Pl, C, F, m_cl fs F), get_new, (show (1 : Nat) ≤ 2 by decide), fun _ => hclo⟩⟩, bCs_x hCs hX (by omega), hk, w1, w2⟩, ?_, ?_⟩
            · rw [old]
              show psi (tx, n, P, ni, nr, ip, rp) lim (0, some r0, fs.length, Pl, C, tk + 1, fs ++ [(1, it, cs.length, Pl, C, F, m_cl fs F)], cs) (rp r0) + 1 ≤ _
              rw [new]; omega
            · rw [old]
              show psi (tx, n, P, ni, nr, ip, rp) lim (0, some r0, fs.length, Pl, C, tk + 1, fs ++ [(1, it, cs.length, Pl, C, F, m_cl fs F)], cs) (rp r0) + 1 ≤ _
              rw [new]; omega
          · -- "(?>"
            have eo : x_open tx n (ip it) Pl K C' (tk + 1) xs bs kp = (1, rp r0, Pl, xs.length, C', tk + 1, xs ++ [x_mk tx n xs 7 0 bs.length K Pl], bs, kp) := by
              unfold x_open
              rw [hxx, c62, if_neg (by decide), if_neg (by decide), if_pos rfl, q7]
            rw [eo] at hk wk
            rw [q5, if_neg (by omega)] at w1 w2 ⊢
            have hX := bX_sf (a := [((1, it, cs.length, Pl, C, F, m_cl fs F) : mF)]) (b := [x_mk tx n xs 7 0 bs.length K Pl]) (xs := xs) (cs := cs) (kp := kp) (tk := tk) hfi
            have hl : (xs ++ [x_mk tx n xs 7 0 bs.length K Pl]).length = xs.length + 1 := by rw [List.length_append]; rfl
            have hRn : bR (tx, n, P, ni, nr, ip, rp) (fs ++ [(1, it, cs.length, Pl, C, F, m_cl fs F)], xs ++ [x_mk tx n xs 7 0 bs.length K Pl], cs, kp, tk + 1) (r + 1) fs.length xs.length cs.length := ⟨(1, it, cs.length, Pl, C, F, m_cl fs F), get_new, (hnew 7 _ _ (by decide)).symm, Or.inr ⟨hit, hmo⟩, Or.inr (Or.inr ⟨x_mk tx n xs 7 0 bs.length K Pl, get_new, by omega, d4, Or.inr (Or.inl ⟨rfl, k9, rfl, hlen.symm, Nat.le_refl _, bAk_x hX d4 (Nat.le_refl _) (Nat.le_refl _) hAk⟩)⟩)⟩
            have hp := hpt (some r0) (rp r0)
            have new : psi (tx, n, P, ni, nr, ip, rp) lim (0, some r0, fs.length, Pl, C, tk + 1, fs ++ [(1, it, cs.length, Pl, C, F, m_cl fs F)], cs) (rp r0) = 2604 * (lim - (tk + 1)) + 1302 * nA cs + pt (tx, n, P, ni, nr, ip, rp) 0 (some r0) fs.length (rp r0) (fs ++ [(1, it, cs.length, Pl, C, F, m_cl fs F)]) := rfl
            refine ⟨_, 1, by decide, fun f => wk (f + 1), ⟨rfl, rfl, hC, ⟨r + 1, mk_0 q6 ⟨hRn, (1, it, cs.length, Pl, C, F, m_cl fs F), get_new, (show (1 : Nat) ≤ 2 by decide), fun _ => hclo⟩⟩, bCs_x hCs hX (by omega), hk, w1, w2⟩, ?_, ?_⟩
            · rw [old]
              show psi (tx, n, P, ni, nr, ip, rp) lim (0, some r0, fs.length, Pl, C, tk + 1, fs ++ [(1, it, cs.length, Pl, C, F, m_cl fs F)], cs) (rp r0) + 1 ≤ _
              rw [new]; omega
            · rw [old]
              show psi (tx, n, P, ni, nr, ip, rp) lim (0, some r0, fs.length, Pl, C, tk + 1, fs ++ [(1, it, cs.length, Pl, C, F, m_cl fs F)], cs) (rp r0) + 1 ≤ _
              rw [new]; omega
        · exfalso
          have := (kv_k (tx := tx) (n := n) (A := ip it)).2.2.2.2
          omega
  · right
    have hm1 : m1 = (10, some it, F, Pl, C, tk, fs, cs) := hask.1 hlt
    subst hm1
    exact ⟨rfl, Or.inr (Or.inr ⟨rfl, fun f => wk_stop ⟨rfl, by show tk = lim; omega⟩ f⟩)⟩
end BV
