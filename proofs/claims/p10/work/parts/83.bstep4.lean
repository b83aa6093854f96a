/-! the two machines: behind atoms and items; frames that end -/
section BV
variable {tx : Nat → Nat} {n : Nat} {P : pg} {ni nr : Nat} {ip rp : Nat → Nat} {su : Nat → Nat} {Q sl lim : Nat}
variable {T F Pl tk : Nat} {N : Option Nat} {C : Nat → Nat} {fs : List mF} {cs : List mC}
variable {M A K : Nat} {C' : Nat → Nat} {xs : List xF} {bs : List xB} {kp : Nat → Nat → Nat} {m1 : mS}
theorem xg_at {x : xF} (h : xs[K]? = some x) : xg xs K = x := by
  unfold xg
  rw [h]
  rfl
/-- one frame of the reference -/
theorem carry_ok (hE : EV (tx, n, P, ni, nr, ip, rp) su Q sl lim) (hxW : xW tx n Q sl lim (5, A, Pl, K, C', tk, xs, bs, kp)) {x : xF} (hx : xs[K]? = some x) (hk : 1 ≤ K) : (∀ f, x_wk tx n su sl lim (f + 1) (5, A, Pl, K, C', tk, xs, bs, kp) = x_wk tx n su sl lim f (x_carry tx n x Pl C' tk xs bs kp)) ∧ xW tx n Q sl lim (x_carry tx n x Pl C' tk xs bs kp) := by
  obtain ⟨e1, e2, e3, e4, e5, e6, e7, e8⟩ := hE
  refine ⟨fun f => ?_, k_carry e2 e4 hxW hx hk⟩
  rw [wk_act (by show ¬ (5 : Nat) = 6; decide) (by intro w; have : K = 0 := w.2; omega) (by intro w; have : (5 : Nat) = 2 := w.1; omega)]
  show x_wk tx n su sl lim f (x_carry tx n (xg xs K) Pl C' tk xs bs kp) = _
  rw [xg_at hx]
theorem ai_ok (hE : EV (tx, n, P, ni, nr, ip, rp) su Q sl lim) {it r : Nat} (hit : it < ni) (hC : cE C C') (hCs : bCs (tx, n, P, ni, nr, ip, rp) (fs, xs, cs, kp, tk) bs) (hD : bDk (tx, n, P, ni, nr, ip, rp) (fs, xs, cs, kp, tk) r it F K cs.length) (hxW : xW tx n Q sl lim (5, A, Pl, K, C', tk, xs, bs, kp)) : ∃ x1 c, c ≤ 1 ∧ (∀ f, x_wk tx n su sl lim (f + 1 + c) (5, A, Pl, K, C', tk, xs, bs, kp) = x_wk tx n su sl lim (f + 1) x1) ∧ (wM P ni nr sl lim (m_ai P it N F Pl C tk fs cs) → b_F (m_ai P it N F Pl C tk fs cs) → SR (tx, n, P, ni, nr, ip, rp) Q sl lim (m_ai P it N F Pl C tk fs cs) x1) ∧ psi (tx, n, P, ni, nr, ip, rp) lim (m_ai P it N F Pl C tk fs cs) x1.2.1 ≤ 2604 * (lim - tk) + 1302 * nA cs + (3 * (n - x_ba tx n (ip it)) + (if q_rp P it = 0 then 4 else 1) + 100 * m_cl fs F) := by
  have hE0 := hE
  obtain ⟨e1, e2, e3, e4, e5, e6, e7, e8⟩ := hE
  have e1 : ST tx n P ni nr ip rp := e1
  have hF : itF tx n P (ip it) it := it_f e1 hit
  obtain ⟨⟨f1, f2, f3, f4, f5⟩, ⟨g0, g1, g2, g3, g4, g5⟩, ⟨m1', m2', m3'⟩, n1, n2, n3, n4⟩ := hF
  rcases hD with ⟨mn2, hR, y, hy, hy6, hyi⟩ | ⟨mn2, x, hx, hx1, hxw, hxp, hRw⟩
  · have mn2 : q_mn P it = 2 := mn2
    have hy : fs[F]? = some y := hy
    have em : m_ai P it N F Pl C tk fs cs = (6, N, F, Pl, C, tk, fs, cs) := if_pos mn2
    rw [em]
    refine ⟨_, 0, by decide, fun f => rfl, fun w1 w2 => ⟨rfl, rfl, hC, ⟨r, mk_6 hR⟩, hCs, hxW, w1, w2⟩, ?_⟩
    have hg : (fs[F]?).getD f0 = y := by rw [hy]; rfl
    show 2604 * (lim - tk) + 1302 * nA cs + ptR (tx, n, P, ni, nr, ip, rp) ((fs[F]?).getD f0) ≤ _
    rw [hg, mcl_eq hy]
    have hp : ptR (tx, n, P, ni, nr, ip, rp) y = 3 * (n - x_ba tx n (ip it)) + 1 + 100 * y.2.2.2.2.2.2 := by
      unfold ptR
      rw [if_neg (by omega), if_neg (by omega), if_neg (by omega), if_pos hy6, hyi]
    rw [hp]
    split <;> omega
  · have mn2 : ¬ q_mn P it = 2 := mn2
    have em : m_ai P it N F Pl C tk fs cs = (1, q_nx P it, F, Pl, C, tk, fs, cs) := if_neg mn2
    obtain ⟨y1, y2⟩ := carry_ok hE0 hxW hx (by omega)
    have ec : x_carry tx n x Pl C' tk xs bs kp = (0, x.2.1, Pl, x.2.2.2.1, C', tk, xs, bs, kp) := if_pos hx1
    have hxw : x.2.1 = x_bh tx n (ip it) := hxw
    rw [ec, hxw] at y1 y2
    rw [em]
    refine ⟨_, 1, by decide, fun f => y1 (f + 1), fun w1 w2 => ⟨rfl, rfl, hC, ⟨r, mk_1 (it_nx e1 hit) hRw⟩, hCs, y2, w1, w2⟩, ?_⟩
    show 2604 * (lim - tk) + 1302 * nA cs + (3 * (n - x_bh tx n (ip it)) + 4 + 100 * m_cl fs F) ≤ _
    by_cases r0 : q_rp P it = 0
    · rw [if_pos r0]
      omega
    · rw [if_neg r0]
      have := n1 (Classical.not_not.mp (fun w => r0 (g0.mpr w)))
      omega
theorem st_done (hE : EV (tx, n, P, ni, nr, ip, rp) su Q sl lim) (h : SR (tx, n, P, ni, nr, ip, rp) Q sl lim (5, N, F, Pl, C, tk, fs, cs) (M, A, Pl, K, C', tk, xs, bs, kp)) (hm : m_turn P su sl lim (5, N, F, Pl, C, tk, fs, cs) m1) : sOK (tx, n, P, ni, nr, ip, rp) su Q sl lim (5, N, F, Pl, C, tk, fs, cs) (M, A, Pl, K, C', tk, xs, bs, kp) m1 := by
  obtain ⟨-, -, hC, ⟨r, hT⟩, hCs, hxW, hwM, hbF⟩ := h
  obtain ⟨rfl, it, rfl, hit, hr0, hD⟩ := bT_5 hT
  have hr0 : ¬ q_rp P it = 0 := hr0
  have hm1 : m1 = m_ai P it (some it) F Pl C tk fs cs := hm.2.2.2.2.2.1 rfl it rfl
  subst hm1
  obtain ⟨w1, w2⟩ := sr_w hE (by decide) hm hCs hxW hwM hbF (by unfold m_ai; split <;> simp)
  obtain ⟨x1, c, y1, y2, y3, y4⟩ := ai_ok (N := some it) hE hit hC hCs hD hxW
  rw [if_neg hr0] at y4
  refine ⟨x1, c, by omega, y2, y3 w1 w2, ?_, ?_⟩
  · show _ ≤ 2604 * (lim - tk) + 1302 * nA cs + (3 * (n - x_ba tx n (ip it)) + 2 + 100 * m_cl fs F)
    omega
  · show _ ≤ 2604 * (lim - tk) + 1302 * nA cs + (3 * (n - x_ba tx n (ip it)) + 2 + 100 * m_cl fs F)
    omega
theorem st_after (hE : EV (tx, n, P, ni, nr, ip, rp) su Q sl lim) (h : SR (tx, n, P, ni, nr, ip, rp) Q sl lim (4, N, F, Pl, C, tk, fs, cs) (M, A, Pl, K, C', tk, xs, bs, kp)) (hm : m_turn P su sl lim (4, N, F, Pl, C, tk, fs, cs) m1) : sOK (tx, n, P, ni, nr, ip, rp) su Q sl lim (4, N, F, Pl, C, tk, fs, cs) (M, A, Pl, K, C', tk, xs, bs, kp) m1 := by
  obtain ⟨-, -, hC, ⟨r, hT⟩, hCs, hxW, hwM, hbF⟩ := h
  obtain ⟨rfl, it, rfl, hit, hAk⟩ := bT_4 hT
  have hm1 : m1 = m_aa P it (some it) F Pl C tk fs cs := hm.2.2.2.2.1 rfl it rfl
  subst hm1
  have h10 : ¬ (m_aa P it (some it) F Pl C tk fs cs).1 = 10 := by
    unfold m_aa m_ai
    repeat' split
    all_goals simp
  obtain ⟨w1, w2⟩ := sr_w hE (by decide) hm hCs hxW hwM hbF h10
  rcases hAk with ⟨r02, hD⟩ | ⟨r02, hR, y, hy, hy3, hyi⟩
  · have em : m_aa P it (some it) F Pl C tk fs cs = m_ai P it (some it) F Pl C tk fs cs := if_pos r02
    rw [em] at w1 w2 ⊢
    obtain ⟨x1, c, y1, y2, y3, y4⟩ := ai_ok (N := some it) hE hit hC hCs hD hxW
    have hb : (if q_rp P it = 0 then 4 else 1) ≤ 4 := by split <;> omega
    refine ⟨x1, c, by omega, y2, y3 w1 w2, ?_, ?_⟩
    · show _ ≤ 2604 * (lim - tk) + 1302 * nA cs + (3 * (n - x_ba tx n (ip it)) + 5 + 100 * m_cl fs F)
      omega
    · show _ ≤ 2604 * (lim - tk) + 1302 * nA cs + (3 * (n - x_ba tx n (ip it)) + 5 + 100 * m_cl fs F)
      omega
  · have em : m_aa P it (some it) F Pl C tk fs cs = (6, some it, F, Pl, C, tk, fs, cs) := if_neg r02
    have hy : fs[F]? = some y := hy
    rw [em] at w1 w2 ⊢
    have hg : (fs[F]?).getD f0 = y := by rw [hy]; rfl
    have hp : ptR (tx, n, P, ni, nr, ip, rp) y = 3 * (n - x_ba tx n (ip it)) + 4 + 100 * m_cl fs F := by
      rw [mcl_eq hy]
      unfold ptR
      rw [if_neg (by omega), if_neg (by omega), if_neg (by omega), if_neg (by omega), hyi]
    refine ⟨_, 0, by decide, fun f => rfl, ⟨rfl, rfl, hC, ⟨r, mk_6 hR⟩, hCs, hxW, w1, w2⟩, ?_, ?_⟩
    · show 2604 * (lim - tk) + 1302 * nA cs + ptR (tx, n, P, ni, nr, ip, rp) ((fs[F]?).getD f0) + 1 ≤ 2604 * (lim - tk) + 1302 * nA cs + (3 * (n - x_ba tx n (ip it)) + 5 + 100 * m_cl fs F)
      rw [hg, hp]
      omega
    · show 2604 * (lim - tk) + 1302 * nA cs + ptR (tx, n, P, ni, nr, ip, rp) ((fs[F]?).getD f0) + 0 ≤ 2604 * (lim - tk) + 1302 * nA cs + (3 * (n - x_ba tx n (ip it)) + 5 + 100 * m_cl fs F)
      rw [hg, hp]
      omega
theorem cE_upd (h : cE C C') {g a b : Nat} (ha : a < 60) (hb : b < 60) : cE (cp_upd C g ((b + 1) * 64 + (a + 1))) (cp_upd C' g (64 * (a + 1) + (b + 1))) := by
  intro g' hg'
  unfold cp_upd
  by_cases q : g' = g
  · rw [if_pos q, if_pos q]
    omega
  · rw [if_neg q, if_neg q]
    exact h g' hg'
theorem bX_tk (hfi : fiO fs) (m : Nat) : bX (fs, xs, cs, kp, tk) (fs, xs, cs.take m, kp, tk) xs.length m := ⟨fun _ _ h => h, hfi, fun _ _ => rfl, Nat.le_refl _, fun _ _ => rfl, fun i hi => List.getElem?_take_of_lt hi⟩
/-- how a turn may end -/
def fin (e : bE) (su : Nat → Nat) (sl lim : Nat) (x : xS) (m1 : mS) : Prop := m1.2.2.2.2.2.1 = x.2.2.2.2.2.1 ∧ ((m1.1 = 8 ∧ m1.2.2.2.1 = x.2.2.1 ∧ cE m1.2.2.2.2.1 x.2.2.2.2.1 ∧ ∀ f, x_wk e.1 e.2.1 su sl lim (f + 1) x = (1, x)) ∨ (m1.1 = 9 ∧ ∀ f, x_wk e.1 e.2.1 su sl lim (f + 1) x = (0, x)) ∨ (m1.1 = 10 ∧ ∀ f, x_wk e.1 e.2.1 su sl lim (f + 1) x = (2, x)))
theorem st_resume (hE : EV (tx, n, P, ni, nr, ip, rp) su Q sl lim) (h : SR (tx, n, P, ni, nr, ip, rp) Q sl lim (6, N, F, Pl, C, tk, fs, cs) (M, A, Pl, K, C', tk, xs, bs, kp)) (hm : m_turn P su sl lim (6, N, F, Pl, C, tk, fs, cs) m1) : sOK (tx, n, P, ni, nr, ip, rp) su Q sl lim (6, N, F, Pl, C, tk, fs, cs) (M, A, Pl, K, C', tk, xs, bs, kp) m1 ∨ fin (tx, n, P, ni, nr, ip, rp) su sl lim (M, A, Pl, K, C', tk, xs, bs, kp) m1 := by
  obtain ⟨-, -, hC, ⟨r, hT⟩, hCs, hxW, hwM, hbF⟩ := h
  have hE0 := hE
  obtain ⟨e1, e2, e3, e4, e5, e6, e7, e8⟩ := hE
  have e1 : ST tx n P ni nr ip rp := e1
  have e3 : n ≤ 32 := e3
  have hfi := sr_fi hwM
  obtain ⟨c1, c2, c3, c4, c5⟩ := sr_ch hxW
  have hlen : cs.length = bs.length := hCs.1
  obtain ⟨rfl, hR⟩ := bT_6 hT
  cases r with
  | zero => exact hR.elim
  | succ r =>
    obtain ⟨y, hy, hcal, hni, hcase⟩ := hR
    have hy : fs[F]? = some y := hy
    have hm1 : m1 = m_resume P y N Pl C tk fs cs := hm.2.2.2.2.2.2.1 rfl y hy
    subst hm1
    have hg : (fs[F]?).getD f0 = y := by rw [hy]; rfl
    have hwF := (hwM.2.2.2.2.2.2.2.2.1 F y hy).1
    have hPl : Pl ≤ sl := hwM.2.2.2.2.2.1
    have hyPl : y.2.2.2.1 ≤ sl := hwF.2.2.2.1
    have e4 : sl ≤ 40 := e4
    have old : psi (tx, n, P, ni, nr, ip, rp) lim (6, N, F, Pl, C, tk, fs, cs) A = 2604 * (lim - tk) + 1302 * nA cs + ptR (tx, n, P, ni, nr, ip, rp) y := by
      show 2604 * (lim - tk) + 1302 * nA cs + ptR (tx, n, P, ni, nr, ip, rp) ((fs[F]?).getD f0) = _
      rw [hg]
    rcases hcase with ⟨y0, hK0⟩ | ⟨y1, k6, hAk⟩ | ⟨x, hx, hK1, hxp, hc⟩
    · right
      have em : m_resume P y N Pl C tk fs cs = (8, N, y.2.2.2.2.2.1, Pl, C, tk, fs, cs) := by
        unfold m_resume
        rw [if_neg (by omega), if_neg (by omega), if_neg (by omega), if_neg (by omega), if_neg (by omega), if_neg (by omega)]
      rw [em]
      exact ⟨rfl, Or.inl ⟨rfl, rfl, hC, fun f => wk_found ⟨rfl, hK0⟩ f⟩⟩
    · left
      have hni : y.2.1 < ni ∧ y.2.2.2.2.2.2 = (if y.1 = 2 then 1 else 0) + m_cl fs y.2.2.2.2.2.1 := by
        rcases hni with w | w
        · omega
        · exact w
      obtain ⟨hit, hcl⟩ := hni
      rw [if_neg (by omega), Nat.zero_add] at hcl
      have k6 : q_kd P y.2.1 = 6 := k6
      have em : m_resume P y N Pl C tk fs cs = (4, some y.2.1, y.2.2.2.2.2.1, Pl, C, tk, fs, cs) := by
        unfold m_resume m_leave
        rw [if_pos y1, if_neg (by omega), if_neg (by omega), if_neg (by omega), if_neg (by omega)]
      obtain ⟨w1, w2⟩ := sr_w hE0 (by decide) hm hCs hxW hwM hbF (by rw [em]; simp)
      rw [em] at w1 w2 ⊢
      have hF : itF tx n P (ip y.2.1) y.2.1 := it_f e1 hit
      obtain ⟨⟨f1, f2, f3, f4, f5⟩, _⟩ := hF
      have hp : ptR (tx, n, P, ni, nr, ip, rp) y = 3 * (n - (x_ba tx n (ip y.2.1) - 1)) + 3 + 100 * y.2.2.2.2.2.2 := by
        unfold ptR
        rw [if_neg (by omega), if_pos y1, if_neg (by show ¬ q_kd P y.2.1 = 8; omega)]
      refine ⟨_, 0, by decide, fun f => rfl, ⟨rfl, rfl, hC, ⟨r, mk_4 (A := A) hit hAk⟩, hCs, hxW, w1, w2⟩, ?_, ?_⟩
      · rw [old, hp]
        show 2604 * (lim - tk) + 1302 * nA cs + (3 * (n - x_ba tx n (ip y.2.1)) + 5 + 100 * m_cl fs y.2.2.2.2.2.1) + 1 ≤ _
        omega
      · rw [old, hp]
        show 2604 * (lim - tk) + 1302 * nA cs + (3 * (n - x_ba tx n (ip y.2.1)) + 5 + 100 * m_cl fs y.2.2.2.2.2.1) + 0 ≤ _
        omega
    · left
      have hx : xs[K]? = some x := hx
      have hy0 : ¬ y.1 = 0 := by
        intro w
        rcases hc with b | b | b | b | b | b | b | b | b <;> (have := b.1; omega)
      have hni : y.2.1 < ni ∧ y.2.2.2.2.2.2 = (if y.1 = 2 then 1 else 0) + m_cl fs y.2.2.2.2.2.1 := by
        rcases hni with w | w
        · exact absurd w hy0
        · exact w
      obtain ⟨hit, hcl⟩ := hni
      have hF : itF tx n P (ip y.2.1) y.2.1 := it_f e1 hit
      obtain ⟨⟨f1, f2, f3, f4, f5⟩, ⟨g0, g1, g2, g3, g4, g5⟩, ⟨m1', m2', m3'⟩, n1, n2, n3, n4⟩ := hF
      obtain ⟨wk, hk⟩ := carry_ok hE0 hxW hx hK1
      have hbody : y.1 = 1 → ¬ q_kd P y.2.1 = 8 → ptR (tx, n, P, ni, nr, ip, rp) y = 3 * (n - (x_ba tx n (ip y.2.1) - 1)) + 3 + 100 * m_cl fs y.2.2.2.2.2.1 := by
        intro y1 k8
        rw [if_neg (by omega), Nat.zero_add] at hcl
        unfold ptR
        rw [if_neg (by omega), if_pos y1, if_neg k8, ← hcl]
      have hturn : (y.1 = 3 ∨ y.1 = 4 ∨ y.1 = 5) → ptR (tx, n, P, ni, nr, ip, rp) y = 3 * (n - x_ba tx n (ip y.2.1)) + 4 + 100 * m_cl fs y.2.2.2.2.2.1 := by
        intro y1
        rw [if_neg (by omega), Nat.zero_add] at hcl
        unfold ptR
        rw [if_neg (by omega), if_neg (by omega), if_neg (by omega), if_neg (by omega), ← hcl]
      have rany : ¬ q_rp P y.2.1 = 0 → x_ba tx n (ip y.2.1) < n := fun w => (n1 (Classical.not_not.mp (fun v => w (g0.mpr v)))).1
      rcases hc with b | b | b | b | b | b | b | b | b
      · -- a group
        obtain ⟨b1, b2, b3, b4, b5, b6⟩ := b
        have b2 : q_kd P y.2.1 = 5 := b2
        have b4 : x.2.1 = x_gc tx n (ip y.2.1 + 1) := b4
        have em : m_resume P y N Pl C tk fs cs = (4, some y.2.1, y.2.2.2.2.2.1, Pl, cp_upd C (q_g P y.2.1) ((Pl + 1) * 64 + (y.2.2.2.1 + 1)), tk, fs, cs) := by
          unfold m_resume m_leave
          rw [if_pos b1, if_pos b2]
        have ec : x_carry tx n x Pl C' tk xs bs kp = (5, 0, Pl, x.2.2.2.1, cp_upd C' (x.2.1 - 1) (64 * (x.2.2.1 + 1) + (Pl + 1)), tk, xs, bs, kp) := by
          unfold x_carry
          rw [if_neg (by omega), if_pos b3]
        have hgq : q_g P y.2.1 = x.2.1 - 1 := by
          have hvl : q_vl P y.2.1 = nI (x_gc tx n (ip y.2.1 + 1)) := by
            obtain ⟨a1, a2, a3, a4, a5⟩ := e1.1 y.2.1 hit
            rcases a3 with ⟨q1, q2, q3, q4, q5⟩ | ⟨q1, q2, q3, q4⟩ | ⟨q, q1, q2, q3, q4⟩
            · exact q4
            · omega
            · exfalso
              have : (x_kv tx n (ip y.2.1)).1 ≤ 4 := by
                unfold x_kv
                repeat' split
                all_goals simp
              omega
          have hgc := x_gc_le (tx := tx) (n := n) (ip y.2.1 + 1)
          unfold q_g
          rw [hvl, nI_clamp (by omega), b4]
        rw [ec, ← hgq, b5] at wk hk
        obtain ⟨w1, w2⟩ := sr_w hE0 (by decide) hm hCs hxW hwM hbF (by rw [em]; simp)
        rw [em] at w1 w2 ⊢
        have hp := hbody b1 (by omega)
        refine ⟨_, 1, by decide, fun f => wk (f + 1), ⟨rfl, rfl, cE_upd hC (by omega) (by omega), ⟨r, mk_4 hit b6⟩, hCs, hk, w1, w2⟩, ?_, ?_⟩
        · rw [old, hp]
          show 2604 * (lim - tk) + 1302 * nA cs + (3 * (n - x_ba tx n (ip y.2.1)) + 5 + 100 * m_cl fs y.2.2.2.2.2.1) + 1 ≤ _
          omega
        · rw [old, hp]
          show 2604 * (lim - tk) + 1302 * nA cs + (3 * (n - x_ba tx n (ip y.2.1)) + 5 + 100 * m_cl fs y.2.2.2.2.2.1) + 1 ≤ _
          omega
      · -- atomic
        obtain ⟨b1, b2, b3, b4, b5, b6⟩ := b
        have b2 : q_kd P y.2.1 = 9 := b2
        have em : m_resume P y N Pl C tk fs cs = (4, some y.2.1, y.2.2.2.2.2.1, Pl, C, tk, fs, cs.take y.2.2.1) := by
          unfold m_resume m_leave
          rw [if_pos b1, if_neg (by omega), if_neg (by omega), if_neg (by omega), if_pos b2]
        have ec : x_carry tx n x Pl C' tk xs bs kp = (5, 0, Pl, x.2.2.2.1, C', tk, xs, bs.take y.2.2.1, kp) := by
          unfold x_carry
          rw [if_neg (by omega), if_neg (by omega), if_neg (by omega), if_neg (by omega), if_neg (by omega), if_pos b3, b4]
        rw [ec] at wk hk
        obtain ⟨w1, w2⟩ := sr_w hE0 (by decide) hm hCs hxW hwM hbF (by rw [em]; simp)
        rw [em] at w1 w2 ⊢
        have hp := hbody b1 (by omega)
        have hlt : (cs.take y.2.2.1).length = y.2.2.1 := by rw [List.length_take]; omega
        have hnA := nA_take (cs := cs) y.2.2.1
        refine ⟨_, 1, by decide, fun f => wk (f + 1), ⟨rfl, rfl, hC, ⟨r, mk_4 hit (by rw [hlt]; exact bAk_x (bX_tk hfi y.2.2.1) (by omega) (Nat.le_refl _) (Nat.le_refl _) b6)⟩, bCs_take hCs hfi _, hk, w1, w2⟩, ?_, ?_⟩
        · rw [old, hp]
          show 2604 * (lim - tk) + 1302 * nA (cs.take y.2.2.1) + (3 * (n - x_ba tx n (ip y.2.1)) + 5 + 100 * m_cl fs y.2.2.2.2.2.1) + 1 ≤ _
          omega
        · rw [old, hp]
          show 2604 * (lim - tk) + 1302 * nA (cs.take y.2.2.1) + (3 * (n - x_ba tx n (ip y.2.1)) + 5 + 100 * m_cl fs y.2.2.2.2.2.1) + 1 ≤ _
          omega
      · -- looking ahead
        obtain ⟨b1, b2, b3, b7, b4, b5, b6⟩ := b
        have b2 : q_kd P y.2.1 = 7 := b2
        have em : m_resume P y N Pl C tk fs cs = (4, some y.2.1, y.2.2.2.2.2.1, y.2.2.2.1, C, tk, fs, cs.take y.2.2.1) := by
          unfold m_resume m_leave
          rw [if_pos b1, if_neg (by omega), if_pos b2]
        have ec : x_carry tx n x Pl C' tk xs bs kp = (5, 0, y.2.2.2.1, x.2.2.2.1, C', tk, xs, bs.take y.2.2.1, kp) := by
          unfold x_carry
          rw [if_neg (by omega), if_neg (by omega), if_neg (by omega), if_neg (by omega), if_neg (by omega), if_neg (by omega), if_pos b3, b4, b7]
        rw [ec] at wk hk
        obtain ⟨w1, w2⟩ := sr_w hE0 (by decide) hm hCs hxW hwM hbF (by rw [em]; simp)
        rw [em] at w1 w2 ⊢
        have hp := hbody b1 (by omega)
        have hlt : (cs.take y.2.2.1).length = y.2.2.1 := by rw [List.length_take]; omega
        have hnA := nA_take (cs := cs) y.2.2.1
        refine ⟨_, 1, by decide, fun f => wk (f + 1), ⟨rfl, rfl, hC, ⟨r, mk_4 hit (by rw [hlt]; exact bAk_x (bX_tk hfi y.2.2.1) (by omega) (Nat.le_refl _) (Nat.le_refl _) b6)⟩, bCs_take hCs hfi _, hk, w1, w2⟩, ?_, ?_⟩
        · rw [old, hp]
          show 2604 * (lim - tk) + 1302 * nA (cs.take y.2.2.1) + (3 * (n - x_ba tx n (ip y.2.1)) + 5 + 100 * m_cl fs y.2.2.2.2.2.1) + 1 ≤ _
          omega
        · rw [old, hp]
          show 2604 * (lim - tk) + 1302 * nA (cs.take y.2.2.1) + (3 * (n - x_ba tx n (ip y.2.1)) + 5 + 100 * m_cl fs y.2.2.2.2.2.1) + 1 ≤ _
          omega
      · -- "(?!"
        obtain ⟨b1, b2, b3, b4, b5, z, b6, b7⟩ := b
        have b2 : q_kd P y.2.1 = 8 := b2
        have em : m_resume P y N Pl C tk fs cs = (7, some y.2.1, y.2.2.2.2.2.1, Pl, C, tk, fs, cs.take y.2.2.1) := by
          unfold m_resume m_leave
          rw [if_pos b1, if_neg (by omega), if_neg (by omega), if_pos b2]
        have ec : x_carry tx n x Pl C' tk xs bs kp = (6, 0, Pl, x.2.2.2.1, C', tk, xs, bs.take y.2.2.1, kp) := by
          unfold x_carry
          rw [if_neg (by omega), if_neg (by omega), if_neg (by omega), if_neg (by omega), if_neg (by omega), if_neg (by omega), if_neg (by omega), if_pos b3, b4]
        rw [ec] at wk hk
        obtain ⟨w1, w2⟩ := sr_w hE0 (by decide) hm hCs hxW hwM hbF (by rw [em]; simp)
        rw [em] at w1 w2 ⊢
        have hp : ptR (tx, n, P, ni, nr, ip, rp) y = 3 := by
          unfold ptR
          rw [if_neg (by omega), if_pos b1, if_pos b2]
        have hnA := nA_cut (cs := cs) b6 b7
        refine ⟨_, 1, by decide, fun f => wk (f + 1), ⟨rfl, rfl, hC, ⟨r, mk_7⟩, bCs_take hCs hfi _, hk, w1, w2⟩, ?_, ?_⟩
        · rw [old, hp]
          show 2604 * (lim - tk) + 1302 * nA (cs.take y.2.2.1) + 1302 + 1 ≤ _
          omega
        · rw [old, hp]
          show 2604 * (lim - tk) + 1302 * nA (cs.take y.2.2.1) + 1302 + 1 ≤ _
          omega
      · -- a call
        obtain ⟨b1, b2, b3, b4, b5⟩ := b
        have em : m_resume P y N Pl C tk fs cs = (4, some y.2.1, y.2.2.2.2.2.1, Pl, y.2.2.2.2.1, tk, fs, cs) := by
          unfold m_resume
          rw [if_neg (by omega), if_pos b1]
        have ec : x_carry tx n x Pl C' tk xs bs kp = (5, 0, Pl, x.2.2.2.1, kp x.2.2.1, tk, xs, bs, kp) := by
          unfold x_carry
          rw [if_neg (by omega), if_neg (by omega), if_pos b2]
        rw [ec] at wk hk
        obtain ⟨w1, w2⟩ := sr_w hE0 (by decide) hm hCs hxW hwM hbF (by rw [em]; simp)
        rw [em] at w1 w2 ⊢
        rw [if_pos b1] at hcl
        have hp : ptR (tx, n, P, ni, nr, ip, rp) y = 3 + 100 * y.2.2.2.2.2.2 := by
          unfold ptR
          rw [if_neg (by omega), if_neg (by omega), if_pos b1]
        refine ⟨_, 1, by decide, fun f => wk (f + 1), ⟨rfl, rfl, b4, ⟨r, mk_4 hit b5⟩, hCs, hk, w1, w2⟩, ?_, ?_⟩
        · rw [old, hp]
          show 2604 * (lim - tk) + 1302 * nA cs + (3 * (n - x_ba tx n (ip y.2.1)) + 5 + 100 * m_cl fs y.2.2.2.2.2.1) + 1 ≤ _
          omega
        · rw [old, hp]
          show 2604 * (lim - tk) + 1302 * nA cs + (3 * (n - x_ba tx n (ip y.2.1)) + 5 + 100 * m_cl fs y.2.2.2.2.2.1) + 1 ≤ _
          omega
      · -- a star's turn
        obtain ⟨b1, b2, b3, b4, b5, b6⟩ := b
        have b2 : q_rp P y.2.1 = 3 ∨ q_rp P y.2.1 = 4 := b2
        have b3 : x.1 = (if q_mn P y.2.1 = 1 then 5 else 4) := b3
        have b4 : x.2.1 = ip y.2.1 := b4
        have hx45 : x.1 = 4 ∨ x.1 = 5 := by rw [b3]; split <;> omega
        have hp := hturn (Or.inl b1)
        have hba := rany (by omega)
        by_cases hpl : Pl = y.2.2.2.1
        · have em : m_resume P y N Pl C tk fs cs = (5, some y.2.1, y.2.2.2.2.2.1, Pl, C, tk, fs, cs) := by
            unfold m_resume
            rw [if_neg (by omega), if_neg (by omega), if_pos b1, if_pos hpl]
          have ec : x_carry tx n x Pl C' tk xs bs kp = (5, x.2.1, Pl, x.2.2.2.1, C', tk, xs, bs, kp) := by
            unfold x_carry
            rw [if_neg (by omega), if_neg (by omega), if_neg (by omega), if_pos hx45, if_pos (b5.trans hpl.symm)]
          rw [ec] at wk hk
          obtain ⟨w1, w2⟩ := sr_w hE0 (by decide) hm hCs hxW hwM hbF (by rw [em]; simp)
          rw [em] at w1 w2 ⊢
          refine ⟨_, 1, by decide, fun f => wk (f + 1), ⟨rfl, rfl, hC, ⟨r, mk_5 hit (by show ¬ q_rp P y.2.1 = 0; omega) b6⟩, hCs, hk, w1, w2⟩, ?_, ?_⟩
          · rw [old, hp]
            show 2604 * (lim - tk) + 1302 * nA cs + (3 * (n - x_ba tx n (ip y.2.1)) + 2 + 100 * m_cl fs y.2.2.2.2.2.1) + 1 ≤ _
            omega
          · rw [old, hp]
            show 2604 * (lim - tk) + 1302 * nA cs + (3 * (n - x_ba tx n (ip y.2.1)) + 2 + 100 * m_cl fs y.2.2.2.2.2.1) + 1 ≤ _
            omega
        · have em : m_resume P y N Pl C tk fs cs = m_fork P y.2.1 y.2.2.2.2.2.1 Pl C tk fs cs := by
            unfold m_resume
            rw [if_neg (by omega), if_neg (by omega), if_pos b1, if_neg hpl]
          have ec : x_carry tx n x Pl C' tk xs bs kp = (if q_mn P y.2.1 = 1 then 4 else 3, ip y.2.1, Pl, x.2.2.2.1, C', tk, xs, bs, kp) := by
            unfold x_carry
            rw [if_neg (by omega), if_neg (by omega), if_neg (by omega), if_pos hx45, if_neg (fun w => hpl (b5.symm.trans w).symm), b4, b3]
            split <;> rfl
          rw [ec] at wk hk
          obtain ⟨w1, w2⟩ := sr_w hE0 (by decide) hm hCs hxW hwM hbF (by rw [em]; unfold m_fork; split <;> simp)
          rw [em] at w1 w2 ⊢
          obtain ⟨x1, y1, y2, y3⟩ := fork_ok hE0 hfi hit b2 hC hCs b6 hk
          have hb2 : (if q_mn P y.2.1 = 1 then 3 * (n - x_ba tx n (ip y.2.1)) + 2 + 100 * m_cl fs y.2.2.2.2.2.1 else 3) ≤ 3 * (n - x_ba tx n (ip y.2.1)) + 2 + 100 * m_cl fs y.2.2.2.2.2.1 := by
            split <;> omega
          refine ⟨x1, 2, by decide, fun f => ?_, y2 w1 w2, ?_, ?_⟩
          · rw [show f + 1 + 2 = f + 1 + 1 + 1 from rfl, wk]
            exact y1 (f + 1)
          · rw [old, hp, y3]; omega
          · rw [old, hp, y3]; omega
      · -- a plus's first turn
        obtain ⟨b1, b2, b3, b4, b6⟩ := b
        have b2 : q_rp P y.2.1 = 4 := b2
        have b3 : x.1 = (if q_mn P y.2.1 = 1 then 11 else 10) := b3
        have b4 : x.2.1 = ip y.2.1 := b4
        have hx45 : x.1 = 10 ∨ x.1 = 11 := by rw [b3]; split <;> omega
        have hp := hturn (Or.inr (Or.inl b1))
        have hba := rany (by omega)
        have em : m_resume P y N Pl C tk fs cs = m_fork P y.2.1 y.2.2.2.2.2.1 Pl C tk fs cs := by
          unfold m_resume
          rw [if_neg (by omega), if_neg (by omega), if_neg (by omega), if_pos b1]
        have ec : x_carry tx n x Pl C' tk xs bs kp = (if q_mn P y.2.1 = 1 then 4 else 3, ip y.2.1, Pl, x.2.2.2.1, C', tk, xs, bs, kp) := by
          unfold x_carry
          rw [if_neg (by omega), if_neg (by omega), if_neg (by omega), if_neg (by omega), if_neg (by omega), if_neg (by omega), if_neg (by omega), if_neg (by omega), b4, b3]
          split <;> rfl
        rw [ec] at wk hk
        obtain ⟨w1, w2⟩ := sr_w hE0 (by decide) hm hCs hxW hwM hbF (by rw [em]; unfold m_fork; split <;> simp)
        rw [em] at w1 w2 ⊢
        obtain ⟨x1, y1, y2, y3⟩ := fork_ok hE0 hfi hit (Or.inr b2) hC hCs b6 hk
        have hb2 : (if q_mn P y.2.1 = 1 then 3 * (n - x_ba tx n (ip y.2.1)) + 2 + 100 * m_cl fs y.2.2.2.2.2.1 else 3) ≤ 3 * (n - x_ba tx n (ip y.2.1)) + 2 + 100 * m_cl fs y.2.2.2.2.2.1 := by
          split <;> omega
        refine ⟨x1, 2, by decide, fun f => ?_, y2 w1 w2, ?_, ?_⟩
        · rw [show f + 1 + 2 = f + 1 + 1 + 1 from rfl, wk]
          exact y1 (f + 1)
        · rw [old, hp, y3]; omega
        · rw [old, hp, y3]; omega
      · -- a counted turn
        obtain ⟨b1, b2, b3, b4, b5, b6⟩ := b
        have b2 : q_rp P y.2.1 = 5 := b2
        have b4 : x.2.1 = ip y.2.1 := b4
        have hp := hturn (Or.inr (Or.inr b1))
        have hba := rany (by omega)
        have em0 : m_resume P y N Pl C tk fs cs = m_times y.2.1 y.2.2.1 y.2.2.2.2.2.1 Pl C tk fs cs := by
          unfold m_resume
          rw [if_neg (by omega), if_neg (by omega), if_neg (by omega), if_neg (by omega), if_pos b1]
        have ec0 : x_carry tx n x Pl C' tk xs bs kp = (if x.2.2.1 = 0 then (5, x.2.1, Pl, x.2.2.2.1, C', tk, xs, bs, kp) else (2, x.2.1, Pl, xs.length, C', tk, xs ++ [x_mk tx n xs 6 x.2.1 (x.2.2.1 - 1) x.2.2.2.1 Pl], bs, kp)) := by
          unfold x_carry
          rw [if_neg (by omega), if_neg (by omega), if_neg (by omega), if_neg (by omega), if_pos b3]
        obtain ⟨d1, d2, d3, d4⟩ := bDk_F c1 b6
        by_cases hmk : 1 < y.2.2.1
        · have em : m_resume P y N Pl C tk fs cs = (3, some y.2.1, fs.length, Pl, C, tk, fs ++ [(5, y.2.1, y.2.2.1 - 1, Pl, C, y.2.2.2.2.2.1, m_cl fs y.2.2.2.2.2.1)], cs) := by
            rw [em0]
            unfold m_times
            rw [if_pos hmk]
            rfl
          have ec : x_carry tx n x Pl C' tk xs bs kp = (2, ip y.2.1, Pl, xs.length, C', tk, xs ++ [x_mk tx n xs 6 (ip y.2.1) (x.2.2.1 - 1) x.2.2.2.1 Pl], bs, kp) := by
            rw [ec0, if_neg (by omega), b4]
          rw [ec] at wk hk
          obtain ⟨w1, w2⟩ := sr_w hE0 (by decide) hm hCs hxW hwM hbF (by rw [em]; simp)
          rw [em] at w1 w2 ⊢
          have hX1 := bX_fx (xs := xs) (cs := cs) (kp := kp) (S := tk) (a := [((5, y.2.1, y.2.2.1 - 1, Pl, C, y.2.2.2.2.2.1, m_cl fs y.2.2.2.2.2.1) : mF)]) (b := [x_mk tx n xs 6 (ip y.2.1) (x.2.2.1 - 1) x.2.2.2.1 Pl]) hfi
          have hl : (xs ++ [x_mk tx n xs 6 (ip y.2.1) (x.2.2.1 - 1) x.2.2.2.1 Pl]).length = xs.length + 1 := by rw [List.length_append]; rfl
          have hD1 := bDk_x hX1 d4 (Nat.le_refl _) (Nat.le_refl _) b6
          have hcl2 : (xg (xs ++ [x_mk tx n xs 6 (ip y.2.1) (x.2.2.1 - 1) x.2.2.2.1 Pl]) xs.length).2.2.2.2.2.2.2.1 = (xg xs x.2.2.2.1).2.2.2.2.2.2.2.1 := by
            rw [xg_new]
            show (if (6 : Nat) = 3 then 1 else 0) + (xg xs x.2.2.2.1).2.2.2.2.2.2.2.1 = _
            rw [if_neg (by decide), Nat.zero_add]
          have hRn : bR (tx, n, P, ni, nr, ip, rp) (fs ++ [(5, y.2.1, y.2.2.1 - 1, Pl, C, y.2.2.2.2.2.1, m_cl fs y.2.2.2.2.2.1)], xs ++ [x_mk tx n xs 6 (ip y.2.1) (x.2.2.1 - 1) x.2.2.2.1 Pl], cs, kp, tk) (r + 1) fs.length xs.length cs.length := by
            refine ⟨(5, y.2.1, y.2.2.1 - 1, Pl, C, y.2.2.2.2.2.1, m_cl fs y.2.2.2.2.2.1), get_new, d2.trans hcl2.symm, Or.inr ⟨hit, ?_⟩, Or.inr (Or.inr ⟨x_mk tx n xs 6 (ip y.2.1) (x.2.2.1 - 1) x.2.2.2.1 Pl, get_new, by omega, d4, Or.inr (Or.inr (Or.inr (Or.inr (Or.inr (Or.inr (Or.inr (Or.inl ⟨rfl, b2, rfl, rfl, ?_, hD1⟩)))))))⟩)⟩
            · show m_cl fs y.2.2.2.2.2.1 = (if (5 : Nat) = 2 then 1 else 0) + m_cl (fs ++ [(5, y.2.1, y.2.2.1 - 1, Pl, C, y.2.2.2.2.2.1, m_cl fs y.2.2.2.2.2.1)]) y.2.2.2.2.2.1
              rw [mcl_app d1, if_neg (by decide), Nat.zero_add]
            · show x.2.2.1 - 1 + 1 = y.2.2.1 - 1
              omega
          refine ⟨_, 1, by decide, fun f => wk (f + 1), ⟨rfl, rfl, hC, ⟨r + 1, mk_3 hit (Or.inr ⟨by show ¬ (q_rp P y.2.1 = 0 ∨ q_rp P y.2.1 = 2); omega, hRn, (5, y.2.1, y.2.2.1 - 1, Pl, C, y.2.2.2.2.2.1, m_cl fs y.2.2.2.2.2.1), get_new, Or.inr (Or.inr rfl), rfl⟩)⟩, bCs_x hCs hX1 (by omega), hk, w1, w2⟩, ?_, ?_⟩
          · rw [old, hp]
            show 2604 * (lim - tk) + 1302 * nA cs + 2 + 1 ≤ _
            omega
          · rw [old, hp]
            show 2604 * (lim - tk) + 1302 * nA cs + 2 + 1 ≤ _
            omega
        · have em : m_resume P y N Pl C tk fs cs = (5, some y.2.1, y.2.2.2.2.2.1, Pl, C, tk, fs, cs) := by
            rw [em0]
            unfold m_times
            rw [if_neg hmk]
          have ec : x_carry tx n x Pl C' tk xs bs kp = (5, x.2.1, Pl, x.2.2.2.1, C', tk, xs, bs, kp) := by
            rw [ec0, if_pos (by omega)]
          rw [ec] at wk hk
          obtain ⟨w1, w2⟩ := sr_w hE0 (by decide) hm hCs hxW hwM hbF (by rw [em]; simp)
          rw [em] at w1 w2 ⊢
          refine ⟨_, 1, by decide, fun f => wk (f + 1), ⟨rfl, rfl, hC, ⟨r, mk_5 hit (by show ¬ q_rp P y.2.1 = 0; omega) b6⟩, hCs, hk, w1, w2⟩, ?_, ?_⟩
          · rw [old, hp]
            show 2604 * (lim - tk) + 1302 * nA cs + (3 * (n - x_ba tx n (ip y.2.1)) + 2 + 100 * m_cl fs y.2.2.2.2.2.1) + 1 ≤ _
            omega
          · rw [old, hp]
            show 2604 * (lim - tk) + 1302 * nA cs + (3 * (n - x_ba tx n (ip y.2.1)) + 2 + 100 * m_cl fs y.2.2.2.2.2.1) + 1 ≤ _
            omega
      · -- possessive
        obtain ⟨b1, b2, b3, b4, b5, x2, b6, b7, b8, b9, b10⟩ := b
        have b2 : q_mn P y.2.1 = 2 := b2
        have b6 : xs[x.2.2.2.1]? = some x2 := b6
        have em : m_resume P y N Pl C tk fs cs = (1, q_nx P y.2.1, y.2.2.2.2.2.1, Pl, C, tk, fs, cs.take y.2.2.1) := by
          unfold m_resume
          rw [if_neg (by omega), if_neg (by omega), if_neg (by omega), if_neg (by omega), if_neg (by omega), if_pos b1]
        have ec : x_carry tx n x Pl C' tk xs bs kp = (5, 0, Pl, x.2.2.2.1, C', tk, xs, bs.take y.2.2.1, kp) := by
          unfold x_carry
          rw [if_neg (by omega), if_neg (by omega), if_neg (by omega), if_neg (by omega), if_neg (by omega), if_pos b3, b4]
        rw [ec] at wk hk
        obtain ⟨wk2, hk2⟩ := carry_ok hE0 hk b6 (by omega)
        have ec2 : x_carry tx n x2 Pl C' tk xs (bs.take y.2.2.1) kp = (0, x_bh tx n (ip y.2.1), Pl, x2.2.2.2.1, C', tk, xs, bs.take y.2.2.1, kp) := by
          unfold x_carry
          rw [if_pos b7, b8]
        rw [ec2] at wk2 hk2
        obtain ⟨w1, w2⟩ := sr_w hE0 (by decide) hm hCs hxW hwM hbF (by rw [em]; simp)
        rw [em] at w1 w2 ⊢
        rw [if_neg (by omega), Nat.zero_add] at hcl
        have hp : ptR (tx, n, P, ni, nr, ip, rp) y = 3 * (n - x_ba tx n (ip y.2.1)) + 1 + 100 * m_cl fs y.2.2.2.2.2.1 := by
          unfold ptR
          rw [if_neg (by omega), if_neg (by omega), if_neg (by omega), if_pos b1, ← hcl]
        have hlt : (cs.take y.2.2.1).length = y.2.2.1 := by rw [List.length_take]; omega
        have hnA := nA_take (cs := cs) y.2.2.1
        have hb2 := n2 b2
        have hRw2 : bRw (tx, n, P, ni, nr, ip, rp) (fs, xs, cs.take y.2.2.1, kp, tk) r y.2.2.2.2.2.1 x2.2.2.2.1 (cs.take y.2.2.1).length (x_bh tx n (ip y.2.1)) := by
          rw [hlt]
          exact bRw_x (bX_tk hfi y.2.2.1) (by omega) (Nat.le_refl _) (Nat.le_refl _) b10
        refine ⟨(0, x_bh tx n (ip y.2.1), Pl, x2.2.2.2.1, C', tk, xs, bs.take y.2.2.1, kp), 2, by decide, fun f => ?_, ⟨rfl, rfl, hC, ⟨r, mk_1 (it_nx e1 hit) hRw2⟩, bCs_take hCs hfi _, hk2, w1, w2⟩, ?_, ?_⟩
        · rw [show f + 1 + 2 = f + 1 + 1 + 1 from rfl, wk]
          exact wk2 (f + 1)
        · rw [old, hp]
          show 2604 * (lim - tk) + 1302 * nA (cs.take y.2.2.1) + (3 * (n - x_bh tx n (ip y.2.1)) + 4 + 100 * m_cl fs y.2.2.2.2.2.1) + 1 ≤ _
          omega
        · rw [old, hp]
          show 2604 * (lim - tk) + 1302 * nA (cs.take y.2.2.1) + (3 * (n - x_bh tx n (ip y.2.1)) + 4 + 100 * m_cl fs y.2.2.2.2.2.1) + 2 ≤ _
          omega
end BV
