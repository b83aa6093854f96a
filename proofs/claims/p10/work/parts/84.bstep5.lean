/-! the two machines: choices, asks -/
section BV
variable {tx : Nat → Nat} {n : Nat} {P : pg} {ni nr : Nat} {ip rp : Nat → Nat} {su : Nat → Nat} {Q sl lim : Nat}
variable {T F Pl tk : Nat} {N : Option Nat} {C : Nat → Nat} {fs : List mF} {cs : List mC}
variable {M A K : Nat} {C' : Nat → Nat} {xs : List xF} {bs : List xB} {kp : Nat → Nat → Nat} {m1 : mS}
theorem pt_le {e : bE} (hn : e.2.1 ≤ 32) (hc : m_cl fs F ≤ 12) (hT : ¬ T = 6) : pt e T N F A fs ≤ 1302 ∧ (¬ T = 7 → pt e T N F A fs ≤ 1301) := by
  unfold pt
  refine ⟨?_, fun h7 => ?_⟩
  · repeat' split
    all_goals omega
  · repeat' split
    all_goals omega
theorem mcl_12 (hw : wM P ni nr sl lim (T, N, F, Pl, C, tk, fs, cs)) {G : Nat} (hG : G < fs.length) : m_cl fs G ≤ 12 := by
  have e := List.getElem?_eq_getElem hG
  rw [mcl_eq e]
  exact (hw.2.2.2.2.2.2.2.2.1 G _ e).1.2.2.2.2.2.2.2.2
theorem bCs_pop {e : bE} (h : bCs e (fs, xs, cs, kp, tk) bs) (hfi : fiO fs) {j : Nat} {w : xB} (hj : j < cs.length) (hw : bs[j]? = some w) : bCs e (fs, xs.take (w.2.2.2.2.1 + 1), cs.take j, kp, tk) (bs.take j) := by
  have hX : bX (fs, xs, cs.take j, kp, tk) (fs, xs.take (w.2.2.2.2.1 + 1), cs.take j, kp, tk) (w.2.2.2.2.1 + 1) (cs.take j).length := ⟨fun _ _ h => h, hfi, fun _ _ => rfl, Nat.le_refl _, fun i hi => List.getElem?_take_of_lt hi, fun _ _ => rfl⟩
  have h1 := bCs_take h hfi j
  have hwx : w.2.2.2.2.1 + 1 ≤ xs.length := (h.2.1 j _ w (List.getElem?_eq_getElem hj) hw).2
  refine ⟨h1.1, fun i z v hz hv => ?_, h1.2.2⟩
  obtain ⟨a1, a2⟩ := h1.2.1 i z v hz hv
  have hi : i < j := by
    have := (List.getElem?_eq_some_iff.mp hz).1
    have hl : (cs.take j).length = j := by rw [List.length_take]; omega
    have this : i < (cs.take j).length := this
    omega
  have hv2 : bs[i]? = some v := by
    have hv : (bs.take j)[i]? = some v := hv
    rw [List.getElem?_take_of_lt hi] at hv
    exact hv
  have hle := h.2.2 i j v w hi hv2 hw
  refine ⟨bC_x hX (by omega) (by have := (List.getElem?_eq_some_iff.mp hz).1; exact Nat.le_of_lt this) a1, ?_⟩
  show v.2.2.2.2.1 + 1 ≤ (xs.take (w.2.2.2.2.1 + 1)).length
  rw [List.length_take]
  omega
theorem st_fail (hE : EV (tx, n, P, ni, nr, ip, rp) su Q sl lim) (h : SR (tx, n, P, ni, nr, ip, rp) Q sl lim (7, N, F, Pl, C, tk, fs, cs) (M, A, Pl, K, C', tk, xs, bs, kp)) (hm : m_turn P su sl lim (7, N, F, Pl, C, tk, fs, cs) m1) : sOK (tx, n, P, ni, nr, ip, rp) su Q sl lim (7, N, F, Pl, C, tk, fs, cs) (M, A, Pl, K, C', tk, xs, bs, kp) m1 ∨ fin (tx, n, P, ni, nr, ip, rp) su sl lim (M, A, Pl, K, C', tk, xs, bs, kp) m1 := by
  obtain ⟨-, -, hC, ⟨r, hT⟩, hCs, hxW, hwM, hbF⟩ := h
  have hE0 := hE
  obtain ⟨e1, e2, e3, e4, e5, e6, e7, e8⟩ := hE
  have e3 : n ≤ 32 := e3
  have hfi := sr_fi hwM
  have hlen : cs.length = bs.length := hCs.1
  have hM := bT_7 hT
  subst hM
  have hm1 : m1 = m_choice N F Pl C tk fs cs := hm.2.2.2.2.2.2.2 rfl
  subst hm1
  cases hz : cs[cs.length - 1]? with
  | none =>
    right
    have em : m_choice N F Pl C tk fs cs = (9, N, F, Pl, C, tk, fs, cs) := by
      unfold m_choice
      rw [hz]
    have hb : bs[bs.length - 1]? = none := by
      rw [List.getElem?_eq_none_iff] at hz ⊢
      omega
    rw [em]
    refine ⟨rfl, Or.inr (Or.inl ⟨rfl, fun f => wk_none rfl ?_ f⟩)⟩
    show x_ret tk xs bs kp = none
    unfold x_ret
    rw [hb]
  | some z =>
    left
    have hj := (List.getElem?_eq_some_iff.mp hz).1
    have hjb : bs.length - 1 < bs.length := by omega
    have hw := List.getElem?_eq_getElem hjb
    generalize bs[bs.length - 1] = w at hw
    have hw' : bs[cs.length - 1]? = some w := by rw [hlen]; exact hw
    have em : m_choice N F Pl C tk fs cs = (z.1, some z.2.1, z.2.2.2.2, z.2.2.1, z.2.2.2.1, tk, fs, cs.take (cs.length - 1)) := by
      unfold m_choice
      rw [hz]
    have ex : x_ret tk xs bs kp = some (w.1, w.2.1, w.2.2.1, w.2.2.2.1, w.2.2.2.2.2, tk, xs.take (w.2.2.2.2.1 + 1), bs.take (cs.length - 1), kp) := by
      unfold x_ret
      rw [hw, hlen]
    obtain ⟨hk, hk6⟩ := k_ret e3 hxW ex
    obtain ⟨⟨a1, a2, a3, a4, r2, a5⟩, a6⟩ := hCs.2.1 _ z w hz hw'
    have h10 : ¬ (m_choice N F Pl C tk fs cs).1 = 10 := by
      rw [em]
      show ¬ z.1 = 10
      omega
    obtain ⟨w1, w2⟩ := sr_w hE0 (by decide) hm hCs hxW hwM hbF h10
    rw [em] at w1 w2 ⊢
    rw [a1] at hk ex
    have hX : bX (fs, xs, cs, kp, tk) (fs, xs.take (w.2.2.2.2.1 + 1), cs.take (cs.length - 1), kp, tk) (w.2.2.2.2.1 + 1) (cs.length - 1) := ⟨fun _ _ h => h, hfi, fun _ _ => rfl, Nat.le_refl _, fun i hi => List.getElem?_take_of_lt hi, fun i hi => List.getElem?_take_of_lt hi⟩
    have hl : (cs.take (cs.length - 1)).length = cs.length - 1 := by rw [List.length_take]; omega
    have hbT : bT (tx, n, P, ni, nr, ip, rp) (fs, xs.take (w.2.2.2.2.1 + 1), cs.take (cs.length - 1), kp, tk) r2 z.1 (some z.2.1) z.2.2.2.2 z.2.2.1 w.1 w.2.1 w.2.2.2.1 (cs.take (cs.length - 1)).length := bT_x hX a3 (Nat.le_refl _) (by omega) a5
    have hF12 : m_cl fs z.2.2.2.2 ≤ 12 := by
      obtain ⟨y, hy, _⟩ := w1.2.2.2.2.1
      exact mcl_12 hwM (List.getElem?_eq_some_iff.mp hy).1
    have hpt := (pt_le (N := some z.2.1) (A := w.2.1) (e := (tx, n, P, ni, nr, ip, rp)) (T := z.1) e3 hF12 (by omega)).2 (by omega)
    have hnA := nA_take (cs := cs) (cs.length - 1)
    refine ⟨(w.1, w.2.1, z.2.2.1, w.2.2.2.1, w.2.2.2.2.2, tk, xs.take (w.2.2.2.2.1 + 1), bs.take (cs.length - 1), kp), 0, by decide, fun f => wk_pop rfl ex (show ¬ w.1 = 6 from hk6) f, ⟨rfl, rfl, a2, ⟨r2, hbT⟩, bCs_pop hCs hfi hj hw', hk, w1, w2⟩, ?_, ?_⟩
    · show 2604 * (lim - tk) + 1302 * nA (cs.take (cs.length - 1)) + pt (tx, n, P, ni, nr, ip, rp) z.1 (some z.2.1) z.2.2.2.2 w.2.1 fs + 1 ≤ 2604 * (lim - tk) + 1302 * nA cs + 1302
      omega
    · show 2604 * (lim - tk) + 1302 * nA (cs.take (cs.length - 1)) + pt (tx, n, P, ni, nr, ip, rp) z.1 (some z.2.1) z.2.2.2.2 w.2.1 fs + 0 ≤ 2604 * (lim - tk) + 1302 * nA cs + 1302
      omega
theorem kv_k {A : Nat} : ((x_kv tx n A).1 = 1 → xt tx n A = 94) ∧ ((x_kv tx n A).1 = 2 → xt tx n A = 36) ∧ ((x_kv tx n A).1 = 3 → xt tx n A = 92 ∧ (x_kv tx n A).2 = nI (xt tx n (A + 1) - 48)) ∧ ((x_kv tx n A).1 = 4 → xt tx n A = 40 ∧ (x_kv tx n A).2 = nI (xt tx n (A + 2) - 48)) ∧ (x_kv tx n A).1 ≤ 4 := by
  unfold x_kv
  by_cases h40 : xt tx n A = 40
  · rw [if_pos h40]; simp [h40]
  rw [if_neg h40]
  by_cases h92 : xt tx n A = 92
  · rw [if_pos h92]; simp [h92]
  rw [if_neg h92]
  by_cases h91 : xt tx n A = 91
  · rw [if_pos h91]; simp
  rw [if_neg h91]
  by_cases h36 : xt tx n A = 36
  · rw [if_pos h36]; simp [h36]
  rw [if_neg h36]
  by_cases h46 : xt tx n A = 46
  · rw [if_pos h46]; simp
  rw [if_neg h46]
  by_cases h94 : xt tx n A = 94
  · rw [if_pos h94]; simp [h94]
  rw [if_neg h94]
  simp
/-- asks: what the class says, what the reference says -/
theorem ask_pl (hE : EV (tx, n, P, ni, nr, ip, rp) su Q sl lim) {it : Nat} (hit : it < ni) (hPl : Pl ≤ sl) (hc : cp_in sl C) (hC : cE C C') (h4 : q_kd P it < 4) {fs : List mF} (hm : m_ask P su sl lim it N F Pl C tk fs cs m1) (hlt : tk < lim) : ¬ xt tx n (ip it) = 40 ∧ ((∃ p', x_pl tx n su sl (ip it) Pl C' = some p' ∧ m1 = (4, N, F, p', C, tk + 1, fs, cs)) ∨ (x_pl tx n su sl (ip it) Pl C' = none ∧ m1 = (7, N, F, Pl, C, tk + 1, fs, cs))) := by
  obtain ⟨e1, e2, e3, e4, e5, e6, e7, e8⟩ := hE
  have e1 : ST tx n P ni nr ip rp := e1
  have e3 : n ≤ 32 := e3
  obtain ⟨a1, a2, a3, a4, a5⟩ := e1.1 it hit
  obtain ⟨k1, k2, k3, k4, k5⟩ := kv_k (tx := tx) (n := n) (A := ip it)
  obtain ⟨m0, m1', m2, m3, m4, m5⟩ := hm.2 hlt
  rcases a3 with ⟨_, _, q3, _⟩ | ⟨_, _, q3, _⟩ | ⟨e, b1, b2, b3, b4⟩
  · omega
  · omega
  · have hk := e2.2.1
    rw [b3] at m0 m1' m2 m3 h4
    unfold x_pl
    rcases (by omega : (x_kv tx n (ip it)).1 = 0 ∨ (x_kv tx n (ip it)).1 = 1 ∨ (x_kv tx n (ip it)).1 = 2 ∨ (x_kv tx n (ip it)).1 = 3) with d | d | d | d
    · have hq := fun k hk => kv_hit (k := k) e3 a1 b2 d hk
      obtain ⟨_, n94, n36, n92, n40⟩ := hq 0 (by decide)
      refine ⟨n40, ?_⟩
      rw [if_neg n94, if_neg n36, if_neg n92]
      have hml := m0 d
      unfold m_letter at hml
      rw [b4] at hml
      by_cases hp : Pl < sl
      · have hsu := e6 Pl hp
        obtain ⟨k, hk, ek⟩ : ∃ k, k < 26 ∧ su Pl = 97 + k := ⟨su Pl - 97, by omega, by omega⟩
        rw [ek] at hml ⊢
        have hh := (hq k hk).1
        by_cases ht : x_hit tx n (ip it) (97 + k) = true
        · rw [if_pos ⟨hp, ht⟩]
          exact Or.inl ⟨Pl + 1, rfl, hml.1 ⟨hp, hh.mpr ht⟩⟩
        · rw [if_neg (fun w => ht w.2)]
          exact Or.inr ⟨rfl, hml.2 (fun w => ht (hh.mp w.2))⟩
      · rw [if_neg (fun w => hp w.1)]
        exact Or.inr ⟨rfl, hml.2 (fun w => hp w.1)⟩
    · have h94 := k1 d
      refine ⟨by omega, ?_⟩
      rw [if_pos h94]
      have hml := m1' d
      by_cases hp : Pl = 0
      · rw [if_pos hp] at hml ⊢
        exact Or.inl ⟨Pl, rfl, hml⟩
      · rw [if_neg hp] at hml ⊢
        exact Or.inr ⟨rfl, hml⟩
    · have h36 := k2 d
      refine ⟨by omega, ?_⟩
      rw [if_neg (by omega), if_pos h36]
      have hml := m2 d
      by_cases hp : Pl = sl
      · rw [if_pos hp] at hml ⊢
        exact Or.inl ⟨Pl, rfl, hml⟩
      · rw [if_neg hp] at hml ⊢
        exact Or.inr ⟨rfl, hml⟩
    · obtain ⟨h92, hvl⟩ := k3 d
      refine ⟨by omega, ?_⟩
      rw [if_neg (by omega), if_neg (by omega), if_pos h92]
      have hd := hk (ip it) h92
      have hd : 49 ≤ xt tx n (ip it + 1) ∧ xt tx n (ip it + 1) ≤ 52 := hd
      have hg : q_g P it = xt tx n (ip it + 1) - 49 := by
        unfold q_g
        rw [b4, hvl, nI_clamp (by omega)]
        omega
      have hml := m3 d
      rw [hg] at hml
      generalize hgg : xt tx n (ip it + 1) - 49 = g at hml
      have hg4 : g < 4 := by omega
      have hcg := hc g hg4
      have hCg := hC g hg4
      unfold m_same at hml
      have s0 : (C' g = 0) ↔ C g % 64 = 0 := by
        rw [hCg]
        rcases hcg with w | w
        · rw [w]
        · omega
      by_cases h0 : C g % 64 = 0
      · rw [if_pos (s0.mpr h0)]
        exact Or.inr ⟨rfl, hml.1 h0⟩
      · rw [if_neg (fun w => h0 (s0.mp w))]
        have e4 : sl ≤ 40 := e4
        have hd1 : C' g / 64 = C g % 64 := by
          rw [hCg]
          rcases hcg with w | w
          · rw [w] at h0; omega
          · omega
        have hm1 : C' g % 64 = C g / 64 := by
          rw [hCg]
          rcases hcg with w | w
          · rw [w] at h0; omega
          · omega
        rw [hd1, hm1]
        by_cases hs : q_same su sl (C g % 64 - 1) (C g / 64 - C g % 64) Pl
        · rw [if_pos ((x_rpB_iff).mpr hs)]
          exact Or.inl ⟨_, rfl, (hml.2 h0).1 hs⟩
        · rw [if_neg (fun w => hs ((x_rpB_iff).mp w))]
          exact Or.inr ⟨rfl, (hml.2 h0).2 hs⟩
end BV
