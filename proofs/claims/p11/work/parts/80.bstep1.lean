/-! the two machines: a turn; rows and items -/
def sOK (e : bE) (su : Nat → Nat) (Q sl lim : Nat) (m : mS) (x : xS) (m1 : mS) : Prop := ∃ x1 c, c ≤ 2 ∧ (∀ f, x_wk e.1 e.2.1 su sl lim (f + 1 + c) x = x_wk e.1 e.2.1 su sl lim (f + 1) x1) ∧ SR e Q sl lim m1 x1 ∧ psi e lim m1 x1.2.1 + 1 ≤ psi e lim m x.2.1 ∧ psi e lim m1 x1.2.1 + c ≤ psi e lim m x.2.1
section BS
variable {e : bE} {h : bH} {r F Pl M A K L : Nat} {N : Option Nat}
theorem bT_0 (a : bT e h r 0 N F Pl M A K L) : M = 1 ∧ ∃ rr, N = some rr ∧ rr < e.2.2.2.2.1 ∧ e.2.2.2.2.2.2 rr = A ∧ bRw e h r F K L A := by
  rcases a with a | a | a | a | a | a | a | a
  · exact a.2
  all_goals exact absurd a.1 (by decide)
theorem bT_1 (a : bT e h r 1 N F Pl M A K L) : M = 0 ∧ atN e.1 e.2.1 e.2.2.2.1 e.2.2.2.2.2.1 N A ∧ bRw e h r F K L A := by
  rcases a with a | a | a | a | a | a | a | a
  · exact absurd a.1 (by decide)
  · exact a.2
  all_goals exact absurd a.1 (by decide)
theorem bT_2 (a : bT e h r 2 N F Pl M A K L) : M = 2 ∧ ∃ it, N = some it ∧ it < e.2.2.2.1 ∧ e.2.2.2.2.2.1 it = A ∧ bTr e h r it F K L Pl := by
  rcases a with a | a | a | a | a | a | a | a
  · exact absurd a.1 (by decide)
  · exact absurd a.1 (by decide)
  · exact a.2
  all_goals exact absurd a.1 (by decide)
theorem bT_3 (a : bT e h r 3 N F Pl M A K L) : M = 2 ∧ ∃ it, N = some it ∧ it < e.2.2.2.1 ∧ e.2.2.2.2.2.1 it = A ∧ bAk e h r it F K L := by
  rcases a with a | a | a | a | a | a | a | a
  · exact absurd a.1 (by decide)
  · exact absurd a.1 (by decide)
  · exact absurd a.1 (by decide)
  · exact a.2
  all_goals exact absurd a.1 (by decide)
theorem bT_4 (a : bT e h r 4 N F Pl M A K L) : M = 5 ∧ ∃ it, N = some it ∧ it < e.2.2.2.1 ∧ bAk e h r it F K L := by
  rcases a with a | a | a | a | a | a | a | a
  · exact absurd a.1 (by decide)
  · exact absurd a.1 (by decide)
  · exact absurd a.1 (by decide)
  · exact absurd a.1 (by decide)
  · exact a.2
  all_goals exact absurd a.1 (by decide)
theorem bT_5 (a : bT e h r 5 N F Pl M A K L) : M = 5 ∧ ∃ it, N = some it ∧ it < e.2.2.2.1 ∧ ¬ q_rp e.2.2.1 it = 0 ∧ bDk e h r it F K L := by
  rcases a with a | a | a | a | a | a | a | a
  · exact absurd a.1 (by decide)
  · exact absurd a.1 (by decide)
  · exact absurd a.1 (by decide)
  · exact absurd a.1 (by decide)
  · exact absurd a.1 (by decide)
  · exact a.2
  all_goals exact absurd a.1 (by decide)
theorem bT_6 (a : bT e h r 6 N F Pl M A K L) : M = 5 ∧ bR e h r F K L := by
  rcases a with a | a | a | a | a | a | a | a
  · exact absurd a.1 (by decide)
  · exact absurd a.1 (by decide)
  · exact absurd a.1 (by decide)
  · exact absurd a.1 (by decide)
  · exact absurd a.1 (by decide)
  · exact absurd a.1 (by decide)
  · exact a.2
  · exact absurd a.1 (by decide)
theorem bT_7 (a : bT e h r 7 N F Pl M A K L) : M = 6 := by
  rcases a with a | a | a | a | a | a | a | a
  · exact absurd a.1 (by decide)
  · exact absurd a.1 (by decide)
  · exact absurd a.1 (by decide)
  · exact absurd a.1 (by decide)
  · exact absurd a.1 (by decide)
  · exact absurd a.1 (by decide)
  · exact absurd a.1 (by decide)
  · exact a.2
theorem mk_0 {rr : Nat} (h2 : rr < e.2.2.2.2.1) (h4 : bRw e h r F K L (e.2.2.2.2.2.2 rr)) : bT e h r 0 (some rr) F Pl 1 (e.2.2.2.2.2.2 rr) K L := Or.inl ⟨rfl, rfl, rr, rfl, h2, rfl, h4⟩
theorem mk_1 (h2 : atN e.1 e.2.1 e.2.2.2.1 e.2.2.2.2.2.1 N A) (h4 : bRw e h r F K L A) : bT e h r 1 N F Pl 0 A K L := Or.inr (Or.inl ⟨rfl, rfl, h2, h4⟩)
theorem mk_2 {it : Nat} (h2 : it < e.2.2.2.1) (h4 : bTr e h r it F K L Pl) : bT e h r 2 (some it) F Pl 2 (e.2.2.2.2.2.1 it) K L := Or.inr (Or.inr (Or.inl ⟨rfl, rfl, it, rfl, h2, rfl, h4⟩))
theorem mk_3 {it : Nat} (h2 : it < e.2.2.2.1) (h4 : bAk e h r it F K L) : bT e h r 3 (some it) F Pl 2 (e.2.2.2.2.2.1 it) K L := Or.inr (Or.inr (Or.inr (Or.inl ⟨rfl, rfl, it, rfl, h2, rfl, h4⟩)))
theorem mk_4 {it : Nat} (h2 : it < e.2.2.2.1) (h4 : bAk e h r it F K L) : bT e h r 4 (some it) F Pl 5 A K L := Or.inr (Or.inr (Or.inr (Or.inr (Or.inl ⟨rfl, rfl, it, rfl, h2, h4⟩))))
theorem mk_5 {it : Nat} (h2 : it < e.2.2.2.1) (h3 : ¬ q_rp e.2.2.1 it = 0) (h4 : bDk e h r it F K L) : bT e h r 5 (some it) F Pl 5 A K L := Or.inr (Or.inr (Or.inr (Or.inr (Or.inr (Or.inl ⟨rfl, rfl, it, rfl, h2, h3, h4⟩)))))
theorem mk_6 (h4 : bR e h r F K L) : bT e h r 6 N F Pl 5 A K L := Or.inr (Or.inr (Or.inr (Or.inr (Or.inr (Or.inr (Or.inl ⟨rfl, rfl, h4⟩))))))
theorem mk_7 : bT e h r 7 N F Pl 6 A K L := Or.inr (Or.inr (Or.inr (Or.inr (Or.inr (Or.inr (Or.inr ⟨rfl, rfl⟩))))))
end BS
section BU
variable {tx : Nat → Nat} {n : Nat} {P : pg} {ni nr : Nat} {ip rp : Nat → Nat} {su : Nat → Nat} {Q sl lim : Nat}
variable {T F Pl tk : Nat} {N : Option Nat} {C : Nat → Nat} {fs : List mF} {cs : List mC}
variable {M A K : Nat} {C' : Nat → Nat} {xs : List xF} {bs : List xB} {kp : Nat → Nat → Nat} {m1 : mS}
theorem sr_fi (hw : wM P ni nr sl lim (T, N, F, Pl, C, tk, fs, cs)) : fiO fs := fun i y hy j hj => by
  have := (hw.2.2.2.2.2.2.2.2.1 i y hy).1.2.2.1
  omega
theorem sr_ch (hx : xW tx n Q sl lim (M, A, Pl, K, C', tk, xs, bs, kp)) : x_ch xs ∧ K < xs.length ∧ bs.length ≤ 12 + 13 * tk ∧ tk ≤ lim ∧ 1 ≤ xs.length := ⟨w_Fs_ch hx.2.1.1, hx.2.1.2.1, hx.2.1.2.2.2.2.2.2.2.2.2.2, hx.2.1.2.2.2.2.2.2.2.2.1, w_Fs_len hx.2.1.1⟩
/-- what the class keeps of itself -/
theorem sr_w (hE : EV (tx, n, P, ni, nr, ip, rp) su Q sl lim) (hT : T < 8) (hm : m_turn P su sl lim (T, N, F, Pl, C, tk, fs, cs) m1) (hC : bCs (tx, n, P, ni, nr, ip, rp) (fs, xs, cs, kp, tk) bs) (hx : xW tx n Q sl lim (M, A, Pl, K, C', tk, xs, bs, kp)) (hw : wM P ni nr sl lim (T, N, F, Pl, C, tk, fs, cs)) (hb : b_F (T, N, F, Pl, C, tk, fs, cs)) (h10 : ¬ m1.1 = 10) : wM P ni nr sl lim m1 ∧ b_F m1 := by
  obtain ⟨e1, e2, e3, e4, e5, e6, e7, e8⟩ := hE
  obtain ⟨c1, c2, c3, c4, c5⟩ := sr_ch hx
  have hl : cs.length = bs.length := hC.1
  have e5 : lim ≤ 300 := e5
  have hq : ∀ k, k < ni → q_kd P k ≤ 9 := fun k hk => (e8 k hk).1
  refine ⟨p_turn e4 e7 e8 hw hT (by omega) hm, ?_⟩
  rcases b_turn hw hT hq hb hm with w | w
  · exact w
  · exact absurd w.1 h10
theorem st_row (hE : EV (tx, n, P, ni, nr, ip, rp) su Q sl lim) (h : SR (tx, n, P, ni, nr, ip, rp) Q sl lim (0, N, F, Pl, C, tk, fs, cs) (M, A, Pl, K, C', tk, xs, bs, kp)) (hm : m_turn P su sl lim (0, N, F, Pl, C, tk, fs, cs) m1) : sOK (tx, n, P, ni, nr, ip, rp) su Q sl lim (0, N, F, Pl, C, tk, fs, cs) (M, A, Pl, K, C', tk, xs, bs, kp) m1 := by
  obtain ⟨-, -, hC, ⟨r, hT⟩, hCs, hxW, hwM, hbF⟩ := h
  have hE0 := hE
  obtain ⟨e1, e2, e3, e4, e5, e6, e7, e8⟩ := hE
  have hfi := sr_fi hwM
  obtain ⟨c1, c2, c3, c4, c5⟩ := sr_ch hxW
  obtain ⟨rfl, rr, rfl, hrr, rfl, hRw⟩ := bT_0 hT
  have hm1 : m1 = m_row P rr F Pl C tk fs cs := hm.1 rfl rr rfl
  obtain ⟨hrp, hfi2, hnr⟩ := e1.2.1 rr hrr
  have hrp : rp rr ≤ n := hrp
  have hat : atN tx n ni ip (q_fi P rr) (rp rr) := by
    rcases hfi2 with w | ⟨a, w1, w2, w3⟩
    · exact Or.inl w
    · exact Or.inr ⟨a, w1, w2, w3⟩
  have hk := k_act (su := su) e2 e4 e5 hxW (by decide) (by intro w; omega) (by intro w; omega)
  have wk := wk_act (tx := tx) (n := n) (su := su) (sl := sl) (lim := lim) (x := (1, rp rr, Pl, K, C', tk, xs, bs, kp)) (by show ¬ (1 : Nat) = 6; decide) (by intro w; have : (1 : Nat) = 5 := w.1; omega) (by intro w; have : (1 : Nat) = 2 := w.1; omega)
  have ex : x_act tx n su sl (1, rp rr, Pl, K, C', tk, xs, bs, kp) = (0, rp rr, Pl, K, C', tk, xs, (match x_nr tx n (rp rr) with
      | none => bs
      | some j => bs ++ [(1, j, Pl, K, xs.length - 1, C')]), kp) := rfl
  rw [ex] at hk wk
  subst hm1
  obtain ⟨w1, w2⟩ := sr_w hE0 (by decide) hm hCs hxW hwM hbF (by show ¬ (1 : Nat) = 10; decide)
  rcases hnr with ⟨q1, q2⟩ | ⟨o, q1, q2, q3, q4⟩
  · have e0 : m_row P rr F Pl C tk fs cs = (1, q_fi P rr, F, Pl, C, tk, fs, cs) := by
      unfold m_row
      rw [q1]
    rw [e0] at w1 w2 ⊢
    rw [q2] at hk wk
    refine ⟨_, 1, by decide, fun f => wk (f + 1), ⟨rfl, rfl, hC, ⟨r, mk_1 hat hRw⟩, hCs, hk, w1, w2⟩, ?_, ?_⟩
    · show 2604 * (lim - tk) + 1302 * nA cs + (3 * (n - rp rr) + 4 + 100 * m_cl fs F) + 1 ≤ 2604 * (lim - tk) + 1302 * nA cs + (3 * (n - rp rr) + 5 + 100 * m_cl fs F)
      omega
    · show 2604 * (lim - tk) + 1302 * nA cs + (3 * (n - rp rr) + 4 + 100 * m_cl fs F) + 1 ≤ 2604 * (lim - tk) + 1302 * nA cs + (3 * (n - rp rr) + 5 + 100 * m_cl fs F)
      omega
  · have e0 : m_row P rr F Pl C tk fs cs = (1, q_fi P rr, F, Pl, C, tk, fs, cs ++ [(0, o, Pl, C, F)]) := by
      unfold m_row
      rw [q1]
    rw [e0] at w1 w2 ⊢
    rw [q3] at hk wk
    have hX := bX_c (xs := xs) (cs := cs) (kp := kp) (S := tk) (c := [((0, o, Pl, C, F) : mC)]) hfi
    have hRw2 : bRw (tx, n, P, ni, nr, ip, rp) (fs, xs, cs ++ [(0, o, Pl, C, F)], kp, tk) r F K cs.length (rp o) := by
      obtain ⟨a1, y, a2, a3, a4⟩ := bRw_x hX c2 (Nat.le_refl _) (Nat.le_refl _) hRw
      exact ⟨a1, y, a2, a3, fun w => (q4 1 (Nat.le_refl _)).symm.trans (a4 w)⟩
    refine ⟨_, 1, by decide, fun f => wk (f + 1), ⟨rfl, rfl, hC, ⟨r, mk_1 hat (bRw_x hX c2 (Nat.le_refl _) (by rw [List.length_append]; omega) hRw)⟩, bCs_push hCs hfi (by show xs.length - 1 + 1 = xs.length; omega) ⟨rfl, hC, by show K < xs.length - 1 + 1; omega, Or.inl rfl, r, mk_0 q2 hRw2⟩, hk, w1, w2⟩, ?_, ?_⟩
    · show 2604 * (lim - tk) + 1302 * nA (cs ++ [(0, o, Pl, C, F)]) + (3 * (n - rp rr) + 4 + 100 * m_cl fs F) + 1 ≤ 2604 * (lim - tk) + 1302 * nA cs + (3 * (n - rp rr) + 5 + 100 * m_cl fs F)
      rw [nA_app (by show ¬ (0 : Nat) = 4; decide)]
      omega
    · show 2604 * (lim - tk) + 1302 * nA (cs ++ [(0, o, Pl, C, F)]) + (3 * (n - rp rr) + 4 + 100 * m_cl fs F) + 1 ≤ 2604 * (lim - tk) + 1302 * nA cs + (3 * (n - rp rr) + 5 + 100 * m_cl fs F)
      rw [nA_app (by show ¬ (0 : Nat) = 4; decide)]
      omega
end BU
