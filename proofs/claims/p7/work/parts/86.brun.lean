/-! the two machines: runs, searches -/
section BR
variable {e : bE} {su : Nat → Nat} {Q sl lim n1 n2 : Nat}
theorem bstep {tx : Nat → Nat} {n : Nat} {P : pg} {ni nr : Nat} {ip rp : Nat → Nat} (hE : EV (tx, n, P, ni, nr, ip, rp) su Q sl lim) {m m1 : mS} {x : xS} (h : SR (tx, n, P, ni, nr, ip, rp) Q sl lim m x) (hT : m.1 < 8) (hm : m_turn P su sl lim m m1) : sOK (tx, n, P, ni, nr, ip, rp) su Q sl lim m x m1 ∨ fin (tx, n, P, ni, nr, ip, rp) su sl lim x m1 := by
  obtain ⟨T, N, F, Pl, C, tk, fs, cs⟩ := m
  obtain ⟨M, A, p, K, C', st, xs, bs, kp⟩ := x
  have e1 : p = Pl := h.1
  have e2 : st = tk := h.2.1
  subst e1; subst e2
  have hT : T < 8 := hT
  rcases (by omega : T = 0 ∨ T = 1 ∨ T = 2 ∨ T = 3 ∨ T = 4 ∨ T = 5 ∨ T = 6 ∨ T = 7) with w | w | w | w | w | w | w | w <;> subst w
  · exact Or.inl (st_row hE h hm)
  · exact Or.inl (st_item hE h hm)
  · exact Or.inl (st_try hE h hm)
  · exact st_ask hE h hm
  · exact Or.inl (st_after hE h hm)
  · exact Or.inl (st_done hE h hm)
  · exact st_resume hE h hm
  · exact st_fail hE h hm
theorem SR_T {m : mS} {x : xS} (h : SR e Q sl lim m x) : m.1 < 8 := by
  obtain ⟨T, N, F, Pl, C, tk, fs, cs⟩ := m
  obtain ⟨M, A, p, K, C', st, xs, bs, kp⟩ := x
  obtain ⟨-, -, -, ⟨r, hT⟩, -⟩ := h
  show T < 8
  rcases hT with a | a | a | a | a | a | a | a <;> (have := a.1; omega)
theorem SR_on {m : mS} {x : xS} (h : SR e Q sl lim m x) (h1 : n1 = 3 * (lim + 1) + 4) (h2 : n2 = 13 * (lim + 1) + 4) : g_on n1 n2 m := by
  have hT := SR_T h
  obtain ⟨T, N, F, Pl, C, tk, fs, cs⟩ := m
  obtain ⟨M, A, p, K, C', st, xs, bs, kp⟩ := x
  obtain ⟨e1, e2, -, -, hCs, hxW, hwM, hbF⟩ := h
  subst e1; subst e2
  obtain ⟨c1, c2, c3, c4, c5⟩ := sr_ch hxW
  have hl : cs.length = bs.length := hCs.1
  have hb : fs.length ≤ 1 + 3 * st + b_pd T := hbF
  have hpd : b_pd T ≤ 2 := by unfold b_pd; repeat' split
                              all_goals omega
  refine ⟨hT, ?_, ?_⟩
  · show fs.length + 2 ≤ n1
    omega
  · show cs.length + 1 ≤ n2
    omega
theorem ptR_1 {y : mF} : 1 ≤ ptR e y := by
  unfold ptR
  repeat' split
  all_goals omega
theorem pt_1 {T F A : Nat} {N : Option Nat} {fs : List mF} (hT : T < 8) : 1 ≤ pt e T N F A fs := by
  have := ptR_1 (e := e) (y := (fs[F]?).getD f0)
  unfold pt
  repeat' split
  all_goals omega
theorem psi_1 {m : mS} {A : Nat} (hT : m.1 < 8) : 1 ≤ psi e lim m A := by
  have := pt_1 (e := e) (N := m.2.1) (F := m.2.2.1) (A := A) (fs := m.2.2.2.2.2.2.1) hT
  unfold psi
  omega
/-- how both end -/
def bEnd (e : bE) (su : Nat → Nat) (Q sl lim : Nat) (m' : mS) (x' : xS) (c : Nat) : Prop := m'.2.2.2.2.2.1 = x'.2.2.2.2.2.1 ∧ xW e.1 e.2.1 Q sl lim x' ∧ ((m'.1 = 8 ∧ c = 1 ∧ m'.2.2.2.1 = x'.2.2.1 ∧ cE m'.2.2.2.2.1 x'.2.2.2.2.1) ∨ (m'.1 = 9 ∧ c = 0) ∨ (m'.1 = 10 ∧ c = 2))
theorem brun {tx : Nat → Nat} {n : Nat} {P : pg} {ni nr : Nat} {ip rp : Nat → Nat} (hE : EV (tx, n, P, ni, nr, ip, rp) su Q sl lim) (h1 : n1 = 3 * (lim + 1) + 4) (h2 : n2 = 13 * (lim + 1) + 4) : ∀ (k : Nat) (m m' : mS) (x : xS), SR (tx, n, P, ni, nr, ip, rp) Q sl lim m x → m_run n1 n2 P su sl lim k m m' → k ≤ psi (tx, n, P, ni, nr, ip, rp) lim m x.2.1 ∧ (¬ g_on n1 n2 m' → ∃ x' c, (∀ f, psi (tx, n, P, ni, nr, ip, rp) lim m x.2.1 ≤ f → x_wk tx n su sl lim (f + 1) x = (c, x')) ∧ bEnd (tx, n, P, ni, nr, ip, rp) su Q sl lim m' x' c) := by
  intro k
  induction k with
  | zero =>
    intro m m' x hS hr
    have hr : m' = m := hr
    subst hr
    exact ⟨Nat.zero_le _, fun w => absurd (SR_on hS h1 h2) w⟩
  | succ k ih =>
    intro m m' x hS hr
    obtain ⟨hg, m1, ht, hr⟩ := hr
    have hT := SR_T hS
    rcases bstep hE hS hT ht with ⟨x1, c, c2, wk, hS1, p1, p2⟩ | hf
    · obtain ⟨i1, i2⟩ := ih m1 m' x1 hS1 hr
      refine ⟨by omega, fun w => ?_⟩
      obtain ⟨x', cc, a1, a2⟩ := i2 w
      refine ⟨x', cc, fun f hf => ?_, a2⟩
      have hw := wk (f - c)
      have e1 : f - c + 1 + c = f + 1 := by omega
      rw [e1] at hw
      exact hw.trans (a1 (f - c) (by omega))
    · have hp := psi_1 (e := (tx, n, P, ni, nr, ip, rp)) (lim := lim) (A := x.2.1) hT
      have hxW : xW tx n Q sl lim x := by
        obtain ⟨T, N, F, Pl, C, tk, fs, cs⟩ := m
        obtain ⟨M, A, p, K, C', st, xs, bs, kp⟩ := x
        exact hS.2.2.2.2.2.1
      have hm8 : 8 ≤ m1.1 := by
        rcases hf.2 with w | w | w
        · omega
        · omega
        · omega
      have hk0 : k = 0 ∧ m' = m1 := by
        cases k with
        | zero => exact ⟨rfl, hr⟩
        | succ k =>
          obtain ⟨hg1, _⟩ := hr
          have : m1.1 < 8 := hg1.1
          omega
      obtain ⟨rfl, rfl⟩ := hk0
      refine ⟨by omega, fun _ => ?_⟩
      rcases hf with ⟨t1, t2 | t2 | t2⟩
      · exact ⟨x, 1, fun f _ => t2.2.2.2 f, t1, hxW, Or.inl ⟨t2.1, rfl, t2.2.1, t2.2.2.1⟩⟩
      · exact ⟨x, 0, fun f _ => t2.2 f, t1, hxW, Or.inr (Or.inl ⟨t2.1, rfl⟩)⟩
      · exact ⟨x, 2, fun f _ => t2.2 f, t1, hxW, Or.inr (Or.inr ⟨t2.1, rfl⟩)⟩
theorem bbeg {tx : Nat → Nat} {n : Nat} {P : pg} {ni nr : Nat} {ip rp : Nat → Nat} (hE : EV (tx, n, P, ni, nr, ip, rp) su Q sl lim) {p tk : Nat} {kp : Nat → Nat → Nat} (hp : p ≤ sl) (htk : tk ≤ lim) (hkp : ∀ s, cx_in 40 (kp s)) : SR (tx, n, P, ni, nr, ip, rp) Q sl lim (m_beg P p tk) (x_beg p tk kp) ∧ psi (tx, n, P, ni, nr, ip, rp) lim (m_beg P p tk) (x_beg p tk kp).2.1 ≤ 999999 := by
  obtain ⟨e1, e2, e3, e4, e5, e6, e7, e8⟩ := hE
  have e1 : ST tx n P ni nr ip rp := e1
  have e3 : n ≤ 32 := e3
  obtain ⟨⟨z1, z2, z3⟩, _⟩ := e1.2.2.1
  have hR : bR (tx, n, P, ni, nr, ip, rp) ([f0], [(0, 0, 0, 0, p, 0, 0, 0, 0)], [], kp, tk) 1 0 0 0 := ⟨f0, rfl, rfl, Or.inl rfl, Or.inl ⟨rfl, rfl⟩⟩
  have hRw : bRw (tx, n, P, ni, nr, ip, rp) ([f0], [(0, 0, 0, 0, p, 0, 0, 0, 0)], [], kp, tk) 1 0 0 0 (rp 0) := ⟨hR, f0, rfl, (show (0 : Nat) ≤ 2 by decide), fun w => absurd w (show ¬ (0 : Nat) = 1 by decide)⟩
  have hbT : bT (tx, n, P, ni, nr, ip, rp) ([f0], [(0, 0, 0, 0, p, 0, 0, 0, 0)], [], kp, tk) 1 0 (some 0) 0 p 1 (rp 0) 0 0 := mk_0 z3 hRw
  rw [z2] at hbT
  refine ⟨⟨rfl, rfl, fun g _ => (show (0 : Nat) = 0 % 64 * 64 + 0 / 64 from rfl), ⟨1, by rw [z1]; exact hbT⟩, ⟨rfl, fun j z w hz => by simp at hz, fun j j' w w' _ hw => by simp at hw⟩, w_beg e2 hp htk hkp, wM_beg e7 hp htk, ?_⟩, ?_⟩
  · show 1 ≤ 1 + 3 * tk + b_pd 0
    omega
  · show 2604 * (lim - tk) + 1302 * 0 + (3 * (n - 0) + 5 + 100 * 0) ≤ 999999
    omega
theorem bfind {tx : Nat → Nat} {n : Nat} {P : pg} {ni nr : Nat} {ip rp : Nat → Nat} (hE : EV (tx, n, P, ni, nr, ip, rp) su Q sl lim) (h1 : n1 = 3 * (lim + 1) + 4) (h2 : n2 = 13 * (lim + 1) + 4) : ∀ (r tk p : Nat) (kp : Nat → Nat → Nat) {ans : Int32} {mo : Option mS} {tk' : Nat}, tk ≤ lim → (∀ s, cx_in 40 (kp s)) → m_fnd n1 n2 P su sl lim r tk p ans mo tk' → ∃ xo kp', x_sk tx n su sl lim r p tk kp = (ans, tk', xo, kp') ∧ ((mo = none ∧ xo = none) ∨ ∃ m s, mo = some m ∧ xo = some s ∧ ans = nI s.1 ∧ m.2.2.2.1 = s.2.1 ∧ cE m.2.2.2.2.1 s.2.2) := by
  intro r
  induction r with
  | zero =>
    intro tk p kp ans mo tk' htk hkp hf
    obtain ⟨f1, f2, f3, f4⟩ := hf
    subst f2; subst f3; subst f4
    exact ⟨none, kp, rfl, Or.inl ⟨rfl, rfl⟩⟩
  | succ r ih =>
    intro tk p kp ans mo tk' htk hkp hf
    obtain ⟨hp, m', k, hr, hk, hend, q9, q5, q8⟩ := hf
    obtain ⟨hS, hpsi⟩ := bbeg hE hp htk hkp
    obtain ⟨b1, b2⟩ := brun hE h1 h2 k _ m' _ hS hr
    have hng : ¬ g_on n1 n2 m' := by
      rcases hend with w | w
      · omega
      · exact w
    obtain ⟨x', c, wk, t1, hxW, t2⟩ := b2 hng
    have hw : x_wk tx n su sl lim 1000000 (x_beg p tk kp) = (c, x') := wk 999999 hpsi
    have esk : x_sk tx n su sl lim (r + 1) p tk kp = if c = 2 then (-5, x'.2.2.2.2.2.1, none, x'.2.2.2.2.2.2.2.2) else if c = 1 then (nI p, x'.2.2.2.2.2.1, some (p, x'.2.2.1, x'.2.2.2.2.1), x'.2.2.2.2.2.2.2.2) else x_sk tx n su sl lim r (p + 1) x'.2.2.2.2.2.1 x'.2.2.2.2.2.2.2.2 := by
      show (match x_wk tx n su sl lim 1000000 (x_beg p tk kp) with
        | (c, m) => if c = 2 then (-5, m.2.2.2.2.2.1, none, m.2.2.2.2.2.2.2.2) else if c = 1 then (nI p, m.2.2.2.2.2.1, some (p, m.2.2.1, m.2.2.2.2.1), m.2.2.2.2.2.2.2.2) else x_sk tx n su sl lim r (p + 1) m.2.2.2.2.2.1 m.2.2.2.2.2.2.2.2) = _
      rw [hw]
    rw [esk]
    rcases t2 with ⟨m8, c1, v1, v2⟩ | ⟨m9, c0⟩ | ⟨m10, c2⟩
    · obtain ⟨a1, a2, a3⟩ := q8 m8
      subst c1
      rw [if_neg (by decide), if_pos rfl]
      exact ⟨some (p, x'.2.2.1, x'.2.2.2.2.1), x'.2.2.2.2.2.2.2.2, by rw [a1, a3, t1], Or.inr ⟨m', _, a2, rfl, a1, v1, v2⟩⟩
    · subst c0
      rw [if_neg (by decide), if_neg (by decide)]
      have hkp' : ∀ s, cx_in 40 (x'.2.2.2.2.2.2.2.2 s) := by
        obtain ⟨M, A, p, K, C', st, xs, bs, kp⟩ := x'
        exact hxW.2.1.2.2.2.2.2.2.2.1
      have htk' : x'.2.2.2.2.2.1 ≤ lim := by
        obtain ⟨M, A, p, K, C', st, xs, bs, kp⟩ := x'
        exact hxW.2.1.2.2.2.2.2.2.2.2.1
      have := ih x'.2.2.2.2.2.1 (p + 1) x'.2.2.2.2.2.2.2.2 htk' hkp' (by rw [← t1]; exact q9 m9)
      exact this
    · obtain ⟨a1, a2, a3⟩ := q5 (by omega) (by omega)
      subst c2
      rw [if_pos rfl]
      exact ⟨none, x'.2.2.2.2.2.2.2.2, by rw [a1, a3, t1], Or.inl ⟨a2, rfl⟩⟩
end BR
