/-! what a search answers, as both sides say it -/
def s_sk (lim : Nat) (p : Nat × (Nat → Nat)) (su : Nat → Nat) (sl s : Nat) : xR := x_sk p.2 p.1 su sl lim (sl + 1 - s) s 0 (fun _ _ => 0)
/-- answer, steps, the match's two places -/
def s_fnd (lim : Nat) (p : Nat × (Nat → Nat)) (su : Nat → Nat) (sl s : Nat) : Int32 × Nat × Option (Nat × Nat) := ((s_sk lim p su sl s).1, (s_sk lim p su sl s).2.1, (s_sk lim p su sl s).2.2.1.map (fun z => (z.1, z.2.1)))
def s_nx (z : Nat × Nat) : Nat := if z.2 = z.1 then z.2 + 1 else z.2
def s_mt (lim : Nat) (p : Nat × (Nat → Nat)) (su : Nat → Nat) (sl : Nat) : Nat → Nat → Nat → Nat → Int32 × Nat
  | 0, _, fd, st => (nI fd, st)
  | f + 1, s, fd, st => if sl < s then (nI fd, st) else match (s_fnd lim p su sl s).2.2 with
    | none => (if (s_fnd lim p su sl s).1 = -5 then -5 else nI fd, (s_fnd lim p su sl s).2.1)
    | some z => s_mt lim p su sl f (s_nx z) (fd + 1) (s_fnd lim p su sl s).2.1
theorem x_sk_mo {tx : Nat → Nat} {n : Nat} {su : Nat → Nat} {sl lim : Nat} : ∀ (f s st : Nat) (kp : Nat → Nat → Nat) {ans : Int32} {st' : Nat} {mo : Option (Nat × Nat × (Nat → Nat))} {kp' : Nat → Nat → Nat}, x_sk tx n su sl lim f s st kp = (ans, st', mo, kp') → (mo = none ∧ (ans = -4 ∨ ans = -5)) ∨ ∃ m, mo = some m ∧ ans = nI m.1 ∧ s ≤ m.1 ∧ m.1 < s + f
  | 0, s, st, kp, ans, st', mo, kp', h => by
    cases h
    exact Or.inl ⟨rfl, Or.inl rfl⟩
  | f + 1, s, st, kp, ans, st', mo, kp', h => by
    unfold x_sk at h
    split at h
    rename_i c m hc
    split at h
    · cases h
      exact Or.inl ⟨rfl, Or.inr rfl⟩
    · split at h
      · cases h
        exact Or.inr ⟨_, rfl, rfl, Nat.le_refl _, by show s < s + (f + 1); omega⟩
      · rcases x_sk_mo f _ _ _ h with w | ⟨m, w1, w2, w3, w4⟩
        · exact Or.inl w
        · exact Or.inr ⟨m, w1, w2, by omega, by omega⟩
section SS
variable {tx : Nat → Nat} {n Q : Nat} {su : Nat → Nat} {sl lim : Nat}
theorem wk_W (hG : xG tx n Q) (hsl : sl ≤ 40) (hlim : lim ≤ 300) : ∀ (f : Nat) {m m' : xS} {c : Nat}, xW tx n Q sl lim m → x_wk tx n su sl lim f m = (c, m') → xW tx n Q sl lim m'
  | 0, m, m', c, hw, h => by
    cases h
    exact hw
  | f + 1, m, m', c, hw, h => by
    obtain ⟨M, A, p, k, C, st, xs, bs, kp⟩ := m
    have key : ∀ (M A p k : Nat) (C : Nat → Nat) (xs : List xF) (bs : List xB), xW tx n Q sl lim (M, A, p, k, C, st, xs, bs, kp) → ¬ M = 6 → (if M = 5 ∧ k = 0 then (1, (M, A, p, k, C, st, xs, bs, kp)) else if M = 2 ∧ st = lim then (2, (M, A, p, k, C, st, xs, bs, kp)) else x_wk tx n su sl lim f (x_act tx n su sl (M, A, p, k, C, st, xs, bs, kp))) = (c, m') → xW tx n Q sl lim m' := by
      intro M A p k C xs bs hw h6 h
      by_cases q1 : M = 5 ∧ k = 0
      · rw [if_pos q1] at h
        cases h
        exact hw
      · rw [if_neg q1] at h
        by_cases q2 : M = 2 ∧ st = lim
        · rw [if_pos q2] at h
          cases h
          exact hw
        · rw [if_neg q2] at h
          exact wk_W hG hsl hlim f (k_act hG hsl hlim hw h6 q1 q2) h
    have ew : x_wk tx n su sl lim (f + 1) (M, A, p, k, C, st, xs, bs, kp) = match (if M = 6 then x_ret st xs bs kp else some (M, A, p, k, C, st, xs, bs, kp)) with
      | none => (0, (M, A, p, k, C, st, xs, bs, kp))
      | some m1 => if m1.1 = 5 ∧ m1.2.2.2.1 = 0 then (1, m1) else if m1.1 = 2 ∧ m1.2.2.2.2.2.1 = lim then (2, m1) else x_wk tx n su sl lim f (x_act tx n su sl m1) := rfl
    rw [ew] at h
    by_cases h6 : M = 6
    · rw [if_pos h6] at h
      subst h6
      cases hr : x_ret st xs bs kp with
      | none =>
        rw [hr] at h
        cases h
        exact hw
      | some m1 =>
        obtain ⟨a1, a2⟩ := k_ret hG.1 hw hr
        rw [hr] at h
        unfold x_ret at hr
        cases hb : bs[bs.length - 1]? with
        | none => rw [hb] at hr; cases hr
        | some y =>
          rw [hb] at hr
          cases hr
          exact key _ _ _ _ _ _ _ a1 a2 h
    · rw [if_neg h6] at h
      exact key M A p k C xs bs hw h6 h
theorem sk_in (hG : xG tx n Q) (hsl : sl ≤ 40) (hlim : lim ≤ 300) : ∀ (f s st : Nat) (kp : Nat → Nat → Nat) {ans : Int32} {st' : Nat} {m : Nat × Nat × (Nat → Nat)} {kp' : Nat → Nat → Nat}, s + f = sl + 1 → st ≤ lim → (∀ s, cx_in 40 (kp s)) → x_sk tx n su sl lim f s st kp = (ans, st', some m, kp') → s ≤ m.1 ∧ m.1 ≤ m.2.1 ∧ m.2.1 ≤ sl ∧ ans = nI m.1
  | 0, s, st, kp, ans, st', m, kp', _, _, _, h => by cases h
  | f + 1, s, st, kp, ans, st', m, kp', hs, hst, hkp, h => by
    cases hw : x_wk tx n su sl lim 1000000 (x_beg s st kp) with
    | mk c x =>
      have hxW := wk_W hG hsl hlim 1000000 (w_beg hG (by omega) hst hkp) hw
      have hp := wk_p hG hsl hlim (by omega) hst hkp hw hxW
      have e : x_sk tx n su sl lim (f + 1) s st kp = if c = 2 then (-5, x.2.2.2.2.2.1, none, x.2.2.2.2.2.2.2.2) else if c = 1 then (nI s, x.2.2.2.2.2.1, some (s, x.2.2.1, x.2.2.2.2.1), x.2.2.2.2.2.2.2.2) else x_sk tx n su sl lim f (s + 1) x.2.2.2.2.2.1 x.2.2.2.2.2.2.2.2 := by
        show (match x_wk tx n su sl lim 1000000 (x_beg s st kp) with
          | (c, m) => if c = 2 then (-5, m.2.2.2.2.2.1, none, m.2.2.2.2.2.2.2.2) else if c = 1 then (nI s, m.2.2.2.2.2.1, some (s, m.2.2.1, m.2.2.2.2.1), m.2.2.2.2.2.2.2.2) else x_sk tx n su sl lim f (s + 1) m.2.2.2.2.2.1 m.2.2.2.2.2.2.2.2) = _
        rw [hw]
      rw [e] at h
      by_cases c2 : c = 2
      · rw [if_pos c2] at h
        cases h
      · rw [if_neg c2] at h
        by_cases c1 : c = 1
        · rw [if_pos c1] at h
          cases h
          exact ⟨Nat.le_refl _, hp.1, hp.2, rfl⟩
        · rw [if_neg c1] at h
          obtain ⟨M, A, p, k, C, st2, xs, bs, kp2⟩ := x
          have := sk_in hG hsl hlim f (s + 1) _ _ (by omega) hxW.2.1.2.2.2.2.2.2.2.2.1 hxW.2.1.2.2.2.2.2.2.2.1 h
          exact ⟨by omega, this.2⟩
theorem cx_0' : ∀ _ : Nat, cx_in 40 (fun _ => 0) := fun _ => cx_0
/-- what a match of the searches is -/
theorem fnd_in {p : Nat × (Nat → Nat)} (hG : xG p.2 p.1 Q) (hsl : sl ≤ 40) (hlim : lim ≤ 300) {s : Nat} (hs : s ≤ sl) {z : Nat × Nat} (h : (s_fnd lim p su sl s).2.2 = some z) : s ≤ z.1 ∧ z.1 ≤ z.2 ∧ z.2 ≤ sl ∧ (s_fnd lim p su sl s).1 = nI z.1 := by
  unfold s_fnd at h ⊢
  cases hr : s_sk lim p su sl s with
  | mk ans r =>
    obtain ⟨st', mo, kp'⟩ := r
    rw [hr] at h
    cases mo with
    | none => cases h
    | some m =>
      have h : some (m.1, m.2.1) = some z := h
      cases h
      exact sk_in hG hsl hlim (sl + 1 - s) s 0 _ (by omega) (Nat.zero_le _) cx_0' hr
theorem fnd_no {p : Nat × (Nat → Nat)} {s : Nat} (h : (s_fnd lim p su sl s).2.2 = none) : (s_fnd lim p su sl s).1 = -4 ∨ (s_fnd lim p su sl s).1 = -5 := by
  unfold s_fnd at h ⊢
  cases hr : s_sk lim p su sl s with
  | mk ans r =>
    obtain ⟨st', mo, kp'⟩ := r
    rw [hr] at h
    cases mo with
    | some m => cases h
    | none =>
      rcases x_sk_mo _ _ _ _ hr with w | ⟨m, w, _⟩
      · exact w.2
      · cases w
/-- with whatever is kept -/
theorem fnd_kp {p : Nat × (Nat → Nat)} {s : Nat} {kp : Nat → Nat → Nat} {ans : Int32} {st' : Nat} {mo : Option (Nat × Nat × (Nat → Nat))} {kp' : Nat → Nat → Nat} (h : x_sk p.2 p.1 su sl lim (sl + 1 - s) s 0 kp = (ans, st', mo, kp')) : (s_fnd lim p su sl s).1 = ans ∧ (s_fnd lim p su sl s).2.1 = st' ∧ (s_fnd lim p su sl s).2.2 = mo.map (fun z => (z.1, z.2.1)) := by
  obtain ⟨a1, a2, a3⟩ := kp_sk (tx := p.2) (n := p.1) (su := su) (sl := sl) (lim := lim) (sl + 1 - s) s 0 kp (fun _ _ => 0)
  rw [h] at a1 a2 a3
  refine ⟨a1, a2, ?_⟩
  show (s_sk lim p su sl s).2.2.1.map _ = _
  unfold s_sk
  rw [a3]
end SS
