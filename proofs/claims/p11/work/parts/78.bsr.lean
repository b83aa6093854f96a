/-! the two machines: the relation -/
abbrev bE : Type := (Nat → Nat) × Nat × pg × Nat × Nat × (Nat → Nat) × (Nat → Nat)
abbrev bH : Type := List mF × List xF × List mC × (Nat → Nat → Nat) × Nat
def bR (e : bE) (h : bH) (r : Nat) : Nat → Nat → Nat → Prop := RK e.1 e.2.1 e.2.2.1 e.2.2.2.1 e.2.2.2.2.2.1 h.1 h.2.1 h.2.2.1 h.2.2.2.1 h.2.2.2.2 r
def bRw (e : bE) (h : bH) (r F K L A : Nat) : Prop := rwF e.1 e.2.1 e.2.2.2.2.2.1 h.1 (bR e h r) F K L A
def bDk (e : bE) (h : bH) (r it F K L : Nat) : Prop := dkF e.1 e.2.1 e.2.2.1 e.2.2.2.2.2.1 h.1 h.2.1 (bR e h r) it F K L
def bAk (e : bE) (h : bH) (r it F K L : Nat) : Prop := akF e.1 e.2.1 e.2.2.1 e.2.2.2.2.2.1 h.1 h.2.1 (bR e h r) it F K L
def bTr (e : bE) (h : bH) (r it F K L Pl : Nat) : Prop := (q_rp e.2.2.1 it = 2 ∧ bDk e h r it F K L) ∨ ((q_rp e.2.2.1 it = 3 ∨ q_rp e.2.2.1 it = 4) ∧ ∃ x, h.2.1[K]? = some x ∧ 1 ≤ K ∧ x.2.2.2.1 < K ∧ x.1 = (if q_mn e.2.2.1 it = 1 then 5 else 4) ∧ x.2.1 = e.2.2.2.2.2.1 it ∧ x.2.2.1 = Pl ∧ bDk e h r it F x.2.2.2.1 L)
/-- a task of the class, a mode of the reference -/
def bT (e : bE) (h : bH) (r T : Nat) (N : Option Nat) (F Pl M A K L : Nat) : Prop :=
  (T = 0 ∧ M = 1 ∧ ∃ rr, N = some rr ∧ rr < e.2.2.2.2.1 ∧ e.2.2.2.2.2.2 rr = A ∧ bRw e h r F K L A) ∨
  (T = 1 ∧ M = 0 ∧ atN e.1 e.2.1 e.2.2.2.1 e.2.2.2.2.2.1 N A ∧ bRw e h r F K L A) ∨
  (T = 2 ∧ M = 2 ∧ ∃ it, N = some it ∧ it < e.2.2.2.1 ∧ e.2.2.2.2.2.1 it = A ∧ bTr e h r it F K L Pl) ∨
  (T = 3 ∧ M = 2 ∧ ∃ it, N = some it ∧ it < e.2.2.2.1 ∧ e.2.2.2.2.2.1 it = A ∧ bAk e h r it F K L) ∨
  (T = 4 ∧ M = 5 ∧ ∃ it, N = some it ∧ it < e.2.2.2.1 ∧ bAk e h r it F K L) ∨
  (T = 5 ∧ M = 5 ∧ ∃ it, N = some it ∧ it < e.2.2.2.1 ∧ ¬ q_rp e.2.2.1 it = 0 ∧ bDk e h r it F K L) ∨
  (T = 6 ∧ M = 5 ∧ bR e h r F K L) ∨ (T = 7 ∧ M = 6)
def bC (e : bE) (h : bH) (j : Nat) (z : mC) (w : xB) : Prop := w.2.2.1 = z.2.2.1 ∧ cE z.2.2.2.1 w.2.2.2.2.2 ∧ w.2.2.2.1 < w.2.2.2.2.1 + 1 ∧ (z.1 = 0 ∨ z.1 = 2 ∨ z.1 = 4 ∨ z.1 = 5) ∧ ∃ r, bT e h r z.1 (some z.2.1) z.2.2.2.2 z.2.2.1 w.1 w.2.1 w.2.2.2.1 j
/-- what is kept: the class's frames, X frames of the reference, L choices -/
def bX (h h' : bH) (X L : Nat) : Prop := (∀ (i : Nat) (y : mF), h.1[i]? = some y → h'.1[i]? = some y) ∧ (∀ (i : Nat) (y : mF), h.1[i]? = some y → ∀ j, j = y.2.2.2.2.2.1 → j < h.1.length) ∧ (∀ s, s ≤ h.2.2.2.2 → h'.2.2.2.1 s = h.2.2.2.1 s) ∧ h.2.2.2.2 ≤ h'.2.2.2.2 ∧ (∀ i : Nat, i < X → h'.2.1[i]? = h.2.1[i]?) ∧ (∀ i : Nat, i < L → h'.2.2.1[i]? = h.2.2.1[i]?)
section BX
variable {e : bE} {h h' : bH} {X L L0 L1 r F K it : Nat}
theorem bR_x (hX : bX h h' X L) (hK : K < X) (h0 : L0 ≤ L) (h1 : L0 ≤ L1) (hR : bR e h r F K L0) : bR e h' r F K L1 := RK_mono hX.1 hX.2.1 hX.2.2.1 hX.2.2.2.1 r F K L0 L1 (fun i hi => hX.2.2.2.2.1 i (by omega)) (fun i hi => hX.2.2.2.2.2 i (by omega)) h1 hR
theorem bRw_x {A : Nat} (hX : bX h h' X L) (hK : K < X) (h0 : L0 ≤ L) (h1 : L0 ≤ L1) (hR : bRw e h r F K L0 A) : bRw e h' r F K L1 A := rw_mono hR hX.1 (bR_x hX hK h0 h1)
theorem bDk_x (hX : bX h h' X L) (hK : K < X) (h0 : L0 ≤ L) (h1 : L0 ≤ L1) (hR : bDk e h r it F K L0) : bDk e h' r it F K L1 := dk_mono hR hX.1 (fun i hi => hX.2.2.2.2.1 i (by omega)) (fun K2 hK2 => bR_x hX (by omega) h0 h1)
theorem bAk_x (hX : bX h h' X L) (hK : K < X) (h0 : L0 ≤ L) (h1 : L0 ≤ L1) (hR : bAk e h r it F K L0) : bAk e h' r it F K L1 := ak_mono hR hX.1 (fun i hi => hX.2.2.2.2.1 i (by omega)) (fun K2 hK2 => bR_x hX (by omega) h0 h1)
theorem bTr_x {Pl : Nat} (hX : bX h h' X L) (hK : K < X) (h0 : L0 ≤ L) (h1 : L0 ≤ L1) (hR : bTr e h r it F K L0 Pl) : bTr e h' r it F K L1 Pl := by
  rcases hR with ⟨a1, a2⟩ | ⟨a1, x, a2, a3, a4, a5, a6, a7, a8⟩
  · exact Or.inl ⟨a1, bDk_x hX hK h0 h1 a2⟩
  · exact Or.inr ⟨a1, x, by rw [hX.2.2.2.2.1 K hK]; exact a2, a3, a4, a5, a6, a7, bDk_x hX (by omega) h0 h1 a8⟩
theorem bT_x {T Pl M A : Nat} {N : Option Nat} (hX : bX h h' X L) (hK : K < X) (h0 : L0 ≤ L) (h1 : L0 ≤ L1) (hR : bT e h r T N F Pl M A K L0) : bT e h' r T N F Pl M A K L1 := by
  rcases hR with a | a | a | a | a | a | a | a
  · obtain ⟨a1, a2, rr, a3, a4, a5, a6⟩ := a
    exact Or.inl ⟨a1, a2, rr, a3, a4, a5, bRw_x hX hK h0 h1 a6⟩
  · obtain ⟨a1, a2, a3, a4⟩ := a
    exact Or.inr (Or.inl ⟨a1, a2, a3, bRw_x hX hK h0 h1 a4⟩)
  · obtain ⟨a1, a2, it, a3, a4, a5, a6⟩ := a
    exact Or.inr (Or.inr (Or.inl ⟨a1, a2, it, a3, a4, a5, bTr_x hX hK h0 h1 a6⟩))
  · obtain ⟨a1, a2, it, a3, a4, a5, a6⟩ := a
    exact Or.inr (Or.inr (Or.inr (Or.inl ⟨a1, a2, it, a3, a4, a5, bAk_x hX hK h0 h1 a6⟩)))
  · obtain ⟨a1, a2, it, a3, a4, a6⟩ := a
    exact Or.inr (Or.inr (Or.inr (Or.inr (Or.inl ⟨a1, a2, it, a3, a4, bAk_x hX hK h0 h1 a6⟩))))
  · obtain ⟨a1, a2, it, a3, a4, a5, a6⟩ := a
    exact Or.inr (Or.inr (Or.inr (Or.inr (Or.inr (Or.inl ⟨a1, a2, it, a3, a4, a5, bDk_x hX hK h0 h1 a6⟩)))))
  · obtain ⟨a1, a2, a3⟩ := a
    exact Or.inr (Or.inr (Or.inr (Or.inr (Or.inr (Or.inr (Or.inl ⟨a1, a2, bR_x hX hK h0 h1 a3⟩))))))
  · exact Or.inr (Or.inr (Or.inr (Or.inr (Or.inr (Or.inr (Or.inr a))))))
theorem bC_x {j : Nat} {z : mC} {w : xB} (hX : bX h h' X L) (hK : w.2.2.2.2.1 + 1 ≤ X) (h0 : j ≤ L) (hR : bC e h j z w) : bC e h' j z w := by
  obtain ⟨a1, a2, a3, a4, r, a5⟩ := hR
  exact ⟨a1, a2, a3, a4, r, bT_x hX (by omega) h0 (Nat.le_refl _) a5⟩
end BX
/-- all choices, one to one -/
def bCs (e : bE) (h : bH) (bs : List xB) : Prop := h.2.2.1.length = bs.length ∧ (∀ (j : Nat) (z : mC) (w : xB), h.2.2.1[j]? = some z → bs[j]? = some w → bC e h j z w ∧ w.2.2.2.2.1 + 1 ≤ h.2.1.length) ∧ ∀ (j j' : Nat) (w w' : xB), j < j' → bs[j]? = some w → bs[j']? = some w' → w.2.2.2.2.1 ≤ w'.2.2.2.2.1
section BC
variable {e : bE} {fs fs' : List mF} {xs xs' : List xF} {cs : List mC} {bs : List xB} {kp kp' : Nat → Nat → Nat} {S S' : Nat}
theorem bCs_x (h : bCs e (fs, xs, cs, kp, S) bs) (hX : bX (fs, xs, cs, kp, S) (fs', xs', cs, kp', S') xs.length cs.length) (hl : xs.length ≤ xs'.length) : bCs e (fs', xs', cs, kp', S') bs := by
  refine ⟨h.1, fun j z w hz hw => ?_, h.2.2⟩
  obtain ⟨a1, a2⟩ := h.2.1 j z w hz hw
  have hj := (List.getElem?_eq_some_iff.mp hz).1
  exact ⟨bC_x hX a2 (Nat.le_of_lt hj) a1, by show _ ≤ xs'.length; have : w.2.2.2.2.1 + 1 ≤ xs.length := a2; omega⟩
theorem bCs_take (h : bCs e (fs, xs, cs, kp, S) bs) (hfi : ∀ (i : Nat) (y : mF), fs[i]? = some y → ∀ j, j = y.2.2.2.2.2.1 → j < fs.length) (m : Nat) : bCs e (fs, xs, cs.take m, kp, S) (bs.take m) := by
  have hX : bX (fs, xs, cs, kp, S) (fs, xs, cs.take m, kp, S) xs.length m := ⟨fun _ _ h => h, hfi, fun _ _ => rfl, Nat.le_refl _, fun _ _ => rfl, fun i hi => List.getElem?_take_of_lt hi⟩
  have tk : ∀ {α : Type} (l : List α) (j : Nat) (z : α), (l.take m)[j]? = some z → j < m ∧ l[j]? = some z := by
    intro α l j z hz
    have hj : j < m := by
      have := (List.getElem?_eq_some_iff.mp hz).1
      rw [List.length_take] at this
      omega
    rw [List.getElem?_take_of_lt hj] at hz
    exact ⟨hj, hz⟩
  refine ⟨?_, fun j z w hz hw => ?_, fun j j' w w' hj hw hw' => ?_⟩
  · have : cs.length = bs.length := h.1
    show (cs.take m).length = (bs.take m).length
    rw [List.length_take, List.length_take, this]
  · obtain ⟨z1, z2⟩ := tk cs j z hz
    obtain ⟨w1, w2⟩ := tk bs j w hw
    obtain ⟨a1, a2⟩ := h.2.1 j z w z2 w2
    exact ⟨bC_x hX a2 (Nat.le_of_lt z1) a1, a2⟩
  · exact h.2.2 j j' w w' hj (tk bs j w hw).2 (tk bs j' w' hw').2
theorem bCs_push (h : bCs e (fs, xs, cs, kp, S) bs) (hfi : ∀ (i : Nat) (y : mF), fs[i]? = some y → ∀ j, j = y.2.2.2.2.2.1 → j < fs.length) {z : mC} {w : xB} (hx : w.2.2.2.2.1 + 1 = xs.length) (hz : bC e (fs, xs, cs ++ [z], kp, S) cs.length z w) : bCs e (fs, xs, cs ++ [z], kp, S) (bs ++ [w]) := by
  have hX : bX (fs, xs, cs, kp, S) (fs, xs, cs ++ [z], kp, S) xs.length cs.length := ⟨fun _ _ h => h, hfi, fun _ _ => rfl, Nat.le_refl _, fun _ _ => rfl, fun i hi => List.getElem?_append_left hi⟩
  have hlen : cs.length = bs.length := h.1
  have ap : ∀ {α : Type} (l : List α) (q : α) (j : Nat) (y : α), (l ++ [q])[j]? = some y → (j < l.length ∧ l[j]? = some y) ∨ (j = l.length ∧ y = q) := by
    intro α l q j y hy
    rcases Nat.lt_or_ge j l.length with hj | hj
    · rw [List.getElem?_append_left hj] at hy
      exact Or.inl ⟨hj, hy⟩
    · have hj2 := (List.getElem?_eq_some_iff.mp hy).1
      rw [List.length_append, List.length_singleton] at hj2
      have e : j = l.length := by omega
      subst e
      rw [List.getElem?_append_right (Nat.le_refl _), Nat.sub_self] at hy
      exact Or.inr ⟨rfl, (Option.some.inj hy).symm⟩
  refine ⟨?_, fun j z' w' hz' hw' => ?_, fun j j' w1 w2 hj hw1 hw2 => ?_⟩
  · show (cs ++ [z]).length = (bs ++ [w]).length
    rw [List.length_append, List.length_append, hlen]
    rfl
  · rcases ap cs z j z' hz' with ⟨z1, z2⟩ | ⟨z1, z2⟩
    · rcases ap bs w j w' hw' with ⟨w1, w2⟩ | ⟨w1, w2⟩
      · obtain ⟨a1, a2⟩ := h.2.1 j z' w' z2 w2
        exact ⟨bC_x hX a2 (Nat.le_of_lt z1) a1, a2⟩
      · omega
    · rcases ap bs w j w' hw' with ⟨w1, w2⟩ | ⟨w1, w2⟩
      · omega
      · subst z2; subst w2
        rw [z1]
        exact ⟨hz, Nat.le_of_eq hx⟩
  · rcases ap bs w j w1 hw1 with ⟨q1, q2⟩ | ⟨q1, q2⟩
    · rcases ap bs w j' w2 hw2 with ⟨q3, q4⟩ | ⟨q3, q4⟩
      · exact h.2.2 j j' w1 w2 hj q2 q4
      · subst q4
        have hjc : j < cs.length := by omega
        obtain ⟨a1, a2⟩ := h.2.1 j _ w1 (List.getElem?_eq_getElem hjc) q2
        have : w1.2.2.2.2.1 + 1 ≤ xs.length := a2
        omega
    · rcases ap bs w j' w2 hw2 with ⟨q3, q4⟩ | ⟨q3, q4⟩
      · omega
      · omega
end BC
/-! the potential -/
def nA (cs : List mC) : Nat := cs.countP (fun z => decide (z.1 = 4))
def ptR (e : bE) (y : mF) : Nat := if y.1 = 0 then 3 else if y.1 = 1 then (if q_kd e.2.2.1 y.2.1 = 8 then 3 else 3 * (e.2.1 - (x_ba e.1 e.2.1 (e.2.2.2.2.2.1 y.2.1) - 1)) + 3 + 100 * y.2.2.2.2.2.2) else if y.1 = 2 then 3 + 100 * y.2.2.2.2.2.2 else if y.1 = 6 then 3 * (e.2.1 - x_ba e.1 e.2.1 (e.2.2.2.2.2.1 y.2.1)) + 1 + 100 * y.2.2.2.2.2.2 else 3 * (e.2.1 - x_ba e.1 e.2.1 (e.2.2.2.2.2.1 y.2.1)) + 4 + 100 * y.2.2.2.2.2.2
def pt (e : bE) (T : Nat) (N : Option Nat) (F A : Nat) (fs : List mF) : Nat := if T = 0 then 3 * (e.2.1 - A) + 5 + 100 * m_cl fs F else if T = 1 then 3 * (e.2.1 - A) + 4 + 100 * m_cl fs F else if T = 2 then 3 else if T = 3 then 2 else if T = 4 then 3 * (e.2.1 - x_ba e.1 e.2.1 (e.2.2.2.2.2.1 (N.getD 0))) + 5 + 100 * m_cl fs F else if T = 5 then 3 * (e.2.1 - x_ba e.1 e.2.1 (e.2.2.2.2.2.1 (N.getD 0))) + 2 + 100 * m_cl fs F else if T = 6 then ptR e ((fs[F]?).getD f0) else if T = 7 then 1302 else 0
def psi (e : bE) (lim : Nat) (m : mS) (A : Nat) : Nat := 2604 * (lim - m.2.2.2.2.2.1) + 1302 * nA m.2.2.2.2.2.2.2 + pt e m.1 m.2.1 m.2.2.1 A m.2.2.2.2.2.2.1
/-- the relation of the two states -/
def SR (e : bE) (Q sl lim : Nat) (m : mS) (x : xS) : Prop := match m, x with
  | (T, N, F, Pl, C, tk, fs, cs), (M, A, p, K, C', st, xs, bs, kp) => p = Pl ∧ st = tk ∧ cE C C' ∧ (∃ r, bT e (fs, xs, cs, kp, tk) r T N F Pl M A K cs.length) ∧ bCs e (fs, xs, cs, kp, tk) bs ∧ xW e.1 e.2.1 Q sl lim (M, A, p, K, C', st, xs, bs, kp) ∧ wM e.2.2.1 e.2.2.2.1 e.2.2.2.2.1 sl lim (T, N, F, Pl, C, tk, fs, cs) ∧ b_F (T, N, F, Pl, C, tk, fs, cs)
