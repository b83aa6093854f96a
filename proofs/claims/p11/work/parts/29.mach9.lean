def wFs (P : pg) (ni sl : Nat) (fs : List mF) : Prop := ∀ (f : Nat) (y : mF), fs[f]? = some y → wF P ni sl fs.length y ∧ ∀ z, fs[y.2.2.2.2.2.1]? = some z → z.2.2.2.1 ≤ y.2.2.2.1
def wC (ni nr sl : Nat) (fs : List mF) (x : mC) : Prop := ((x.1 = 0 ∧ x.2.1 < nr) ∨ ((x.1 = 2 ∨ x.1 = 4 ∨ x.1 = 5) ∧ x.2.1 < ni)) ∧ x.2.2.1 ≤ sl ∧ cp_in sl x.2.2.2.1 ∧ ∃ y, fs[x.2.2.2.2]? = some y ∧ y.2.2.2.1 ≤ x.2.2.1
def wCs (ni nr sl : Nat) (fs : List mF) (cs : List mC) : Prop := ∀ (c : Nat) (x : mC), cs[c]? = some x → wC ni nr sl fs x
/-- frame and place in hand -/
def wH (fs : List mF) (F Pl : Nat) : Prop := ∃ y, fs[F]? = some y ∧ y.2.2.2.1 ≤ Pl
def wM (P : pg) (ni nr sl lim : Nat) (m : mS) : Prop := match m with
  | (T, N, F, Pl, C, tk, fs, cs) => T ≤ 10 ∧ (T = 0 → ∃ r, N = some r ∧ r < nr) ∧ (T = 1 → ∀ it, N = some it → it < ni) ∧ (2 ≤ T → T ≤ 5 → ∃ it, N = some it ∧ it < ni) ∧ wH fs F Pl ∧ Pl ≤ sl ∧ cp_in sl C ∧ tk ≤ lim ∧ wFs P ni sl fs ∧ wCs ni nr sl fs cs
def m_turn (P : pg) (su : Nat → Nat) (sl lim : Nat) (m m' : mS) : Prop := match m with
  | (T, N, F, Pl, C, tk, fs, cs) => (T = 0 → ∀ r, N = some r → m' = m_row P r F Pl C tk fs cs) ∧ (T = 1 → (N = none → m' = (6, N, F, Pl, C, tk, fs, cs)) ∧ ∀ it, N = some it → m' = m_item P it F Pl C tk fs cs) ∧ (T = 2 → ∀ it, N = some it → m' = m_try P it F Pl C tk fs cs) ∧ (T = 3 → ∀ it, N = some it → m_ask P su sl lim it N F Pl C tk fs cs m') ∧ (T = 4 → ∀ it, N = some it → m' = m_aa P it N F Pl C tk fs cs) ∧ (T = 5 → ∀ it, N = some it → m' = m_ai P it N F Pl C tk fs cs) ∧ (T = 6 → ∀ y, fs[F]? = some y → m' = m_resume P y N Pl C tk fs cs) ∧ (T = 7 → m' = m_choice N F Pl C tk fs cs)
theorem wH_lt {fs : List mF} {F Pl : Nat} (h : wH fs F Pl) : F < fs.length := by
  obtain ⟨y, hy, -⟩ := h
  exact (List.getElem?_eq_some_iff.mp hy).1
section MACH
variable {n1 n2 ni nr sl lim : Nat} {P : pg} {su : Nat → Nat} {i : mm_i} {l : mm_j} {a : mm_a} {b : mm_b} {K : mm_i → mm_j → mm_a → mm_b → Prop}
variable {T F Pl tk : Nat} {N : Option Nat} {C : Nat → Nat} {fs : List mF} {cs : List mC}
theorem m_cl_le (h : wFs P ni sl fs) (hF : F < fs.length) : m_cl fs F ≤ 12 := by
  have hy : fs[F]? = some fs[F] := List.getElem?_eq_getElem hF
  rw [m_cl, hy]
  exact (h F _ hy).1.2.2.2.2.2.2.2.2
theorem t_turn (hn : n1 < 2 ^ 31) (hn2 : n2 < 2 ^ 31) (hsl : sl ≤ 40) (hsu : ∀ k, su k < 2 ^ 31) (hlim : lim ≤ 300) (hP : wP P ni nr) (h : rM P ni nr su sl lim (T, N, F, Pl, C, tk, fs, cs) i l a b) (hw : wM P ni nr sl lim (T, N, F, Pl, C, tk, fs, cs)) (hT : T < 8) (hlt : fs.length + 1 < n1) (hlc : cs.length < n2)
    (hK : ∀ i' l' a' b' m', m_turn P su sl lim (T, N, F, Pl, C, tk, fs, cs) m' → rM P ni nr su sl lim m' i' l' a' b' → rU i l a i' l' a' → K i' l' a' b') : wp_Matcher_takeTurn_19 n1 n2 i l a b K := by
  obtain ⟨w1, w2, w3, w4, w5, w6, w7, w8, w9, w10⟩ := hw
  have hF := wH_lt w5
  have gT : i 309 = nI T := h.2.1
  have gN : i 310 = rN N := h.2.2.1
  have g3 : i 311 = nI F := h.2.2.2.1
  have is : ∀ c : Nat, c < 2 ^ 31 → i 309 = nI c → T = c := fun c hc q => (nI_eq (by omega) hc).mp (by rw [← gT]; exact q)
  have no : ∀ c : Nat, ¬ i 309 = nI c → ¬ T = c := fun c q z => q (by rw [gT, z])
  have hni : ni ≤ 32 := h.1.2.2.1.1
  have hnr : nr ≤ 33 := h.1.2.2.1.2.1
  unfold wp_Matcher_takeTurn_19
  refine ⟨fun q => ?_, fun q0 => ⟨fun q => ?_, fun q1 => ⟨fun q => ?_, fun q2 => ⟨fun q => ?_, fun q3 => ⟨fun q => ?_, fun q4 => ⟨fun q => ?_, fun q5 => ⟨fun q => ?_, fun q6 => ?_⟩⟩⟩⟩⟩⟩⟩
  · have e := is 0 (by decide) q
    obtain ⟨r, hr, hr2⟩ := w2 e
    exact t_row hn2 h hlc hr2 (fun o ho => by have := (hP.2.1 r hr2).2 o ho; omega) (by rw [gN, hr]; rfl) (fun i' l' a' b' r1 r2 => hK i' l' a' b' _ ⟨fun _ r' hr' => by rw [hr] at hr'; cases hr'; rfl, fun v => absurd v (by omega), fun v => absurd v (by omega), fun v => absurd v (by omega), fun v => absurd v (by omega), fun v => absurd v (by omega), fun v => absurd v (by omega), fun v => absurd v (by omega)⟩ r1 r2)
  · have e := is 1 (by decide) q
    cases hN : N with
    | none =>
      rw [gN, hN]
      subst hN
      exact t_item0 h (fun i' l' a' b' r1 r2 => hK i' l' a' b' _ ⟨fun v => absurd v (by omega), fun _ => ⟨fun _ => rfl, fun it z => by cases z⟩, fun v => absurd v (by omega), fun v => absurd v (by omega), fun v => absurd v (by omega), fun v => absurd v (by omega), fun v => absurd v (by omega), fun v => absurd v (by omega)⟩ r1 r2)
    | some it =>
      have hi := w3 e it hN
      exact t_item hn hn2 h hlt hlc hF hi (by rw [gN, hN]; rfl) (fun i' l' a' b' r1 r2 => hK i' l' a' b' _ ⟨fun v => absurd v (by omega), fun _ => ⟨fun z => (by rw [hN] at z; cases z), fun it' z => (by rw [hN] at z; cases z; rfl)⟩, fun v => absurd v (by omega), fun v => absurd v (by omega), fun v => absurd v (by omega), fun v => absurd v (by omega), fun v => absurd v (by omega), fun v => absurd v (by omega)⟩ r1 r2)
  · have e := is 2 (by decide) q
    obtain ⟨it, hN, hi⟩ := w4 (by omega) (by omega)
    exact t_try hn h (by omega) hF hi (by rw [gN, hN]; rfl) (fun i' l' a' b' r1 r2 => hK i' l' a' b' _ ⟨fun v => absurd v (by omega), fun v => absurd v (by omega), fun _ it' z => by rw [hN] at z; cases z; rfl, fun v => absurd v (by omega), fun v => absurd v (by omega), fun v => absurd v (by omega), fun v => absurd v (by omega), fun v => absurd v (by omega)⟩ r1 r2)
  · have e := is 3 (by decide) q
    obtain ⟨it, hN, hi⟩ := w4 (by omega) (by omega)
    have hcl := m_cl_le w9 hF
    exact t_ask hn hn2 hsl hsu hlim w8 hP h (by omega) hlc hF (by omega) w7 w6 hi (by rw [gN, hN]; rfl) (fun i' l' a' b' m m1 r1 r2 => hK i' l' a' b' m ⟨fun v => absurd v (by omega), fun v => absurd v (by omega), fun v => absurd v (by omega), fun _ it' z => by rw [hN] at z; cases z; exact m1, fun v => absurd v (by omega), fun v => absurd v (by omega), fun v => absurd v (by omega), fun v => absurd v (by omega)⟩ r1 r2)
  · have e := is 4 (by decide) q
    obtain ⟨it, hN, hi⟩ := w4 (by omega) (by omega)
    exact t_aa h hi (by rw [gN, hN]; rfl) (fun i' l' a' b' r1 r2 => hK i' l' a' b' _ ⟨fun v => absurd v (by omega), fun v => absurd v (by omega), fun v => absurd v (by omega), fun v => absurd v (by omega), fun _ it' z => by rw [hN] at z; cases z; rfl, fun v => absurd v (by omega), fun v => absurd v (by omega), fun v => absurd v (by omega)⟩ r1 r2)
  · have e := is 5 (by decide) q
    obtain ⟨it, hN, hi⟩ := w4 (by omega) (by omega)
    exact t_ai h hi (by rw [gN, hN]; rfl) (fun i' l' a' b' r1 r2 => hK i' l' a' b' _ ⟨fun v => absurd v (by omega), fun v => absurd v (by omega), fun v => absurd v (by omega), fun v => absurd v (by omega), fun v => absurd v (by omega), fun _ it' z => by rw [hN] at z; cases z; rfl, fun v => absurd v (by omega), fun v => absurd v (by omega)⟩ r1 r2)
  · have e := is 6 (by decide) q
    obtain ⟨y, hy, hyp⟩ := w5
    exact t_resume hn hn2 hsl hP h (by omega) hlc w7 w6 hy (w9 F y hy).1 g3 (fun i' l' a' b' r1 r2 => hK i' l' a' b' _ ⟨fun v => absurd v (by omega), fun v => absurd v (by omega), fun v => absurd v (by omega), fun v => absurd v (by omega), fun v => absurd v (by omega), fun v => absurd v (by omega), fun _ y' hy' => by rw [hy] at hy'; cases hy'; rfl, fun v => absurd v (by omega)⟩ r1 r2)
  · have a0 := no 0 q0; have a1 := no 1 q1; have a2 := no 2 q2; have a3 := no 3 q3; have a4 := no 4 q4; have a5 := no 5 q5; have a6 := no 6 q6
    exact t_choice hn2 h (by omega) (fun i' l' a' b' r1 r2 => hK i' l' a' b' _ ⟨fun v => absurd v a0, fun v => absurd v a1, fun v => absurd v a2, fun v => absurd v a3, fun v => absurd v a4, fun v => absurd v a5, fun v => absurd v a6, fun _ => rfl⟩ r1 r2)
end MACH
