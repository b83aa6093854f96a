section MACH
variable {n1 n2 ni nr sl lim : Nat} {P : pg} {su : Nat → Nat} {i : mm_i} {l : mm_j} {a : mm_a} {b : mm_b} {K : mm_i → mm_j → mm_a → mm_b → Prop}
variable {T F Pl tk : Nat} {N : Option Nat} {C : Nat → Nat} {fs : List mF} {cs : List mC}
/-- captures of places up to sl: both ends or none, in order -/
def cp_in (sl : Nat) (C : Nat → Nat) : Prop := ∀ g, g < 4 → (C g = 0 ∨ (1 ≤ C g % 64 ∧ C g % 64 ≤ C g / 64 ∧ C g / 64 ≤ sl + 1))
theorem cp_in_ok {sl : Nat} (hsl : sl ≤ 40) {C : Nat → Nat} (h : cp_in sl C) : cp_ok C := by
  have h0 := h 0 (by decide)
  have h1 := h 1 (by decide)
  have h2 := h 2 (by decide)
  have h3 := h 3 (by decide)
  exact ⟨by omega, by omega, by omega, by omega⟩
theorem cp_in_upd {sl : Nat} {C : Nat → Nat} (h : cp_in sl C) (hsl : sl ≤ 40) {g p q : Nat} (hp : p ≤ q) (hq : q ≤ sl) : cp_in sl (cp_upd C g ((q + 1) * 64 + (p + 1))) := by
  intro k hk
  unfold cp_upd
  by_cases e : k = g
  · rw [if_pos e]
    right
    omega
  · rw [if_neg e]
    exact h k hk
def m_same (su : Nat → Nat) (sl g : Nat) (N : Option Nat) (F Pl : Nat) (C : Nat → Nat) (tk : Nat) (fs : List mF) (cs : List mC) (m : mS) : Prop :=
  (C g % 64 = 0 → m = (7, N, F, Pl, C, tk, fs, cs)) ∧ (¬ C g % 64 = 0 → (q_same su sl (C g % 64 - 1) (C g / 64 - C g % 64) Pl → m = (4, N, F, Pl + (C g / 64 - C g % 64), C, tk, fs, cs)) ∧ (¬ q_same su sl (C g % 64 - 1) (C g / 64 - C g % 64) Pl → m = (7, N, F, Pl, C, tk, fs, cs)))
theorem t_same (hsl : sl ≤ 40) (hsu : ∀ k, su k < 2 ^ 31) (hPl : Pl ≤ sl) (hC : cp_in sl C) (h : rM P ni nr su sl lim (T, N, F, Pl, C, tk, fs, cs) i l a b) {g : Nat} (hg : g < 4) {x1 : Int32} (ex : x1 = nI (g + 1)) (hK : ∀ i' l' a' b' m, m_same su sl g N F Pl C tk fs cs m → rM P ni nr su sl lim m i' l' a' b' → rU i l a i' l' a' → K i' l' a' b') : wp_Matcher_askSame_19 n1 n2 i l a b x1 K := by
  have hok := cp_in_ok hsl hC
  have hCg := hC g hg
  have e5 : l 313 = lN (cp_enc C) := h.2.2.2.2.2.1
  have g2 : i 312 = nI Pl := h.2.2.2.2.1
  unfold wp_Matcher_askSame_19
  rw [ex, e5]
  have rest : ∀ r1 r2 : Int32, (C g % 64 = 0 → r1 = -6) → (¬ C g % 64 = 0 → r1 = nI (C g % 64 - 1) ∧ r2 = nI (C g / 64 - 1)) → ((r1 = ((-6) : Int32) → K (upd i 309 7) l a b) ∧ (¬ r1 = ((-6) : Int32) → wp_Matcher_standsHere_19 n1 n2 i l a b r1 (r2 - r1) (fun r3 i3 l3 a3 b3 => (r3 = 0 → K (upd i3 309 7) l3 a3 b3) ∧ (¬ r3 = 0 → K (upd (upd i3 312 ((i3 312) + (r2 - r1))) 309 4) l3 a3 b3)))) := by
    intro r1 r2 hr0 hr1
    by_cases hz : C g % 64 = 0
    · refine ⟨fun _ => ?_, fun q => absurd (hr0 hz) q⟩
      exact hK _ _ _ _ _ ⟨fun _ => rfl, fun z => absurd hz z⟩ (rM_task h 7 rfl) (rU_task _)
    · obtain ⟨q1, q2⟩ := hr1 hz
      have hne : ¬ r1 = -6 := fun z => by
        have := nI_toInt (show C g % 64 - 1 < 2 ^ 31 by omega)
        rw [← q1, z] at this
        have h6 : (-6 : Int32).toInt = -6 := by decide
        omega
      refine ⟨fun z => absurd z hne, fun _ => ?_⟩
      have e : r2 - r1 = nI (C g / 64 - C g % 64) := by
        rw [q1, q2, pk_sub (by omega)]
        congr 1
        omega
      refine t_stands hsl hsu h hPl (f := C g % 64 - 1) (n := C g / 64 - C g % 64) (by omega) q1 e (fun z => ?_) (fun z => ?_)
      · refine ⟨fun w => absurd w (by decide), fun _ => ?_⟩
        exact hK _ _ _ _ _ ⟨fun w => absurd w hz, fun _ => ⟨fun _ => rfl, fun w => absurd z w⟩⟩ (rM_task (rM_place h (Pl + (C g / 64 - C g % 64)) (by rw [g2, e, nI_add])) 4 rfl) (rU_tr (rU_place _) (rU_task _))
      · refine ⟨fun _ => ?_, fun w => absurd rfl w⟩
        exact hK _ _ _ _ _ ⟨fun w => absurd w hz, fun _ => ⟨fun w => absurd w z, fun _ => rfl⟩⟩ (rM_task h 7 rfl) (rU_task _)
  refine cp_wfrom hok hg (fun z => ?_) (fun z => ?_)
  · rw [e5]
    refine cp_wto hok hg (fun w => rest _ _ (fun _ => rfl) (fun y => absurd z y)) (fun w => rest _ _ (fun _ => rfl) (fun y => absurd z y))
  · rw [e5]
    refine cp_wto hok hg (fun w => ?_) (fun w => rest _ _ (fun y => absurd y z) (fun _ => ⟨rfl, rfl⟩))
    exfalso
    omega
def m_call (P : pg) (it g : Nat) (N : Option Nat) (F Pl : Nat) (C : Nat → Nat) (tk : Nat) (fs : List mF) (cs : List mC) : mS :=
  if m_cl fs F < 12 then (0, some (q_gb P g), fs.length, Pl, C, tk, m_push fs F 2 it 0 Pl C, cs) else (7, N, F, Pl, C, tk, fs, cs)
theorem t_call (hn : n1 < 2 ^ 31) (h : rM P ni nr su sl lim (T, N, F, Pl, C, tk, fs, cs) i l a b) (hlt : fs.length < n1) (ho : F < fs.length) (hcl : m_cl fs F < 2 ^ 31) {it g : Nat} (hi : it < ni) (hg : g < 5) (hvl : q_vl P it = nI g) {x1 : Int32} (ex : x1 = nI it) (hK : ∀ i' l' a' b', rM P ni nr su sl lim (m_call P it g N F Pl C tk fs cs) i' l' a' b' → rU i l a i' l' a' → K i' l' a' b') : wp_Matcher_askCall_19 n1 n2 i l a b x1 K := by
  obtain ⟨hx, hv, p1, p2, p3, p4, p5, p6, p7, p8, p9, p10, p11⟩ := rM_it h hi ex
  have g3 : i 311 = nI F := h.2.2.2.1
  have hF : (i 311).toNatClampNeg = F := by rw [g3]; exact nI_clamp (by omega)
  have ho2 : fs[F]? = some fs[F] := List.getElem?_eq_getElem ho
  have e40 : a 40 F = nI (m_cl fs F) := by rw [m_cl, ho2]; exact (h.2.2.2.2.2.2.2.2.2.1 F _ ho2).2.2.2.2.2.2
  unfold wp_Matcher_askCall_19
  refine ⟨by rw [g3]; exact vp_in_nI (by omega) hn, ?_⟩
  rw [hF, e40]
  refine ⟨fun q => ?_, fun q => ?_⟩
  · have hq : m_cl fs F < 12 := (nI_ltI hcl (by decide)).mp q
    refine m_fpush hn h hlt ho 2 it 0 (by decide) rfl ex rfl h.2.2.2.2.1 h.2.2.2.2.2.1 g3 (fun i' a' b' r1 r2 r3 => ?_)
    have e24 : a' 24 it = nI g := by rw [r2.2.2 24 (by decide), p2, hvl]
    have e32 : a' 32 g = nI (q_gb P g) := r1.1.2.2.1.2.2.2.2 g hg
    rw [hx, e24]
    refine ⟨hv, vp_in_nI hg (by decide), ?_⟩
    unfold wp_Matcher_go_19
    rw [nI_clamp (by omega), e32]
    exact hK _ _ _ _ (by rw [m_call, if_pos hq]; exact rM_go r1 0 (some (q_gb P g)) rfl rfl) (rU_tr (rU_tr r2 (rU_fr _)) (rU_go _ _))
  · have hq : ¬ m_cl fs F < 12 := fun z => q ((nI_ltI hcl (by decide)).mpr z)
    exact hK _ _ _ _ (by rw [m_call, if_neg hq]; exact rM_task h 7 rfl) (rU_task _)
def m_body (P : pg) (it F Pl : Nat) (C : Nat → Nat) (tk : Nat) (fs : List mF) (cs : List mC) : mS :=
  (0, q_bd P it, fs.length, Pl, C, tk, m_push fs F 1 it cs.length Pl C, if q_kd P it = 8 then cs ++ [(4, it, Pl, C, F)] else cs)
theorem t_body (hn : n1 < 2 ^ 31) (hn2 : n2 < 2 ^ 31) (h : rM P ni nr su sl lim (T, N, F, Pl, C, tk, fs, cs) i l a b) (hlt : fs.length < n1) (hlc : cs.length < n2) (ho : F < fs.length) {it : Nat} (hi : it < ni) {x1 : Int32} (ex : x1 = nI it) (hK : ∀ i' l' a' b', rM P ni nr su sl lim (m_body P it F Pl C tk fs cs) i' l' a' b' → rU i l a i' l' a' → K i' l' a' b') : wp_Matcher_askBody_19 n1 n2 i l a b x1 K := by
  obtain ⟨hx, hv, p1, p2, p3, p4, p5, p6, p7, p8, p9, p10, p11⟩ := rM_it h hi ex
  unfold wp_Matcher_askBody_19
  rw [hx, p1]
  refine ⟨hv, fun q => ?_, fun q => ?_⟩
  · have hq : ¬ q_kd P it = 8 := fun z => q (by rw [z]; rfl)
    refine m_fpush hn h hlt ho 1 it cs.length (by decide) rfl ex h.2.2.2.2.2.2.2.2.1 h.2.2.2.2.1 h.2.2.2.2.2.1 h.2.2.2.1 (fun i' a' b' r1 r2 r3 => ⟨hv, ?_⟩)
    have e28 : a' 28 it = rN (q_bd P it) := by rw [r2.2.2 28 (by decide), p6]
    unfold wp_Matcher_go_19
    rw [e28]
    exact hK _ _ _ _ (by rw [m_body, if_neg hq]; exact rM_go r1 0 (q_bd P it) rfl rfl) (rU_tr (rU_tr r2 (rU_fr _)) (rU_go _ _))
  · have hq : q_kd P it = 8 := (nI_eq (by omega) (by decide)).mp (by rw [q]; rfl)
    refine m_cadd hn2 h hlc (4, it, Pl, C, F) rfl ex h.2.2.2.2.1 h.2.2.2.2.2.1 h.2.2.2.1 (fun i' a' b' r1 r2 r3 => ?_)
    refine m_fpush hn r1 hlt ho 1 it cs.length (by decide) rfl ex h.2.2.2.2.2.2.2.2.1 r1.2.2.2.2.1 r1.2.2.2.2.2.1 r1.2.2.2.1 (fun i2 a2 b2 w1 w2 w3 => ⟨hv, ?_⟩)
    have e28 : a2 28 it = rN (q_bd P it) := by rw [w2.2.2 28 (by decide), r2.2.2 28 (by decide), p6]
    unfold wp_Matcher_go_19
    rw [e28]
    exact hK _ _ _ _ (by rw [m_body, if_pos hq]; exact rM_go w1 0 (q_bd P it) rfl rfl) (rU_tr (rU_tr (rU_tr r2 w2) (rU_fr _)) (rU_go _ _))
end MACH
