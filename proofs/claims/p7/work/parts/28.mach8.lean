/-- the group of an item, 0 the first -/
def q_g (P : pg) (it : Nat) : Nat := (q_vl P it).toNatClampNeg - 1
/-- a program that may be walked -/
def wP (P : pg) (ni nr : Nat) : Prop := (∀ k, k < ni → (∀ j, q_nx P k = some j → j < ni) ∧ (5 ≤ q_kd P k → ∃ r, q_bd P k = some r ∧ r < nr) ∧ (q_kd P k = 3 ∨ q_kd P k = 5 → ∃ g, g < 4 ∧ q_vl P k = nI (g + 1)) ∧ (q_kd P k = 4 → ∃ g, g < 5 ∧ q_vl P k = nI g ∧ q_gb P g < nr) ∧ (q_rp P k = 5 → 1 ≤ q_tm P k)) ∧ (∀ r, r < nr → (∀ j, q_fi P r = some j → j < ni) ∧ (∀ o, q_nr P r = some o → o < nr)) ∧ q_gb P 0 < nr
theorem q_g_of {P : pg} {it g : Nat} (hg : g < 4) (h : q_vl P it = nI (g + 1)) : q_g P it = g := by
  rw [q_g, h, nI_clamp (by omega)]
  rfl
section MACH
variable {n1 n2 ni nr sl lim : Nat} {P : pg} {su : Nat → Nat} {i : mm_i} {l : mm_j} {a : mm_a} {b : mm_b} {K : mm_i → mm_j → mm_a → mm_b → Prop}
variable {T F Pl tk : Nat} {N : Option Nat} {C : Nat → Nat} {fs : List mF} {cs : List mC}
def m_resume (P : pg) (y : mF) (N : Option Nat) (Pl : Nat) (C : Nat → Nat) (tk : Nat) (fs : List mF) (cs : List mC) : mS :=
  if y.1 = 1 then m_leave P y.2.1 (q_g P y.2.1) y y.2.2.2.2.2.1 Pl C tk fs cs
  else if y.1 = 2 then (4, some y.2.1, y.2.2.2.2.2.1, Pl, y.2.2.2.2.1, tk, fs, cs)
  else if y.1 = 3 then (if Pl = y.2.2.2.1 then (5, some y.2.1, y.2.2.2.2.2.1, Pl, C, tk, fs, cs) else m_fork P y.2.1 y.2.2.2.2.2.1 Pl C tk fs cs)
  else if y.1 = 4 then m_fork P y.2.1 y.2.2.2.2.2.1 Pl C tk fs cs
  else if y.1 = 5 then m_times y.2.1 y.2.2.1 y.2.2.2.2.2.1 Pl C tk fs cs
  else if y.1 = 6 then (1, q_nx P y.2.1, y.2.2.2.2.2.1, Pl, C, tk, fs, cs.take y.2.2.1)
  else (8, N, y.2.2.2.2.2.1, Pl, C, tk, fs, cs)
/-- a frame that may be left -/
def wF (P : pg) (ni sl len : Nat) (y : mF) : Prop := y.1 ≤ 6 ∧ (1 ≤ y.1 → y.2.1 < ni) ∧ y.2.2.2.2.2.1 < len ∧ y.2.2.2.1 ≤ sl ∧ y.2.2.1 < 2 ^ 20 ∧ (y.1 = 5 → 1 ≤ y.2.2.1) ∧ (y.1 = 1 → 5 ≤ q_kd P y.2.1) ∧ cp_in sl y.2.2.2.2.1 ∧ y.2.2.2.2.2.2 ≤ 12
theorem t_resume (hn : n1 < 2 ^ 31) (hn2 : n2 < 2 ^ 31) (hsl : sl ≤ 40) (hP : wP P ni nr) (h : rM P ni nr su sl lim (T, N, F, Pl, C, tk, fs, cs) i l a b) (hlt : fs.length < n1) (hlc : cs.length < n2) (hC : cp_in sl C) (hPl : Pl ≤ sl) {y : mF} (hy : fs[F]? = some y) (hw : wF P ni sl fs.length y) {x1 : Int32} (e1 : x1 = nI F) (hK : ∀ i' l' a' b', rM P ni nr su sl lim (m_resume P y N Pl C tk fs cs) i' l' a' b' → rU i l a i' l' a' → K i' l' a' b') : wp_Matcher_resume_19 n1 n2 i l a b x1 K := by
  obtain ⟨w1, w2, w3, w4, w5, w6, w7, w8, w9⟩ := hw
  have hE : F < fs.length := (List.getElem?_eq_some_iff.mp hy).1
  have hx : x1.toNatClampNeg = F := by rw [e1]; exact nI_clamp (by omega)
  have hv1 : vp_in x1 n1 := by rw [e1]; exact vp_in_nI (by omega) hn
  obtain ⟨f34, f35, f36, f37, f38, f39, f40⟩ := h.2.2.2.2.2.2.2.2.2.1 F y hy
  have h' := rM_frame h y.2.2.2.2.2.1 f39
  have hU : rU i l a (upd i 311 (a 39 F)) l a := rU_fr _
  have is : ∀ c : Nat, c < 2 ^ 31 → nI y.1 = nI c → y.1 = c := fun c hc q => (nI_eq (by omega) hc).mp q
  have no : ∀ c : Nat, ¬ nI y.1 = nI c → ¬ y.1 = c := fun c q z => q (by rw [z])
  unfold wp_Matcher_resume_19
  rw [hx, f34, f35]
  refine ⟨hv1, hv1, hv1, fun q => ?_, fun q1 => ⟨fun q => ?_, fun q2 => ⟨fun q => ⟨hv1, fun z => ?_, fun z => ?_⟩, fun q3 => ⟨fun q => ?_, fun q4 => ⟨fun q => ?_, fun q5 => ⟨fun q => ⟨hv1, ?_⟩, fun q6 => ?_⟩⟩⟩⟩⟩⟩
  · have e := is 1 (by decide) q
    have hi := w2 (by omega)
    by_cases h5 : q_kd P y.2.1 = 5
    · obtain ⟨g, hg, hvl⟩ := (hP.1 y.2.1 hi).2.2.1 (Or.inr h5)
      have hgg := q_g_of hg hvl
      exact t_leave hn hn2 h' (by omega) (by omega) (cp_in_ok hsl hC) (by omega) hy (by omega) (by omega) hi (w7 e) hg (fun _ => hvl) e1 rfl (fun i' l' a' b' r1 r2 => hK i' l' a' b' (by rw [m_resume, if_pos e, hgg]; exact r1) (rU_tr hU r2))
    · refine t_leave (g := 0) hn hn2 h' (by omega) (by omega) (cp_in_ok hsl hC) (by omega) hy (by omega) (by omega) hi (w7 e) (by decide) (fun z => absurd z h5) e1 rfl (fun i' l' a' b' r1 r2 => hK i' l' a' b' ?_ (rU_tr hU r2))
      rw [m_resume, if_pos e, m_leave, if_neg h5]
      rw [m_leave, if_neg h5] at r1
      exact r1
  · have e1' := no 1 q1; have e := is 2 (by decide) q
    refine ⟨hv1, ?_⟩
    unfold wp_Matcher_go_19
    rw [f38]
    exact hK _ _ _ _ (by rw [m_resume, if_neg e1', if_pos e]; exact rM_go (rM_caps h' _ rfl) 4 (some y.2.1) rfl rfl) (rU_tr (rU_tr hU (rU_caps _)) (rU_go _ _))
  · have a1 := no 1 q1; have a2 := no 2 q2; have e := is 3 (by decide) q
    have hz : ¬ Pl = y.2.2.2.1 := fun v => z (by rw [f37, ← v]; exact h.2.2.2.2.1)
    exact t_fork hn2 h' hlc (w2 (by omega)) rfl (fun i' l' a' b' r1 r2 => hK i' l' a' b' (by rw [m_resume, if_neg a1, if_neg a2, if_pos e, if_neg hz]; exact r1) (rU_tr hU r2))
  · have a1 := no 1 q1; have a2 := no 2 q2; have e := is 3 (by decide) q
    have hz : Pl = y.2.2.2.1 := (nI_eq (by omega) (by omega)).mp (by rw [← f37, ← z]; exact h.2.2.2.2.1.symm)
    unfold wp_Matcher_go_19
    exact hK _ _ _ _ (by rw [m_resume, if_neg a1, if_neg a2, if_pos e, if_pos hz]; exact rM_go h' 5 (some y.2.1) rfl rfl) (rU_tr hU (rU_go _ _))
  · have a1 := no 1 q1; have a2 := no 2 q2; have a3 := no 3 q3; have e := is 4 (by decide) q
    exact t_fork hn2 h' hlc (w2 (by omega)) rfl (fun i' l' a' b' r1 r2 => hK i' l' a' b' (by rw [m_resume, if_neg a1, if_neg a2, if_neg a3, if_pos e]; exact r1) (rU_tr hU r2))
  · have a1 := no 1 q1; have a2 := no 2 q2; have a3 := no 3 q3; have a4 := no 4 q4; have e := is 5 (by decide) q
    exact t_times hn h' hlt w3 hy (w6 e) (by omega) e1 rfl (fun i' l' a' b' r1 r2 => hK i' l' a' b' (by rw [m_resume, if_neg a1, if_neg a2, if_neg a3, if_neg a4, if_pos e]; exact r1) (rU_tr hU r2))
  · have a1 := no 1 q1; have a2 := no 2 q2; have a3 := no 3 q3; have a4 := no 4 q4; have a5 := no 5 q5; have e := is 6 (by decide) q
    have hi := w2 (by omega)
    refine t_cut hn2 h' (by omega) (k := y.2.2.1) (by omega) f36 (fun i' r1 r2 r3 => ?_)
    obtain ⟨hx2, hv2, p1, p2, p3, p4, p5, p6, p7, p8, p9, p10, p11⟩ := rM_it r1 hi (x1 := nI y.2.1) rfl
    refine ⟨hv2, ?_⟩
    unfold wp_Matcher_go_19
    rw [hx2, p7]
    exact hK _ _ _ _ (by rw [m_resume, if_neg a1, if_neg a2, if_neg a3, if_neg a4, if_neg a5, if_pos e]; exact rM_go r1 1 (q_nx P y.2.1) rfl rfl) (rU_tr (rU_tr hU r2) (rU_go _ _))
  · have a1 := no 1 q1; have a2 := no 2 q2; have a3 := no 3 q3; have a4 := no 4 q4; have a5 := no 5 q5; have a6 := no 6 q6
    exact hK _ _ _ _ (by rw [m_resume, if_neg a1, if_neg a2, if_neg a3, if_neg a4, if_neg a5, if_neg a6]; exact rM_task h' 8 rfl) (rU_tr hU (rU_task _))
/-- an ask: what comes of it -/
def m_ask (P : pg) (su : Nat → Nat) (sl lim it : Nat) (N : Option Nat) (F Pl : Nat) (C : Nat → Nat) (tk : Nat) (fs : List mF) (cs : List mC) (m : mS) : Prop :=
  (¬ tk < lim → m = (10, N, F, Pl, C, tk, fs, cs)) ∧ (tk < lim → (q_kd P it = 0 → m_letter P su sl it N F Pl C (tk + 1) fs cs m) ∧ (q_kd P it = 1 → m = (if Pl = 0 then 4 else 7, N, F, Pl, C, tk + 1, fs, cs)) ∧ (q_kd P it = 2 → m = (if Pl = sl then 4 else 7, N, F, Pl, C, tk + 1, fs, cs)) ∧ (q_kd P it = 3 → m_same su sl (q_g P it) N F Pl C (tk + 1) fs cs m) ∧ (q_kd P it = 4 → m = m_call P it (q_vl P it).toNatClampNeg N F Pl C (tk + 1) fs cs) ∧ (5 ≤ q_kd P it → m = m_body P it F Pl C (tk + 1) fs cs))
theorem t_ask (hn : n1 < 2 ^ 31) (hn2 : n2 < 2 ^ 31) (hsl : sl ≤ 40) (hsu : ∀ k, su k < 2 ^ 31) (hlim : lim ≤ 300) (htk : tk ≤ lim) (hP : wP P ni nr) (h : rM P ni nr su sl lim (T, N, F, Pl, C, tk, fs, cs) i l a b) (hlt : fs.length < n1) (hlc : cs.length < n2) (ho : F < fs.length) (hcl : m_cl fs F < 2 ^ 31) (hC : cp_in sl C) (hPl : Pl ≤ sl) {it : Nat} (hi : it < ni) {x1 : Int32} (ex : x1 = nI it) (hK : ∀ i' l' a' b' m, m_ask P su sl lim it N F Pl C tk fs cs m → rM P ni nr su sl lim m i' l' a' b' → rU i l a i' l' a' → K i' l' a' b') : wp_Matcher_ask_19 n1 n2 i l a b x1 K := by
  obtain ⟨hx, hv, p1, p2, p3, p4, p5, p6, p7, p8, p9, p10, p11⟩ := rM_it h hi ex
  have g6 : i 314 = nI tk := h.2.2.2.2.2.2.1
  have gl : i 306 = nI lim := h.1.1
  have g4 : i 312 = nI Pl := h.2.2.2.2.1
  have gs : i 321 = nI sl := h.1.2.1
  unfold wp_Matcher_ask_19
  rw [hx, p1]
  refine ⟨fun q => ⟨hv, ?_⟩, fun q => ?_⟩
  · have hq : tk < lim := (nI_ltI (by omega) (by omega)).mp (by rw [← g6, ← gl]; exact q)
    have h' := rM_taken h (tk + 1) (x := i 314 + (1 : Int32)) (by rw [g6, nI_1])
    have hU : rU i l a (upd i 314 (i 314 + (1 : Int32))) l a := rU_taken _
    have is : ∀ c : Nat, c < 2 ^ 31 → nI (q_kd P it) = nI c → q_kd P it = c := fun c hc q => (nI_eq (by omega) hc).mp q
    have no : ∀ c : Nat, ¬ nI (q_kd P it) = nI c → ¬ q_kd P it = c := fun c q z => q (by rw [z])
    refine ⟨fun z => ?_, fun z0 => ⟨fun z => ⟨fun w => ?_, fun w => ?_⟩, fun z1 => ⟨fun z => ⟨fun w => ?_, fun w => ?_⟩, fun z2 => ⟨fun z => ⟨hv, ?_⟩, fun z3 => ⟨fun z => ?_, fun z4 => ?_⟩⟩⟩⟩⟩
    · have e := is 0 (by decide) z
      exact t_letter hsl hPl h' hi ex (fun i' l' a' b' m m1 r1 r2 => hK i' l' a' b' m ⟨fun v => absurd hq v, fun _ => ⟨fun _ => m1, fun v => absurd v (by omega), fun v => absurd v (by omega), fun v => absurd v (by omega), fun v => absurd v (by omega), fun v => absurd v (by omega)⟩⟩ r1 (rU_tr hU r2))
    · have e := is 1 (by decide) z
      have hw : ¬ Pl = 0 := fun v => w (by rw [g4, v]; rfl)
      exact hK _ _ _ _ _ ⟨fun v => absurd hq v, fun _ => ⟨fun v => absurd v (by omega), fun _ => by rw [if_neg hw], fun v => absurd v (by omega), fun v => absurd v (by omega), fun v => absurd v (by omega), fun v => absurd v (by omega)⟩⟩ (rM_task h' 7 rfl) (rU_tr hU (rU_task _))
    · have e := is 1 (by decide) z
      have hw : Pl = 0 := (nI_eq (by omega) (by decide)).mp (by rw [← g4, w]; rfl)
      exact hK _ _ _ _ _ ⟨fun v => absurd hq v, fun _ => ⟨fun v => absurd v (by omega), fun _ => by rw [if_pos hw], fun v => absurd v (by omega), fun v => absurd v (by omega), fun v => absurd v (by omega), fun v => absurd v (by omega)⟩⟩ (rM_task h' 4 rfl) (rU_tr hU (rU_task _))
    · have e := is 2 (by decide) z
      have hw : ¬ Pl = sl := fun v => w (by rw [g4, gs, v])
      exact hK _ _ _ _ _ ⟨fun v => absurd hq v, fun _ => ⟨fun v => absurd v (by omega), fun v => absurd v (by omega), fun _ => by rw [if_neg hw], fun v => absurd v (by omega), fun v => absurd v (by omega), fun v => absurd v (by omega)⟩⟩ (rM_task h' 7 rfl) (rU_tr hU (rU_task _))
    · have e := is 2 (by decide) z
      have hw : Pl = sl := (nI_eq (by omega) (by omega)).mp (by rw [← g4, ← gs]; exact w)
      exact hK _ _ _ _ _ ⟨fun v => absurd hq v, fun _ => ⟨fun v => absurd v (by omega), fun v => absurd v (by omega), fun _ => by rw [if_pos hw], fun v => absurd v (by omega), fun v => absurd v (by omega), fun v => absurd v (by omega)⟩⟩ (rM_task h' 4 rfl) (rU_tr hU (rU_task _))
    · have e := is 3 (by decide) z
      obtain ⟨g, hg, hvl⟩ := (hP.1 it hi).2.2.1 (Or.inl e)
      have hgg := q_g_of hg hvl
      rw [p2]
      exact t_same hsl hsu hPl hC h' hg hvl (fun i' l' a' b' m m1 r1 r2 => hK i' l' a' b' m ⟨fun v => absurd hq v, fun _ => ⟨fun v => absurd v (by omega), fun v => absurd v (by omega), fun v => absurd v (by omega), fun _ => by rw [hgg]; exact m1, fun v => absurd v (by omega), fun v => absurd v (by omega)⟩⟩ r1 (rU_tr hU r2))
    · have e := is 4 (by decide) z
      obtain ⟨g, hg, hvl, -⟩ := (hP.1 it hi).2.2.2.1 e
      have hgg : (q_vl P it).toNatClampNeg = g := by rw [hvl]; exact nI_clamp (by omega)
      exact t_call hn h' hlt ho hcl hi hg hvl ex (fun i' l' a' b' r1 r2 => hK i' l' a' b' _ ⟨fun v => absurd hq v, fun _ => ⟨fun v => absurd v (by omega), fun v => absurd v (by omega), fun v => absurd v (by omega), fun v => absurd v (by omega), fun _ => by rw [hgg], fun v => absurd v (by omega)⟩⟩ r1 (rU_tr hU r2))
    · have a0 := no 0 z0; have a1 := no 1 z1; have a2 := no 2 z2; have a3 := no 3 z3; have a4 := no 4 z4
      exact t_body hn hn2 h' hlt hlc ho hi ex (fun i' l' a' b' r1 r2 => hK i' l' a' b' _ ⟨fun v => absurd hq v, fun _ => ⟨fun v => absurd v (by omega), fun v => absurd v (by omega), fun v => absurd v (by omega), fun v => absurd v (by omega), fun v => absurd v (by omega), fun _ => rfl⟩⟩ r1 (rU_tr hU r2))
  · have hq : ¬ tk < lim := fun z => q (by rw [g6, gl]; exact (nI_ltI (by omega) (by omega)).mpr z)
    exact hK _ _ _ _ _ ⟨fun _ => rfl, fun v => absurd v hq⟩ (rM_task h 10 rfl) (rU_task _)
end MACH
