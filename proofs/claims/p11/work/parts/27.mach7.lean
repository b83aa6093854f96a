section MACH
variable {n1 n2 ni nr sl lim : Nat} {P : pg} {su : Nat → Nat} {i : mm_i} {l : mm_j} {a : mm_a} {b : mm_b} {K : mm_i → mm_j → mm_a → mm_b → Prop}
variable {T F Pl tk : Nat} {N : Option Nat} {C : Nat → Nat} {fs : List mF} {cs : List mC}
def m_times (it mark F Pl : Nat) (C : Nat → Nat) (tk : Nat) (fs : List mF) (cs : List mC) : mS :=
  if 1 < mark then (3, some it, fs.length, Pl, C, tk, m_push fs F 5 it (mark - 1) Pl C, cs) else (5, some it, F, Pl, C, tk, fs, cs)
theorem t_times (hn : n1 < 2 ^ 31) (h : rM P ni nr su sl lim (T, N, F, Pl, C, tk, fs, cs) i l a b) (hlt : fs.length < n1) (ho : F < fs.length) {E : Nat} {y : mF} (hy : fs[E]? = some y) (hm : 1 ≤ y.2.2.1) (hm2 : y.2.2.1 < 2 ^ 31) {it : Nat} {x1 x2 : Int32} (e1 : x1 = nI E) (e2 : x2 = nI it) (hK : ∀ i' l' a' b', rM P ni nr su sl lim (m_times it y.2.2.1 F Pl C tk fs cs) i' l' a' b' → rU i l a i' l' a' → K i' l' a' b') : wp_Matcher_leaveTimesTurn_19 n1 n2 i l a b x1 x2 K := by
  have hE : E < fs.length := (List.getElem?_eq_some_iff.mp hy).1
  have hx : x1.toNatClampNeg = E := by rw [e1]; exact nI_clamp (by omega)
  have f36 : a 36 E = nI y.2.2.1 := (h.2.2.2.2.2.2.2.2.2.1 E y hy).2.2.1
  have es : nI y.2.2.1 - (1 : Int32) = nI (y.2.2.1 - 1) := by rw [show (1 : Int32) = nI 1 from rfl, pk_sub (by omega)]
  unfold wp_Matcher_leaveTimesTurn_19
  rw [hx, f36, es]
  refine ⟨by rw [e1]; exact vp_in_nI (by omega) hn, fun q => ?_, fun q => ?_⟩
  · have hq : 0 < y.2.2.1 - 1 := (nI_ltI (a := 0) (by decide) (by omega)).mp q
    refine m_fpush hn h hlt ho 5 it (y.2.2.1 - 1) (by decide) rfl e2 rfl h.2.2.2.2.1 h.2.2.2.2.2.1 h.2.2.2.1 (fun i' a' b' r1 r2 r3 => ?_)
    unfold wp_Matcher_go_19
    exact hK _ _ _ _ (by rw [m_times, if_pos (by omega)]; exact rM_go r1 3 (some it) rfl e2) (rU_tr (rU_tr r2 (rU_fr _)) (rU_go _ _))
  · have hq : ¬ 0 < y.2.2.1 - 1 := fun z => q ((nI_ltI (a := 0) (by decide) (by omega)).mpr z)
    unfold wp_Matcher_go_19
    exact hK _ _ _ _ (by rw [m_times, if_neg (by omega)]; exact rM_go h 5 (some it) rfl e2) (rU_go _ _)
def m_leave (P : pg) (it g : Nat) (y : mF) (F Pl : Nat) (C : Nat → Nat) (tk : Nat) (fs : List mF) (cs : List mC) : mS :=
  if q_kd P it = 5 then (4, some it, F, Pl, cp_upd C g ((Pl + 1) * 64 + (y.2.2.2.1 + 1)), tk, fs, cs)
  else if q_kd P it = 7 then (4, some it, F, y.2.2.2.1, C, tk, fs, cs.take y.2.2.1)
  else if q_kd P it = 8 then (7, some it, F, Pl, C, tk, fs, cs.take y.2.2.1)
  else if q_kd P it = 9 then (4, some it, F, Pl, C, tk, fs, cs.take y.2.2.1)
  else (4, some it, F, Pl, C, tk, fs, cs)
theorem t_leave (hn : n1 < 2 ^ 31) (hn2 : n2 < 2 ^ 31) (h : rM P ni nr su sl lim (T, N, F, Pl, C, tk, fs, cs) i l a b) (hfl : fs.length ≤ n1) (hlc : cs.length ≤ n2) (hok : cp_ok C) (hPl : Pl ≤ 40) {E : Nat} {y : mF} (hy : fs[E]? = some y) (hm2 : y.2.2.1 < 2 ^ 31) (hyp : y.2.2.2.1 ≤ 40) {it g : Nat} (hi : it < ni) (hkd : 5 ≤ q_kd P it) (hg : g < 4) (hvl : q_kd P it = 5 → q_vl P it = nI (g + 1)) {x1 x2 : Int32} (e1 : x1 = nI E) (e2 : x2 = nI it) (hK : ∀ i' l' a' b', rM P ni nr su sl lim (m_leave P it g y F Pl C tk fs cs) i' l' a' b' → rU i l a i' l' a' → K i' l' a' b') : wp_Matcher_leaveBody_19 n1 n2 i l a b x1 x2 K := by
  obtain ⟨hx2, hv2, p1, p2, p3, p4, p5, p6, p7, p8, p9, p10, p11⟩ := rM_it h hi e2
  have hE : E < fs.length := (List.getElem?_eq_some_iff.mp hy).1
  have hx : x1.toNatClampNeg = E := by rw [e1]; exact nI_clamp (by omega)
  have hv1 : vp_in x1 n1 := by rw [e1]; exact vp_in_nI (by omega) hn
  obtain ⟨f34, f35, f36, f37, f38, f39, f40⟩ := h.2.2.2.2.2.2.2.2.2.1 E y hy
  unfold wp_Matcher_leaveBody_19
  rw [hx, hx2, p1]
  rcases (by omega : q_kd P it = 5 ∨ q_kd P it = 6 ∨ q_kd P it = 7 ∨ q_kd P it = 8 ∨ q_kd P it = 9) with hk | hk | hk | hk | hk
  · rw [hk]
    refine ⟨hv2, fun q => absurd q (by decide), fun _ => ⟨fun q => absurd q (by decide), fun _ => ⟨fun _ => ⟨fun q => absurd (by decide) q, fun _ => ⟨hv2, hv1, ?_⟩⟩, fun q => absurd q (by decide)⟩⟩⟩
    rw [p2, hvl hk, f37, show l 313 = lN (cp_enc C) from h.2.2.2.2.2.1, show i 312 = nI Pl from h.2.2.2.2.1]
    refine cp_wwith hok hg (by omega) (by omega) ⟨fun _ => ?_, fun q => absurd q (by decide)⟩
    unfold wp_Matcher_go_19
    exact hK _ _ _ _ (by rw [m_leave, if_pos hk]; exact rM_go (rM_caps h _ rfl) 4 (some it) rfl e2) (rU_tr (rU_caps _) (rU_go _ _))
  · rw [hk]
    refine ⟨hv2, fun q => absurd q (by decide), fun _ => ⟨fun q => absurd q (by decide), fun _ => ⟨fun _ => ⟨fun _ => ⟨fun _ => ⟨fun _ => ?_, fun q => absurd q (by decide)⟩, fun q => absurd q (by decide)⟩, fun q => absurd q (by decide)⟩, fun q => absurd q (by decide)⟩⟩⟩
    unfold wp_Matcher_go_19
    exact hK _ _ _ _ (by rw [m_leave, if_neg (by omega), if_neg (by omega), if_neg (by omega), if_neg (by omega)]; exact rM_go h 4 (some it) rfl e2) (rU_go _ _)
  · rw [hk]
    refine ⟨hv2, fun _ => ⟨hv1, ?_⟩, fun q => absurd (by decide) q⟩
    refine t_cut hn2 h hlc hm2 f36 (fun i' r1 r2 r3 => ⟨fun _ => ⟨fun q => absurd (by decide) q, fun _ => ⟨hv1, fun _ => ?_, fun q => absurd q (by decide)⟩⟩, fun q => absurd q (by decide)⟩)
    unfold wp_Matcher_go_19
    exact hK _ _ _ _ (by rw [m_leave, if_neg (by omega), if_pos hk]; exact rM_go (rM_place r1 y.2.2.2.1 f37) 4 (some it) rfl e2) (rU_tr (rU_tr r2 (rU_place _)) (rU_go _ _))
  · rw [hk]
    refine ⟨hv2, fun q => absurd q (by decide), fun _ => ⟨fun _ => ⟨hv1, ?_⟩, fun q => absurd (by decide) q⟩⟩
    refine t_cut hn2 h hlc hm2 f36 (fun i' r1 r2 r3 => ⟨fun _ => ⟨fun _ => ⟨fun q => absurd (by decide) q, fun _ => ?_⟩, fun q => absurd q (by decide)⟩, fun q => absurd q (by decide)⟩)
    unfold wp_Matcher_go_19
    exact hK _ _ _ _ (by rw [m_leave, if_neg (by omega), if_neg (by omega), if_pos hk]; exact rM_go r1 7 (some it) rfl e2) (rU_tr r2 (rU_go _ _))
  · rw [hk]
    refine ⟨hv2, fun q => absurd q (by decide), fun _ => ⟨fun q => absurd q (by decide), fun _ => ⟨fun q => absurd (by decide) q, fun _ => ⟨hv1, ?_⟩⟩⟩⟩
    refine t_cut hn2 h hlc hm2 f36 (fun i' r1 r2 r3 => ⟨fun _ => ⟨fun _ => ⟨fun _ => ?_, fun q => absurd q (by decide)⟩, fun q => absurd q (by decide)⟩, fun q => absurd q (by decide)⟩)
    unfold wp_Matcher_go_19
    exact hK _ _ _ _ (by rw [m_leave, if_neg (by omega), if_neg (by omega), if_neg (by omega), if_pos hk]; exact rM_go r1 4 (some it) rfl e2) (rU_tr r2 (rU_go _ _))
end MACH
