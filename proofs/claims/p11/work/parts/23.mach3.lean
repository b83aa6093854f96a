def m_cl (fs : List mF) (F : Nat) : Nat := ((fs[F]?).map (fun y => y.2.2.2.2.2.2)).getD 0
def m_push (fs : List mF) (F kind it mark Pl : Nat) (C : Nat → Nat) : List mF := fs ++ [(kind, it, mark, Pl, C, F, if kind = 2 then m_cl fs F + 1 else m_cl fs F)]
theorem rN_no {x : Option Nat} (h : ∀ k, x = some k → k < 2 ^ 31) : rN x = -1 ↔ x = none := by
  cases x with
  | none => exact ⟨fun _ => rfl, fun _ => rfl⟩
  | some k =>
    refine ⟨fun q => ?_, fun q => by cases q⟩
    have q : nI k = -1 := q
    have h1 := nI_toInt (h k rfl)
    rw [q] at h1
    have h2 : (-1 : Int32).toInt = -1 := by decide
    omega
section MACH
variable {n1 n2 ni nr sl lim : Nat} {P : pg} {su : Nat → Nat} {i : mm_i} {l : mm_j} {a : mm_a} {b : mm_b} {K : mm_i → mm_j → mm_a → mm_b → Prop}
variable {T F Pl tk : Nat} {N : Option Nat} {C : Nat → Nat} {fs : List mF} {cs : List mC}
theorem m_fpush {K : Int32 → mm_i → mm_j → mm_a → mm_b → Prop} (hn : n1 < 2 ^ 31) (h : rM P ni nr su sl lim (T, N, F, Pl, C, tk, fs, cs) i l a b) (hlt : fs.length < n1) (ho : F < fs.length) (kind item mark : Nat) (hk : kind < 2 ^ 31) {x1 x2 x3 x4 x6 : Int32} {x5 : Int64} (e1 : x1 = nI kind) (e2 : x2 = nI item) (e3 : x3 = nI mark) (e4 : x4 = nI Pl) (e5 : x5 = lN (cp_enc C)) (e6 : x6 = nI F)
    (hK : ∀ i' a' b', rM P ni nr su sl lim (T, N, fs.length, Pl, C, tk, m_push fs F kind item mark Pl C, cs) (upd i' 311 (nI fs.length)) l a' b' → rU i l a i' l a' → (∀ k, ¬ k = 535 → i' k = i k) → K (nI fs.length) i' l a' b') : wp_Frames_add_33 n1 n2 i l a b x1 x2 x3 x4 x5 x6 K := by
  have ho2 : fs[F]? = some fs[F] := List.getElem?_eq_getElem ho
  refine m_fadd hn h hlt ho2 kind item mark hk e1 e2 e3 e4 e5 e6 (fun i' a' b' r1 r2 r3 => hK i' a' b' ?_ r2 r3)
  have e : m_cl fs F = fs[F].2.2.2.2.2.2 := by rw [m_cl, ho2]; rfl
  rw [m_push, e]
  exact r1
/-- the item of a number in hand: what its arrays hold -/
theorem rM_it (h : rM P ni nr su sl lim (T, N, F, Pl, C, tk, fs, cs) i l a b) {it : Nat} (hi : it < ni) {x1 : Int32} (ex : x1 = nI it) : x1.toNatClampNeg = it ∧ vp_in x1 32 ∧ a 23 it = nI (q_kd P it) ∧ a 24 it = q_vl P it ∧ a 25 it = nI (q_rp P it) ∧ a 26 it = nI (q_tm P it) ∧ a 27 it = nI (q_mn P it) ∧ a 28 it = rN (q_bd P it) ∧ a 29 it = rN (q_nx P it) ∧ q_kd P it ≤ 9 ∧ q_rp P it ≤ 5 ∧ q_mn P it ≤ 2 ∧ q_tm P it ≤ 9 := by
  have s3 := h.1.2.2.1
  have hl := s3.1
  exact ⟨by rw [ex]; exact nI_clamp (by omega), by rw [ex]; exact vp_in_nI (by omega) (by decide), s3.2.2.1 it hi⟩
theorem nI_is {x : Nat} (hx : x < 2 ^ 31) (c : Nat) (hc : c < 2 ^ 31) : nI x = nI c ↔ x = c := nI_eq hx hc
def m_ai (P : pg) (it : Nat) (N : Option Nat) (F Pl : Nat) (C : Nat → Nat) (tk : Nat) (fs : List mF) (cs : List mC) : mS :=
  if q_mn P it = 2 then (6, N, F, Pl, C, tk, fs, cs) else (1, q_nx P it, F, Pl, C, tk, fs, cs)
theorem t_ai (h : rM P ni nr su sl lim (T, N, F, Pl, C, tk, fs, cs) i l a b) {it : Nat} (hi : it < ni) {x1 : Int32} (ex : x1 = nI it) (hK : ∀ i' l' a' b', rM P ni nr su sl lim (m_ai P it N F Pl C tk fs cs) i' l' a' b' → rU i l a i' l' a' → K i' l' a' b') : wp_Matcher_goAfterItem_19 n1 n2 i l a b x1 K := by
  obtain ⟨hx, hv, p1, p2, p3, p4, p5, p6, p7, p8, p9, p10, p11⟩ := rM_it h hi ex
  unfold wp_Matcher_goAfterItem_19 wp_Matcher_go_19
  rw [hx, p5, p7]
  refine ⟨hv, fun q => ⟨hv, ?_⟩, fun q => ?_⟩
  · have hq : ¬ q_mn P it = 2 := fun z => q (by rw [z]; rfl)
    refine hK _ _ _ _ ?_ (rU_go _ _)
    rw [m_ai, if_neg hq]
    exact rM_go h 1 (q_nx P it) rfl rfl
  · have hq : q_mn P it = 2 := (nI_eq (by omega) (by decide)).mp (by rw [q]; rfl)
    refine hK _ _ _ _ ?_ (rU_task _)
    rw [m_ai, if_pos hq]
    exact rM_task h 6 rfl
def m_aa (P : pg) (it : Nat) (N : Option Nat) (F Pl : Nat) (C : Nat → Nat) (tk : Nat) (fs : List mF) (cs : List mC) : mS :=
  if q_rp P it = 0 ∨ q_rp P it = 2 then m_ai P it N F Pl C tk fs cs else (6, N, F, Pl, C, tk, fs, cs)
theorem t_aa (h : rM P ni nr su sl lim (T, N, F, Pl, C, tk, fs, cs) i l a b) {it : Nat} (hi : it < ni) {x1 : Int32} (ex : x1 = nI it) (hK : ∀ i' l' a' b', rM P ni nr su sl lim (m_aa P it N F Pl C tk fs cs) i' l' a' b' → rU i l a i' l' a' → K i' l' a' b') : wp_Matcher_goAfterAtom_19 n1 n2 i l a b x1 K := by
  obtain ⟨hx, hv, p1, p2, p3, p4, p5, p6, p7, p8, p9, p10, p11⟩ := rM_it h hi ex
  unfold wp_Matcher_goAfterAtom_19
  rw [hx, p3]
  refine ⟨hv, fun q => ?_, fun q => ⟨fun q2 => ?_, fun q2 => ?_⟩⟩
  · have hq : q_rp P it = 0 := (nI_eq (by omega) (by decide)).mp (by rw [q]; rfl)
    exact t_ai h hi ex (fun i' l' a' b' r1 r2 => hK i' l' a' b' (by rw [m_aa, if_pos (Or.inl hq)]; exact r1) r2)
  · have hq : ¬ (q_rp P it = 0 ∨ q_rp P it = 2) := fun z => by
      rcases z with z | z
      · exact q (by rw [z]; rfl)
      · exact q2 (by rw [z]; rfl)
    exact hK _ _ _ _ (by rw [m_aa, if_neg hq]; exact rM_task h 6 rfl) (rU_task _)
  · have hq : q_rp P it = 2 := (nI_eq (by omega) (by decide)).mp (by rw [q2]; rfl)
    exact t_ai h hi ex (fun i' l' a' b' r1 r2 => hK i' l' a' b' (by rw [m_aa, if_pos (Or.inr hq)]; exact r1) r2)
def m_try (P : pg) (it F Pl : Nat) (C : Nat → Nat) (tk : Nat) (fs : List mF) (cs : List mC) : mS :=
  if q_rp P it = 2 then (3, some it, F, Pl, C, tk, fs, cs) else (3, some it, fs.length, Pl, C, tk, m_push fs F 3 it 0 Pl C, cs)
theorem t_try (hn : n1 < 2 ^ 31) (h : rM P ni nr su sl lim (T, N, F, Pl, C, tk, fs, cs) i l a b) (hlt : fs.length < n1) (ho : F < fs.length) {it : Nat} (hi : it < ni) {x1 : Int32} (ex : x1 = nI it) (hK : ∀ i' l' a' b', rM P ni nr su sl lim (m_try P it F Pl C tk fs cs) i' l' a' b' → rU i l a i' l' a' → K i' l' a' b') : wp_Matcher_tryAtom_19 n1 n2 i l a b x1 K := by
  obtain ⟨hx, hv, p1, p2, p3, p4, p5, p6, p7, p8, p9, p10, p11⟩ := rM_it h hi ex
  unfold wp_Matcher_tryAtom_19 wp_Matcher_go_19
  rw [hx, p3]
  refine ⟨hv, fun q => ?_, fun q => ?_⟩
  · have hq : q_rp P it = 2 := (nI_eq (by omega) (by decide)).mp (by rw [q]; rfl)
    exact hK _ _ _ _ (by rw [m_try, if_pos hq]; exact rM_go h 3 (some it) rfl ex) (rU_go _ _)
  · have hq : ¬ q_rp P it = 2 := fun z => q (by rw [z]; rfl)
    refine m_fpush hn h hlt ho 3 it 0 (by decide) rfl ex rfl h.2.2.2.2.1 h.2.2.2.2.2.1 h.2.2.2.1 (fun i' a' b' r1 r2 r3 => ?_)
    exact hK _ _ _ _ (by rw [m_try, if_neg hq]; exact rM_go r1 3 (some it) rfl ex) (rU_tr (rU_tr r2 (rU_fr _)) (rU_go _ _))
def m_row (P : pg) (r F Pl : Nat) (C : Nat → Nat) (tk : Nat) (fs : List mF) (cs : List mC) : mS :=
  (1, q_fi P r, F, Pl, C, tk, fs, match q_nr P r with
    | none => cs
    | some o => cs ++ [(0, o, Pl, C, F)])
theorem t_row (hn : n2 < 2 ^ 31) (h : rM P ni nr su sl lim (T, N, F, Pl, C, tk, fs, cs) i l a b) (hlt : cs.length < n2) {r : Nat} (hi : r < nr) (hr : ∀ o, q_nr P r = some o → o < 2 ^ 31) {x1 : Int32} (ex : x1 = nI r) (hK : ∀ i' l' a' b', rM P ni nr su sl lim (m_row P r F Pl C tk fs cs) i' l' a' b' → rU i l a i' l' a' → K i' l' a' b') : wp_Matcher_enterRow_19 n1 n2 i l a b x1 K := by
  have s3 := h.1.2.2.1
  have hl := s3.2.1
  obtain ⟨p1, p2⟩ := s3.2.2.2.1 r hi
  have hx : x1.toNatClampNeg = r := by rw [ex]; exact nI_clamp (by omega)
  have hv : vp_in x1 33 := by rw [ex]; exact vp_in_nI (by omega) (by decide)
  unfold wp_Matcher_enterRow_19 wp_Matcher_go_19
  rw [hx, p1, p2]
  refine ⟨hv, fun q => ⟨hv, ?_⟩, fun q => ?_⟩
  · have hq := (rN_no hr).mp q
    exact hK _ _ _ _ (by rw [m_row, hq]; exact rM_go h 1 (q_fi P r) rfl rfl) (rU_go _ _)
  · cases hq : q_nr P r with
    | none => exact absurd ((rN_no hr).mpr hq) q
    | some o =>
      refine m_cadd hn h hlt (0, o, Pl, C, F) rfl rfl h.2.2.2.2.1 h.2.2.2.2.2.1 h.2.2.2.1 (fun i' a' b' r1 r2 r3 => ⟨hv, ?_⟩)
      have e : a' 30 r = rN (q_fi P r) := by rw [r2.2.2 30 (by decide)]; exact p1
      rw [e]
      exact hK _ _ _ _ (by rw [m_row, hq]; exact rM_go r1 1 (q_fi P r) rfl rfl) (rU_tr r2 (rU_go _ _))
end MACH
