section MACH
variable {n1 n2 ni nr sl lim : Nat} {P : pg} {su : Nat → Nat} {i : mm_i} {l : mm_j} {a : mm_a} {b : mm_b} {K : mm_i → mm_j → mm_a → mm_b → Prop}
variable {T F Pl tk : Nat} {N : Option Nat} {C : Nat → Nat} {fs : List mF} {cs : List mC}
def m_item2 (P : pg) (it F Pl : Nat) (C : Nat → Nat) (tk : Nat) (fs : List mF) (cs : List mC) : mS :=
  if q_rp P it = 2 ∨ q_rp P it = 3 then m_fork P it F Pl C tk fs cs
  else if q_rp P it = 4 then (3, some it, fs.length, Pl, C, tk, m_push fs F 4 it 0 Pl C, cs)
  else if q_rp P it = 5 then (3, some it, fs.length, Pl, C, tk, m_push fs F 5 it (q_tm P it) Pl C, cs)
  else (3, some it, F, Pl, C, tk, fs, cs)
theorem t_item2 (hn : n1 < 2 ^ 31) (hn2 : n2 < 2 ^ 31) (h : rM P ni nr su sl lim (T, N, F, Pl, C, tk, fs, cs) i l a b) (hlt : fs.length < n1) (hlc : cs.length < n2) (ho : F < fs.length) {it : Nat} (hi : it < ni) {x1 x6 : Int32} (ex : x1 = nI it) (e6 : x6 = nI F) (hK : ∀ i' l' a' b', rM P ni nr su sl lim (m_item2 P it F Pl C tk fs cs) i' l' a' b' → rU i l a i' l' a' → K i' l' a' b') :
    (nI (q_rp P it) = (2 : Int32) → wp_Matcher_fork_19 n1 n2 i l a b x1 K) ∧ (¬ nI (q_rp P it) = (2 : Int32) → (¬ nI (q_rp P it) = (3 : Int32) → (¬ nI (q_rp P it) = (4 : Int32) → (¬ nI (q_rp P it) = (5 : Int32) → wp_Matcher_go_19 n1 n2 i l a b 3 x1 K) ∧ (nI (q_rp P it) = (5 : Int32) → vp_in x1 32 ∧ (wp_Frames_add_33 n1 n2 i l a b 5 x1 ((a 26) it) (i 312) (l 313) x6 (fun r3 i3 l3 a3 b3 => wp_Matcher_go_19 n1 n2 (upd i3 311 r3) l3 a3 b3 3 x1 K)))) ∧ (nI (q_rp P it) = (4 : Int32) → wp_Frames_add_33 n1 n2 i l a b 4 x1 0 (i 312) (l 313) x6 (fun r5 i5 l5 a5 b5 => wp_Matcher_go_19 n1 n2 (upd i5 311 r5) l5 a5 b5 3 x1 K))) ∧ (nI (q_rp P it) = (3 : Int32) → wp_Matcher_fork_19 n1 n2 i l a b x1 K)) := by
  obtain ⟨hx, hv, p1, p2, p3, p4, p5, p6, p7, p8, p9, p10, p11⟩ := rM_it h hi ex
  have is : ∀ c : Nat, c < 2 ^ 31 → nI (q_rp P it) = nI c → q_rp P it = c := fun c hc q => (nI_eq (by omega) hc).mp q
  have no : ∀ c : Nat, ¬ nI (q_rp P it) = nI c → ¬ q_rp P it = c := fun c q z => q (by rw [z])
  refine ⟨fun q => ?_, fun q2 => ⟨fun q3 => ⟨fun q4 => ⟨fun q5 => ?_, fun q => ⟨hv, ?_⟩⟩, fun q => ?_⟩, fun q => ?_⟩⟩
  · have e := is 2 (by decide) q
    exact t_fork hn2 h hlc hi ex (fun i' l' a' b' r1 r2 => hK i' l' a' b' (by rw [m_item2, if_pos (Or.inl e)]; exact r1) r2)
  · have e2 := no 2 q2; have e3 := no 3 q3; have e4 := no 4 q4; have e5 := no 5 q5
    unfold wp_Matcher_go_19
    exact hK _ _ _ _ (by rw [m_item2, if_neg (by omega), if_neg e4, if_neg e5]; exact rM_go h 3 (some it) rfl ex) (rU_go _ _)
  · have e := is 5 (by decide) q
    refine m_fpush hn h hlt ho 5 it (q_tm P it) (by decide) rfl ex p4 h.2.2.2.2.1 h.2.2.2.2.2.1 e6 (fun i' a' b' r1 r2 r3 => ?_)
    unfold wp_Matcher_go_19
    exact hK _ _ _ _ (by rw [m_item2, if_neg (by omega), if_neg (by omega), if_pos e]; exact rM_go r1 3 (some it) rfl ex) (rU_tr (rU_tr r2 (rU_fr _)) (rU_go _ _))
  · have e := is 4 (by decide) q
    refine m_fpush hn h hlt ho 4 it 0 (by decide) rfl ex rfl h.2.2.2.2.1 h.2.2.2.2.2.1 e6 (fun i' a' b' r1 r2 r3 => ?_)
    unfold wp_Matcher_go_19
    exact hK _ _ _ _ (by rw [m_item2, if_neg (by omega), if_pos e]; exact rM_go r1 3 (some it) rfl ex) (rU_tr (rU_tr r2 (rU_fr _)) (rU_go _ _))
  · have e := is 3 (by decide) q
    exact t_fork hn2 h hlc hi ex (fun i' l' a' b' r1 r2 => hK i' l' a' b' (by rw [m_item2, if_pos (Or.inr e)]; exact r1) r2)
def m_item (P : pg) (it F Pl : Nat) (C : Nat → Nat) (tk : Nat) (fs : List mF) (cs : List mC) : mS :=
  if q_rp P it = 1 then (1, q_nx P it, F, Pl, C, tk, fs, cs)
  else if q_mn P it = 2 then m_item2 P it fs.length Pl C tk (m_push fs F 6 it cs.length Pl C) cs
  else m_item2 P it F Pl C tk fs cs
theorem m_push_len (fs : List mF) (F kind it mark Pl : Nat) (C : Nat → Nat) : (m_push fs F kind it mark Pl C).length = fs.length + 1 := by simp [m_push]
theorem t_item (hn : n1 < 2 ^ 31) (hn2 : n2 < 2 ^ 31) (h : rM P ni nr su sl lim (T, N, F, Pl, C, tk, fs, cs) i l a b) (hlt : fs.length + 1 < n1) (hlc : cs.length < n2) (ho : F < fs.length) {it : Nat} (hi : it < ni) {x1 : Int32} (ex : x1 = nI it) (hK : ∀ i' l' a' b', rM P ni nr su sl lim (m_item P it F Pl C tk fs cs) i' l' a' b' → rU i l a i' l' a' → K i' l' a' b') : wp_Matcher_enterItem_19 n1 n2 i l a b x1 K := by
  obtain ⟨hx, hv, p1, p2, p3, p4, p5, p6, p7, p8, p9, p10, p11⟩ := rM_it h hi ex
  have hl32 := h.1.2.2.1.1
  unfold wp_Matcher_enterItem_19
  rw [hx, p3, p5]
  refine ⟨fun _ => ⟨hv, fun q1 => ⟨hv, fun q2 => ?_, fun q2 => ?_⟩, fun q1 => ⟨hv, ?_⟩⟩, fun q => ?_⟩
  · have e1 : ¬ q_rp P it = 1 := fun z => q1 (by rw [z]; rfl)
    have e2 : ¬ q_mn P it = 2 := fun z => q2 (by rw [z]; rfl)
    exact t_item2 hn hn2 h (by omega) hlc ho hi ex h.2.2.2.1 (fun i' l' a' b' r1 r2 => hK i' l' a' b' (by rw [m_item, if_neg e1, if_neg e2]; exact r1) r2)
  · have e1 : ¬ q_rp P it = 1 := fun z => q1 (by rw [z]; rfl)
    have e2 : q_mn P it = 2 := (nI_eq (by omega) (by decide)).mp (by rw [q2]; rfl)
    refine m_fpush hn h (by omega) ho 6 it cs.length (by decide) rfl ex h.2.2.2.2.2.2.2.2.1 h.2.2.2.2.1 h.2.2.2.2.2.1 h.2.2.2.1 (fun i' a' b' r1 r2 r3 => ?_)
    exact t_item2 hn hn2 r1 (by rw [m_push_len]; omega) hlc (by rw [m_push_len]; omega) hi ex rfl (fun i2 l2 a2 b2 w1 w2 => hK i2 l2 a2 b2 (by rw [m_item, if_neg e1, if_pos e2]; exact w1) (rU_tr (rU_tr r2 (rU_fr _)) w2))
  · have e1 : q_rp P it = 1 := (nI_eq (by omega) (by decide)).mp (by rw [q1]; rfl)
    unfold wp_Matcher_go_19
    rw [p7]
    exact hK _ _ _ _ (by rw [m_item, if_pos e1]; exact rM_go h 1 (q_nx P it) rfl rfl) (rU_go _ _)
  · exfalso
    have h1 := nI_toInt (show it < 2 ^ 31 by omega)
    rw [← ex, q] at h1
    have h2 : (-1 : Int32).toInt = -1 := by decide
    omega
/-- the item is none: the row is done -/
theorem t_item0 (h : rM P ni nr su sl lim (T, N, F, Pl, C, tk, fs, cs) i l a b) (hK : ∀ i' l' a' b', rM P ni nr su sl lim (6, N, F, Pl, C, tk, fs, cs) i' l' a' b' → rU i l a i' l' a' → K i' l' a' b') : wp_Matcher_enterItem_19 n1 n2 i l a b (-1) K := by
  unfold wp_Matcher_enterItem_19
  refine ⟨fun q => absurd rfl q, fun _ => ?_⟩
  exact hK _ _ _ _ (rM_task h 6 rfl) (rU_task _)
/-- cut the choices -/
theorem t_cut (hn2 : n2 < 2 ^ 31) (h : rM P ni nr su sl lim (T, N, F, Pl, C, tk, fs, cs) i l a b) (hlc : cs.length ≤ n2) {k : Nat} (hk : k < 2 ^ 31) {x1 : Int32} (ex : x1 = nI k) (hK : ∀ i', rM P ni nr su sl lim (T, N, F, Pl, C, tk, fs, cs.take k) i' l a b → rU i l a i' l a → (∀ j, ¬ j = 661 → i' j = i j) → K i' l a b) : wp_Choices_cutTo_41 n1 n2 i l a b x1 K := by
  obtain ⟨s, h1, h2, h3, h4, h5, h6, h7, h8, h9, h10⟩ := h
  unfold wp_Choices_cutTo_41
  rw [ex, show i 661 = nI cs.length from h8]
  refine ⟨fun q => ?_, fun q => ?_⟩
  · have e : cs.length ≤ k := (nI_leI (by omega) hk).mp q
    refine hK i ⟨s, h1, h2, h3, h4, h5, h6, h7, ?_, h9, ?_⟩ rU_rf (fun _ _ => rfl)
    · show i 661 = nI (cs.take k).length
      rw [List.take_of_length_le e]; exact h8
    · show rC (cs.take k) a b
      exact rC_take h10 k
  · have e : ¬ cs.length ≤ k := fun z => q ((nI_leI (by omega) hk).mpr z)
    refine hK _ ⟨s, h1, h2, h3, h4, h5, h6, h7, ?_, h9, rC_take h10 k⟩ ⟨fun j hj => ud_n (by omega), fun _ _ => rfl, fun _ _ => rfl⟩ (fun j hj => ud_n hj)
    show upd i 661 (nI k) 661 = nI (cs.take k).length
    rw [ud_s, List.length_take, Nat.min_eq_left (by omega)]
def m_choice (N : Option Nat) (F Pl : Nat) (C : Nat → Nat) (tk : Nat) (fs : List mF) (cs : List mC) : mS := match cs[cs.length - 1]? with
  | none => (9, N, F, Pl, C, tk, fs, cs)
  | some x => (x.1, some x.2.1, x.2.2.2.2, x.2.2.1, x.2.2.2.1, tk, fs, cs.take (cs.length - 1))
theorem t_choice (hn2 : n2 < 2 ^ 31) (h : rM P ni nr su sl lim (T, N, F, Pl, C, tk, fs, cs) i l a b) (hlc : cs.length ≤ n2) (hK : ∀ i' l' a' b', rM P ni nr su sl lim (m_choice N F Pl C tk fs cs) i' l' a' b' → rU i l a i' l' a' → K i' l' a' b') : wp_Matcher_takeChoice_19 n1 n2 i l a b K := by
  have h8 : i 661 = nI cs.length := h.2.2.2.2.2.2.2.2.1
  unfold wp_Matcher_takeChoice_19
  refine ⟨fun q => ?_, fun q => ?_⟩
  · have e : 0 < cs.length := by
      rcases Nat.eq_zero_or_pos cs.length with z | z
      · exact absurd (by rw [h8, z]; rfl) q
      · exact z
    have e1 : i 661 - (1 : Int32) = nI (cs.length - 1) := by rw [h8, show (1 : Int32) = nI 1 from rfl, pk_sub (by omega)]
    have hin : vp_in (i 661 - (1 : Int32)) n2 := by rw [e1]; exact vp_in_nI (by omega) hn2
    have hc : (i 661 - (1 : Int32)).toNatClampNeg = cs.length - 1 := by rw [e1]; exact nI_clamp (by omega)
    have hx : cs[cs.length - 1]? = some (cs[cs.length - 1]'(by omega)) := List.getElem?_eq_getElem (by omega)
    generalize hxe : cs[cs.length - 1]'(by omega) = x at hx
    obtain ⟨c1, c2, c3, c4, c5⟩ := h.2.2.2.2.2.2.2.2.2.2 _ x hx
    refine t_cut hn2 h hlc (k := cs.length - 1) (by omega) e1 (fun i' r1 r2 r3 => ⟨hin, hin, hin, hin, hin, ?_⟩)
    unfold wp_Matcher_go_19
    rw [hc]
    refine hK _ _ _ _ ?_ (rU_tr r2 ⟨fun k hk => by rw [ud_n (by omega), ud_n (by omega), ud_n (by omega), ud_n (by omega)], fun k hk => pk_uLn hk, fun _ _ => rfl⟩)
    rw [m_choice, hx]
    obtain ⟨s, g1, g2, g3, g4, g5, g6, g7, g8, g9, g10⟩ := r1
    exact ⟨s, c1, c2, c5, c3, by rw [pk_uLs]; exact c4, g6, g7, g8, g9, g10⟩
  · have e : cs = [] := by
      have := (nI_eq (a := cs.length) (b := 0) (by omega) (by decide)).mp (by rw [← h8, q]; rfl)
      exact List.length_eq_zero_iff.mp this
    refine hK _ _ _ _ ?_ (rU_task _)
    rw [m_choice, e]
    subst e
    exact rM_task h 9 rfl
end MACH
