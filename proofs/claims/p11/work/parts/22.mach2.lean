/-! the program, the state, what a turn leaves alone -/
abbrev pg : Type := (Nat → Nat) × (Nat → Int32) × (Nat → Nat) × (Nat → Nat) × (Nat → Nat) × (Nat → Option Nat) × (Nat → Option Nat) × (Nat → Option Nat) × (Nat → Option Nat) × (Nat → Nat)
def q_kd (P : pg) : Nat → Nat := P.1
def q_vl (P : pg) : Nat → Int32 := P.2.1
def q_rp (P : pg) : Nat → Nat := P.2.2.1
def q_tm (P : pg) : Nat → Nat := P.2.2.2.1
def q_mn (P : pg) : Nat → Nat := P.2.2.2.2.1
def q_bd (P : pg) : Nat → Option Nat := P.2.2.2.2.2.1
def q_nx (P : pg) : Nat → Option Nat := P.2.2.2.2.2.2.1
def q_fi (P : pg) : Nat → Option Nat := P.2.2.2.2.2.2.2.1
def q_nr (P : pg) : Nat → Option Nat := P.2.2.2.2.2.2.2.2.1
def q_gb (P : pg) : Nat → Nat := P.2.2.2.2.2.2.2.2.2
def rP (P : pg) (ni nr : Nat) (a : mm_a) : Prop := ni ≤ 32 ∧ nr ≤ 33 ∧ (∀ k, k < ni → a 23 k = nI (q_kd P k) ∧ a 24 k = q_vl P k ∧ a 25 k = nI (q_rp P k) ∧ a 26 k = nI (q_tm P k) ∧ a 27 k = nI (q_mn P k) ∧ a 28 k = rN (q_bd P k) ∧ a 29 k = rN (q_nx P k) ∧ q_kd P k ≤ 9 ∧ q_rp P k ≤ 5 ∧ q_mn P k ≤ 2 ∧ q_tm P k ≤ 9) ∧ (∀ k, k < nr → a 30 k = rN (q_fi P k) ∧ a 31 k = rN (q_nr P k)) ∧ (∀ g, g < 5 → a 32 g = nI (q_gb P g))
/-- task, number, frame, place, captures, taken, frames, choices -/
abbrev mS : Type := Nat × Option Nat × Nat × Nat × (Nat → Nat) × Nat × List mF × List mC
def rM (P : pg) (ni nr : Nat) (su : Nat → Nat) (sl lim : Nat) (m : mS) (i : mm_i) (l : mm_j) (a : mm_a) (b : mm_b) : Prop :=
  (i 306 = nI lim ∧ i 321 = nI sl ∧ rP P ni nr a ∧ (∀ k, k < sl → a 21 k = nI (su k))) ∧ i 309 = nI m.1 ∧ i 310 = rN m.2.1 ∧ i 311 = nI m.2.2.1 ∧ i 312 = nI m.2.2.2.1 ∧ l 313 = lN (cp_enc m.2.2.2.2.1) ∧ i 314 = nI m.2.2.2.2.2.1 ∧ i 535 = nI m.2.2.2.2.2.2.1.length ∧ i 661 = nI m.2.2.2.2.2.2.2.length ∧ rF m.2.2.2.2.2.2.1 a b ∧ rC m.2.2.2.2.2.2.2 a b
def rU (i : mm_i) (l : mm_j) (a : mm_a) (i' : mm_i) (l' : mm_j) (a' : mm_a) : Prop := (∀ k, k < 309 ∨ (314 < k ∧ ¬ k = 535 ∧ ¬ k = 661) → i' k = i k) ∧ (∀ k, ¬ k = 313 → l' k = l k) ∧ ∀ t, t < 34 → a' t = a t
theorem rU_rf {i : mm_i} {l : mm_j} {a : mm_a} : rU i l a i l a := ⟨fun _ _ => rfl, fun _ _ => rfl, fun _ _ => rfl⟩
theorem rU_tr {i i' i2 : mm_i} {l l' l2 : mm_j} {a a' a2 : mm_a} (h : rU i l a i' l' a') (h2 : rU i' l' a' i2 l2 a2) : rU i l a i2 l2 a2 := ⟨fun k hk => (h2.1 k hk).trans (h.1 k hk), fun k hk => (h2.2.1 k hk).trans (h.2.1 k hk), fun t ht => (h2.2.2 t ht).trans (h.2.2 t ht)⟩
theorem rP_same {P : pg} {ni nr : Nat} {a a' : mm_a} (h : rP P ni nr a) (ha : ∀ t, t < 34 → a' t = a t) : rP P ni nr a' := by
  unfold rP
  rw [ha 23 (by decide), ha 24 (by decide), ha 25 (by decide), ha 26 (by decide), ha 27 (by decide), ha 28 (by decide), ha 29 (by decide), ha 30 (by decide), ha 31 (by decide), ha 32 (by decide)]
  exact h
theorem ud_s {f : mm_i} {k : Nat} {x : Int32} : upd f k x k = x := pk_us
theorem ud_n {f : mm_i} {k j : Nat} {x : Int32} (h : j ≠ k) : upd f k x j = f j := pk_un h
section MACH
variable {n1 n2 ni nr sl lim : Nat} {P : pg} {su : Nat → Nat} {i : mm_i} {l : mm_j} {a : mm_a} {b : mm_b} {K : mm_i → mm_j → mm_a → mm_b → Prop}
variable {T F Pl tk : Nat} {N : Option Nat} {C : Nat → Nat} {fs : List mF} {cs : List mC}
/-- a state with other scalars, the same frames and choices -/
theorem rM_go (h : rM P ni nr su sl lim (T, N, F, Pl, C, tk, fs, cs) i l a b) (T' : Nat) (N' : Option Nat) {x1 x2 : Int32} (e1 : x1 = nI T') (e2 : x2 = rN N') : rM P ni nr su sl lim (T', N', F, Pl, C, tk, fs, cs) (upd (upd i 309 x1) 310 x2) l a b := by
  obtain ⟨⟨s1, s2, s3, s4⟩, h1, h2, h3, h4, h5, h6, h7, h8, h9, h10⟩ := h
  subst e1; subst e2
  exact ⟨⟨s1, s2, s3, s4⟩, rfl, rfl, h3, h4, h5, h6, h7, h8, h9, h10⟩
theorem rU_go (x1 x2 : Int32) : rU i l a (upd (upd i 309 x1) 310 x2) l a := ⟨fun k hk => by rw [ud_n (by omega), ud_n (by omega)], fun _ _ => rfl, fun _ _ => rfl⟩
theorem rM_task (h : rM P ni nr su sl lim (T, N, F, Pl, C, tk, fs, cs) i l a b) (T' : Nat) {x1 : Int32} (e1 : x1 = nI T') : rM P ni nr su sl lim (T', N, F, Pl, C, tk, fs, cs) (upd i 309 x1) l a b := by
  obtain ⟨⟨s1, s2, s3, s4⟩, h1, h2, h3, h4, h5, h6, h7, h8, h9, h10⟩ := h
  subst e1
  exact ⟨⟨s1, s2, s3, s4⟩, rfl, h2, h3, h4, h5, h6, h7, h8, h9, h10⟩
theorem rU_task (x1 : Int32) : rU i l a (upd i 309 x1) l a := ⟨fun k hk => by rw [ud_n (by omega)], fun _ _ => rfl, fun _ _ => rfl⟩
/-- a choice more -/
theorem m_cadd (hn : n2 < 2 ^ 31) (h : rM P ni nr su sl lim (T, N, F, Pl, C, tk, fs, cs) i l a b) (hlt : cs.length < n2) (x : mC) {x1 x2 x3 x5 : Int32} {x4 : Int64} (e1 : x1 = nI x.1) (e2 : x2 = nI x.2.1) (e3 : x3 = nI x.2.2.1) (e4 : x4 = lN (cp_enc x.2.2.2.1)) (e5 : x5 = nI x.2.2.2.2)
    (hK : ∀ i' a' b', rM P ni nr su sl lim (T, N, F, Pl, C, tk, fs, cs ++ [x]) i' l a' b' → rU i l a i' l a' → (∀ k, ¬ k = 661 → i' k = i k) → K i' l a' b') : wp_Choices_add_41 n1 n2 i l a b x1 x2 x3 x4 x5 K := by
  obtain ⟨⟨s1, s2, s3, s4⟩, h1, h2, h3, h4, h5, h6, h7, h8, h9, h10⟩ := h
  refine w_Cadd h8 hlt hn h10 x e1 e2 e3 e4 e5 (fun a' b' q1 q2 q3 => hK _ a' b' ⟨⟨s1, s2, rP_same s3 (fun t ht => q2 t (by omega)), fun k hk => by rw [q2 21 (by decide)]; exact s4 k hk⟩, h1, h2, h3, h4, h5, h6, h7, rfl, rF_same h9 (fun t _ ht => q2 t (by omega)) (q3 38 (by decide)), q1⟩ ⟨fun k hk => ud_n (by omega), fun _ _ => rfl, fun t ht => q2 t (by omega)⟩ (fun k hk => ud_n hk))
/-- a frame more, and it is the one in hand -/
theorem m_fadd {K : Int32 → mm_i → mm_j → mm_a → mm_b → Prop} (hn : n1 < 2 ^ 31) (h : rM P ni nr su sl lim (T, N, F, Pl, C, tk, fs, cs) i l a b) (hlt : fs.length < n1) {y : mF} (ho : fs[F]? = some y) (kind item mark : Nat) (hk : kind < 2 ^ 31) {x1 x2 x3 x4 x6 : Int32} {x5 : Int64} (e1 : x1 = nI kind) (e2 : x2 = nI item) (e3 : x3 = nI mark) (e4 : x4 = nI Pl) (e5 : x5 = lN (cp_enc C)) (e6 : x6 = nI F)
    (hK : ∀ i' a' b', rM P ni nr su sl lim (T, N, fs.length, Pl, C, tk, fs ++ [(kind, item, mark, Pl, C, F, if kind = 2 then y.2.2.2.2.2.2 + 1 else y.2.2.2.2.2.2)], cs) (upd i' 311 (nI fs.length)) l a' b' → rU i l a i' l a' → (∀ k, ¬ k = 535 → i' k = i k) → K (nI fs.length) i' l a' b') : wp_Frames_add_33 n1 n2 i l a b x1 x2 x3 x4 x5 x6 K := by
  obtain ⟨⟨s1, s2, s3, s4⟩, h1, h2, h3, h4, h5, h6, h7, h8, h9, h10⟩ := h
  refine w_Fadd h7 hlt hn h9 ho (kind, item, mark, Pl, C, F, if kind = 2 then y.2.2.2.2.2.2 + 1 else y.2.2.2.2.2.2) hk e1 e2 e3 e4 e5 e6 rfl rfl (fun a' b' q1 q2 q3 => hK _ a' b' ⟨⟨s1, s2, rP_same s3 (fun t ht => q2 t (by omega)), fun k hk => by rw [q2 21 (by decide)]; exact s4 k hk⟩, h1, h2, rfl, h4, h5, h6, rfl, h8, q1, rC_same h10 (fun t ht _ => q2 t (by omega)) (q3 45 (by decide))⟩ ⟨fun k hk => ud_n (by omega), fun _ _ => rfl, fun t ht => q2 t (by omega)⟩ (fun k hk => ud_n hk))
theorem rU_fr (x : Int32) : rU i l a (upd i 311 x) l a := ⟨fun k hk => by rw [ud_n (by omega)], fun _ _ => rfl, fun _ _ => rfl⟩
def m_fork (P : pg) (it F Pl : Nat) (C : Nat → Nat) (tk : Nat) (fs : List mF) (cs : List mC) : mS :=
  if q_mn P it = 1 then (5, some it, F, Pl, C, tk, fs, cs ++ [(2, it, Pl, C, F)]) else (2, some it, F, Pl, C, tk, fs, cs ++ [(5, it, Pl, C, F)])
theorem t_fork (hn : n2 < 2 ^ 31) (h : rM P ni nr su sl lim (T, N, F, Pl, C, tk, fs, cs) i l a b) (hlt : cs.length < n2) {it : Nat} (hi : it < ni) {x1 : Int32} (ex : x1 = nI it) (hK : ∀ i' l' a' b', rM P ni nr su sl lim (m_fork P it F Pl C tk fs cs) i' l' a' b' → rU i l a i' l' a' → K i' l' a' b') : wp_Matcher_fork_19 n1 n2 i l a b x1 K := by
  have s3 := h.1.2.2.1
  have hl := s3.1
  obtain ⟨p1, p2, p3, p4, p5, p6, p7, p8, p9, p10, p11⟩ := s3.2.2.1 it hi
  have hx : x1.toNatClampNeg = it := by rw [ex]; exact nI_clamp (by omega)
  unfold wp_Matcher_fork_19
  refine ⟨by rw [ex]; exact vp_in_nI (by omega) (by decide), ?_⟩
  rw [hx, p5]
  refine ⟨fun q => ?_, fun q => ?_⟩
  · have hq : ¬ q_mn P it = 1 := fun z => q (by rw [z]; rfl)
    refine m_cadd hn h hlt (5, it, Pl, C, F) rfl ex h.2.2.2.2.1 h.2.2.2.2.2.1 h.2.2.2.1 (fun i' a' b' r1 r2 r3 => ?_)
    unfold wp_Matcher_go_19
    refine hK _ _ _ _ ?_ (rU_tr r2 (rU_go _ _))
    rw [m_fork, if_neg hq]
    exact rM_go r1 2 (some it) rfl ex
  · have hq : q_mn P it = 1 := (nI_eq (by omega) (by decide)).mp (by rw [q]; rfl)
    refine m_cadd hn h hlt (2, it, Pl, C, F) rfl ex h.2.2.2.2.1 h.2.2.2.2.2.1 h.2.2.2.1 (fun i' a' b' r1 r2 r3 => ?_)
    unfold wp_Matcher_go_19
    refine hK _ _ _ _ ?_ (rU_tr r2 (rU_go _ _))
    rw [m_fork, if_pos hq]
    exact rM_go r1 5 (some it) rfl ex
end MACH
