/-! the invariant is kept -/
section SK
variable {tx : Nat → Nat} {n k lv ni nr gr : Nat} {P P' : pg} {Lv : Nat → dL} {ip rp : Nat → Nat}
theorem itK_mono {nr' A it : Nat} {rp' : Nat → Nat} (h : itK tx n P nr rp A it) (e1 : q_kd P' it = q_kd P it) (e2 : q_vl P' it = q_vl P it) (e3 : q_bd P' it = q_bd P it) (hr : ∀ r, r < nr → rp' r = rp r) (hn : nr ≤ nr') : itK tx n P' nr' rp' A it := by
  rcases h with ⟨a1, a2, a3, a4, r, a5, a6, a7⟩ | ⟨a1, a2, a3, r, a5, a6, a7⟩ | ⟨e, a1, a2, a3, a4⟩
  · exact Or.inl ⟨a1, a2, e1.trans a3, e2.trans a4, r, e3.trans a5, by omega, by rw [hr r a6]; exact a7⟩
  · exact Or.inr (Or.inl ⟨a1, a2, by rw [e1]; exact a3, r, e3.trans a5, by omega, by rw [hr r a6]; exact a7⟩)
  · exact Or.inr (Or.inr ⟨e, a1, a2, e1.trans a3, e2.trans a4⟩)
theorem itR_mono {A it : Nat} (h : itR tx n P A it) (e1 : q_rp P' it = q_rp P it) (e2 : q_mn P' it = q_mn P it) (e3 : q_tm P' it = q_tm P it) : itR tx n P' A it := ⟨e1.trans h.1, e2.trans h.2.1, fun w => e3.trans (h.2.2.1 w), h.2.2.2⟩
theorem rwC_mono {ni' nr' r : Nat} {ip' rp' : Nat → Nat} (h : rwC tx n P ni nr ip rp r) (e1 : q_fi P' r = q_fi P r) (e2 : q_nr P' r = q_nr P r) (e3 : rp' r = rp r) (hi : ∀ a, a < ni → ip' a = ip a) (hr : ∀ o, o < nr → rp' o = rp o) (h1 : ni ≤ ni') (h2 : nr ≤ nr') : rwC tx n P' ni' nr' ip' rp' r := by
  obtain ⟨a, b⟩ := h
  unfold rwC
  rw [e1, e2, e3]
  refine ⟨?_, ?_⟩
  · rcases a with a | ⟨z, a1, a2, a3⟩
    · exact Or.inl a
    · exact Or.inr ⟨z, a1, by omega, by rw [hi z a2]; exact a3⟩
  · rcases b with b | ⟨o, b1, b2, b3, b4⟩
    · exact Or.inl b
    · exact Or.inr ⟨o, b1, by omega, by rw [hr o b2]; exact b3, by rw [hr o b2]; exact b4⟩
/-- the last item of the row in hand is closed -/
theorem sC_last (hC : sC tx n k lv P ni Lv ip rp) {la : Nat} (h : (Lv lv).2.2.1 = some la) : la < ni ∧ x_bh tx n (ip la) = k ∧ q_nx P la = none ∧ ¬ opn Lv lv la := by
  rcases hC.2 with ⟨w, _⟩ | ⟨l2, w1, w2, w3, w4, w5, _⟩
  · rw [h] at w; cases w
  · rw [h] at w1
    cases w1
    exact ⟨w2, w3, w4, w5⟩
theorem si_open {c kd : Nat} {v : Int32} (h : SI tx n k lv P ni nr gr Lv ip rp) (hk : xt tx n k = 40) (hkc : k + c ≤ n)
    (hc : (c = 1 ∧ ¬ xt tx n (k + 1) = 63 ∧ kd = 5 ∧ v = nI (x_gc tx n (k + 1))) ∨ (c = 3 ∧ xt tx n (k + 1) = 63 ∧ ((kd = 8 ∧ xt tx n (k + 2) = 33) ∨ (kd = 6 ∧ xt tx n (k + 2) = 58) ∨ (kd = 7 ∧ xt tx n (k + 2) = 61) ∨ (kd = 9 ∧ xt tx n (k + 2) = 62))))
    (a_kd : ∀ j, q_kd P' j = if j = ni then kd else q_kd P j) (a_vl : ∀ j, q_vl P' j = if j = ni then v else q_vl P j) (a_rp : ∀ j, q_rp P' j = if j = ni then 0 else q_rp P j) (a_mn : ∀ j, q_mn P' j = if j = ni then 0 else q_mn P j) (a_tm : ∀ j, q_tm P' j = if j = ni then 1 else q_tm P j) (a_bd : ∀ j, q_bd P' j = if j = ni then some nr else q_bd P j)
    (a_nx : ∀ j, q_nx P' j = if (Lv lv).2.2.1 = some j then some ni else if j = ni then none else q_nx P j) (a_fi : ∀ j, q_fi P' j = if j = nr then none else if (Lv lv).2.2.1 = none ∧ j = (Lv lv).2.1 then some ni else q_fi P j) (a_nr : ∀ j, q_nr P' j = if j = nr then none else q_nr P j)
    {gr' : Nat} (hF' : sF tx n gr' P' (nr + 1) (va_up rp nr (k + c))) : SI tx n (k + c) (lv + 1) P' (ni + 1) (nr + 1) gr' (d_lvo Lv lv ni nr) (va_up ip ni k) (va_up rp nr (k + c)) := by
  obtain ⟨hkn, hA, hB, hC, hD, hE, hF, hG⟩ := h
  have hkl := (x_in hk (by decide)).1
  have t1 : d_lvo Lv lv ni nr (lv + 1) = (some ni, nr, none, 0) := by simp [d_lvo, va_up]
  have l1 : ∀ j, j ≤ lv → (d_lvo Lv lv ni nr j).1 = (Lv j).1 := by
    intro j hj
    by_cases e : j = lv
    · subst e; simp [d_lvo, va_up]
    · simp [d_lvo, va_up, e, show ¬ j = lv + 1 by omega]
  have l2 : ∀ j, j ≤ lv → (d_lvo Lv lv ni nr j).2.1 = (Lv j).2.1 := by
    intro j hj
    by_cases e : j = lv
    · subst e; simp [d_lvo, va_up]
    · simp [d_lvo, va_up, e, show ¬ j = lv + 1 by omega]
  have l3 : ∀ j, j < lv → (d_lvo Lv lv ni nr j).2.2.1 = (Lv j).2.2.1 := by
    intro j hj
    simp [d_lvo, va_up, show ¬ j = lv by omega, show ¬ j = lv + 1 by omega]
  have l4 : (d_lvo Lv lv ni nr lv).2.2.1 = some ni := by simp [d_lvo, va_up]
  have ipn : ∀ a, a < ni → va_up ip ni k a = ip a := fun a ha => if_neg (by omega)
  have ips : va_up ip ni k ni = k := if_pos rfl
  have rpn : ∀ a, a < nr → va_up rp nr (k + c) a = rp a := fun a ha => if_neg (by omega)
  have rps : va_up rp nr (k + c) nr = k + c := if_pos rfl
  have op1 : ∀ it, ¬ opn (d_lvo Lv lv ni nr) (lv + 1) it → ¬ opn Lv lv it := by
    intro it h1 h2
    obtain ⟨j, j1, j2, j3⟩ := h2
    exact h1 ⟨j, j1, by omega, by rw [l1 j j2]; exact j3⟩
  have hcl : ∀ d, x_cl tx n n d k = x_cl tx n n (d + 1) (k + c) := by
    intro d
    rw [cl_40 hk]
    exact cl_skip (by omega) (fun q q1 q2 => by
      rcases hc with w | w
      · omega
      · rcases (by omega : q = k + 1 ∨ q = k + 2) with e1 | e1
        · rw [e1]; omega
        · rw [e1]; omega)
  have lno : ∀ it, opn Lv lv it → ¬ (Lv lv).2.2.1 = some it := fun it h1 h2 => (sC_last hC h2).2.2.2 h1
  refine ⟨hkc, ?_, ?_, ?_, ?_, ?_, hF', ?_⟩
  · intro j j1 j2
    by_cases e : j = lv + 1
    · subst e
      refine ⟨ni, by rw [t1], by omega, by rw [show lv + 1 - 1 = lv from rfl]; exact l4, by rw [ips]; exact hk, ?_, by rw [a_rp, if_pos rfl], by rw [a_mn, if_pos rfl], ?_⟩
      · rw [ips, show lv + 1 - (lv + 1) + 1 = 1 by omega]
        rcases hc with w | w
        · rw [w.1]
        · exact cl_skip (by omega) (fun q q1 q2 => by
            rcases (by omega : q = k + 1 ∨ q = k + 2) with e1 | e1
            · rw [e1]; omega
            · rw [e1]; omega)
      · rw [a_nx, if_neg (fun w => by have := (sC_last hC w).1; omega), if_pos rfl]
    · obtain ⟨it, b1, b2, b3, b4, b5, b6, b7, b8⟩ := hA j j1 (by omega)
      refine ⟨it, by rw [l1 j (by omega)]; exact b1, by omega, by rw [l3 (j - 1) (by omega)]; exact b3, by rw [ipn it b2]; exact b4, ?_, by rw [a_rp, if_neg (by omega)]; exact b6, by rw [a_mn, if_neg (by omega)]; exact b7, ?_⟩
      · rw [ipn it b2, b5, hcl, show lv + 1 - j + 1 = lv - j + 1 + 1 by omega]
      · rw [a_nx, if_neg (lno it ⟨j, j1, by omega, b1⟩), if_neg (by omega)]
        exact b8
  · refine ⟨fun j hj => ?_, fun j it hj hit => ?_, ?_⟩
    · by_cases e : j = lv + 1
      · subst e
        rw [t1, a_nr]
        exact ⟨Nat.lt_succ_self _, if_pos rfl⟩
      · have := hB.1 j (by omega)
        rw [l2 j (by omega), a_nr, if_neg (by omega)]
        exact ⟨by omega, this.2⟩
    · have hrow := (hB.1 j (by omega)).1
      rw [l2 j (by omega), rpn _ hrow]
      by_cases e : j = lv
      · subst e
        rw [t1] at hit
        cases hit
        rw [ips]
        exact hB.2.2
      · rw [l1 (j + 1) (by omega)] at hit
        have hil : it < ni := by
          obtain ⟨i2, b1, b2, _⟩ := hA (j + 1) (by omega) (by omega)
          rw [hit] at b1
          cases b1
          exact b2
        rw [ipn it hil]
        exact hB.2.1 j it (by omega) hit
    · rw [t1]
      show sm tx n (va_up rp nr (k + c) nr) _
      rw [rps]
      exact ⟨rfl, fun _ _ => rfl⟩
  · refine ⟨fun j hj => ?_, Or.inl ?_⟩
    · have hrow := (hB.1 j (by omega)).1
      rw [l2 j (by omega), rpn _ hrow, a_fi, if_neg (by omega)]
      by_cases e : j = lv
      · subst e
        rcases hC.2 with ⟨w1, w2, w3⟩ | ⟨la, w1, w2, w3, w4, w5, fi, w6, w7, w8⟩
        · rw [if_pos ⟨w1, rfl⟩]
          exact ⟨ni, rfl, by omega, by rw [ips]; exact w3.symm⟩
        · rw [if_neg (fun z => by rw [w1] at z; cases z.1)]
          exact ⟨fi, w6, by omega, by rw [ipn fi w7]; exact w8⟩
      · obtain ⟨fi, w6, w7, w8⟩ := hC.1 j (by omega)
        have := hG.2 j lv (by omega) (Nat.le_refl _)
        rw [if_neg (fun z => by omega)]
        exact ⟨fi, w6, by omega, by rw [ipn fi w7]; exact w8⟩
    · rw [t1]
      show none = none ∧ q_fi P' nr = none ∧ va_up rp nr (k + c) nr = k + c
      rw [a_fi, if_pos rfl, rps]
      exact ⟨rfl, rfl, rfl⟩
  · intro it hit
    by_cases e : it = ni
    · subst e
      rw [ips]
      refine ⟨by rcases hc with w | w <;> omega, fun w => by unfold x_re at w; omega, ?_, fun w => absurd ⟨lv + 1, by omega, Nat.le_refl _, by rw [t1]⟩ w⟩
      have ekd : q_kd P' it = kd := by rw [a_kd, if_pos rfl]
      have evl : q_vl P' it = v := by rw [a_vl, if_pos rfl]
      have ebd : q_bd P' it = some nr := by rw [a_bd, if_pos rfl]
      rcases hc with ⟨w1, w2, w3, w4⟩ | ⟨w1, w2, w3⟩
      · exact Or.inl ⟨hk, w2, ekd.trans w3, evl.trans w4, nr, ebd, Nat.lt_succ_self _, by rw [rps, w1]⟩
      · exact Or.inr (Or.inl ⟨hk, w2, by rw [ekd]; exact w3, nr, ebd, Nat.lt_succ_self _, by rw [rps, w1]⟩)
    · obtain ⟨d1, d2, d3, d4⟩ := hD it (by omega)
      rw [ipn it (by omega)]
      refine ⟨by omega, d2, itK_mono d3 (by rw [a_kd, if_neg e]) (by rw [a_vl, if_neg e]) (by rw [a_bd, if_neg e]) rpn (by omega), fun w => ?_⟩
      obtain ⟨f1, f2⟩ := d4 (op1 it w)
      refine ⟨itR_mono f1 (by rw [a_rp, if_neg e]) (by rw [a_mn, if_neg e]) (by rw [a_tm, if_neg e]), ?_⟩
      rw [a_nx]
      by_cases hla : (Lv lv).2.2.1 = some it
      · rw [if_pos hla]
        exact Or.inl ⟨ni, rfl, by omega, by rw [ips]; exact (sC_last hC hla).2.1.symm⟩
      · rw [if_neg hla, if_neg e]
        rcases f2 with ⟨b, b1, b2, b3⟩ | ⟨b1, b2⟩
        · exact Or.inl ⟨b, b1, by omega, by rw [ipn b b2]; exact b3⟩
        · refine Or.inr ⟨b1, Or.inl ?_⟩
          rcases b2 with b2 | b2
          · exact b2
          · exact absurd b2 hla
  · intro r hr
    by_cases e : r = nr
    · subst e
      rw [rps]
      exact ⟨hkc, Or.inl ⟨lv + 1, Nat.le_refl _, by rw [t1]⟩⟩
    · obtain ⟨e1, e2⟩ := hE r (by omega)
      rw [rpn r (by omega)]
      refine ⟨e1, ?_⟩
      rcases e2 with ⟨j, j1, j2⟩ | e2
      · exact Or.inl ⟨j, by omega, by rw [l2 j j1]; exact j2⟩
      · by_cases er : r = (Lv lv).2.1
        · exact Or.inl ⟨lv, by omega, by rw [l2 lv (Nat.le_refl _)]; exact er.symm⟩
        · exact Or.inr (rwC_mono e2 (by rw [a_fi, if_neg e, if_neg (fun z => er z.2)]) (by rw [a_nr, if_neg e]) (rpn r (by omega)) ipn rpn (by omega) (by omega))
  · refine ⟨fun i j a b i1 ij jl ha hb => ?_, fun i j ij jl => ?_⟩
    · rw [l1 i (by omega)] at ha
      by_cases e : j = lv + 1
      · subst e
        rw [t1] at hb
        cases hb
        obtain ⟨it, b1, b2, _⟩ := hA i i1 (by omega)
        rw [ha] at b1
        cases b1
        exact b2
      · rw [l1 j (by omega)] at hb
        exact hG.1 i j a b i1 ij (by omega) ha hb
    · rw [l2 i (by omega)]
      by_cases e : j = lv + 1
      · subst e
        rw [t1]
        exact (hB.1 i (by omega)).1
      · rw [l2 j (by omega)]
        exact hG.2 i j ij (by omega)
theorem nr_of {r j : Nat} (h : x_en tx n (n + 1) r = j) (hj : xt tx n j = 124) : x_nr tx n r = some (j + 1) := by
  unfold x_nr
  rw [h, if_pos hj]
theorem nr_none {r j : Nat} (h : x_en tx n (n + 1) r = j) (hj : ¬ xt tx n j = 124) : x_nr tx n r = none := by
  unfold x_nr
  rw [h, if_neg hj]
theorem si_bar {z : Int32} (h : SI tx n k lv P ni nr gr Lv ip rp) (hk : xt tx n k = 124) : SI tx n (k + 1) lv (P_nr (P_row P nr) (Lv lv).2.1 nr) ni (nr + 1) gr (va_up Lv lv ((Lv lv).1, nr, none, z)) ip (va_up rp nr (k + 1)) := by
  obtain ⟨hkn, hA, hB, hC, hD, hE, hF, hG⟩ := h
  have hkl := (x_in hk (by decide)).1
  have hre : x_re tx n k := Or.inr (Or.inl hk)
  have l1 : ∀ j, (va_up Lv lv ((Lv lv).1, nr, none, z) j).1 = (Lv j).1 := by
    intro j
    by_cases e : j = lv
    · subst e; simp [va_up]
    · simp [va_up, e]
  have l2 : ∀ j, ¬ j = lv → va_up Lv lv ((Lv lv).1, nr, none, z) j = Lv j := fun j hj => if_neg hj
  have t1 : va_up Lv lv ((Lv lv).1, nr, none, z) lv = ((Lv lv).1, nr, none, z) := if_pos rfl
  have rpn : ∀ a, a < nr → va_up rp nr (k + 1) a = rp a := fun a ha => if_neg (by omega)
  have rps : va_up rp nr (k + 1) nr = k + 1 := if_pos rfl
  have a_nr : ∀ j, q_nr (P_nr (P_row P nr) (Lv lv).2.1 nr) j = if j = (Lv lv).2.1 then some nr else if j = nr then none else q_nr P j := fun j => rfl
  have a_fi : ∀ j, q_fi (P_nr (P_row P nr) (Lv lv).2.1 nr) j = if j = nr then none else q_fi P j := fun j => rfl
  have opq : ∀ it, opn (va_up Lv lv ((Lv lv).1, nr, none, z)) lv it ↔ opn Lv lv it := by
    intro it
    constructor
    · rintro ⟨j, j1, j2, j3⟩
      exact ⟨j, j1, j2, by rw [← l1 j]; exact j3⟩
    · rintro ⟨j, j1, j2, j3⟩
      exact ⟨j, j1, j2, by rw [l1 j]; exact j3⟩
  have hrow := (hB.1 lv (Nat.le_refl _)).1
  have hcl : ∀ d, x_cl tx n n d k = x_cl tx n n d (k + 1) := fun d => cl_no hkl (by omega)
  refine ⟨by omega, ?_, ?_, ?_, ?_, ?_, ?_, ?_⟩
  · intro j j1 j2
    obtain ⟨it, b1, b2, b3, b4, b5, b6, b7, b8⟩ := hA j j1 j2
    exact ⟨it, by rw [l1]; exact b1, b2, by rw [l2 (j - 1) (by omega)]; exact b3, b4, by rw [b5, hcl], b6, b7, b8⟩
  · refine ⟨fun j hj => ?_, fun j it hj hit => ?_, ?_⟩
    · by_cases e : j = lv
      · subst e
        rw [t1, a_nr]
        show nr < nr + 1 ∧ (if nr = (Lv j).2.1 then some nr else if nr = nr then none else q_nr P nr) = none
        rw [if_neg (by omega), if_pos rfl]
        exact ⟨by omega, rfl⟩
      · have := hB.1 j (by omega)
        have hlt := hG.2 j lv (by omega) (Nat.le_refl _)
        rw [l2 j e, a_nr, if_neg (by omega), if_neg (by omega)]
        exact ⟨by omega, this.2⟩
    · rw [l1] at hit
      rw [l2 j (by omega), rpn _ (hB.1 j (by omega)).1]
      exact hB.2.1 j it hj hit
    · rw [t1]
      show sm tx n (va_up rp nr (k + 1) nr) _
      rw [rps]
      exact ⟨rfl, fun _ _ => rfl⟩
  · refine ⟨fun j hj => ?_, Or.inl ?_⟩
    · obtain ⟨fi, w6, w7, w8⟩ := hC.1 j hj
      have := (hB.1 j (by omega)).1
      rw [l2 j (by omega), rpn _ this, a_fi, if_neg (by omega)]
      exact ⟨fi, w6, w7, w8⟩
    · rw [t1]
      show none = none ∧ q_fi (P_nr (P_row P nr) (Lv lv).2.1 nr) nr = none ∧ va_up rp nr (k + 1) nr = k + 1
      rw [a_fi, if_pos rfl, rps]
      exact ⟨rfl, rfl, rfl⟩
  · intro it hit
    obtain ⟨d1, d2, d3, d4⟩ := hD it hit
    refine ⟨by omega, d2, itK_mono d3 rfl rfl rfl rpn (by omega), fun w => ?_⟩
    obtain ⟨f1, f2⟩ := d4 (fun z => w ((opq it).mpr z))
    refine ⟨itR_mono f1 rfl rfl rfl, ?_⟩
    rcases f2 with f2 | ⟨b1, b2⟩
    · exact Or.inl f2
    · refine Or.inr ⟨b1, Or.inl ?_⟩
      rcases b2 with b2 | b2
      · exact b2
      · rw [(sC_last hC b2).2.1]
        exact hre
  · intro r hr
    by_cases e : r = nr
    · subst e
      rw [rps]
      exact ⟨by omega, Or.inl ⟨lv, Nat.le_refl _, by rw [t1]⟩⟩
    · obtain ⟨e1, e2⟩ := hE r (by omega)
      rw [rpn r (by omega)]
      refine ⟨e1, ?_⟩
      by_cases er : r = (Lv lv).2.1
      · refine Or.inr ⟨?_, Or.inr ⟨nr, by rw [a_nr, if_pos er], by omega, ?_, fun d hd => ?_⟩⟩
        · rw [a_fi, if_neg e, er, rpn _ hrow]
          rcases hC.2 with ⟨w1, w2, w3⟩ | ⟨la, w1, w2, w3, w4, w5, fi, w6, w7, w8⟩
          · exact Or.inl ⟨w2, by rw [w3]; exact hre⟩
          · exact Or.inr ⟨fi, w6, w7, w8⟩
        · rw [rpn r (by omega), rps, er]
          exact nr_of (hB.2.2.1.trans (en_re hre)) hk
        · rw [rpn r (by omega), rps, er, ← hcl]
          exact hB.2.2.2 d hd
      · rcases e2 with ⟨j, j1, j2⟩ | e2
        · have hj : ¬ j = lv := fun z => er (by rw [← j2, z])
          exact Or.inl ⟨j, j1, by rw [l2 j hj]; exact j2⟩
        · exact Or.inr (rwC_mono e2 (by rw [a_fi, if_neg e]) (by rw [a_nr, if_neg er, if_neg e]) (rpn r (by omega)) (fun _ _ => rfl) rpn (Nat.le_refl _) (by omega))
  · obtain ⟨⟨f1, f2, f3⟩, f4⟩ := hF
    refine ⟨⟨f1, by rw [rpn 0 f3]; exact f2, by omega⟩, fun g g1 g2 => ?_⟩
    obtain ⟨q1, q2⟩ := f4 g g1 g2
    have q3 : q_gb (P_nr (P_row P nr) (Lv lv).2.1 nr) g = q_gb P g := rfl
    rw [q3, rpn _ q1]
    exact ⟨by omega, q2⟩
  · refine ⟨fun i j a b i1 ij jl ha hb => ?_, fun i j ij jl => ?_⟩
    · rw [l1] at ha hb
      exact hG.1 i j a b i1 ij jl ha hb
    · rw [l2 i (by omega)]
      by_cases e : j = lv
      · subst e
        rw [t1]
        exact (hB.1 i (by omega)).1
      · rw [l2 j e]
        exact hG.2 i j ij jl
theorem si_close {k2 it : Nat} {z : Int32} (h : SI tx n k (lv + 1) P ni nr gr Lv ip rp) (hk : xt tx n k = 41) (hit : (Lv (lv + 1)).1 = some it) (hb : y_br tx n (k + 1) = some k2) : SI tx n k2 lv (x_P tx n (k + 1) P it) ni nr gr (d_sz Lv lv z) ip rp ∧ x_bh tx n (ip it) = k2 := by
  obtain ⟨hkn, hA, hB, hC, hD, hE, hF, hG⟩ := h
  have hkl := (x_in hk (by decide)).1
  have hre : x_re tx n k := Or.inr (Or.inr hk)
  have hk2 := y_br_le (dx := tx) (n := n) (k := k + 1) (by omega) hb
  have hpl := br_plr (by omega) hb
  have l1 : ∀ j, (d_sz Lv lv z j).1 = (Lv j).1 ∧ (d_sz Lv lv z j).2.1 = (Lv j).2.1 ∧ (d_sz Lv lv z j).2.2.1 = (Lv j).2.2.1 := by
    intro j
    by_cases e : j = lv
    · subst e; simp [d_sz, va_up]
    · simp [d_sz, va_up, e]
  obtain ⟨it2, c1, c2, c3, c4, c5, c6, c7, c8⟩ := hA (lv + 1) (by omega) (Nat.le_refl _)
  rw [hit] at c1
  cases c1
  rw [show lv + 1 - (lv + 1) + 1 = 1 by omega, cl_end hk] at c5
  have hba : x_ba tx n (ip it) = k + 1 := by
    unfold x_ba
    rw [if_pos c4, c5]
  obtain ⟨p1, p2, p3, p4, p5, p6, p7⟩ := xP_c (tx := tx) (n := n) (e := k + 1) (it := it) (P := P)
  have hbh := (bh_of hba hb).1
  have nop : ¬ opn (d_sz Lv lv z) lv it := by
    rintro ⟨j, j1, j2, j3⟩
    rw [(l1 j).1] at j3
    have := hG.1 j (lv + 1) it it j1 (by omega) (Nat.le_refl _) j3 hit
    omega
  have op1 : ∀ i, ¬ i = it → ¬ opn (d_sz Lv lv z) lv i → ¬ opn Lv (lv + 1) i := by
    intro i hi h1 h2
    obtain ⟨j, j1, j2, j3⟩ := h2
    by_cases e : j = lv + 1
    · subst e
      rw [hit] at j3
      exact hi (Option.some.inj j3).symm
    · exact h1 ⟨j, j1, by omega, by rw [(l1 j).1]; exact j3⟩
  refine ⟨⟨hk2.2, ?_, ?_, ?_, ?_, ?_, ?_, ?_⟩, hbh⟩
  · intro j j1 j2
    obtain ⟨i2, b1, b2, b3, b4, b5, b6, b7, b8⟩ := hA j j1 (by omega)
    have hne : ¬ i2 = it := by
      have := hG.1 j (lv + 1) i2 it j1 (by omega) (Nat.le_refl _) b1 hit
      omega
    obtain ⟨q1, q2, q3⟩ := xP_n (tx := tx) (n := n) (e := k + 1) (P := P) hne
    refine ⟨i2, by rw [(l1 j).1]; exact b1, b2, by rw [(l1 (j - 1)).2.2]; exact b3, b4, ?_, q1.trans b6, q3.trans b7, by rw [p4]; exact b8⟩
    rw [b5, cl_41 hk (by omega), show lv + 1 - j + 1 - 1 = lv - j + 1 by omega]
    exact cl_skip hk2.1 (fun q a b => ⟨(hpl q a b).1, (hpl q a b).2.1, (hpl q a b).2.2.1⟩)
  · refine ⟨fun j hj => ?_, fun j i2 hj hi2 => ?_, ?_⟩
    · rw [(l1 j).2.1, p6]
      exact hB.1 j (by omega)
    · rw [(l1 (j + 1)).1] at hi2
      rw [(l1 j).2.1]
      exact hB.2.1 j i2 (by omega) hi2
    · rw [(l1 lv).2.1]
      have hsm := hB.2.1 lv it (by omega) hit
      refine ⟨?_, fun d hd => ?_⟩
      · rw [hsm.1, en_step (hD it c2).2.1]
        have e1 : x_nx tx n (ip it) = k + 1 := by
          unfold x_nx
          rw [if_pos (Or.inl c4)]
          exact hba
        rw [e1]
        exact en_skip hk2.1 hpl
      · rw [hsm.2 d hd, cl_40 c4, cl_split hd n (ip it + 1) 1 (by omega) (by omega) (by omega), c5]
        exact cl_skip hk2.1 (fun q a b => ⟨(hpl q a b).1, (hpl q a b).2.1, (hpl q a b).2.2.1⟩)
  · refine ⟨fun j hj => ?_, Or.inr ⟨it, by rw [(l1 lv).2.2]; exact c3, c2, hbh, by rw [p4]; exact c8, nop, ?_⟩⟩
    · rw [(l1 j).2.1, p5]
      exact hC.1 j (by omega)
    · rw [(l1 lv).2.1, p5]
      exact hC.1 lv (by omega)
  · intro i hi
    obtain ⟨d1, d2, d3, d4⟩ := hD i hi
    refine ⟨by omega, d2, itK_mono d3 (by rw [p1]) (by rw [p2]) (by rw [p3]) (fun _ _ => rfl) (Nat.le_refl _), fun w => ?_⟩
    rw [p4]
    by_cases e : i = it
    · subst e
      refine ⟨?_, Or.inr ⟨c8, Or.inr (by rw [(l1 lv).2.2]; exact c3)⟩⟩
      obtain ⟨q1, q2, q3⟩ := xP_at (tx := tx) (n := n) (e := k + 1) (P := P) c6 c7
      unfold itR
      rw [hba, hbh]
      exact ⟨q1, q2, q3, hb, by omega⟩
    · obtain ⟨f1, f2⟩ := d4 (op1 i e w)
      obtain ⟨q1, q2, q3⟩ := xP_n (tx := tx) (n := n) (e := k + 1) (P := P) e
      refine ⟨itR_mono f1 q1 q3 q2, ?_⟩
      rcases f2 with f2 | ⟨b1, b2⟩
      · exact Or.inl f2
      · refine Or.inr ⟨b1, Or.inl ?_⟩
        rcases b2 with b2 | b2
        · exact b2
        · rw [(sC_last hC b2).2.1]
          exact hre
  · intro r hr
    obtain ⟨e1, e2⟩ := hE r hr
    refine ⟨e1, ?_⟩
    have full : (∃ j, j ≤ lv ∧ (Lv j).2.1 = r) ∨ rwC tx n P ni nr ip rp r := by
      rcases e2 with ⟨j, j1, j2⟩ | e2
      · by_cases e : j = lv + 1
        · subst e
          right
          rw [← j2]
          refine ⟨?_, Or.inl ⟨(hB.1 (lv + 1) (Nat.le_refl _)).2, nr_none (hB.2.2.1.trans (en_re hre)) (by omega)⟩⟩
          rcases hC.2 with ⟨w1, w2, w3⟩ | ⟨la, w1, w2, w3, w4, w5, fi, w6, w7, w8⟩
          · exact Or.inl ⟨w2, by rw [w3]; exact hre⟩
          · exact Or.inr ⟨fi, w6, w7, w8⟩
        · exact Or.inl ⟨j, by omega, j2⟩
      · exact Or.inr e2
    rcases full with ⟨j, j1, j2⟩ | e2
    · exact Or.inl ⟨j, j1, by rw [(l1 j).2.1]; exact j2⟩
    · exact Or.inr (rwC_mono e2 (by rw [p5]) (by rw [p6]) rfl (fun _ _ => rfl) (fun _ _ => rfl) (Nat.le_refl _) (Nat.le_refl _))
  · unfold sF
    rw [p7]
    exact hF
  · refine ⟨fun i j a b i1 ij jl ha hb => ?_, fun i j ij jl => ?_⟩
    · rw [(l1 i).1] at ha
      rw [(l1 j).1] at hb
      exact hG.1 i j a b i1 ij (by omega) ha hb
    · rw [(l1 i).2.1, (l1 j).2.1]
      exact hG.2 i j ij (by omega)
theorem si_atom {e k2 : Nat} {z : Int32} (h : SI tx n k lv P ni nr gr Lv ip rp) (ho : y_op tx n k = 0) (hp : y_bp tx n k = some e) (hb : y_br tx n e = some k2) : SI tx n k2 lv (x_P tx n e (d_put P ni (x_kv tx n k).1 (x_kv tx n k).2 (Lv lv).2.1 (Lv lv).2.2.1) ni) (ni + 1) nr gr (d_sz (va_up Lv lv ((Lv lv).1, (Lv lv).2.1, some ni, (Lv lv).2.2.2)) lv z) (va_up ip ni k) rp := by
  obtain ⟨hkn, hA, hB, hC, hD, hE, hF, hG⟩ := h
  obtain ⟨hba, hnx, hnre, hcl⟩ := bp_of hp
  have hple := y_bp_le hp
  have hk2 := y_br_le (dx := tx) (n := n) (k := e) hple.2 hb
  have hpl := br_plr hple.2 hb
  have hbh := (bh_of hba hb).1
  have l1 : ∀ j, (d_sz (va_up Lv lv ((Lv lv).1, (Lv lv).2.1, some ni, (Lv lv).2.2.2)) lv z j).1 = (Lv j).1 ∧ (d_sz (va_up Lv lv ((Lv lv).1, (Lv lv).2.1, some ni, (Lv lv).2.2.2)) lv z j).2.1 = (Lv j).2.1 := by
    intro j
    by_cases e : j = lv
    · subst e; simp [d_sz, va_up]
    · simp [d_sz, va_up, e]
  have l3 : ∀ j, ¬ j = lv → (d_sz (va_up Lv lv ((Lv lv).1, (Lv lv).2.1, some ni, (Lv lv).2.2.2)) lv z j).2.2.1 = (Lv j).2.2.1 := by
    intro j hj
    simp [d_sz, va_up, hj]
  have l4 : (d_sz (va_up Lv lv ((Lv lv).1, (Lv lv).2.1, some ni, (Lv lv).2.2.2)) lv z lv).2.2.1 = some ni := by simp [d_sz, va_up]
  generalize d_sz (va_up Lv lv ((Lv lv).1, (Lv lv).2.1, some ni, (Lv lv).2.2.2)) lv z = L' at l1 l3 l4
  generalize hP1 : d_put P ni (x_kv tx n k).1 (x_kv tx n k).2 (Lv lv).2.1 (Lv lv).2.2.1 = P1
  have a_kd : ∀ j, q_kd P1 j = if j = ni then (x_kv tx n k).1 else q_kd P j := fun j => by rw [← hP1]; exact put_kd j
  have a_vl : ∀ j, q_vl P1 j = if j = ni then (x_kv tx n k).2 else q_vl P j := fun j => by rw [← hP1]; exact put_vl j
  have a_rp : ∀ j, q_rp P1 j = if j = ni then 0 else q_rp P j := fun j => by rw [← hP1]; exact put_rp j
  have a_mn : ∀ j, q_mn P1 j = if j = ni then 0 else q_mn P j := fun j => by rw [← hP1]; exact put_mn j
  have a_tm : ∀ j, q_tm P1 j = if j = ni then 1 else q_tm P j := fun j => by rw [← hP1]; exact put_tm j
  have a_bd : ∀ j, q_bd P1 j = if j = ni then none else q_bd P j := fun j => by rw [← hP1]; exact put_bd j
  have a_nx : ∀ j, q_nx P1 j = if (Lv lv).2.2.1 = some j then some ni else if j = ni then none else q_nx P j := fun j => by rw [← hP1]; exact put_nx j
  have a_fi : ∀ j, q_fi P1 j = if (Lv lv).2.2.1 = none ∧ j = (Lv lv).2.1 then some ni else q_fi P j := fun j => by rw [← hP1]; exact put_fi j
  have a_nr : q_nr P1 = q_nr P := by rw [← hP1]; exact put_nr
  have a_gb : q_gb P1 = q_gb P := by rw [← hP1]; exact put_gb
  obtain ⟨p1, p2, p3, p4, p5, p6, p7⟩ := xP_c (tx := tx) (n := n) (e := e) (it := ni) (P := P1)
  have pn := fun (j : Nat) (hj : ¬ j = ni) => xP_n (tx := tx) (n := n) (e := e) (P := P1) hj
  have ipn : ∀ a, a < ni → va_up ip ni k a = ip a := fun a ha => if_neg (by omega)
  have ips : va_up ip ni k ni = k := if_pos rfl
  have opq : ∀ it, opn L' lv it ↔ opn Lv lv it := by
    intro it
    constructor
    · rintro ⟨j, j1, j2, j3⟩
      exact ⟨j, j1, j2, by rw [← (l1 j).1]; exact j3⟩
    · rintro ⟨j, j1, j2, j3⟩
      exact ⟨j, j1, j2, by rw [(l1 j).1]; exact j3⟩
  have nop : ¬ opn Lv lv ni := by
    rintro ⟨j, j1, j2, j3⟩
    obtain ⟨i2, b1, b2, _⟩ := hA j j1 j2
    rw [j3] at b1
    cases b1
    omega
  have lno : ∀ it, opn Lv lv it → ¬ (Lv lv).2.2.1 = some it := fun it h1 h2 => (sC_last hC h2).2.2.2 h1
  refine ⟨hk2.2, ?_, ?_, ?_, ?_, ?_, ?_, ?_⟩
  · intro j j1 j2
    obtain ⟨i2, b1, b2, b3, b4, b5, b6, b7, b8⟩ := hA j j1 j2
    have hne : ¬ i2 = ni := by omega
    obtain ⟨q1, q2, q3⟩ := pn i2 hne
    refine ⟨i2, by rw [(l1 j).1]; exact b1, by omega, by rw [l3 (j - 1) (by omega)]; exact b3, by rw [ipn i2 b2]; exact b4, ?_, by rw [q1, a_rp, if_neg hne]; exact b6, by rw [q3, a_mn, if_neg hne]; exact b7, ?_⟩
    · rw [ipn i2 b2, b5, hcl _ (by omega)]
      exact cl_skip hk2.1 (fun q a b => ⟨(hpl q a b).1, (hpl q a b).2.1, (hpl q a b).2.2.1⟩)
    · rw [p4, a_nx, if_neg (lno i2 ⟨j, j1, j2, b1⟩), if_neg hne]
      exact b8
  · refine ⟨fun j hj => ?_, fun j i2 hj hi2 => ?_, ?_⟩
    · rw [(l1 j).2, p6, a_nr]
      exact hB.1 j hj
    · rw [(l1 (j + 1)).1] at hi2
      have hil : i2 < ni := by
        obtain ⟨i3, b1, b2, _⟩ := hA (j + 1) (by omega) (by omega)
        rw [hi2] at b1
        cases b1
        exact b2
      rw [(l1 j).2, ipn i2 hil]
      exact hB.2.1 j i2 hj hi2
    · rw [(l1 lv).2]
      refine ⟨?_, fun d hd => ?_⟩
      · rw [hB.2.2.1, en_step hnre, hnx]
        exact en_skip hk2.1 hpl
      · rw [hB.2.2.2 d hd, hcl d hd]
        exact cl_skip hk2.1 (fun q a b => ⟨(hpl q a b).1, (hpl q a b).2.1, (hpl q a b).2.2.1⟩)
  · refine ⟨fun j hj => ?_, Or.inr ⟨ni, l4, by omega, by rw [ips]; exact hbh, ?_, fun w => nop ((opq ni).mp w), ?_⟩⟩
    · obtain ⟨fi, w6, w7, w8⟩ := hC.1 j hj
      have := hG.2 j lv hj (Nat.le_refl _)
      rw [(l1 j).2, p5, a_fi, if_neg (fun w => by omega)]
      exact ⟨fi, w6, by omega, by rw [ipn fi w7]; exact w8⟩
    · rw [p4, a_nx, if_neg (fun w => by have := (sC_last hC w).1; omega), if_pos rfl]
    · rw [(l1 lv).2, p5, a_fi]
      rcases hC.2 with ⟨w1, w2, w3⟩ | ⟨la, w1, w2, w3, w4, w5, fi, w6, w7, w8⟩
      · rw [if_pos ⟨w1, rfl⟩]
        exact ⟨ni, rfl, by omega, by rw [ips]; exact w3.symm⟩
      · rw [if_neg (fun z => by rw [w1] at z; cases z.1)]
        exact ⟨fi, w6, by omega, by rw [ipn fi w7]; exact w8⟩
  · intro i hi
    by_cases ei : i = ni
    · subst ei
      rw [ips]
      refine ⟨by omega, hnre, Or.inr (Or.inr ⟨e, ho, hp, by rw [p1, a_kd, if_pos rfl], by rw [p2, a_vl, if_pos rfl]⟩), fun _ => ⟨?_, Or.inr ⟨?_, Or.inr l4⟩⟩⟩
      · obtain ⟨q1, q2, q3⟩ := xP_at (tx := tx) (n := n) (e := e) (P := P1) (it := i) (by rw [a_rp, if_pos rfl]) (by rw [a_mn, if_pos rfl])
        unfold itR
        rw [hba, hbh]
        exact ⟨q1, q2, q3, hb, hple.2⟩
      · rw [p4, a_nx, if_neg (fun w => by have := (sC_last hC w).1; omega), if_pos rfl]
    · obtain ⟨d1, d2, d3, d4⟩ := hD i (by omega)
      obtain ⟨q1, q2, q3⟩ := pn i ei
      rw [ipn i (by omega)]
      refine ⟨by omega, d2, itK_mono d3 (by rw [p1, a_kd, if_neg ei]) (by rw [p2, a_vl, if_neg ei]) (by rw [p3, a_bd, if_neg ei]) (fun _ _ => rfl) (Nat.le_refl _), fun w => ?_⟩
      obtain ⟨f1, f2⟩ := d4 (fun z => w ((opq i).mpr z))
      refine ⟨itR_mono f1 (by rw [q1, a_rp, if_neg ei]) (by rw [q3, a_mn, if_neg ei]) (by rw [q2, a_tm, if_neg ei]), ?_⟩
      rw [p4, a_nx]
      by_cases hla : (Lv lv).2.2.1 = some i
      · rw [if_pos hla]
        exact Or.inl ⟨ni, rfl, by omega, by rw [ips]; exact (sC_last hC hla).2.1.symm⟩
      · rw [if_neg hla, if_neg ei]
        rcases f2 with ⟨b, b1, b2, b3⟩ | ⟨b1, b2⟩
        · exact Or.inl ⟨b, b1, by omega, by rw [ipn b b2]; exact b3⟩
        · refine Or.inr ⟨b1, Or.inl ?_⟩
          rcases b2 with b2 | b2
          · exact b2
          · exact absurd b2 hla
  · intro r hr
    obtain ⟨e1, e2⟩ := hE r hr
    refine ⟨e1, ?_⟩
    by_cases er : r = (Lv lv).2.1
    · exact Or.inl ⟨lv, Nat.le_refl _, by rw [(l1 lv).2]; exact er.symm⟩
    · rcases e2 with ⟨j, j1, j2⟩ | e2
      · exact Or.inl ⟨j, j1, by rw [(l1 j).2]; exact j2⟩
      · exact Or.inr (rwC_mono e2 (by rw [p5, a_fi, if_neg (fun z => er z.2)]) (by rw [p6, a_nr]) rfl ipn (fun _ _ => rfl) (by omega) (Nat.le_refl _))
  · unfold sF
    rw [p7, a_gb]
    exact hF
  · refine ⟨fun i j a b i1 ij jl ha hb => ?_, fun i j ij jl => ?_⟩
    · rw [(l1 i).1] at ha
      rw [(l1 j).1] at hb
      exact hG.1 i j a b i1 ij jl ha hb
    · rw [(l1 i).2, (l1 j).2]
      exact hG.2 i j ij jl
end SK
