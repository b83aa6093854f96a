/-! the other acts of the reference -/
section XM
variable {tx : Nat → Nat} {n : Nat} {su : Nat → Nat} {sl lim : Nat} {i : mm_i} {l : mm_j} {a : mm_a} {b : mm_b}
variable {M A p k st : Nat} {C : Nat → Nat} {fs : List xF} {bs : List xB} {kp : Nat → Nat → Nat} {K : mm_i → mm_j → mm_a → mm_b → Prop}
def x_st (tx : Nat → Nat) (n : Nat) (lz : Bool) (A p k : Nat) (C : Nat → Nat) (st : Nat) (fs : List xF) (bs : List xB) (kp : Nat → Nat → Nat) : xS :=
  if lz then (5, A, p, k, C, st, fs ++ [x_mk tx n fs 5 A p k p], bs ++ [(2, A, p, fs.length, fs.length, C)], kp)
  else (2, A, p, fs.length, C, st, fs ++ [x_mk tx n fs 4 A p k p], bs ++ [(5, A, p, k, fs.length, C)], kp)
theorem x_starL (h : rX tx n su sl lim (M, A, p, k, C, st, fs, bs, kp) i l a b) (hf1 : 1 ≤ fs.length) (hf : fs.length + 1 ≤ 7000) (hbs : bs.length < 4000) (hp : p < 64) (hA : A < 64) (hk : k < 8192) (lz : Bool) {x1 : Int32} (ex : x1 = bI lz)
    (hK : ∀ i' b', rX tx n su sl lim (x_st tx n lz A p k C st fs bs kp) i' l a b' → rV i l i' l → K i' l a b') : wp_Model_star_0 i l a b x1 K := by
  have g23 : i 23 = nI A := h.2.2.1
  have g24 : i 24 = nI p := h.2.2.2.1
  have g25 : i 25 = nI k := h.2.2.2.2.1
  unfold wp_Model_star_0
  rw [ex]
  have hl : ∀ x : xF, (fs ++ [x]).length - 1 = fs.length := fun x => by rw [List.length_append]; rfl
  cases lz with
  | false =>
    refine ⟨fun _ => ?_, fun z => absurd rfl z⟩
    rw [x_st, if_neg (by decide)] at hK
    refine x_push h (by omega) (x_mk tx n fs 4 A p k p) ⟨by show 4 < 16; decide, hA, by show p < 8192; omega, hk⟩ rfl g23 g24 g25 (fun i' b' w1 w2 w3 => ?_)
    unfold wq_Model_star_0_26
    refine ⟨fun _ => ⟨fun _ => ?_, fun z => absurd rfl z⟩, fun z => absurd rfl z⟩
    refine x_pushB w1 hbs (by rw [List.length_append]; show 1 ≤ fs.length + 1; omega) (by rw [List.length_append]; show fs.length + 1 ≤ 7000; omega) hp 5 A k (by decide) hA hk rfl (by rw [w3 23 (by decide)]; exact g23) (by rw [w3 25 (by decide)]; exact g25) (fun i2 b2 v1 v2 v3 => ?_)
    unfold wq_Model_star_0_55
    refine ⟨fun _ => ⟨fun _ => ?_, fun z => absurd rfl z⟩, fun z => absurd rfl z⟩
    rw [hl] at v1
    exact x_go v1 2 A fs.length rfl (by rw [v3 23 (by decide), w3 23 (by decide)]; exact g23) rfl (fun i3 y1 y2 => hK _ _ y1 (rV_tr (rV_tr w2 v2) y2))
  | true =>
    refine ⟨fun z => absurd z (by decide), fun _ => ?_⟩
    rw [x_st, if_pos rfl] at hK
    refine x_push h (by omega) (x_mk tx n fs 5 A p k p) ⟨by show 5 < 16; decide, hA, by show p < 8192; omega, hk⟩ rfl g23 g24 g25 (fun i' b' w1 w2 w3 => ?_)
    unfold wq_Model_star_0_26
    refine ⟨fun z => absurd z (by decide), fun _ => ⟨fun z => absurd z (by decide), fun _ => ?_⟩⟩
    refine x_pushB w1 hbs (by rw [List.length_append]; show 1 ≤ fs.length + 1; omega) (by rw [List.length_append]; show fs.length + 1 ≤ 7000; omega) hp 2 A fs.length (by decide) hA (by omega) rfl (by rw [w3 23 (by decide)]; exact g23) rfl (fun i2 b2 v1 v2 v3 => ?_)
    unfold wq_Model_star_0_55
    refine ⟨fun z => absurd z (by decide), fun _ => ⟨fun z => absurd z (by decide), fun _ => ?_⟩⟩
    rw [hl] at v1
    exact x_go v1 5 A k rfl (by rw [v3 23 (by decide), w3 23 (by decide)]; exact g23) (by rw [v3 25 (by decide), w3 25 (by decide)]; exact g25) (fun i3 y1 y2 => hK _ _ y1 (rV_tr (rV_tr w2 v2) y2))
/-- how the frames hang together: what calls needs -/
def x_ch (fs : List xF) : Prop := (xg fs 0).2.2.2.2.2.2.2.1 = 0 ∧ ∀ (f : Nat) (x : xF), fs[f]? = some x → 1 ≤ f → x.2.2.2.1 < f ∧ x.2.2.2.2.2.2.2.1 = (if x.1 = 3 then 1 else 0) + (xg fs x.2.2.2.1).2.2.2.2.2.2.2.1
theorem xg_of {fs : List xF} {f : Nat} {x : xF} (h : fs[f]? = some x) : xg fs f = x := by rw [xg, h]; rfl
theorem x_callsL {K : Int32 → mm_i → mm_j → mm_a → mm_b → Prop} (hF : xrF fs b) (hch : x_ch fs) (hf : fs.length ≤ 7000) {tot : Nat} (ht : tot < 2 ^ 20) (hK : K (nI tot) i l a b) : ∀ (r f c : Nat), f ≤ r → f < fs.length → c + (xg fs f).2.2.2.2.2.2.2.1 = tot → wl_Model_calls_0 K (r + 1) i l a b (nI c) (nI f) := by
  intro r
  induction r with
  | zero =>
    intro f c h1 h2 h3
    have e : f = 0 := by omega
    subst e
    show wt_Model_calls_0 _ K i l a b (nI c) (nI 0)
    unfold wt_Model_calls_0
    refine ⟨fun _ => ?_, fun z => absurd (Int32.le_refl _) z⟩
    rw [hch.1] at h3
    rw [show c = tot by omega]
    exact hK
  | succ r ih =>
    intro f c h1 h2 h3
    show wt_Model_calls_0 (wl_Model_calls_0 K (r + 1)) K i l a b (nI c) (nI f)
    unfold wt_Model_calls_0
    refine ⟨fun q => ?_, fun q => ?_⟩
    · have e : f = 0 := by have := (nI_leI (a := f) (b := 0) (by omega) (by decide)).mp q; omega
      subst e
      rw [hch.1] at h3
      rw [show c = tot by omega]
      exact hK
    · have e : 1 ≤ f := by
        rcases Nat.eq_zero_or_pos f with z | z
        · subst z; exact absurd (Int32.le_refl _) q
        · exact z
      have hx : fs[f]? = some fs[f] := List.getElem?_eq_getElem h2
      generalize fs[f] = x at hx
      obtain ⟨c1, c2⟩ := hch.2 f x hx e
      obtain ⟨v0, v1, v2, v3, v4⟩ := x_frame hF hf hx rfl
      have hv := (hF f x hx).1
      rw [xg_of hx, c2] at h3
      unfold wp_Model_kindOf_0 wq_Model_calls_0_23 wp_Model_parentOf_0
      dsimp only
      rw [v1, v4]
      refine ⟨v0, fun z => ⟨v0, ?_⟩, fun z => ⟨v0, ?_⟩⟩
      · have z1 : ¬ x.1 = 3 := fun w => z (by rw [w]; rfl)
        rw [if_neg z1] at h3
        exact ih x.2.2.2.1 c (by omega) (by omega) (by omega)
      · have z1 : x.1 = 3 := (x_is 3 rfl (by have := hv.1; omega) (by decide)).mp z
        rw [if_pos z1] at h3
        rw [nI_1]
        exact ih x.2.2.2.1 (c + 1) (by omega) (by omega) (by omega)
theorem x_calls {K : Int32 → mm_i → mm_j → mm_a → mm_b → Prop} (h : rX tx n su sl lim (M, A, p, k, C, st, fs, bs, kp) i l a b) (hch : x_ch fs) (hf : fs.length ≤ 7000) (hk : k < fs.length) (ht : (xg fs k).2.2.2.2.2.2.2.1 < 2 ^ 20) (hK : K (nI (xg fs k).2.2.2.2.2.2.2.1) i l a b) : wp_Model_calls_0 i l a b K := by
  have g25 : i 25 = nI k := h.2.2.2.2.1
  unfold wp_Model_calls_0
  rw [g25]
  exact ⟨k + 1, x_callsL (fs := fs) h.2.2.2.2.2.2.2.2.2.1 hch hf ht hK k k 0 (Nat.le_refl _) hk (Nat.zero_add _)⟩
def x_x (tx : Nat → Nat) (n k : Nat) : Nat := if xt tx n (k + 1) = 63 then xt tx n (k + 2) else 0
def x_open (tx : Nat → Nat) (n at' p k : Nat) (C : Nat → Nat) (st : Nat) (fs : List xF) (bs : List xB) (kp : Nat → Nat → Nat) : xS :=
  if x_x tx n at' = 0 then (1, at' + 1, p, fs.length, C, st, fs ++ [x_mk tx n fs 2 (x_gc tx n (at' + 1)) p k p], bs, kp)
  else if x_x tx n at' = 58 then (1, at' + 3, p, k, C, st, fs, bs, kp)
  else if x_x tx n at' = 62 then (1, at' + 3, p, fs.length, C, st, fs ++ [x_mk tx n fs 7 0 bs.length k p], bs, kp)
  else if x_x tx n at' = 61 then (1, at' + 3, p, fs.length, C, st, fs ++ [x_mk tx n fs 8 p bs.length k p], bs, kp)
  else if x_x tx n at' = 33 then (1, at' + 3, p, fs.length, C, st, fs ++ [x_mk tx n fs 9 0 bs.length k p], bs ++ [(5, 0, p, k, fs.length, C)], kp)
  else if 12 ≤ (xg fs k).2.2.2.2.2.2.2.1 then (6, 0, p, k, C, st, fs, bs, kp)
  else (1, x_co tx n (n + 1) (x_x tx n at' - 48) 0, p, fs.length, C, st, fs ++ [x_mk tx n fs 3 0 st k p], bs, fun s => if s = st then C else kp s)
theorem x_openL (h : rX tx n su sl lim (M, A, p, k, C, st, fs, bs, kp) i l a b) (hf1 : 1 ≤ fs.length) (hf : fs.length + 1 ≤ 7000) (hbs : bs.length < 4000) (hp : p < 64) (hk : k < fs.length) (hst : st ≤ 300) (hch : x_ch fs) (hN : (xg fs k).2.2.2.2.2.2.2.1 ≤ 12) {at' : Nat} (hat : at' < n) (hg : x_gc tx n (at' + 1) < 64) (hx : ¬ x_x tx n at' = 0 → ¬ x_x tx n at' = 58 → ¬ x_x tx n at' = 62 → ¬ x_x tx n at' = 61 → ¬ x_x tx n at' = 33 → 48 ≤ x_x tx n at') {x1 : Int32} (ex : x1 = nI at')
    (hK : ∀ i' b', rX tx n su sl lim (x_open tx n at' p k C st fs bs kp) i' l a b' → rV i l i' l → K i' l a b') : wp_Model_openChoice_0 i l a b x1 K := by
  have h' := h
  have hT := h.1.2.2.1
  have hn := hT.1
  have g24 : i 24 = nI p := h.2.2.2.1
  have g25 : i 25 = nI k := h.2.2.2.2.1
  have g19 : i 19 = nI bs.length := h.2.2.2.2.2.2.2.2.1
  have g10 : i 10 = nI st := h.2.2.2.2.2.2.1
  have hxl : x_x tx n at' < 128 := by
    unfold x_x
    split
    · exact x_lt hT.2.2.2
    · decide
  have e3 : nI at' + (3 : Int32) = nI (at' + 3) := by rw [show (3 : Int32) = nI 3 from rfl, nI_add]
  have L24 : ∀ {z2 : Int32}, z2 = nI (x_x tx n at') → wq_Model_openChoice_0_24 K i l a b (nI at') z2 := by
    intro z2 e2
    unfold wq_Model_openChoice_0_24
    rw [e2, e3, nI_1]
    refine ⟨fun q0 => ⟨fun q1 => ⟨fun q2 => ⟨fun q3 => ⟨fun q4 => ?_, fun q => ?_⟩, fun q => ?_⟩, fun q => ?_⟩, fun q => ?_⟩, fun q => ?_⟩
    · have q0' : ¬ x_x tx n at' = 0 := fun w => q0 (by rw [w]; rfl)
      have q1' : ¬ x_x tx n at' = 58 := fun w => q1 (by rw [w]; rfl)
      have q2' : ¬ x_x tx n at' = 62 := fun w => q2 (by rw [w]; rfl)
      have q3' : ¬ x_x tx n at' = 61 := fun w => q3 (by rw [w]; rfl)
      have q4' : ¬ x_x tx n at' = 33 := fun w => q4 (by rw [w]; rfl)
      have hge := hx q0' q1' q2' q3' q4'
      rw [x_open, if_neg q0', if_neg q1', if_neg q2', if_neg q3', if_neg q4'] at hK
      refine x_calls h hch (by omega) hk (by omega) ⟨fun r => ?_, fun r => ?_⟩
      · have r1 := (nI_ltI (b := 12) (by omega) (by decide)).mp r
        rw [if_neg (by omega)] at hK
        rw [g10, nI_clamp (by omega)]
        refine ⟨vp_in_nI (by omega) (by decide), ?_⟩
        have e48 : nI (x_x tx n at') - (48 : Int32) = nI (x_x tx n at' - 48) := by rw [show (48 : Int32) = nI 48 from rfl, pk_sub hge]
        refine x_choiceOf hT (g := x_x tx n at' - 48) (by omega) e48 ?_
        have h2 : rX tx n su sl lim (M, A, p, k, C, st, fs, bs, fun s => if s = st then C else kp s) i l a (mm_ub b 6 (vp_updL (b 6) st (l 26))) := by
          obtain ⟨y0, y1, y2, y3, y4, y5, y6, y7, y8, y9, y10, y11⟩ := h
          refine ⟨y0, y1, y2, y3, y4, y5, y6, y7, y8, fun f y hy => ?_, fun f y hy => ?_, fun s hs => ?_⟩
          · rw [mb_n (by decide)]; exact y9 f y hy
          · rw [mb_n (by decide), mb_n (by decide)]; exact y10 f y hy
          · rw [mb_s]
            show vp_updL (b 6) st (l 26) s = lN (cp_enc (if s = st then C else kp s))
            by_cases w : s = st
            · subst w
              rw [pk_uLs, if_pos rfl]
              exact y5
            · rw [pk_uLn w, if_neg w]
              exact y11 s hs
        refine x_push h2 (by omega) (x_mk tx n fs 3 0 st k p) ⟨by show 3 < 16; decide, by show 0 < 64; decide, by show st < 8192; omega, by show k < 8192; omega⟩ rfl rfl g10 g25 (fun i' b' w1 w2 w3 => ?_)
        exact x_go w1 1 _ fs.length rfl rfl rfl (fun i2 y1 y2 => hK _ _ y1 (rV_tr w2 y2))
      · have r1 : ¬ (xg fs k).2.2.2.2.2.2.2.1 < 12 := fun w => r ((nI_ltI (b := 12) (by omega) (by decide)).mpr w)
        rw [if_pos (by omega)] at hK
        exact x_go h 6 0 k rfl rfl g25 (fun i2 y1 y2 => hK _ _ y1 y2)
    · have q' := (x_is 33 rfl (by omega) (by decide)).mp q
      rw [x_open, if_neg (by omega), if_neg (by omega), if_neg (by omega), if_neg (by omega), if_pos q'] at hK
      refine x_push h (by omega) (x_mk tx n fs 9 0 bs.length k p) ⟨by show 9 < 16; decide, by show 0 < 64; decide, by show bs.length < 8192; omega, by show k < 8192; omega⟩ rfl rfl g19 g25 (fun i' b' w1 w2 w3 => ?_)
      refine x_pushB w1 hbs (by rw [List.length_append]; show 1 ≤ fs.length + 1; omega) (by rw [List.length_append]; show fs.length + 1 ≤ 7000; omega) hp 5 0 k (by decide) (by decide) (by omega) rfl rfl (by rw [w3 25 (by decide)]; exact g25) (fun i2 b2 v1 v2 v3 => ?_)
      rw [show (fs ++ [x_mk tx n fs 9 0 bs.length k p]).length - 1 = fs.length by rw [List.length_append]; rfl] at v1
      exact x_go v1 1 (at' + 3) fs.length rfl rfl rfl (fun i3 y1 y2 => hK _ _ y1 (rV_tr (rV_tr w2 v2) y2))
    · have q' := (x_is 61 rfl (by omega) (by decide)).mp q
      rw [x_open, if_neg (by omega), if_neg (by omega), if_neg (by omega), if_pos q'] at hK
      refine x_push h (by omega) (x_mk tx n fs 8 p bs.length k p) ⟨by show 8 < 16; decide, by show p < 64; omega, by show bs.length < 8192; omega, by show k < 8192; omega⟩ rfl g24 g19 g25 (fun i' b' w1 w2 w3 => ?_)
      exact x_go w1 1 (at' + 3) fs.length rfl rfl rfl (fun i3 y1 y2 => hK _ _ y1 (rV_tr w2 y2))
    · have q' := (x_is 62 rfl (by omega) (by decide)).mp q
      rw [x_open, if_neg (by omega), if_neg (by omega), if_pos q'] at hK
      refine x_push h (by omega) (x_mk tx n fs 7 0 bs.length k p) ⟨by show 7 < 16; decide, by show 0 < 64; decide, by show bs.length < 8192; omega, by show k < 8192; omega⟩ rfl rfl g19 g25 (fun i' b' w1 w2 w3 => ?_)
      exact x_go w1 1 (at' + 3) fs.length rfl rfl rfl (fun i3 y1 y2 => hK _ _ y1 (rV_tr w2 y2))
    · have q' := (x_is 58 rfl (by omega) (by decide)).mp q
      rw [x_open, if_neg (by omega), if_pos q'] at hK
      exact x_go h 1 (at' + 3) k rfl rfl g25 (fun i3 y1 y2 => hK _ _ y1 y2)
    · have q' := (x_is 0 rfl (by omega) (by decide)).mp q
      rw [x_open, if_pos q'] at hK
      refine x_groupAt hT (k := at') (by omega) rfl ?_
      refine x_push h (by omega) (x_mk tx n fs 2 (x_gc tx n (at' + 1)) p k p) ⟨by show 2 < 16; decide, hg, by show p < 8192; omega, by show k < 8192; omega⟩ rfl rfl g24 g25 (fun i' b' w1 w2 w3 => ?_)
      exact x_go w1 1 (at' + 1) fs.length rfl rfl rfl (fun i3 y1 y2 => hK _ _ y1 (rV_tr w2 y2))
  unfold wp_Model_openChoice_0
  rw [ex]
  have hl1 := x_lt (n := n) (k := at' + 1) hT.2.2.2
  refine x_t hT (k := at' + 1) (by omega) (nI_1 _) ⟨fun q => ?_, fun q => ?_⟩
  · exact L24 (by rw [x_x, if_neg (fun w => q (by rw [w]; rfl))]; rfl)
  · refine x_t hT (k := at' + 2) (by omega) (by rw [show (2 : Int32) = nI 2 from rfl, nI_add]) (L24 ?_)
    rw [x_x, if_pos ((x_is 63 rfl (by omega) (by decide)).mp q)]
def x_atom (tx : Nat → Nat) (n : Nat) (su : Nat → Nat) (sl at' p k : Nat) (C : Nat → Nat) (st : Nat) (fs : List xF) (bs : List xB) (kp : Nat → Nat → Nat) : xS :=
  if xt tx n at' = 40 then x_open tx n at' p k C (st + 1) fs bs kp
  else match x_pl tx n su sl at' p C with
    | none => (6, 0, p, k, C, st + 1, fs, bs, kp)
    | some p' => (5, 0, p', k, C, st + 1, fs, bs, kp)
theorem x_atomL (h : rX tx n su sl lim (M, A, p, k, C, st, fs, bs, kp) i l a b) (hf1 : 1 ≤ fs.length) (hf : fs.length + 1 ≤ 7000) (hbs : bs.length < 4000) (hps : p ≤ sl) (hC : cx_in 40 C) (hk : k < fs.length) (hst : st < 300) (hch : x_ch fs) (hN : (xg fs k).2.2.2.2.2.2.2.1 ≤ 12) (hA : A < n) (hg : x_gc tx n (A + 1) < 64) (hb : xt tx n A = 92 → 49 ≤ xt tx n (A + 1) ∧ xt tx n (A + 1) ≤ 52) (hx : xt tx n A = 40 → ¬ x_x tx n A = 0 → ¬ x_x tx n A = 58 → ¬ x_x tx n A = 62 → ¬ x_x tx n A = 61 → ¬ x_x tx n A = 33 → 48 ≤ x_x tx n A)
    (hK : ∀ i' b', rX tx n su sl lim (x_atom tx n su sl A p k C st fs bs kp) i' l a b' → rV i l i' l → K i' l a b') : wp_Model_atom_0 i l a b K := by
  have hT := h.1.2.2.1
  have hn := hT.1
  have hsl : sl ≤ 40 := h.1.2.2.2.2.1
  have g23 : i 23 = nI A := h.2.2.1
  have g25 : i 25 = nI k := h.2.2.2.2.1
  have g10 : i 10 = nI st := h.2.2.2.2.2.2.1
  have hl := x_lt (n := n) (k := A) hT.2.2.2
  have h2 : rX tx n su sl lim (M, A, p, k, C, st + 1, fs, bs, kp) (upd i 10 (i 10 + 1)) l a b := by
    obtain ⟨y0, y1, y2, y3, y4, y5, y6, y7, y8, y9, y10, y11⟩ := h
    exact ⟨rY_same y0 rfl rfl rfl, y1, y2, y3, y4, y5, by rw [ud_s, g10, nI_1], y7, y8, y9, y10, y11⟩
  have hV : rV i l (upd i 10 (i 10 + 1)) l := ⟨fun j a1 a2 a3 a4 => ud_n a1, fun _ _ => rfl⟩
  have hT2 := h2.1.2.2.1
  have g23' : upd i 10 (i 10 + 1) 23 = nI A := h2.2.2.1
  have g25' : upd i 10 (i 10 + 1) 25 = nI k := h2.2.2.2.2.1
  unfold wp_Model_atom_0
  refine x_t hT2 (k := A) (by omega) g23 ⟨fun q => ?_, fun q => ?_⟩
  · have q1 : ¬ xt tx n A = 40 := fun w => q (by rw [w]; rfl)
    rw [x_atom, if_neg q1] at hK
    refine x_plain h2 hC hps hA hb g23' (fun z => ⟨fun _ => ?_, fun w => absurd rfl w⟩) (fun p' z z2 i2 w1 w2 => ⟨fun w => absurd w (by decide), fun _ => ?_⟩)
    · rw [z] at hK
      exact x_go h2 6 0 k rfl rfl g25' (fun i3 y1 y2 => hK _ _ y1 (rV_tr hV y2))
    · rw [z] at hK
      exact x_go w1 5 0 k rfl rfl w1.2.2.2.2.1 (fun i3 y1 y2 => hK _ _ y1 (rV_tr (rV_tr hV w2) y2))
  · have q1 := (x_is 40 rfl (by omega) (by decide)).mp q
    rw [x_atom, if_pos q1] at hK
    exact x_openL h2 hf1 hf hbs (by omega) hk (by omega) hch hN hA hg (hx q1) g23' (fun i3 b3 y1 y2 => hK _ _ y1 (rV_tr hV y2))
end XM
