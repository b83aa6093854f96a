/-! carryOn, retreat, a turn of the reference -/
section XM
variable {tx : Nat → Nat} {n : Nat} {su : Nat → Nat} {sl lim : Nat} {i : mm_i} {l : mm_j} {a : mm_a} {b : mm_b}
variable {M A p k st : Nat} {C : Nat → Nat} {fs : List xF} {bs : List xB} {kp : Nat → Nat → Nat}
theorem x_kindOf {K : Int32 → mm_i → mm_j → mm_a → mm_b → Prop} (h : xrF fs b) {f : Nat} (hf : fs.length ≤ 7000) {x : xF} (hx : fs[f]? = some x) {x1 : Int32} (ex : x1 = nI f) (hK : K (nI x.1) i l a b) : wp_Model_kindOf_0 i l a b x1 K := by
  obtain ⟨v0, v1, v2, v3, v4⟩ := x_frame h hf hx ex
  unfold wp_Model_kindOf_0
  rw [v1]
  exact ⟨v0, hK⟩
theorem x_placeOf {K : Int32 → mm_i → mm_j → mm_a → mm_b → Prop} (h : xrF fs b) {f : Nat} (hf : fs.length ≤ 7000) {x : xF} (hx : fs[f]? = some x) {x1 : Int32} (ex : x1 = nI f) (hK : K (nI x.2.1) i l a b) : wp_Model_placeOf_0 i l a b x1 K := by
  obtain ⟨v0, v1, v2, v3, v4⟩ := x_frame h hf hx ex
  unfold wp_Model_placeOf_0
  rw [v2]
  exact ⟨v0, hK⟩
theorem x_numberOf {K : Int32 → mm_i → mm_j → mm_a → mm_b → Prop} (h : xrF fs b) {f : Nat} (hf : fs.length ≤ 7000) {x : xF} (hx : fs[f]? = some x) {x1 : Int32} (ex : x1 = nI f) (hK : K (nI x.2.2.1) i l a b) : wp_Model_numberOf_0 i l a b x1 K := by
  obtain ⟨v0, v1, v2, v3, v4⟩ := x_frame h hf hx ex
  unfold wp_Model_numberOf_0
  rw [v3]
  exact ⟨v0, hK⟩
theorem x_parentOf {K : Int32 → mm_i → mm_j → mm_a → mm_b → Prop} (h : xrF fs b) {f : Nat} (hf : fs.length ≤ 7000) {x : xF} (hx : fs[f]? = some x) {x1 : Int32} (ex : x1 = nI f) (hK : K (nI x.2.2.2.1) i l a b) : wp_Model_parentOf_0 i l a b x1 K := by
  obtain ⟨v0, v1, v2, v3, v4⟩ := x_frame h hf hx ex
  unfold wp_Model_parentOf_0
  rw [v4]
  exact ⟨v0, hK⟩
theorem x_capW (h : cp_ok C) {g q r : Nat} (hg : g < 4) (hq : q < 60) (hr : r < 60) : (lN (cp_enc C) &&& (((4095 : Int64) <<< (((12 : Int32) * (nI (g + 1) - (1 : Int32))).toInt64 &&& 63)) ^^^ ((-1) : Int64))) ||| ((((((64 : Int32) * (nI q + (1 : Int32))) + nI r) + (1 : Int32)).toInt64) <<< (((12 : Int32) * (nI (g + 1) - (1 : Int32))).toInt64 &&& 63)) = lN (cp_enc (cp_upd C g (64 * (q + 1) + (r + 1)))) := by
  have hl := cp_lt h
  have hm : cp_enc C % 2 ^ (12 * g) < 2 ^ (12 * g) := Nat.mod_lt _ (Nat.two_pow_pos _)
  have e := cp_withN (c := 64 * (q + 1) + (r + 1)) h hg
  have hb : (64 * (q + 1) + (r + 1)) * 2 ^ (12 * g) < 2 ^ 64 := by
    have h1 : 2 ^ (12 * g) ≤ 2 ^ 36 := Nat.pow_le_pow_right (by decide) (by omega)
    have h2 : (64 * (q + 1) + (r + 1)) * 2 ^ (12 * g) ≤ 4095 * 2 ^ 36 := Nat.mul_le_mul (by omega) h1
    omega
  have ha : cp_enc C / 2 ^ (12 * g + 12) * 2 ^ (12 * g + 12) + cp_enc C % 2 ^ (12 * g) < 2 ^ 64 := by
    have h1 := Nat.div_mul_le_self (cp_enc C) (2 ^ (12 * g + 12))
    have h2 := Nat.mod_le (cp_enc C) (2 ^ (12 * g))
    omega
  have en : (64 : Int32) * (nI q + (1 : Int32)) + nI r + (1 : Int32) = nI (64 * (q + 1) + (r + 1)) := by
    rw [nI_1, show (64 : Int32) = nI 64 from rfl, pk_mul, nI_add, nI_1]
    rfl
  rw [cx_sh, en, nI_l (n := 64 * (q + 1) + (r + 1)) (by omega), cp_and (Nat.lt_trans hl (by decide)) (by omega), wb_shl _ (by omega), wb_or ha hb, cp_or (by omega) hm, e]
/-- what a frame that is come back to does -/
def x_carry (tx : Nat → Nat) (n : Nat) (x : xF) (p : Nat) (C : Nat → Nat) (st : Nat) (fs : List xF) (bs : List xB) (kp : Nat → Nat → Nat) : xS :=
  if x.1 = 1 then (0, x.2.1, p, x.2.2.2.1, C, st, fs, bs, kp)
  else if x.1 = 2 then (5, 0, p, x.2.2.2.1, cp_upd C (x.2.1 - 1) (64 * (x.2.2.1 + 1) + (p + 1)), st, fs, bs, kp)
  else if x.1 = 3 then (5, 0, p, x.2.2.2.1, kp x.2.2.1, st, fs, bs, kp)
  else if x.1 = 4 ∨ x.1 = 5 then (if x.2.2.1 = p then 5 else x.1 - 1, x.2.1, p, x.2.2.2.1, C, st, fs, bs, kp)
  else if x.1 = 6 then (if x.2.2.1 = 0 then (5, x.2.1, p, x.2.2.2.1, C, st, fs, bs, kp) else (2, x.2.1, p, fs.length, C, st, fs ++ [x_mk tx n fs 6 x.2.1 (x.2.2.1 - 1) x.2.2.2.1 p], bs, kp))
  else if x.1 = 7 then (5, 0, p, x.2.2.2.1, C, st, fs, bs.take x.2.2.1, kp)
  else if x.1 = 8 then (5, 0, x.2.1, x.2.2.2.1, C, st, fs, bs.take x.2.2.1, kp)
  else if x.1 = 9 then (6, 0, p, x.2.2.2.1, C, st, fs, bs.take x.2.2.1, kp)
  else (x.1 - 7, x.2.1, p, x.2.2.2.1, C, st, fs, bs, kp)
theorem xrB_take {bs : List xB} (h : xrB bs b) (k : Nat) : xrB (bs.take k) b := fun c x hx => by
  rw [List.getElem?_take] at hx
  split at hx
  · exact h c x hx
  · cases hx
theorem x_carryL {K : mm_i → mm_j → mm_a → mm_b → Prop} (h : rX tx n su sl lim (M, A, p, k, C, st, fs, bs, kp) i l a b) (hf1 : 1 ≤ fs.length) (hf : fs.length + 1 ≤ 7000) (hps : p ≤ sl) (hC : cx_in 40 C) {x : xF} (hx : fs[k]? = some x) (h1 : 1 ≤ x.1) (h11 : x.1 ≤ 11) (h2 : x.1 = 2 → 1 ≤ x.2.1 ∧ x.2.1 ≤ 4 ∧ x.2.2.1 ≤ 40) (h3 : x.1 = 3 → x.2.2.1 ≤ 300) (h7 : x.1 = 7 ∨ x.1 = 8 ∨ x.1 = 9 → x.2.2.1 ≤ bs.length) (hbs : bs.length ≤ 4000)
    (hK : ∀ i' l' b', rX tx n su sl lim (x_carry tx n x p C st fs bs kp) i' l' a b' → rV i l i' l' → K i' l' a b') : wp_Model_carryOn_0 i l a b K := by
  have hsl : sl ≤ 40 := h.1.2.2.2.2.1
  have hok := cx_ok (Nat.le_refl _) hC
  have hF : xrF fs b := h.2.2.2.2.2.2.2.2.2.1
  have g24 : i 24 = nI p := h.2.2.2.1
  have g25 : i 25 = nI k := h.2.2.2.2.1
  have g26 : l 26 = lN (cp_enc C) := h.2.2.2.2.2.1
  have hf7 : fs.length ≤ 7000 := by omega
  obtain ⟨v1, v2, v3, v4⟩ := (hF k x hx).1
  have no : ∀ c : Nat, c < 2 ^ 31 → ∀ v : Int32, v = nI c → ¬ nI x.1 = v → ¬ x.1 = c := fun c _ v hv q w => q (by rw [w, hv])
  have ye : ∀ c : Nat, c < 2 ^ 31 → ∀ v : Int32, v = nI c → nI x.1 = v → x.1 = c := fun c hc v hv q => (x_is c hv (by omega) hc).mp q
  have hcut : ∀ {m : Nat}, m ≤ bs.length → rX tx n su sl lim (M, A, p, k, C, st, fs, bs.take m, kp) (upd i 19 (nI m)) l a b := by
    intro m hm
    obtain ⟨y0, y1, y2, y3, y4, y5, y6, y7, y8, y9, y10, y11⟩ := h
    refine ⟨rY_same y0 rfl rfl rfl, y1, y2, y3, y4, y5, y6, y7, ?_, y9, xrB_take y10 m, y11⟩
    show upd i 19 (nI m) 19 = nI (bs.take m).length
    rw [ud_s, List.length_take, Nat.min_eq_left hm]
  have hV19 : ∀ v : Int32, rV i l (upd i 19 v) l := fun v => ⟨fun j a1 a2 a3 a4 => ud_n a3, fun _ _ => rfl⟩
  have hV26 : ∀ v : Int64, rV i l i (vp_updL l 26 v) := fun v => ⟨fun _ _ _ _ _ => rfl, fun j hj => pk_uLn hj⟩
  unfold wp_Model_carryOn_0
  refine x_parentOf hF hf7 hx g25 (x_placeOf hF hf7 hx g25 (x_numberOf hF hf7 hx g25 (x_kindOf hF hf7 hx g25 ?_)))
  refine ⟨fun q => ?_, fun q1 => ⟨fun q => ?_, fun q2 => ⟨fun q => ?_, fun q3 => ⟨fun q => ?_, fun q4 => ⟨fun q => ?_, fun q5 => ⟨fun q => ?_, fun q6 => ⟨fun q => ?_, fun q7 => ⟨fun q => ?_, fun q8 => ⟨fun q => ?_, fun q9 => ?_⟩⟩⟩⟩⟩⟩⟩⟩⟩
  · have e := ye 1 (by decide) 1 rfl q
    rw [x_carry, if_pos e] at hK
    exact x_go h 0 x.2.1 x.2.2.2.1 rfl rfl rfl (fun i3 y1 y2 => hK _ _ _ y1 y2)
  · have e := ye 2 (by decide) 2 rfl q
    obtain ⟨b1, b2, b3⟩ := h2 e
    rw [x_carry, if_neg (by omega), if_pos e] at hK
    have h2' : rX tx n su sl lim (M, A, p, k, cp_upd C (x.2.1 - 1) (64 * (x.2.2.1 + 1) + (p + 1)), st, fs, bs, kp) i (vp_updL l 26 (lN (cp_enc (cp_upd C (x.2.1 - 1) (64 * (x.2.2.1 + 1) + (p + 1)))))) a b := by
      obtain ⟨y0, y1, y2, y3, y4, y5, y6, y7, y8, y9, y10, y11⟩ := h
      exact ⟨y0, y1, y2, y3, y4, by rw [pk_uLs], y6, y7, y8, y9, y10, y11⟩
    have ew := x_capW hok (g := x.2.1 - 1) (q := x.2.2.1) (r := p) (by omega) (by omega) (by omega)
    rw [show x.2.1 - 1 + 1 = x.2.1 by omega] at ew
    rw [g24, g26, ew]
    exact x_go h2' 5 0 x.2.2.2.1 rfl rfl rfl (fun i3 y1 y2 => hK _ _ _ y1 (rV_tr (hV26 _) y2))
  · have e := ye 3 (by decide) 3 rfl q
    have b1 := h3 e
    rw [x_carry, if_neg (by omega), if_neg (by omega), if_pos e] at hK
    rw [nI_clamp (by omega)]
    refine ⟨vp_in_nI (by omega) (by decide), ?_⟩
    have h2' : rX tx n su sl lim (M, A, p, k, kp x.2.2.1, st, fs, bs, kp) i (vp_updL l 26 (b 6 x.2.2.1)) a b := by
      obtain ⟨y0, y1, y2, y3, y4, y5, y6, y7, y8, y9, y10, y11⟩ := h
      exact ⟨y0, y1, y2, y3, y4, by rw [pk_uLs]; exact y11 _ b1, y6, y7, y8, y9, y10, y11⟩
    exact x_go h2' 5 0 x.2.2.2.1 rfl rfl rfl (fun i3 y1 y2 => hK _ _ _ y1 (rV_tr (hV26 _) y2))
  · have e := ye 4 (by decide) 4 rfl q
    rw [x_carry, if_neg (by omega), if_neg (by omega), if_neg (by omega), if_pos (Or.inl e)] at hK
    rw [g24]
    refine ⟨fun r => ?_, fun r => ?_⟩
    · rw [if_neg (fun w => r (by rw [w]))] at hK
      refine x_kindOf hF hf7 hx g25 ?_
      exact x_go h (x.1 - 1) x.2.1 x.2.2.2.1 (by rw [show (1 : Int32) = nI 1 from rfl, pk_sub (by omega)]) rfl rfl (fun i3 y1 y2 => hK _ _ _ y1 y2)
    · rw [if_pos ((nI_eq (by omega) (by omega)).mp r)] at hK
      exact x_go h 5 x.2.1 x.2.2.2.1 rfl rfl rfl (fun i3 y1 y2 => hK _ _ _ y1 y2)
  · have e := ye 5 (by decide) 5 rfl q
    rw [x_carry, if_neg (by omega), if_neg (by omega), if_neg (by omega), if_pos (Or.inr e)] at hK
    rw [g24]
    refine ⟨fun r => ?_, fun r => ?_⟩
    · rw [if_neg (fun w => r (by rw [w]))] at hK
      refine x_kindOf hF hf7 hx g25 ?_
      exact x_go h (x.1 - 1) x.2.1 x.2.2.2.1 (by rw [show (1 : Int32) = nI 1 from rfl, pk_sub (by omega)]) rfl rfl (fun i3 y1 y2 => hK _ _ _ y1 y2)
    · rw [if_pos ((nI_eq (by omega) (by omega)).mp r)] at hK
      exact x_go h 5 x.2.1 x.2.2.2.1 rfl rfl rfl (fun i3 y1 y2 => hK _ _ _ y1 y2)
  · have e := ye 6 (by decide) 6 rfl q
    rw [x_carry, if_neg (by omega), if_neg (by omega), if_neg (by omega), if_neg (by omega), if_pos e] at hK
    refine ⟨fun r => ⟨fun _ => ?_, fun z => absurd z r⟩, fun r => ⟨fun z => absurd r z, fun _ => ?_⟩⟩
    · have r1 : ¬ x.2.2.1 = 0 := fun w => r (by rw [w]; rfl)
      rw [if_neg r1] at hK
      refine x_push h (by omega) (x_mk tx n fs 6 x.2.1 (x.2.2.1 - 1) x.2.2.2.1 p) ⟨by show 6 < 16; decide, v2, by show x.2.2.1 - 1 < 8192; omega, v4⟩ rfl rfl (by rw [show (1 : Int32) = nI 1 from rfl, pk_sub (by omega)]; rfl) rfl (fun i' b' w1 w2 w3 => ?_)
      exact x_go w1 2 x.2.1 fs.length rfl rfl rfl (fun i3 y1 y2 => hK _ _ _ y1 (rV_tr w2 y2))
    · rw [if_pos ((x_is 0 rfl (by omega) (by decide)).mp r)] at hK
      exact x_go h 5 x.2.1 x.2.2.2.1 rfl rfl rfl (fun i3 y1 y2 => hK _ _ _ y1 y2)
  · have e := ye 7 (by decide) 7 rfl q
    rw [x_carry, if_neg (by omega), if_neg (by omega), if_neg (by omega), if_neg (by omega), if_neg (by omega), if_pos e] at hK
    refine x_kindOf hF hf7 hx g25 ⟨fun _ => ?_, fun z => absurd (ye 8 (by decide) 8 rfl z) (by omega)⟩
    exact x_go (hcut (h7 (Or.inl e))) 5 0 x.2.2.2.1 rfl rfl rfl (fun i3 y1 y2 => hK _ _ _ y1 (rV_tr (hV19 _) y2))
  · have e := ye 8 (by decide) 8 rfl q
    rw [x_carry, if_neg (by omega), if_neg (by omega), if_neg (by omega), if_neg (by omega), if_neg (by omega), if_neg (by omega), if_pos e] at hK
    refine x_kindOf hF hf7 hx g25 ⟨fun z => absurd q z, fun _ => ?_⟩
    have h2' : rX tx n su sl lim (M, A, x.2.1, k, C, st, fs, bs.take x.2.2.1, kp) (upd (upd i 19 (nI x.2.2.1)) 24 (nI x.2.1)) l a b := by
      obtain ⟨y0, y1, y2, y3, y4, y5, y6, y7, y8, y9, y10, y11⟩ := hcut (h7 (Or.inr (Or.inl e)))
      exact ⟨rY_same y0 rfl rfl rfl, y1, y2, rfl, y4, y5, y6, y7, y8, y9, y10, y11⟩
    refine x_go h2' 5 0 x.2.2.2.1 rfl rfl rfl (fun i3 y1 y2 => hK _ _ _ y1 (rV_tr (rV_tr (hV19 _) ⟨fun j a1 a2 a3 a4 => ud_n (by omega), fun _ _ => rfl⟩) y2))
  · have e := ye 9 (by decide) 9 rfl q
    rw [x_carry, if_neg (by omega), if_neg (by omega), if_neg (by omega), if_neg (by omega), if_neg (by omega), if_neg (by omega), if_neg (by omega), if_pos e] at hK
    exact x_go (hcut (h7 (Or.inr (Or.inr e)))) 6 0 x.2.2.2.1 rfl rfl rfl (fun i3 y1 y2 => hK _ _ _ y1 (rV_tr (hV19 _) y2))
  · have n1 := no 1 (by decide) 1 rfl q1
    have n2 := no 2 (by decide) 2 rfl q2
    have n3 := no 3 (by decide) 3 rfl q3
    have n4 := no 4 (by decide) 4 rfl q4
    have n5 := no 5 (by decide) 5 rfl q5
    have n6 := no 6 (by decide) 6 rfl q6
    have n7 := no 7 (by decide) 7 rfl q7
    have n8 := no 8 (by decide) 8 rfl q8
    have n9 := no 9 (by decide) 9 rfl q9
    rw [x_carry, if_neg n1, if_neg n2, if_neg n3, if_neg (by omega), if_neg n6, if_neg n7, if_neg n8, if_neg n9] at hK
    refine x_kindOf hF hf7 hx g25 ?_
    exact x_go h (x.1 - 7) x.2.1 x.2.2.2.1 (by rw [show (7 : Int32) = nI 7 from rfl, pk_sub (by omega)]) rfl rfl (fun i3 y1 y2 => hK _ _ _ y1 y2)
/-- the newest way back -/
def x_ret (st : Nat) (fs : List xF) (bs : List xB) (kp : Nat → Nat → Nat) : Option xS := match bs[bs.length - 1]? with
  | none => none
  | some y => some (y.1, y.2.1, y.2.2.1, y.2.2.2.1, y.2.2.2.2.2, st, fs.take (y.2.2.2.2.1 + 1), bs.take (bs.length - 1), kp)
theorem x_retL {K : Int32 → mm_i → mm_j → mm_a → mm_b → Prop} (h : rX tx n su sl lim (M, A, p, k, C, st, fs, bs, kp) i l a b) (hbs : bs.length ≤ 4000) (hfr : ∀ y, bs[bs.length - 1]? = some y → y.2.2.2.2.1 + 1 ≤ fs.length) (h0 : x_ret st fs bs kp = none → K 0 i l a b) (h1 : ∀ m i' l', x_ret st fs bs kp = some m → rX tx n su sl lim m i' l' a b → rV i l i' l' → K 1 i' l' a b) : wp_Model_retreat_0 i l a b K := by
  obtain ⟨y0, y1, y2, y3, y4, y5, y6, y7, y8, y9, y10, y11⟩ := h
  have y8 : i 19 = nI bs.length := y8
  unfold wp_Model_retreat_0
  refine ⟨fun q => ?_, fun q => ?_⟩
  · have e : 0 < bs.length := by
      rcases Nat.eq_zero_or_pos bs.length with z | z
      · exact absurd (by rw [y8, z]; rfl) q
      · exact z
    have e1 : i 19 - (1 : Int32) = nI (bs.length - 1) := by rw [y8, show (1 : Int32) = nI 1 from rfl, pk_sub (by omega)]
    have hx : bs[bs.length - 1]? = some (bs[bs.length - 1]'(by omega)) := List.getElem?_eq_getElem (by omega)
    generalize hxe : bs[bs.length - 1]'(by omega) = x at hx
    obtain ⟨c1, c2, c3⟩ := y10 _ x hx
    have hl := xpB_lt c1
    obtain ⟨w1, w2, w3, w4, w5⟩ := c1
    have hfr' := hfr x hx
    rw [e1, nI_clamp (by omega), c2, c3, show (3 : Int32) = nI 3 from rfl, show (9 : Int32) = nI 9 from rfl, show (15 : Int32) = nI 15 from rfl, show (28 : Int32) = nI 28 from rfl, xp_sar hl (by decide), xp_sar hl (by decide), xp_sar hl (by decide), xp_sar hl (by decide), xp_and (v := xpB x) (m := 7) 3 (by decide) (by decide), xp_and (v := xpB x / 2 ^ 3) (m := 63) 6 (by decide) (by decide), xp_and (v := xpB x / 2 ^ 9) (m := 63) 6 (by decide) (by decide), xp_and (v := xpB x / 2 ^ 15) (m := 8191) 13 (by decide) (by decide), xp_and (v := xpB x / 2 ^ 28) (m := 8191) 13 (by decide) (by decide)]
    have f1 : xpB x % 2 ^ 3 = x.1 := by unfold xpB; omega
    have f2 : xpB x / 2 ^ 3 % 2 ^ 6 = x.2.1 := by unfold xpB; omega
    have f3 : xpB x / 2 ^ 9 % 2 ^ 6 = x.2.2.1 := by unfold xpB; omega
    have f4 : xpB x / 2 ^ 15 % 2 ^ 13 = x.2.2.2.1 := by unfold xpB; omega
    have f5 : xpB x / 2 ^ 28 % 2 ^ 13 = x.2.2.2.2.1 := by unfold xpB; omega
    rw [f1, f2, f3, f4, f5]
    refine ⟨vp_in_nI (by omega) (by decide), vp_in_nI (by omega) (by decide), ?_⟩
    unfold wp_Model_go_0
    refine h1 (x.1, x.2.1, x.2.2.1, x.2.2.2.1, x.2.2.2.2.2, st, fs.take (x.2.2.2.2.1 + 1), bs.take (bs.length - 1), kp) _ _ (by rw [x_ret, hx]) ⟨rY_same y0 rfl rfl rfl, rfl, rfl, rfl, rfl, by rw [pk_uLs], y6, ?_, ?_, fun f z hz => ?_, xrB_take y10 _, y11⟩ ⟨fun j a1 a2 a3 a4 => ?_, fun j hj => pk_uLn hj⟩
    · show upd _ 16 (nI x.2.2.2.2.1) 16 + 1 = nI (fs.take (x.2.2.2.2.1 + 1)).length
      rw [ud_s, nI_1, List.length_take, Nat.min_eq_left hfr']
    · show nI (bs.length - 1) = nI (bs.take (bs.length - 1)).length
      rw [List.length_take, Nat.min_eq_left (by omega)]
    · have hz : (fs.take (x.2.2.2.2.1 + 1))[f]? = some z := hz
      rw [List.getElem?_take] at hz
      split at hz
      · exact y9 f z hz
      · cases hz
    · rw [ud_n (by omega), ud_n (by omega), ud_n (by omega), ud_n (by omega), ud_n (by omega), ud_n (by omega)]
  · have e : bs = [] := by
      have := (nI_eq (a := bs.length) (b := 0) (by omega) (by decide)).mp (by rw [← y8, q]; rfl)
      exact List.length_eq_zero_iff.mp this
    exact h0 (by rw [x_ret, e]; rfl)
end XM
