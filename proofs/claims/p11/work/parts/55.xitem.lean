/-! items of the reference: how they are read, what they cost ahead -/
def xg (fs : List xF) (f : Nat) : xF := (fs[f]?).getD (0, 0, 0, 0, 0, 0, 0, 0, 0)
abbrev x_any (r : Nat) : Prop := r = 42 ∨ r = 43 ∨ r = 63 ∨ r = 123
def x_r (tx : Nat → Nat) (n k : Nat) : Nat := xt tx n (x_ba tx n k)
def x_b (tx : Nat → Nat) (n k : Nat) : Nat := if x_r tx n k = 123 then x_ba tx n k + 3 else x_ba tx n k + 1
def x_how (tx : Nat → Nat) (n k : Nat) : Nat := if x_any (x_r tx n k) ∧ (xt tx n (x_b tx n k) = 63 ∨ xt tx n (x_b tx n k) = 43) then xt tx n (x_b tx n k) else 0
def x_bh (tx : Nat → Nat) (n k : Nat) : Nat := if ¬ x_any (x_r tx n k) then x_ba tx n k else if x_how tx n k = 0 then x_b tx n k else x_b tx n k + 1
/-- is the item a lazy one that asks nothing at first (or a lazy plus) -/
def x_lzy (tx : Nat → Nat) (n k : Nat) : Nat := if (x_r tx n k = 42 ∨ x_r tx n k = 43 ∨ x_r tx n k = 63) ∧ x_how tx n k = 63 then 1 else 0
def x_lzf (tx : Nat → Nat) (n : Nat) : Nat → Nat → Nat
  | 0, _ => 0
  | f + 1, k => if x_re tx n k then 0 else x_lzy tx n k + x_lzf tx n f (x_bh tx n k)
/-- the lazy items of a row, from here -/
def x_lz (tx : Nat → Nat) (n k : Nat) : Nat := x_lzf tx n (n + 1) k
def x_pA (tx : Nat → Nat) (n kd wh : Nat) : Nat := if kd = 1 then 2 * x_lz tx n wh else if kd = 5 ∨ kd = 11 then 1 else 0
def x_pB (tx : Nat → Nat) (n kd wh : Nat) : Nat := if kd = 1 then x_lz tx n wh else if kd = 5 ∨ kd = 11 then 1 else 0
def x_mk (tx : Nat → Nat) (n : Nat) (fs : List xF) (kd wh nm pr gp : Nat) : xF := (kd, wh, nm, pr, gp, x_pA tx n kd wh + (xg fs pr).2.2.2.2.2.1, x_pB tx n kd wh + (xg fs pr).2.2.2.2.2.2.1, (if kd = 3 then 1 else 0) + (xg fs pr).2.2.2.2.2.2.2.1, if 7 ≤ kd ∧ kd ≤ 9 then nm else (xg fs pr).2.2.2.2.2.2.2.2)
theorem x_bh_gt {tx : Nat → Nat} {n k : Nat} : k + 1 ≤ x_bh tx n k ∧ x_ba tx n k ≤ x_bh tx n k ∧ (k < n → x_bh tx n k ≤ n + 4) ∧ (x_ba tx n k < 64 → n ≤ 32 → x_bh tx n k ≤ 64 + 4) := by
  have h := x_ba_gt (tx := tx) (n := n) (k := k)
  have hb : x_ba tx n k + 1 ≤ x_b tx n k ∧ (x_b tx n k ≤ x_ba tx n k + 3) ∧ (x_any (x_r tx n k) → x_ba tx n k < n) := by
    unfold x_b
    refine ⟨by split <;> omega, by split <;> omega, fun q => ?_⟩
    unfold x_r at q
    rcases q with q | q | q | q
    · exact (x_in q (by decide)).1
    · exact (x_in q (by decide)).1
    · exact (x_in q (by decide)).1
    · exact (x_in q (by decide)).1
  unfold x_bh
  split
  · exact ⟨h.1, Nat.le_refl _, fun q => by have := h.2 q; omega, by omega⟩
  · rename_i q
    have q2 : x_any (x_r tx n k) := Classical.not_not.mp q
    have := hb.2.2 q2
    split <;> exact ⟨by omega, by omega, by omega, by omega⟩
section XM
variable {tx : Nat → Nat} {n : Nat} {su : Nat → Nat} {sl lim : Nat} {i : mm_i} {l : mm_j} {a : mm_a} {b : mm_b}
variable {M A p k st : Nat} {C : Nat → Nat} {fs : List xF} {bs : List xB} {kp : Nat → Nat → Nat} {K : mm_i → mm_j → mm_a → mm_b → Prop}
def x_item2 (tx : Nat → Nat) (n at' nx p : Nat) (C : Nat → Nat) (st : Nat) (fs : List xF) (bs : List xB) (kp : Nat → Nat → Nat) : xS :=
  if ¬ x_any (x_r tx n at') then (2, at', p, nx, C, st, fs, bs, kp)
  else if x_r tx n at' = 42 then (if x_how tx n at' = 63 then 4 else 3, at', p, nx, C, st, fs, bs, kp)
  else if x_r tx n at' = 43 then (2, at', p, fs.length, C, st, fs ++ [x_mk tx n fs (if x_how tx n at' = 63 then 11 else 10) at' 0 nx p], bs, kp)
  else if x_r tx n at' = 123 then (2, at', p, fs.length, C, st, fs ++ [x_mk tx n fs 6 at' (xt tx n (x_ba tx n at' + 1) - 49) nx p], bs, kp)
  else (if x_how tx n at' = 63 then 5 else 2, at', p, nx, C, st, fs, bs ++ [(if x_how tx n at' = 63 then 2 else 5, at', p, nx, fs.length - 1, C)], kp)
theorem x_item2L (h : rX tx n su sl lim (M, A, p, k, C, st, fs, bs, kp) i l a b) (hf1 : 1 ≤ fs.length) (hf : fs.length + 1 ≤ 7000) (hbs : bs.length < 4000) (hp : p < 64) {at' nx : Nat} (hat : at' < 40) (hnx : nx < 8192) (hd : x_r tx n at' = 123 → 49 ≤ xt tx n (x_ba tx n at' + 1)) {z1 z2 z3 z4 z6 z8 : Int32} (e1 : z1 = nI at') (e2 : z2 = nI (x_ba tx n at')) (e3 : z3 = nI (x_r tx n at')) (e4 : z4 = bI (decide (x_any (x_r tx n at')))) (e6 : z6 = nI (x_how tx n at')) (e8 : z8 = nI nx)
    (hK : ∀ i' b', rX tx n su sl lim (x_item2 tx n at' nx p C st fs bs kp) i' l a b' → rV i l i' l → K i' l a b') : wq_Model_item_0_190 K i l a b z1 z2 z3 z4 z6 z8 := by
  have hY := h.1
  have hT := hY.2.2.1
  have hn := hT.1
  have hba := x_ba_gt (tx := tx) (n := n) (k := at')
  have hbl : x_ba tx n at' < 2 ^ 20 := by
    rcases Nat.lt_or_ge at' n with q | q
    · have := hba.2 q; omega
    · have e : x_ba tx n at' = at' + 1 := by
        unfold x_ba
        have : xt tx n at' = 0 := by rw [xt, if_neg (by omega)]
        rw [this]
        rfl
      omega
  have hr : x_r tx n at' < 128 := x_lt hT.2.2.2
  have hr' : xt tx n (x_ba tx n at') < 2 ^ 31 := Nat.lt_trans (x_lt hT.2.2.2) (by decide)
  have hw : x_how tx n at' < 128 := by
    unfold x_how
    split
    · exact x_lt hT.2.2.2
    · decide
  have hdc := x_lt (n := n) (k := x_ba tx n at' + 1) hT.2.2.2
  unfold wq_Model_item_0_190
  rw [e1, e3, e4, e6, e8]
  refine ⟨fun q => ⟨fun r => ⟨fun s => ⟨fun u => ?_, fun u => ?_⟩, fun s => ?_⟩, fun r => ?_⟩, fun q => ?_⟩
  · have q1 : x_any (x_r tx n at') := by
      by_cases w : x_any (x_r tx n at')
      · exact w
      · exact absurd (by rw [decide_eq_false w]; rfl) q
    have r1 : ¬ x_r tx n at' = 42 := fun w => r (by rw [w]; rfl)
    have s1 : ¬ x_r tx n at' = 43 := fun w => s (by rw [w]; rfl)
    have u1 : ¬ x_r tx n at' = 123 := fun w => u (by rw [w]; rfl)
    rw [x_item2, if_neg (fun w => w q1), if_neg r1, if_neg s1, if_neg u1] at hK
    refine ⟨fun v => ?_, fun v => ?_⟩
    · have v1 : ¬ x_how tx n at' = 63 := fun w => v (by rw [w]; rfl)
      rw [if_neg v1, if_neg v1] at hK
      refine x_pushB h hbs hf1 (by omega) hp 5 at' nx (by decide) (by omega) hnx rfl rfl rfl (fun i' b' w1 w2 w3 => ?_)
      unfold wq_Model_item_0_324
      refine ⟨fun _ => x_go w1 2 at' nx rfl rfl rfl (fun i2 y1 y2 => hK _ _ y1 (rV_tr w2 y2)), fun z => absurd z v⟩
    · have v1 := (x_is 63 rfl (by omega) (by decide)).mp v
      rw [if_pos v1, if_pos v1] at hK
      refine x_pushB h hbs hf1 (by omega) hp 2 at' nx (by decide) (by omega) hnx rfl rfl rfl (fun i' b' w1 w2 w3 => ?_)
      unfold wq_Model_item_0_324
      refine ⟨fun z => absurd v z, fun _ => x_go w1 5 at' nx rfl rfl rfl (fun i2 y1 y2 => hK _ _ y1 (rV_tr w2 y2))⟩
  · have u1 := (x_is 123 rfl (by omega) (by decide)).mp u
    have hdd := hd u1
    rw [x_item2, if_neg (fun w => w (Or.inr (Or.inr (Or.inr u1)))), if_neg (by omega), if_neg (by omega), if_pos u1] at hK
    refine x_t hT (k := x_ba tx n at' + 1) (by omega) (by rw [e2, nI_1]) ?_
    refine x_push h (by omega) (x_mk tx n fs 6 at' (xt tx n (x_ba tx n at' + 1) - 49) nx p) ⟨by show 6 < 16; decide, by show at' < 64; omega, by show xt tx n (x_ba tx n at' + 1) - 49 < 8192; omega, hnx⟩ rfl rfl ?_ rfl (fun i' b' w1 w2 w3 => ?_)
    · rw [show (49 : Int32) = nI 49 from rfl, pk_sub hdd]
      rfl
    · exact x_go w1 2 at' fs.length rfl rfl rfl (fun i2 y1 y2 => hK _ _ y1 (rV_tr w2 y2))
  · have s1 := (x_is 43 rfl (by omega) (by decide)).mp s
    rw [x_item2, if_neg (fun w => w (Or.inr (Or.inl s1))), if_neg (by omega), if_pos s1] at hK
    refine ⟨fun v => ?_, fun v => ?_⟩
    · have v1 : ¬ x_how tx n at' = 63 := fun w => v (by rw [w]; rfl)
      rw [if_neg v1] at hK
      refine x_push h (by omega) (x_mk tx n fs 10 at' 0 nx p) ⟨by show 10 < 16; decide, by show at' < 64; omega, by show 0 < 8192; decide, hnx⟩ rfl rfl rfl rfl (fun i' b' w1 w2 w3 => ?_)
      exact x_go w1 2 at' fs.length rfl rfl rfl (fun i2 y1 y2 => hK _ _ y1 (rV_tr w2 y2))
    · have v1 := (x_is 63 rfl (by omega) (by decide)).mp v
      rw [if_pos v1] at hK
      refine x_push h (by omega) (x_mk tx n fs 11 at' 0 nx p) ⟨by show 11 < 16; decide, by show at' < 64; omega, by show 0 < 8192; decide, hnx⟩ rfl rfl rfl rfl (fun i' b' w1 w2 w3 => ?_)
      exact x_go w1 2 at' fs.length rfl rfl rfl (fun i2 y1 y2 => hK _ _ y1 (rV_tr w2 y2))
  · have r1 := (x_is 42 rfl (by omega) (by decide)).mp r
    rw [x_item2, if_neg (fun w => w (Or.inl r1)), if_pos r1] at hK
    refine ⟨fun v => ?_, fun v => ?_⟩
    · have v1 : ¬ x_how tx n at' = 63 := fun w => v (by rw [w]; rfl)
      rw [if_neg v1] at hK
      exact x_go h 3 at' nx rfl rfl rfl (fun i2 y1 y2 => hK _ _ y1 y2)
    · have v1 := (x_is 63 rfl (by omega) (by decide)).mp v
      rw [if_pos v1] at hK
      exact x_go h 4 at' nx rfl rfl rfl (fun i2 y1 y2 => hK _ _ y1 y2)
  · have q1 : ¬ x_any (x_r tx n at') := fun w => absurd ((bI_0 _).mp q) (by rw [decide_eq_true w]; decide)
    rw [x_item2, if_pos q1] at hK
    exact x_go h 2 at' nx rfl rfl rfl (fun i2 y1 y2 => hK _ _ y1 y2)
def x_item (tx : Nat → Nat) (n at' p k : Nat) (C : Nat → Nat) (st : Nat) (fs : List xF) (bs : List xB) (kp : Nat → Nat → Nat) : xS :=
  if x_r tx n at' = 123 ∧ xt tx n (x_ba tx n at' + 1) = 48 then (0, x_bh tx n at', p, k, C, st, fs, bs, kp)
  else if x_how tx n at' = 43 then x_item2 tx n at' (fs.length + 1) p C st ((fs ++ [x_mk tx n fs 1 (x_bh tx n at') 0 k p]) ++ [x_mk tx n (fs ++ [x_mk tx n fs 1 (x_bh tx n at') 0 k p]) 7 0 bs.length fs.length p]) bs kp
  else x_item2 tx n at' fs.length p C st (fs ++ [x_mk tx n fs 1 (x_bh tx n at') 0 k p]) bs kp
theorem x_itemL (h : rX tx n su sl lim (M, A, p, k, C, st, fs, bs, kp) i l a b) (hf1 : 1 ≤ fs.length) (hf : fs.length + 3 ≤ 7000) (hbs : bs.length < 4000) (hp : p < 64) (hk : k < 8192) {at' : Nat} (hat : at' < n) (hd : x_r tx n at' = 123 → 48 ≤ xt tx n (x_ba tx n at' + 1)) {x1 : Int32} (ex : x1 = nI at')
    (hK : ∀ i' b', rX tx n su sl lim (x_item tx n at' p k C st fs bs kp) i' l a b' → rV i l i' l → K i' l a b') : wp_Model_item_0 i l a b x1 K := by
  have hY := h.1
  have hT := hY.2.2.1
  have hn := hT.1
  have hba := (x_ba_gt (tx := tx) (n := n) (k := at')).2 hat
  have hbh := x_bh_gt (tx := tx) (n := n) (k := at')
  have hbh2 := hbh.2.2.1 hat
  have hr : x_r tx n at' < 128 := x_lt hT.2.2.2
  have hr' : xt tx n (x_ba tx n at') < 2 ^ 31 := Nat.lt_trans (x_lt hT.2.2.2) (by decide)
  have hxb : x_b tx n at' < 2 ^ 20 := by
    unfold x_b
    split <;> omega
  have hw : x_how tx n at' < 128 := by
    unfold x_how
    split
    · exact x_lt hT.2.2.2
    · decide
  have hg25 : i 25 = nI k := h.2.2.2.2.1
  have hg19 : i 19 = nI bs.length := h.2.2.2.2.2.2.2.2.1
  -- the last leg: the frames
  have L154 : ∀ {z4 : Int32}, z4 = bI (decide (x_any (x_r tx n at'))) → ¬ (x_r tx n at' = 123 ∧ xt tx n (x_ba tx n at' + 1) = 48) → wq_Model_item_0_154 K i l a b (nI at') (nI (x_ba tx n at')) (nI (x_r tx n at')) z4 (nI (x_how tx n at')) (nI (x_bh tx n at')) := by
    intro z4 e4 hz
    rw [x_item, if_neg hz] at hK
    have hd' : x_r tx n at' = 123 → 49 ≤ xt tx n (x_ba tx n at' + 1) := fun q => by
      have := hd q
      have : ¬ xt tx n (x_ba tx n at' + 1) = 48 := fun w => hz ⟨q, w⟩
      omega
    unfold wq_Model_item_0_154
    refine x_push h (by omega) (x_mk tx n fs 1 (x_bh tx n at') 0 k p) ⟨by show 1 < 16; decide, by show x_bh tx n at' < 64; omega, by show 0 < 8192; decide, hk⟩ rfl rfl rfl hg25 (fun i' b' w1 w2 w3 => ⟨fun q => ?_, fun q => ?_⟩)
    · have q1 : ¬ x_how tx n at' = 43 := fun w => q (by rw [w]; rfl)
      rw [if_neg q1] at hK
      exact x_item2L w1 (by rw [List.length_append]; show 1 ≤ fs.length + 1; omega) (by rw [List.length_append]; show fs.length + 1 + 1 ≤ 7000; omega) hbs hp (by omega) (by omega) hd' rfl rfl rfl e4 rfl rfl (fun i2 b2 y1 y2 => hK _ _ y1 (rV_tr w2 y2))
    · have q1 := (x_is 43 rfl (by omega) (by decide)).mp q
      rw [if_pos q1] at hK
      refine x_push w1 (by rw [List.length_append]; show fs.length + 1 < 7000; omega) (x_mk tx n (fs ++ [x_mk tx n fs 1 (x_bh tx n at') 0 k p]) 7 0 bs.length fs.length p) ⟨by show 7 < 16; decide, by show 0 < 64; decide, by show bs.length < 8192; omega, by show fs.length < 8192; omega⟩ rfl rfl (by rw [w3 19 (by decide)]; exact hg19) rfl (fun i2 b2 v1 v2 v3 => ?_)
      refine x_item2L v1 (by rw [List.length_append, List.length_append]; show 1 ≤ fs.length + 1 + 1; omega) (by rw [List.length_append, List.length_append]; show fs.length + 1 + 1 + 1 ≤ 7000; omega) hbs hp (by omega) (nx := fs.length + 1) (by omega) hd' rfl rfl rfl e4 rfl (by rw [List.length_append]; rfl) (fun i3 b3 y1 y2 => hK _ _ y1 (rV_tr (rV_tr w2 v2) y2))
  have L124 : ∀ {z4 : Int32}, z4 = bI (decide (x_any (x_r tx n at'))) → wq_Model_item_0_124 K i l a b (nI at') (nI (x_ba tx n at')) (nI (x_r tx n at')) z4 (nI (x_how tx n at')) (nI (x_bh tx n at')) := by
    intro z4 e4
    unfold wq_Model_item_0_124
    refine ⟨fun q => L154 e4 (fun w => q (by rw [w.1]; rfl)), fun q => ?_⟩
    have q1 := (x_is 123 rfl (by omega) (by decide)).mp q
    have hdc := x_lt (n := n) (k := x_ba tx n at' + 1) hT.2.2.2
    refine x_t hT (k := x_ba tx n at' + 1) (by omega) (nI_1 _) ⟨fun r => L154 e4 (fun w => r (by rw [w.2]; rfl)), fun r => ?_⟩
    have r1 := (x_is 48 rfl (by omega) (by decide)).mp r
    rw [x_item, if_pos ⟨q1, r1⟩] at hK
    exact x_go h 0 (x_bh tx n at') k rfl rfl hg25 (fun i2 y1 y2 => hK _ _ y1 y2)
  have L99 : ∀ {z4 z6 : Int32}, z4 = bI (decide (x_any (x_r tx n at'))) → z6 = nI (x_how tx n at') → wq_Model_item_0_99 K i l a b (nI at') (nI (x_ba tx n at')) (nI (x_r tx n at')) z4 (nI (x_b tx n at')) z6 := by
    intro z4 z6 e4 e6
    unfold wq_Model_item_0_99
    rw [e6]
    have hL := L124 e4
    refine ⟨fun q => ⟨fun r => ?_, fun r => ?_⟩, fun q => ?_⟩
    · have q1 : x_any (x_r tx n at') := by
        by_cases w : x_any (x_r tx n at')
        · exact w
        · exact absurd (by rw [e4, decide_eq_false w]; rfl) q
      have r1 : ¬ x_how tx n at' = 0 := fun w => r (by rw [w]; rfl)
      have e : x_bh tx n at' = x_b tx n at' + 1 := by rw [x_bh, if_neg (fun w => w q1), if_neg r1]
      rw [nI_1, ← e]
      exact hL
    · have q1 : x_any (x_r tx n at') := by
        by_cases w : x_any (x_r tx n at')
        · exact w
        · exact absurd (by rw [e4, decide_eq_false w]; rfl) q
      have r1 := (x_is 0 rfl (by omega) (by decide)).mp r
      have e : x_bh tx n at' = x_b tx n at' := by rw [x_bh, if_neg (fun w => w q1), if_pos r1]
      rw [← e]
      exact hL
    · have q1 : ¬ x_any (x_r tx n at') := fun w => absurd ((bI_0 _).mp (by rw [← e4]; exact q)) (by rw [decide_eq_true w]; decide)
      have e : x_bh tx n at' = x_ba tx n at' := by rw [x_bh, if_pos q1]
      rw [e] at hL
      exact hL
  have L60 : ∀ {z4 : Int32}, z4 = bI (decide (x_any (x_r tx n at'))) → wq_Model_item_0_60 K i l a b (nI at') (nI (x_ba tx n at')) (nI (x_r tx n at')) z4 (nI (x_b tx n at')) := by
    intro z4 e4
    unfold wq_Model_item_0_60
    have hbl := x_lt (n := n) (k := x_b tx n at') hT.2.2.2
    refine ⟨fun q => ?_, fun q => ?_⟩
    · have q1 : ¬ x_any (x_r tx n at') := fun w => absurd ((bI_0 _).mp (by rw [← e4]; exact q)) (by rw [decide_eq_true w]; decide)
      exact L99 e4 (by rw [x_how, if_neg (fun w => q1 w.1)]; rfl)
    · have q1 : x_any (x_r tx n at') := by
        by_cases w : x_any (x_r tx n at')
        · exact w
        · exact absurd (by rw [e4, decide_eq_false w]; rfl) q
      refine x_t hT (k := x_b tx n at') (by omega) rfl ⟨fun r => ?_, fun r => ?_⟩
      · have r1 := (x_is 63 rfl (by omega) (by decide)).mp r
        exact x_t hT (k := x_b tx n at') (by omega) rfl (L99 e4 (by rw [x_how, if_pos ⟨q1, Or.inl r1⟩]))
      · have r1 : ¬ xt tx n (x_b tx n at') = 63 := fun w => r (by rw [w]; rfl)
        refine x_t hT (k := x_b tx n at') (by omega) rfl ⟨fun s => ?_, fun s => ?_⟩
        · have s1 : ¬ xt tx n (x_b tx n at') = 43 := fun w => s (by rw [w]; rfl)
          exact L99 e4 (by rw [x_how, if_neg (fun w => by rcases w.2 with v | v; exact r1 v; exact s1 v)]; rfl)
        · have s1 := (x_is 43 rfl (by omega) (by decide)).mp s
          exact x_t hT (k := x_b tx n at') (by omega) rfl (L99 e4 (by rw [x_how, if_pos ⟨q1, Or.inr s1⟩]))
  have L43 : ∀ {z4 : Int32}, z4 = bI (decide (x_any (x_r tx n at'))) → wq_Model_item_0_43 K i l a b (nI at') (nI (x_ba tx n at')) (nI (x_r tx n at')) z4 := by
    intro z4 e4
    unfold wq_Model_item_0_43
    have hL := L60 e4
    refine ⟨fun q => ?_, fun q => ?_⟩
    · rw [x_b, if_neg (fun w => q (by rw [w]; rfl))] at hL
      rw [nI_1]
      exact hL
    · rw [x_b, if_pos ((x_is 123 rfl (by omega) (by decide)).mp q)] at hL
      rw [show (3 : Int32) = nI 3 from rfl, nI_add]
      exact hL
  have hT1 : x_any (x_r tx n at') → (1 : Int32) = bI (decide (x_any (x_r tx n at'))) := fun w => by rw [decide_eq_true w]; rfl
  have hT0 : ¬ x_any (x_r tx n at') → (0 : Int32) = bI (decide (x_any (x_r tx n at'))) := fun w => by rw [decide_eq_false w]; rfl
  unfold wp_Model_item_0
  rw [ex]
  refine x_behind hT (k := at') (by omega) rfl ?_
  refine x_t hT (k := x_ba tx n at') (by omega) rfl ⟨fun q => ?_, fun q => ⟨fun r => ?_, fun r => ⟨fun s => ?_, fun s => ⟨fun u => ?_, fun u => ?_⟩⟩⟩⟩
  · exact L43 (hT1 (Or.inl ((x_is 42 rfl hr' (by decide)).mp q)))
  · exact L43 (hT1 (Or.inr (Or.inl ((x_is 43 rfl hr' (by decide)).mp r))))
  · exact L43 (hT1 (Or.inr (Or.inr (Or.inl ((x_is 63 rfl hr' (by decide)).mp s)))))
  · refine L43 (hT0 (fun w => ?_))
    rcases w with w | w | w | w
    · exact q (by rw [show xt tx n (x_ba tx n at') = 42 from w]; rfl)
    · exact r (by rw [show xt tx n (x_ba tx n at') = 43 from w]; rfl)
    · exact s (by rw [show xt tx n (x_ba tx n at') = 63 from w]; rfl)
    · exact u (by rw [show xt tx n (x_ba tx n at') = 123 from w]; rfl)
  · exact L43 (hT1 (Or.inr (Or.inr (Or.inr ((x_is 123 rfl hr' (by decide)).mp u)))))
end XM
