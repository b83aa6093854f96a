/-! seek, and what the reference holds between two calls -/
def x_beg (s st : Nat) (kp : Nat → Nat → Nat) : xS := (1, 0, s, 0, fun _ => 0, st, [(0, 0, 0, 0, s, 0, 0, 0, 0)], [], kp)
/-- answer, steps, what a match leaves, what is kept -/
abbrev xR : Type := Int32 × Nat × Option (Nat × Nat × (Nat → Nat)) × (Nat → Nat → Nat)
def x_sk (tx : Nat → Nat) (n : Nat) (su : Nat → Nat) (sl lim : Nat) : Nat → Nat → Nat → (Nat → Nat → Nat) → xR
  | 0, _, st, kp => (-4, st, none, kp)
  | f + 1, s, st, kp => match x_wk tx n su sl lim 1000000 (x_beg s st kp) with
    | (c, m) => if c = 2 then (-5, m.2.2.2.2.2.1, none, m.2.2.2.2.2.2.2.2) else if c = 1 then (nI s, m.2.2.2.2.2.1, some (s, m.2.2.1, m.2.2.2.2.1), m.2.2.2.2.2.2.2.2) else x_sk tx n su sl lim f (s + 1) m.2.2.2.2.2.1 m.2.2.2.2.2.2.2.2
/-- what stays between walks -/
def rZ (tx : Nat → Nat) (n : Nat) (su : Nat → Nat) (sl lim st : Nat) (kp : Nat → Nat → Nat) (i : mm_i) (a : mm_a) (b : mm_b) : Prop := rY tx n su sl lim i a ∧ i 10 = nI st ∧ st ≤ lim ∧ b 5 0 = lN 0 ∧ (∀ s, cx_in 40 (kp s)) ∧ ∀ s, s ≤ 300 → b 6 s = lN (cp_enc (kp s))
/-- what a search leaves as it is -/
def rV2 (i : mm_i) (l : mm_j) (i' : mm_i) (l' : mm_j) : Prop := (∀ k, ¬ (10 ≤ k ∧ k ≤ 13) → ¬ k = 16 → ¬ k = 19 → ¬ (22 ≤ k ∧ k ≤ 25) → i' k = i k) ∧ ∀ k, ¬ k = 26 → ¬ k = 14 → l' k = l k
def rMt (sl : Nat) (mo : Option (Nat × Nat × (Nat → Nat))) (i : mm_i) (l : mm_j) : Prop := match mo with
  | none => i 11 = 0
  | some m => i 11 = 1 ∧ i 12 = nI m.1 ∧ i 13 = nI m.2.1 ∧ l 14 = lN (cp_enc m.2.2) ∧ m.1 ≤ m.2.1 ∧ m.2.1 ≤ sl ∧ cx_in 40 m.2.2
theorem cx_0 {sl : Nat} : cx_in sl (fun _ => 0) := fun g _ => Or.inl rfl
theorem wk_c {tx : Nat → Nat} {n : Nat} {su : Nat → Nat} {sl lim : Nat} : ∀ (f : Nat) {m m' : xS} {c : Nat}, x_wk tx n su sl lim f m = (c, m') → c ≤ 2
  | 0, m, m', c, h => by
    cases h
    exact Nat.le_refl _
  | f + 1, m, m', c, h => by
    rw [x_wk] at h
    split at h
    · cases h
      exact Nat.zero_le _
    · split at h
      · cases h
        decide
      · split at h
        · cases h
          decide
        · exact wk_c f h
section XW
variable {tx : Nat → Nat} {n Q sl lim : Nat} {su : Nat → Nat} {i : mm_i} {l : mm_j} {a : mm_a} {b : mm_b}
variable {st s : Nat} {kp : Nat → Nat → Nat}
theorem w_beg (hG : xG tx n Q) (hs : s ≤ sl) (hst : st ≤ lim) (hkp : ∀ s, cx_in 40 (kp s)) : xW tx n Q sl lim (x_beg s st kp) := by
  have hQ := hG.2.2.2.2.2.2.1
  refine ⟨a_1 hG.1 (Nat.zero_le _), ⟨⟨⟨s, rfl⟩, fun f x hx hf => ?_⟩, Nat.zero_lt_one, Nat.le_refl _, hs, cx_0, Nat.le_refl _, ⟨fun j y hy => by simp at hy, fun j j' y y' _ hy => by simp at hy⟩, hkp, hst, by show 1 ≤ _; omega, Nat.zero_le _⟩, fun _ => ⟨?_, ?_⟩⟩
  · match f, hx, hf with
    | f + 1, hx, _ => simp at hx
  · show 1 + (2 * Q + 0) ≤ 21 + 23 * st + 0
    omega
  · show 0 + (1 + Q + 0) ≤ 11 + 13 * st + 0
    omega
theorem x_walk {K : Int32 → mm_i → mm_j → mm_a → mm_b → Prop} (hG : xG tx n Q) (h : rZ tx n su sl lim st kp i a b) (hs : s ≤ sl) {x1 : Int32} (ex : x1 = nI s) (hK : ∀ i' l' b' c m, x_wk tx n su sl lim 1000000 (x_beg s st kp) = (c, m) → rX tx n su sl lim m i' l' a b' → xW tx n Q sl lim m → rV i l i' l' → K (nI c) i' l' a b') : wp_Model_walk_0 i l a b x1 K := by
  obtain ⟨hY, z1, z2, z3, z4, z5⟩ := h
  unfold wp_Model_walk_0 wp_Model_go_0
  refine ⟨1000001, ?_⟩
  refine x_walkL hG 1000000 0 rfl (m := x_beg s st kp) ⟨rY_same hY rfl rfl rfl, rfl, rfl, ?_, rfl, by rw [pk_uLs]; exact cp_zero, ?_, rfl, rfl, fun f x hx => ?_, fun f x hx => by simp [x_beg] at hx, z5⟩ (w_beg hG hs z2 z4) (fun i' l' b' c m y1 y2 y3 y4 => ?_)
  · show upd _ _ _ 24 = nI s
    rw [ud_n (by decide), ud_n (by decide), ud_n (by decide), ud_s]
    exact ex
  · show upd _ _ _ 10 = nI st
    rw [ud_n (by decide), ud_n (by decide), ud_n (by decide), ud_n (by decide), ud_n (by decide), ud_n (by decide)]
    exact z1
  · match f, hx with
    | 0, hx =>
      cases hx
      exact ⟨⟨by show 0 < 16; decide, by show 0 < 64; decide, by show 0 < 8192; decide, by show 0 < 8192; decide⟩, z3⟩
    | f + 1, hx => simp [x_beg] at hx
  · refine hK i' l' b' c m y1 y2 y3 (rV_tr ⟨fun j a1 a2 a3 a4 => ?_, fun j hj => pk_uLn hj⟩ y4)
    rw [ud_n (by omega), ud_n (by omega), ud_n (by omega), ud_n (by omega), ud_n (by omega), ud_n (by omega)]
theorem rZ_of {m : xS} (h : rX tx n su sl lim m i l a b) (hw : xW tx n Q sl lim m) : rZ tx n su sl lim m.2.2.2.2.2.1 m.2.2.2.2.2.2.2.2 i a b := by
  obtain ⟨M, A, p, k, C, st, fs, bs, kp⟩ := m
  have hR := hw.2.1
  refine ⟨h.1, h.2.2.2.2.2.2.1, hR.2.2.2.2.2.2.2.2.1, ?_, hR.2.2.2.2.2.2.2.1, h.2.2.2.2.2.2.2.2.2.2.2⟩
  exact (h.2.2.2.2.2.2.2.2.2.1 0 _ hR.1.1.choose_spec).2
theorem hd_app {fs : List xF} {x : xF} (h : 1 ≤ fs.length) : (fs ++ [x])[0]? = fs[0]? := List.getElem?_append_left (by omega)
/-- the first frame stays -/
theorem hd_act {m : xS} (h : 1 ≤ m.2.2.2.2.2.2.1.length) : (x_act tx n su sl m).2.2.2.2.2.2.1[0]? = m.2.2.2.2.2.2.1[0]? := by
  obtain ⟨M, A, p, k, C, st, fs, bs, kp⟩ := m
  have h : 1 ≤ fs.length := h
  have e1 : ∀ x, (fs ++ [x])[0]? = fs[0]? := fun x => hd_app h
  have e2 : ∀ x y, ((fs ++ [x]) ++ [y])[0]? = fs[0]? := fun x y => by rw [hd_app (by rw [len1]; omega), e1]
  have e3 : ∀ x y z, (((fs ++ [x]) ++ [y]) ++ [z])[0]? = fs[0]? := fun x y z => by rw [hd_app (by rw [len1]; omega), e2]
  have hi : ∀ (F : List xF) (nx : Nat), F[0]? = fs[0]? → 1 ≤ F.length → (x_item2 tx n A nx p C st F bs kp).2.2.2.2.2.2.1[0]? = fs[0]? := by
    intro F nx hF hl
    unfold x_item2
    split
    · exact hF
    · split
      · exact hF
      · split
        · rw [hd_app hl]; exact hF
        · split
          · rw [hd_app hl]; exact hF
          · exact hF
  unfold x_act
  dsimp only
  split
  · split
    · rfl
    · unfold x_item
      split
      · rfl
      · split
        · exact hi _ _ (e2 _ _) (by rw [len1, len1]; omega)
        · exact hi _ _ (e1 _) (by rw [len1]; omega)
  · split
    · rfl
    · split
      · unfold x_atom
        split
        · unfold x_open
          split
          · exact e1 _
          · split
            · rfl
            · split
              · exact e1 _
              · split
                · exact e1 _
                · split
                  · exact e1 _
                  · split
                    · rfl
                    · exact e1 _
        · split <;> rfl
      · split
        · exact e1 _
        · split
          · exact e1 _
          · split
            · unfold x_carry
              split
              · rfl
              · split
                · rfl
                · split
                  · rfl
                  · split
                    · rfl
                    · split
                      · split
                        · rfl
                        · exact e1 _
                      · split
                        · rfl
                        · split
                          · rfl
                          · split <;> rfl
            · rfl
theorem hd_wk (hG : xG tx n Q) (hsl : sl ≤ 40) (hlim : lim ≤ 300) : ∀ (f : Nat) {m m' : xS} {c : Nat}, xW tx n Q sl lim m → x_wk tx n su sl lim f m = (c, m') → m'.2.2.2.2.2.2.1[0]? = m.2.2.2.2.2.2.1[0]? := by
  intro f
  induction f with
  | zero =>
    intro m m' c hw h
    cases h
    rfl
  | succ f ih =>
    intro m m' c hw h
    have rest : ∀ {m1 : xS}, xW tx n Q sl lim m1 → ¬ m1.1 = 6 → m1.2.2.2.2.2.2.1[0]? = m.2.2.2.2.2.2.1[0]? → (if m1.1 = 5 ∧ m1.2.2.2.1 = 0 then (1, m1) else if m1.1 = 2 ∧ m1.2.2.2.2.2.1 = lim then (2, m1) else x_wk tx n su sl lim f (x_act tx n su sl m1)) = (c, m') → m'.2.2.2.2.2.2.1[0]? = m.2.2.2.2.2.2.1[0]? := by
      intro m1 hw1 h6 e1 e2
      split at e2
      · cases e2; exact e1
      · rename_i n5
        split at e2
        · cases e2; exact e1
        · rename_i n2
          obtain ⟨M1, A1, p1, k1, C1, st1, fs1, bs1, kp1⟩ := m1
          rw [ih (k_act hG hsl hlim hw1 h6 n5 n2) e2, hd_act (w_Fs_len hw1.2.1.1)]
          exact e1
    obtain ⟨M, A, p, k, C, st, fs, bs, kp⟩ := m
    by_cases q : M = 6
    · subst q
      cases hr : x_ret st fs bs kp with
      | none =>
        have h : (match (if (6 : Nat) = 6 then x_ret st fs bs kp else _) with
          | none => _
          | some m1 => _) = (c, m') := h
        rw [if_pos rfl, hr] at h
        cases h
        rfl
      | some m1 =>
        have h : (match (if (6 : Nat) = 6 then x_ret st fs bs kp else _) with
          | none => _
          | some m1 => _) = (c, m') := h
        rw [if_pos rfl, hr] at h
        have hk := k_ret hG.1 hw hr
        refine rest hk.1 hk.2 ?_ h
        unfold x_ret at hr
        split at hr
        · cases hr
        · cases hr
          show (fs.take (_ + 1))[0]? = fs[0]?
          rw [List.getElem?_take, if_pos (by omega)]
    · have h : (match (if M = 6 then x_ret st fs bs kp else some (M, A, p, k, C, st, fs, bs, kp)) with
          | none => _
          | some m1 => _) = (c, m') := h
      rw [if_neg q] at h
      exact rest hw q rfl h
/-- no match ends before it begins -/
theorem wk_p (hG : xG tx n Q) (hsl : sl ≤ 40) (hlim : lim ≤ 300) (hs : s ≤ sl) (hst : st ≤ lim) (hkp : ∀ s, cx_in 40 (kp s)) {f c : Nat} {m : xS} (h : x_wk tx n su sl lim f (x_beg s st kp) = (c, m)) (hw : xW tx n Q sl lim m) : s ≤ m.2.2.1 ∧ m.2.2.1 ≤ sl := by
  have h1 := hd_wk hG hsl hlim f (w_beg hG hs hst hkp) h
  obtain ⟨M, A, p, k, C, st', fs, bs, kp'⟩ := m
  have h1 : fs[0]? = some (0, 0, 0, 0, s, 0, 0, 0, 0) := h1
  have hR := hw.2.1
  have := w_Fs_gp hR.1 h1 k k (Nat.le_refl _) hR.2.1
  have h3 := hR.2.2.1
  have h4 := hR.2.2.2.1
  exact ⟨by show s ≤ p; omega, h4⟩
theorem x_skL {K : Int32 → mm_i → mm_j → mm_a → mm_b → Prop} (hG : xG tx n Q) : ∀ (f s : Nat), s + f = sl + 1 → ∀ {i : mm_i} {l : mm_j} {b : mm_b} {st : Nat} {kp : Nat → Nat → Nat}, rZ tx n su sl lim st kp i a b → i 11 = 0 →
    (∀ i' l' b' ans st' mo kp', x_sk tx n su sl lim f s st kp = (ans, st', mo, kp') → rZ tx n su sl lim st' kp' i' a b' → rMt sl mo i' l' → rV2 i l i' l' → K ans i' l' a b') → wl_Model_seek_0 K (f + 1) i l a b (nI s) := by
  intro f
  induction f with
  | zero =>
    intro s hs i l b st kp h h11 hK
    have hsl : sl ≤ 40 := h.1.2.2.2.2.1
    show wt_Model_seek_0 _ K i l a b (nI s)
    unfold wt_Model_seek_0
    rw [h.1.2.1]
    exact ⟨fun _ => hK i l b (-4) st none kp rfl h h11 ⟨fun _ _ _ _ _ => rfl, fun _ _ _ => rfl⟩, fun z => absurd ((nI_ltI (by omega) (by omega)).mpr (by omega)) z⟩
  | succ f ih =>
    intro s hs i l b st kp h h11 hK
    have hsl : sl ≤ 40 := h.1.2.2.2.2.1
    have hlim : lim ≤ 300 := h.1.2.2.2.2.2.1
    show wt_Model_seek_0 (wl_Model_seek_0 K (f + 1)) K i l a b (nI s)
    unfold wt_Model_seek_0
    rw [h.1.2.1]
    refine ⟨fun z => absurd ((nI_ltI (by omega) (by omega)).mp z) (by omega), fun _ => ?_⟩
    refine x_walk hG h (s := s) (by omega) rfl (fun i1 l1 b1 c m y1 y2 y3 y4 => ?_)
    have hz := rZ_of y2 y3
    have h11' : i1 11 = 0 := by rw [y4.1 11 (by decide) (by decide) (by decide) (by decide)]; exact h11
    have hV : rV2 i l i1 l1 := ⟨fun j a1 a2 a3 a4 => y4.1 j (by omega) a2 a3 a4, fun j a1 _ => y4.2 j a1⟩
    have hp := wk_p hG hsl hlim (by omega) h.2.2.1 h.2.2.2.2.1 y1 y3
    have hsk : x_sk tx n su sl lim (f + 1) s st kp = if c = 2 then (-5, m.2.2.2.2.2.1, none, m.2.2.2.2.2.2.2.2) else if c = 1 then (nI s, m.2.2.2.2.2.1, some (s, m.2.2.1, m.2.2.2.2.1), m.2.2.2.2.2.2.2.2) else x_sk tx n su sl lim f (s + 1) m.2.2.2.2.2.1 m.2.2.2.2.2.2.2.2 := by
      rw [x_sk, y1]
    have hc : c < 2 ^ 31 := by
      have := wk_c (tx := tx) (n := n) (su := su) (sl := sl) (lim := lim) 1000000 y1
      omega
    rw [hsk] at hK
    refine ⟨fun q => ⟨fun q2 => ?_, fun q2 => ?_⟩, fun q => ?_⟩
    · have n2 : ¬ c = 2 := fun w => q (by rw [w]; rfl)
      have n1 : ¬ c = 1 := fun w => q2 (by rw [w]; rfl)
      rw [if_neg n2, if_neg n1] at hK
      rw [nI_1]
      refine ih (s + 1) (by omega) hz h11' (fun i2 l2 b2 ans st' mo kp' v1 v2 v3 v4 => hK i2 l2 b2 ans st' mo kp' v1 v2 v3 ⟨fun j a1 a2 a3 a4 => (v4.1 j a1 a2 a3 a4).trans (hV.1 j a1 a2 a3 a4), fun j a1 a2 => (v4.2 j a1 a2).trans (hV.2 j a1 a2)⟩)
    · have e1 := (x_is 1 rfl hc (by decide)).mp q2
      have n2 : ¬ c = 2 := by omega
      rw [if_neg n2, if_pos e1] at hK
      obtain ⟨z0, z1, z2, z3, z4, z5⟩ := hz
      refine hK _ _ b1 (nI s) _ _ _ rfl ⟨rY_same z0 rfl rfl rfl, z1, z2, z3, z4, z5⟩ ⟨rfl, rfl, ?_, ?_, hp.1, hp.2, ?_⟩ ⟨fun j a1 a2 a3 a4 => ?_, fun j a1 a2 => ?_⟩
      · obtain ⟨M, A, p, k, C, st', fs, bs, kp'⟩ := m
        exact y2.2.2.2.1
      · rw [pk_uLs]
        obtain ⟨M, A, p, k, C, st', fs, bs, kp'⟩ := m
        exact y2.2.2.2.2.2.1
      · obtain ⟨M, A, p, k, C, st', fs, bs, kp'⟩ := m
        exact y3.2.1.2.2.2.2.1
      · rw [ud_n (by omega), ud_n (by omega), ud_n (by omega)]
        exact hV.1 j a1 a2 a3 a4
      · rw [pk_uLn a2]
        exact hV.2 j a1 a2
    · have e2 := (x_is 2 rfl hc (by decide)).mp q
      rw [if_pos e2] at hK
      exact hK i1 l1 b1 (-5) _ none _ rfl hz h11' hV
/-- seek -/
theorem x_seek {K : Int32 → mm_i → mm_j → mm_a → mm_b → Prop} (hG : xG tx n Q) (h : rZ tx n su sl lim st kp i a b) {s : Nat} (hs : s ≤ sl) {x1 : Int32} (ex : x1 = nI s)
    (hK : ∀ i' l' b' ans st' mo kp', x_sk tx n su sl lim (sl + 1 - s) s 0 kp = (ans, st', mo, kp') → rZ tx n su sl lim st' kp' i' a b' → rMt sl mo i' l' → rV2 i l i' l' → K ans i' l' a b') : wp_Model_seek_0 i l a b x1 K := by
  unfold wp_Model_seek_0
  rw [ex]
  obtain ⟨z0, z1, z2, z3, z4, z5⟩ := h
  refine ⟨sl + 1 - s + 1, x_skL hG (sl + 1 - s) s (by omega) (st := 0) (kp := kp) ⟨rY_same z0 rfl rfl rfl, rfl, Nat.zero_le _, z3, z4, z5⟩ rfl (fun i' l' b' ans st' mo kp' v1 v2 v3 v4 => hK i' l' b' ans st' mo kp' v1 v2 v3 ⟨fun j a1 a2 a3 a4 => (v4.1 j a1 a2 a3 a4).trans ?_, v4.2⟩)⟩
  rw [ud_n (by omega), ud_n (by omega)]
end XW
