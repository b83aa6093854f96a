/-! the reference's frames and ways back: numbers in longs -/
theorem xp_or (a b : Nat) : nI a ||| nI b = nI (a ||| b) := by
  apply Int32.toBitVec_inj.mp
  show BitVec.ofNat 32 a ||| BitVec.ofNat 32 b = BitVec.ofNat 32 _
  rw [BitVec.ofNat_or]
theorem xp_orN {a b k : Nat} (h : a < 2 ^ k) : a ||| (b * 2 ^ k) = a + b * 2 ^ k := by
  rw [Nat.or_comm, Nat.mul_comm b, ← Nat.two_pow_add_eq_or_of_lt h, Nat.add_comm]
theorem xp_shl {a : Nat} (s : Int32) (k : Nat) (hs : ((s &&& 31).toBitVec.smod 32).toNat = k) (h : a * 2 ^ k < 2 ^ 32) : nI a <<< (s &&& 31) = nI (a * 2 ^ k) := pk_shlN (s &&& 31) k hs h
theorem xp_and {v : Nat} {m : Int32} (k : Nat) (hm : m.toBitVec.toNat = 2 ^ k - 1) (hk : k ≤ 32) : (lN v).toInt32 &&& m = nI (v % 2 ^ k) := by
  rw [lN_i, pk_and (nI v) k hm]
  congr 1
  have e : (nI v).toBitVec.toNat = v % 2 ^ 32 := by
    show (BitVec.ofNat 32 v).toNat = v % 2 ^ 32
    rw [BitVec.toNat_ofNat]
  rw [e]
  exact Nat.mod_mod_of_dvd v (Nat.pow_dvd_pow 2 hk)
theorem xp_sar {v s : Nat} (hv : v < 2 ^ 63) (hs : s < 64) : lN v >>> ((nI s).toInt64 &&& 63) = lN (v / 2 ^ s) := by
  rw [wb_c s hs]
  apply wb_inj
  rw [Int64.toBitVec_shiftRight, wb_tb, wb_tb, wb_tb, wb_sm s hs]
  apply BitVec.eq_of_toNat_eq
  have hm : (BitVec.ofNat 64 v).msb = false := by
    rw [BitVec.msb_eq_false_iff_two_mul_lt, BitVec.toNat_ofNat, Nat.mod_eq_of_lt (by omega)]
    omega
  rw [BitVec.sshiftRight_eq', BitVec.sshiftRight_eq_of_msb_false hm, BitVec.toNat_ushiftRight, BitVec.toNat_ofNat, BitVec.toNat_ofNat, BitVec.toNat_ofNat, Nat.mod_eq_of_lt (show v < 2 ^ 64 by omega), Nat.mod_eq_of_lt (show s < 2 ^ 64 by omega), Nat.shiftRight_eq_div_pow, Nat.mod_eq_of_lt (Nat.lt_of_le_of_lt (Nat.div_le_self _ _) (by omega))]
theorem xp_pack {k w m r : Nat} (hk : k < 16) (hw : w < 64) (hm : m < 8192) (hr : r < 8192) : (((nI k ||| (nI w <<< ((4 : Int32) &&& 31))) ||| (nI m <<< ((10 : Int32) &&& 31))).toInt64) ||| (((nI r).toInt64) <<< ((23 : Int32).toInt64 &&& 63)) = lN (k + 16 * w + 1024 * m + 8388608 * r) := by
  rw [xp_shl 4 4 (by decide) (by omega), xp_shl 10 10 (by decide) (by omega), xp_or, xp_or, xp_orN (k := 4) hk, xp_orN (k := 10) (show k + w * 2 ^ 4 < 2 ^ 10 by omega), nI_l (by omega), nI_l (by omega), show (23 : Int32) = nI 23 from rfl, wb_shl r (by decide), wb_or (by omega) (by omega), xp_orN (k := 23) (show k + w * 2 ^ 4 + m * 2 ^ 10 < 2 ^ 23 by omega)]
  congr 1
  omega
theorem xp_packB {k w m r f : Nat} (hk : k < 8) (hw : w < 64) (hm : m < 64) (hr : r < 8192) (hf : f < 8192) : ((((nI k ||| (nI w <<< ((3 : Int32) &&& 31))) ||| (nI m <<< ((9 : Int32) &&& 31))).toInt64) ||| (((nI r).toInt64) <<< ((15 : Int32).toInt64 &&& 63))) ||| (((nI f).toInt64) <<< ((28 : Int32).toInt64 &&& 63)) = lN (k + 8 * w + 512 * m + 32768 * r + 268435456 * f) := by
  rw [xp_shl 3 3 (by decide) (by omega), xp_shl 9 9 (by decide) (by omega), xp_or, xp_or, xp_orN (k := 3) hk, xp_orN (k := 9) (show k + w * 2 ^ 3 < 2 ^ 9 by omega), nI_l (by omega), nI_l (by omega), nI_l (by omega), show (15 : Int32) = nI 15 from rfl, show (28 : Int32) = nI 28 from rfl, wb_shl r (by decide), wb_shl f (by decide), wb_or (by omega) (by omega), xp_orN (k := 15) (show k + w * 2 ^ 3 + m * 2 ^ 9 < 2 ^ 15 by omega), wb_or (by omega) (by omega), xp_orN (k := 28) (show k + w * 2 ^ 3 + m * 2 ^ 9 + r * 2 ^ 15 < 2 ^ 28 by omega)]
  congr 1
  omega
/-- kind, where, number, parent; then what no long holds: place, cost ahead in frames and in ways back, calls, mark -/
abbrev xF : Type := Nat × Nat × Nat × Nat × Nat × Nat × Nat × Nat × Nat
/-- mode, where, place, frame, frames, captures -/
abbrev xB : Type := Nat × Nat × Nat × Nat × Nat × (Nat → Nat)
def xpF (x : xF) : Nat := x.1 + 16 * x.2.1 + 1024 * x.2.2.1 + 8388608 * x.2.2.2.1
def xpB (x : xB) : Nat := x.1 + 8 * x.2.1 + 512 * x.2.2.1 + 32768 * x.2.2.2.1 + 268435456 * x.2.2.2.2.1
def xvF (x : xF) : Prop := x.1 < 16 ∧ x.2.1 < 64 ∧ x.2.2.1 < 8192 ∧ x.2.2.2.1 < 8192
def xvB (x : xB) : Prop := x.1 < 8 ∧ x.2.1 < 64 ∧ x.2.2.1 < 64 ∧ x.2.2.2.1 < 8192 ∧ x.2.2.2.2.1 < 8192
def xrF (fs : List xF) (b : mm_b) : Prop := ∀ (f : Nat) (x : xF), fs[f]? = some x → xvF x ∧ b 5 f = lN (xpF x)
def xrB (bs : List xB) (b : mm_b) : Prop := ∀ (f : Nat) (x : xB), bs[f]? = some x → xvB x ∧ b 7 f = lN (xpB x) ∧ b 8 f = lN (cp_enc x.2.2.2.2.2)
theorem xpF_lt {x : xF} (h : xvF x) : xpF x < 2 ^ 63 := by
  obtain ⟨h1, h2, h3, h4⟩ := h
  unfold xpF
  omega
theorem xpB_lt {x : xB} (h : xvB x) : xpB x < 2 ^ 63 := by
  obtain ⟨h1, h2, h3, h4, h5⟩ := h
  unfold xpB
  omega
/-- mode, at, place, frame, captures, steps, frames, ways back, kept -/
abbrev xS : Type := Nat × Nat × Nat × Nat × (Nat → Nat) × Nat × List xF × List xB × (Nat → Nat → Nat)
def rY (tx : Nat → Nat) (n : Nat) (su : Nat → Nat) (sl lim : Nat) (i : mm_i) (a : mm_a) : Prop := i 0 = nI lim ∧ i 8 = nI sl ∧ rT tx n i a ∧ (∀ k, k < 40 → a 3 k = nI (su k)) ∧ sl ≤ 40 ∧ lim ≤ 300 ∧ ∀ k, su k < 128
def rX (tx : Nat → Nat) (n : Nat) (su : Nat → Nat) (sl lim : Nat) (m : xS) (i : mm_i) (l : mm_j) (a : mm_a) (b : mm_b) : Prop :=
  rY tx n su sl lim i a ∧ i 22 = nI m.1 ∧ i 23 = nI m.2.1 ∧ i 24 = nI m.2.2.1 ∧ i 25 = nI m.2.2.2.1 ∧ l 26 = lN (cp_enc m.2.2.2.2.1) ∧ i 10 = nI m.2.2.2.2.2.1 ∧ i 16 + 1 = nI m.2.2.2.2.2.2.1.length ∧ i 19 = nI m.2.2.2.2.2.2.2.1.length ∧ xrF m.2.2.2.2.2.2.1 b ∧ xrB m.2.2.2.2.2.2.2.1 b ∧ ∀ s, s ≤ 300 → b 6 s = lN (cp_enc (m.2.2.2.2.2.2.2.2 s))
/-- what matching leaves as it is -/
def rV (i : mm_i) (l : mm_j) (i' : mm_i) (l' : mm_j) : Prop := (∀ k, ¬ k = 10 → ¬ k = 16 → ¬ k = 19 → ¬ (22 ≤ k ∧ k ≤ 25) → i' k = i k) ∧ ∀ k, ¬ k = 26 → l' k = l k
theorem rV_rf {i : mm_i} {l : mm_j} : rV i l i l := ⟨fun _ _ _ _ _ => rfl, fun _ _ => rfl⟩
theorem rV_tr {i i' i2 : mm_i} {l l' l2 : mm_j} (h : rV i l i' l') (h2 : rV i' l' i2 l2) : rV i l i2 l2 := ⟨fun k a1 a2 a3 a4 => (h2.1 k a1 a2 a3 a4).trans (h.1 k a1 a2 a3 a4), fun k hk => (h2.2 k hk).trans (h.2 k hk)⟩
theorem rY_same {tx : Nat → Nat} {n : Nat} {su : Nat → Nat} {sl lim : Nat} {i i' : mm_i} {a : mm_a} (h : rY tx n su sl lim i a) (h0 : i' 0 = i 0) (h4 : i' 4 = i 4) (h8 : i' 8 = i 8) : rY tx n su sl lim i' a := by
  obtain ⟨g1, g2, ⟨g3, g4, g5⟩, g6⟩ := h
  exact ⟨by rw [h0]; exact g1, by rw [h8]; exact g2, ⟨g3, by rw [h4]; exact g4, g5⟩, g6⟩
section XM
variable {tx : Nat → Nat} {n : Nat} {su : Nat → Nat} {sl lim : Nat} {i : mm_i} {l : mm_j} {a : mm_a} {b : mm_b}
variable {M A p k st : Nat} {C : Nat → Nat} {fs : List xF} {bs : List xB} {kp : Nat → Nat → Nat}
theorem x_go {K : mm_i → mm_j → mm_a → mm_b → Prop} (h : rX tx n su sl lim (M, A, p, k, C, st, fs, bs, kp) i l a b) (M' A' k' : Nat) {x1 x2 x3 : Int32} (e1 : x1 = nI M') (e2 : x2 = nI A') (e3 : x3 = nI k') (hK : ∀ i', rX tx n su sl lim (M', A', p, k', C, st, fs, bs, kp) i' l a b → rV i l i' l → K i' l a b) : wp_Model_go_0 i l a b x1 x2 x3 K := by
  obtain ⟨h0, h1, h2, h3, h4, h5, h6, h7, h8, h9, h10, h11⟩ := h
  unfold wp_Model_go_0
  refine hK _ ⟨rY_same h0 rfl rfl rfl, e1, e2, h3, e3, h5, h6, h7, h8, h9, h10, h11⟩ ⟨fun j a1 a2 a3 a4 => ?_, fun _ _ => rfl⟩
  rw [ud_n (by omega), ud_n (by omega), ud_n (by omega)]
theorem x_push {K : Int32 → mm_i → mm_j → mm_a → mm_b → Prop} (h : rX tx n su sl lim (M, A, p, k, C, st, fs, bs, kp) i l a b) (hlt : fs.length < 7000) (x : xF) (hx : xvF x) {x1 x2 x3 x4 : Int32} (e1 : x1 = nI x.1) (e2 : x2 = nI x.2.1) (e3 : x3 = nI x.2.2.1) (e4 : x4 = nI x.2.2.2.1)
    (hK : ∀ i' b', rX tx n su sl lim (M, A, p, k, C, st, fs ++ [x], bs, kp) i' l a b' → rV i l i' l → (∀ j, ¬ j = 16 → i' j = i j) → K (nI fs.length) i' l a b') : wp_Model_push_0 i l a b x1 x2 x3 x4 K := by
  obtain ⟨h0, h1, h2, h3, h4, h5, h6, h7, h8, h9, h10, h11⟩ := h
  have h7 : i 16 + 1 = nI fs.length := h7
  unfold wp_Model_push_0
  rw [h7, nI_clamp (by omega)]
  refine ⟨vp_in_nI hlt (by decide), ?_⟩
  refine hK _ _ ⟨rY_same h0 rfl rfl rfl, h1, h2, h3, h4, h5, h6, ?_, h8, fun f y hy => ?_, fun f y hy => ?_, fun s hs => ?_⟩ ⟨fun j a1 a2 a3 a4 => ud_n a2, fun _ _ => rfl⟩ (fun j hj => ud_n hj)
  · show upd i 16 (nI fs.length) 16 + 1 = nI (fs ++ [x]).length
    rw [ud_s, nI_1, List.length_append]
    rfl
  · have hy : (fs ++ [x])[f]? = some y := hy
    rw [mb_s]
    by_cases q : f < fs.length
    · rw [List.getElem?_append_left q] at hy
      obtain ⟨g1, g2⟩ := h9 f y hy
      exact ⟨g1, by rw [pk_uLn (by omega)]; exact g2⟩
    · rw [List.getElem?_append_right (by omega)] at hy
      have hf : f = fs.length := by
        have := (List.getElem?_eq_some_iff.mp hy).1
        simp at this
        omega
      subst hf
      rw [Nat.sub_self] at hy
      cases hy
      refine ⟨hx, ?_⟩
      rw [pk_uLs, e1, e2, e3, e4]
      exact xp_pack hx.1 hx.2.1 hx.2.2.1 hx.2.2.2
  · rw [mb_n (by decide), mb_n (by decide)]
    exact h10 f y hy
  · rw [mb_n (by decide)]
    exact h11 s hs
theorem x_pushB {K : mm_i → mm_j → mm_a → mm_b → Prop} (h : rX tx n su sl lim (M, A, p, k, C, st, fs, bs, kp) i l a b) (hlt : bs.length < 4000) (hf1 : 1 ≤ fs.length) (hf : fs.length ≤ 7000) (hp : p < 64) (md wh fr : Nat) (h1x : md < 8) (h2x : wh < 64) (h3x : fr < 8192) {x1 x2 x3 : Int32} (e1 : x1 = nI md) (e2 : x2 = nI wh) (e3 : x3 = nI fr)
    (hK : ∀ i' b', rX tx n su sl lim (M, A, p, k, C, st, fs, bs ++ [(md, wh, p, fr, fs.length - 1, C)], kp) i' l a b' → rV i l i' l → (∀ j, ¬ j = 19 → i' j = i j) → K i' l a b') : wp_Model_pushBack_0 i l a b x1 x2 x3 K := by
  obtain ⟨h0, h1, h2, h3, h4, h5, h6, h7, h8, h9, h10, h11⟩ := h
  have h3 : i 24 = nI p := h3
  have h7 : i 16 + 1 = nI fs.length := h7
  have h8 : i 19 = nI bs.length := h8
  have h16 : i 16 = nI (fs.length - 1) := by
    have e : i 16 = i 16 + 1 - 1 := by rw [Int32.add_sub_cancel]
    rw [e, h7, show (1 : Int32) = nI 1 from rfl, pk_sub hf1]
  unfold wp_Model_pushBack_0
  rw [h8, nI_clamp (by omega), h3, h16, e1, e2, e3, xp_packB h1x h2x hp h3x (by omega)]
  refine ⟨vp_in_nI hlt (by decide), vp_in_nI hlt (by decide), ?_⟩
  rw [nI_1]
  refine hK _ _ ⟨rY_same h0 rfl rfl rfl, h1, h2, h3, h4, h5, h6, h7, ?_, fun f y hy => ?_, fun f y hy => ?_, fun s hs => ?_⟩ ⟨fun j a1 a2 a3 a4 => ud_n a3, fun _ _ => rfl⟩ (fun j hj => ud_n hj)
  · show upd i 19 (nI (bs.length + 1)) 19 = nI (bs ++ [_]).length
    rw [ud_s, List.length_append]
    rfl
  · rw [mb_n (by decide), mb_n (by decide)]
    exact h9 f y hy
  · have hy : (bs ++ [(md, wh, p, fr, fs.length - 1, C)])[f]? = some y := hy
    rw [mb_n (show (7 : Nat) ≠ 8 by decide), mb_s, mb_s]
    by_cases q : f < bs.length
    · rw [List.getElem?_append_left q] at hy
      obtain ⟨g1, g2, g3⟩ := h10 f y hy
      refine ⟨g1, ?_, ?_⟩
      · rw [pk_uLn (by omega)]; exact g2
      · rw [pk_uLn (by omega)]; exact g3
    · rw [List.getElem?_append_right (by omega)] at hy
      have hf : f = bs.length := by
        have := (List.getElem?_eq_some_iff.mp hy).1
        simp at this
        omega
      subst hf
      rw [Nat.sub_self] at hy
      cases hy
      refine ⟨⟨h1x, h2x, hp, h3x, by show fs.length - 1 < 8192; omega⟩, ?_, ?_⟩
      · rw [pk_uLs]
        rfl
      · rw [pk_uLs]
        exact h5
  · rw [mb_n (by decide), mb_n (by decide)]
    exact h11 s hs
theorem x_frame (h : xrF fs b) {f : Nat} (hf : fs.length ≤ 7000) {x : xF} (hx : fs[f]? = some x) {x1 : Int32} (ex : x1 = nI f) : vp_in x1 7000 ∧ (((b 5) x1.toNatClampNeg).toInt32) &&& (15 : Int32) = nI x.1 ∧ ((((b 5) x1.toNatClampNeg) >>> ((4 : Int32).toInt64 &&& 63)).toInt32) &&& (63 : Int32) = nI x.2.1 ∧ ((((b 5) x1.toNatClampNeg) >>> ((10 : Int32).toInt64 &&& 63)).toInt32) &&& (8191 : Int32) = nI x.2.2.1 ∧ ((((b 5) x1.toNatClampNeg) >>> ((23 : Int32).toInt64 &&& 63)).toInt32) &&& (8191 : Int32) = nI x.2.2.2.1 := by
  obtain ⟨hv, hb⟩ := h f x hx
  have hlt := (List.getElem?_eq_some_iff.mp hx).1
  have hl := xpF_lt hv
  obtain ⟨v1, v2, v3, v4⟩ := hv
  rw [ex, nI_clamp (by omega), hb, show (4 : Int32) = nI 4 from rfl, show (10 : Int32) = nI 10 from rfl, show (23 : Int32) = nI 23 from rfl, xp_sar hl (by decide), xp_sar hl (by decide), xp_sar hl (by decide)]
  refine ⟨vp_in_nI (by omega) (by decide), ?_, ?_, ?_, ?_⟩
  · rw [xp_and 4 (by decide) (by decide)]
    congr 1
    unfold xpF
    omega
  · rw [xp_and 6 (by decide) (by decide)]
    congr 1
    unfold xpF
    omega
  · rw [xp_and 13 (by decide) (by decide)]
    congr 1
    unfold xpF
    omega
  · rw [xp_and 13 (by decide) (by decide)]
    congr 1
    unfold xpF
    omega
end XM
