/-! the two machines: what stands around a place -/
def cE (C C' : Nat → Nat) : Prop := ∀ g, g < 4 → C' g = C g % 64 * 64 + C g / 64
def atN (tx : Nat → Nat) (n ni : Nat) (ip : Nat → Nat) (N : Option Nat) (A : Nat) : Prop := (N = none ∧ x_re tx n A) ∨ ∃ it, N = some it ∧ it < ni ∧ ip it = A
section BI
variable {tx : Nat → Nat} {n ni nr : Nat} {P : pg} {ip rp : Nat → Nat}
theorem rpv_of {e : Nat} (hd : xt tx n e = 123 → 48 ≤ xt tx n (e + 1)) : (x_rpv tx n e = 0 ↔ ¬ x_any (xt tx n e)) ∧ (x_rpv tx n e = 1 ↔ xt tx n e = 123 ∧ xt tx n (e + 1) = 48) ∧ (x_rpv tx n e = 2 ↔ xt tx n e = 63) ∧ (x_rpv tx n e = 3 ↔ xt tx n e = 42) ∧ (x_rpv tx n e = 4 ↔ xt tx n e = 43) ∧ (x_rpv tx n e = 5 ↔ xt tx n e = 123 ∧ ¬ xt tx n (e + 1) = 48) := by
  unfold x_rpv x_any
  by_cases h1 : xt tx n e = 42
  · rw [if_pos h1]; omega
  rw [if_neg h1]
  by_cases h2 : xt tx n e = 43
  · rw [if_pos h2]; omega
  rw [if_neg h2]
  by_cases h3 : xt tx n e = 63
  · rw [if_pos h3]; omega
  rw [if_neg h3]
  by_cases h4 : xt tx n e = 123
  · rw [if_pos h4]
    have := hd h4
    by_cases h5 : xt tx n (e + 1) - 48 = 0
    · rw [if_pos h5]; omega
    · rw [if_neg h5]; omega
  · rw [if_neg h4]; omega
theorem mnv_le {e : Nat} : x_mnv tx n e ≤ 2 ∧ (¬ x_any (xt tx n e) → x_mnv tx n e = 0) := by
  unfold x_mnv
  by_cases h : x_any (xt tx n e)
  · rw [if_pos h]
    refine ⟨?_, fun w => absurd h w⟩
    generalize xt tx n (if xt tx n e = 123 then e + 3 else e + 1) = w
    split
    · omega
    · split <;> omega
  · rw [if_neg h]
    exact ⟨by omega, fun _ => rfl⟩
theorem any_lt {e : Nat} (h : x_any (xt tx n e)) : e < n := by
  rcases h with h | h | h | h
  · exact (x_in h (by decide)).1
  · exact (x_in h (by decide)).1
  · exact (x_in h (by decide)).1
  · exact (x_in h (by decide)).1
/-- all that is known of an item and its repeat -/
def itF (tx : Nat → Nat) (n : Nat) (P : pg) (A it : Nat) : Prop := (A < n ∧ ¬ x_re tx n A ∧ A + 1 ≤ x_ba tx n A ∧ x_ba tx n A ≤ x_bh tx n A ∧ x_bh tx n A ≤ n) ∧ ((q_rp P it = 0 ↔ ¬ x_any (x_r tx n A)) ∧ (q_rp P it = 1 ↔ x_r tx n A = 123 ∧ xt tx n (x_ba tx n A + 1) = 48) ∧ (q_rp P it = 2 ↔ x_r tx n A = 63) ∧ (q_rp P it = 3 ↔ x_r tx n A = 42) ∧ (q_rp P it = 4 ↔ x_r tx n A = 43) ∧ (q_rp P it = 5 ↔ x_r tx n A = 123 ∧ ¬ xt tx n (x_ba tx n A + 1) = 48)) ∧ ((q_mn P it = 1 ↔ x_how tx n A = 63) ∧ (q_mn P it = 2 ↔ x_how tx n A = 43) ∧ q_mn P it ≤ 2) ∧ (x_any (x_r tx n A) → x_ba tx n A < n ∧ x_ba tx n A + 1 ≤ x_bh tx n A) ∧ (q_mn P it = 2 → x_ba tx n A + 2 ≤ x_bh tx n A) ∧ (¬ x_any (x_r tx n A) → x_bh tx n A = x_ba tx n A ∧ q_mn P it = 0) ∧ (x_r tx n A = 123 → q_tm P it = xt tx n (x_ba tx n A + 1) - 48 ∧ 48 ≤ xt tx n (x_ba tx n A + 1) ∧ xt tx n (x_ba tx n A + 1) ≤ 57)
theorem it_f (h : ST tx n P ni nr ip rp) {it : Nat} (hit : it < ni) : itF tx n P (ip it) it := by
  obtain ⟨a1, a2, a3, ⟨b1, b2, b3, b4, b5⟩, a5⟩ := h.1 it hit
  obtain ⟨c1, c2, c3, c4, c5, c6, c7, c8⟩ := bh_of rfl b4
  have hb := (y_br_le (dx := tx) (n := n) b5 b4).2
  have hr := rpv_of (tx := tx) (n := n) (e := x_ba tx n (ip it)) (fun w => (c8 w).2.1)
  have hm := mnv_le (tx := tx) (n := n) (e := x_ba tx n (ip it))
  have hgt := (x_ba_gt (tx := tx) (n := n) (k := ip it)).1
  refine ⟨⟨a1, a2, hgt, c4, hb⟩, ?_, ?_, fun w => ⟨any_lt w, c5 w⟩, fun w => c6 (by rw [← b2]; exact w), fun w => ⟨c7 w, b2.trans (hm.2 w)⟩, fun w => ⟨b3 w, (c8 w).2⟩⟩
  · rw [b1]
    exact hr
  · rw [b2]
    exact ⟨c2.symm, c3.symm, hm.1⟩
theorem it_nx (h : ST tx n P ni nr ip rp) {it : Nat} (hit : it < ni) : atN tx n ni ip (q_nx P it) (x_bh tx n (ip it)) := by
  obtain ⟨a1, a2, a3, a4, a5⟩ := h.1 it hit
  rcases a5 with ⟨b, b1, b2, b3⟩ | a5
  · exact Or.inr ⟨b, b1, b2, b3⟩
  · exact Or.inl a5
theorem it_cl (h : ST tx n P ni nr ip rp) {it : Nat} (hit : it < ni) {d : Nat} (hd : 1 ≤ d) : x_cl tx n n d (ip it) = x_cl tx n n d (x_bh tx n (ip it)) := by
  obtain ⟨a1, a2, a3, ⟨b1, b2, b3, b4, b5⟩, a5⟩ := h.1 it hit
  have hpl := br_plr b5 b4
  have hk2 := y_br_le (dx := tx) (n := n) b5 b4
  have sk : x_cl tx n n d (x_ba tx n (ip it)) = x_cl tx n n d (x_bh tx n (ip it)) := cl_skip hk2.1 (fun q a b => ⟨(hpl q a b).1, (hpl q a b).2.1, (hpl q a b).2.2.1⟩)
  have grp : xt tx n (ip it) = 40 → x_cl tx n n d (ip it) = x_cl tx n n d (x_bh tx n (ip it)) := by
    intro w
    have e : x_ba tx n (ip it) = x_cl tx n n 1 (ip it + 1) + 1 := if_pos w
    rw [← sk, cl_40 w, cl_split hd n (ip it + 1) 1 (by omega) (by omega) (by omega), e]
  rcases a3 with ⟨w, _⟩ | ⟨w, _⟩ | ⟨e, w1, w2, _⟩
  · exact grp w
  · exact grp w
  · obtain ⟨q1, q2, q3, q4⟩ := bp_of w2
    rw [q4 d hd, ← q1, sk]
end BI
/-! rows, done items, asked atoms -/
def rwF (tx : Nat → Nat) (n : Nat) (ip : Nat → Nat) (fs : List mF) (R : Nat → Nat → Nat → Prop) (F K L A : Nat) : Prop := R F K L ∧ ∃ y, fs[F]? = some y ∧ y.1 ≤ 2 ∧ (y.1 = 1 → x_cl tx n n 1 A = x_cl tx n n 1 (ip y.2.1 + 1))
def dkF (tx : Nat → Nat) (n : Nat) (P : pg) (ip : Nat → Nat) (fs : List mF) (xs : List xF) (R : Nat → Nat → Nat → Prop) (it F K L : Nat) : Prop := (q_mn P it = 2 ∧ R F K L ∧ ∃ y, fs[F]? = some y ∧ y.1 = 6 ∧ y.2.1 = it) ∨ (¬ q_mn P it = 2 ∧ ∃ x, xs[K]? = some x ∧ x.1 = 1 ∧ x.2.1 = x_bh tx n (ip it) ∧ x.2.2.2.1 < K ∧ rwF tx n ip fs R F x.2.2.2.1 L (x_bh tx n (ip it)))
def akF (tx : Nat → Nat) (n : Nat) (P : pg) (ip : Nat → Nat) (fs : List mF) (xs : List xF) (R : Nat → Nat → Nat → Prop) (it F K L : Nat) : Prop := ((q_rp P it = 0 ∨ q_rp P it = 2) ∧ dkF tx n P ip fs xs R it F K L) ∨ (¬ (q_rp P it = 0 ∨ q_rp P it = 2) ∧ R F K L ∧ ∃ y, fs[F]? = some y ∧ (y.1 = 3 ∨ y.1 = 4 ∨ y.1 = 5) ∧ y.2.1 = it)
/-- frames that stand in both machines -/
def rkX (tx : Nat → Nat) (n : Nat) (P : pg) (ip : Nat → Nat) (fs : List mF) (xs : List xF) (cs : List mC) (kp : Nat → Nat → Nat) (S : Nat) (R : Nat → Nat → Nat → Prop) (y : mF) (x : xF) (L : Nat) : Prop :=
  (y.1 = 1 ∧ q_kd P y.2.1 = 5 ∧ x.1 = 2 ∧ x.2.1 = x_gc tx n (ip y.2.1 + 1) ∧ x.2.2.1 = y.2.2.2.1 ∧ akF tx n P ip fs xs R y.2.1 y.2.2.2.2.2.1 x.2.2.2.1 L) ∨
  (y.1 = 1 ∧ q_kd P y.2.1 = 9 ∧ x.1 = 7 ∧ x.2.2.1 = y.2.2.1 ∧ y.2.2.1 ≤ L ∧ akF tx n P ip fs xs R y.2.1 y.2.2.2.2.2.1 x.2.2.2.1 y.2.2.1) ∨
  (y.1 = 1 ∧ q_kd P y.2.1 = 7 ∧ x.1 = 8 ∧ x.2.1 = y.2.2.2.1 ∧ x.2.2.1 = y.2.2.1 ∧ y.2.2.1 ≤ L ∧ akF tx n P ip fs xs R y.2.1 y.2.2.2.2.2.1 x.2.2.2.1 y.2.2.1) ∨
  (y.1 = 1 ∧ q_kd P y.2.1 = 8 ∧ x.1 = 9 ∧ x.2.2.1 = y.2.2.1 ∧ y.2.2.1 < L ∧ ∃ z, cs[y.2.2.1]? = some z ∧ z.1 = 4) ∨
  (y.1 = 2 ∧ x.1 = 3 ∧ x.2.2.1 ≤ S ∧ cE y.2.2.2.2.1 (kp x.2.2.1) ∧ akF tx n P ip fs xs R y.2.1 y.2.2.2.2.2.1 x.2.2.2.1 L) ∨
  (y.1 = 3 ∧ (q_rp P y.2.1 = 3 ∨ q_rp P y.2.1 = 4) ∧ x.1 = (if q_mn P y.2.1 = 1 then 5 else 4) ∧ x.2.1 = ip y.2.1 ∧ x.2.2.1 = y.2.2.2.1 ∧ dkF tx n P ip fs xs R y.2.1 y.2.2.2.2.2.1 x.2.2.2.1 L) ∨
  (y.1 = 4 ∧ q_rp P y.2.1 = 4 ∧ x.1 = (if q_mn P y.2.1 = 1 then 11 else 10) ∧ x.2.1 = ip y.2.1 ∧ dkF tx n P ip fs xs R y.2.1 y.2.2.2.2.2.1 x.2.2.2.1 L) ∨
  (y.1 = 5 ∧ q_rp P y.2.1 = 5 ∧ x.1 = 6 ∧ x.2.1 = ip y.2.1 ∧ x.2.2.1 + 1 = y.2.2.1 ∧ dkF tx n P ip fs xs R y.2.1 y.2.2.2.2.2.1 x.2.2.2.1 L) ∨
  (y.1 = 6 ∧ q_mn P y.2.1 = 2 ∧ x.1 = 7 ∧ x.2.2.1 = y.2.2.1 ∧ y.2.2.1 ≤ L ∧ ∃ x2, xs[x.2.2.2.1]? = some x2 ∧ x2.1 = 1 ∧ x2.2.1 = x_bh tx n (ip y.2.1) ∧ x2.2.2.2.1 < x.2.2.2.1 ∧ rwF tx n ip fs R y.2.2.2.2.2.1 x2.2.2.2.1 y.2.2.1 (x_bh tx n (ip y.2.1)))
def RK (tx : Nat → Nat) (n : Nat) (P : pg) (ni : Nat) (ip : Nat → Nat) (fs : List mF) (xs : List xF) (cs : List mC) (kp : Nat → Nat → Nat) (S : Nat) : Nat → Nat → Nat → Nat → Prop
  | 0, _, _, _ => False
  | r + 1, F, K, L => ∃ y, fs[F]? = some y ∧ y.2.2.2.2.2.2 = (xg xs K).2.2.2.2.2.2.2.1 ∧ (y.1 = 0 ∨ (y.2.1 < ni ∧ y.2.2.2.2.2.2 = (if y.1 = 2 then 1 else 0) + m_cl fs y.2.2.2.2.2.1)) ∧ ((y.1 = 0 ∧ K = 0) ∨ (y.1 = 1 ∧ q_kd P y.2.1 = 6 ∧ akF tx n P ip fs xs (RK tx n P ni ip fs xs cs kp S r) y.2.1 y.2.2.2.2.2.1 K L) ∨ ∃ x, xs[K]? = some x ∧ 1 ≤ K ∧ x.2.2.2.1 < K ∧ rkX tx n P ip fs xs cs kp S (RK tx n P ni ip fs xs cs kp S r) y x L)
section BM
variable {tx : Nat → Nat} {n ni : Nat} {P : pg} {ip : Nat → Nat} {fs fs' : List mF} {xs xs' : List xF} {cs cs' : List mC} {kp kp' : Nat → Nat → Nat} {S S' : Nat}
theorem rw_mono {R R' : Nat → Nat → Nat → Prop} {F K L L' A : Nat} (h : rwF tx n ip fs R F K L A) (hf : ∀ (i : Nat) (y : mF), fs[i]? = some y → fs'[i]? = some y) (hR : R F K L → R' F K L') : rwF tx n ip fs' R' F K L' A := by
  obtain ⟨h1, y, h2, h3, h4⟩ := h
  exact ⟨hR h1, y, hf _ _ h2, h3, h4⟩
theorem dk_mono {R R' : Nat → Nat → Nat → Prop} {it F K L L' : Nat} (h : dkF tx n P ip fs xs R it F K L) (hf : ∀ (i : Nat) (y : mF), fs[i]? = some y → fs'[i]? = some y) (hx : ∀ i : Nat, i ≤ K → xs'[i]? = xs[i]?) (hR : ∀ K2, K2 ≤ K → R F K2 L → R' F K2 L') : dkF tx n P ip fs' xs' R' it F K L' := by
  rcases h with ⟨h1, h2, y, h3, h4, h5⟩ | ⟨h1, x, h2, h3, h4, h5, h6⟩
  · exact Or.inl ⟨h1, hR K (Nat.le_refl _) h2, y, hf _ _ h3, h4, h5⟩
  · exact Or.inr ⟨h1, x, by rw [hx K (Nat.le_refl _)]; exact h2, h3, h4, h5, rw_mono h6 hf (hR _ (by omega))⟩
theorem ak_mono {R R' : Nat → Nat → Nat → Prop} {it F K L L' : Nat} (h : akF tx n P ip fs xs R it F K L) (hf : ∀ (i : Nat) (y : mF), fs[i]? = some y → fs'[i]? = some y) (hx : ∀ i : Nat, i ≤ K → xs'[i]? = xs[i]?) (hR : ∀ K2, K2 ≤ K → R F K2 L → R' F K2 L') : akF tx n P ip fs' xs' R' it F K L' := by
  rcases h with ⟨h1, h2⟩ | ⟨h1, h2, y, h3, h4, h5⟩
  · exact Or.inl ⟨h1, dk_mono h2 hf hx hR⟩
  · exact Or.inr ⟨h1, hR K (Nat.le_refl _) h2, y, hf _ _ h3, h4, h5⟩
theorem xg_eq {K : Nat} (hx : xs'[K]? = xs[K]?) : xg xs' K = xg xs K := by
  unfold xg
  rw [hx]
theorem mcl_eq {F : Nat} {y : mF} (h : fs[F]? = some y) : m_cl fs F = y.2.2.2.2.2.2 := by
  unfold m_cl
  rw [h]
  rfl
theorem RK_in {r F K L : Nat} (h : RK tx n P ni ip fs xs cs kp S r F K L) : ∃ y, fs[F]? = some y ∧ y.2.2.2.2.2.2 = (xg xs K).2.2.2.2.2.2.2.1 := by
  cases r with
  | zero => exact h.elim
  | succ r =>
    obtain ⟨y, h1, h2, _⟩ := h
    exact ⟨y, h1, h2⟩
theorem RK_mono (hf : ∀ (i : Nat) (y : mF), fs[i]? = some y → fs'[i]? = some y) (hfi : ∀ (i : Nat) (y : mF), fs[i]? = some y → ∀ j, j = y.2.2.2.2.2.1 → j < fs.length) (hkp : ∀ s, s ≤ S → kp' s = kp s) (hS : S ≤ S') : ∀ (r F K L L' : Nat), (∀ i : Nat, i ≤ K → xs'[i]? = xs[i]?) → (∀ i : Nat, i < L → cs'[i]? = cs[i]?) → L ≤ L' → RK tx n P ni ip fs xs cs kp S r F K L → RK tx n P ni ip fs' xs' cs' kp' S' r F K L' := by
  intro r
  induction r with
  | zero => intro F K L L' _ _ _ h; exact h
  | succ r ih =>
    intro F K L L' hx hc hL h
    obtain ⟨y, h1, h2, h3, h4⟩ := h
    have hcl : m_cl fs' y.2.2.2.2.2.1 = m_cl fs y.2.2.2.2.2.1 := by
      have hlt := hfi F y h1 _ rfl
      have e := List.getElem?_eq_getElem hlt
      unfold m_cl
      rw [e, hf _ _ e]
    have hR : ∀ (F2 L2 L3 : Nat), L2 ≤ L → L2 ≤ L3 → ∀ K2, K2 ≤ K → RK tx n P ni ip fs xs cs kp S r F2 K2 L2 → RK tx n P ni ip fs' xs' cs' kp' S' r F2 K2 L3 := fun F2 L2 L3 q1 q2 K2 hK2 hq => ih F2 K2 L2 L3 (fun i hi => hx i (by omega)) (fun i hi => hc i (by omega)) q2 hq
    refine ⟨y, hf _ _ h1, by rw [xg_eq (hx K (Nat.le_refl _))]; exact h2, by rw [hcl]; exact h3, ?_⟩
    rcases h4 with h4 | ⟨a1, a2, a3⟩ | ⟨x, a1, a2, a3, a4⟩
    · exact Or.inl h4
    · exact Or.inr (Or.inl ⟨a1, a2, ak_mono a3 hf hx (hR _ L L' (Nat.le_refl _) hL)⟩)
    · refine Or.inr (Or.inr ⟨x, by rw [hx K (Nat.le_refl _)]; exact a1, a2, a3, ?_⟩)
      have hx2 : ∀ i : Nat, i ≤ x.2.2.2.1 → xs'[i]? = xs[i]? := fun i hi => hx i (by omega)
      have hR2 : ∀ (F2 L2 L3 : Nat), L2 ≤ L → L2 ≤ L3 → ∀ K2, K2 ≤ x.2.2.2.1 → RK tx n P ni ip fs xs cs kp S r F2 K2 L2 → RK tx n P ni ip fs' xs' cs' kp' S' r F2 K2 L3 := fun F2 L2 L3 q1 q2 K2 hK2 => hR F2 L2 L3 q1 q2 K2 (by omega)
      rcases a4 with b | b | b | b | b | b | b | b | b
      · obtain ⟨b1, b2, b3, b4, b5, b6⟩ := b
        exact Or.inl ⟨b1, b2, b3, b4, b5, ak_mono b6 hf hx2 (hR2 _ L L' (Nat.le_refl _) hL)⟩
      · obtain ⟨b1, b2, b3, b4, b5, b6⟩ := b
        exact Or.inr (Or.inl ⟨b1, b2, b3, b4, by omega, ak_mono b6 hf hx2 (hR2 _ _ _ b5 (Nat.le_refl _))⟩)
      · obtain ⟨b1, b2, b3, b4, b5, b6, b7⟩ := b
        exact Or.inr (Or.inr (Or.inl ⟨b1, b2, b3, b4, b5, by omega, ak_mono b7 hf hx2 (hR2 _ _ _ b6 (Nat.le_refl _))⟩))
      · obtain ⟨b1, b2, b3, b4, b5, z, b6, b7⟩ := b
        exact Or.inr (Or.inr (Or.inr (Or.inl ⟨b1, b2, b3, b4, by omega, z, by rw [hc _ b5]; exact b6, b7⟩)))
      · obtain ⟨b1, b2, b3, b4, b5⟩ := b
        exact Or.inr (Or.inr (Or.inr (Or.inr (Or.inl ⟨b1, b2, by omega, by rw [hkp _ b3]; exact b4, ak_mono b5 hf hx2 (hR2 _ L L' (Nat.le_refl _) hL)⟩))))
      · obtain ⟨b1, b2, b3, b4, b5, b6⟩ := b
        exact Or.inr (Or.inr (Or.inr (Or.inr (Or.inr (Or.inl ⟨b1, b2, b3, b4, b5, dk_mono b6 hf hx2 (hR2 _ L L' (Nat.le_refl _) hL)⟩)))))
      · obtain ⟨b1, b2, b3, b4, b6⟩ := b
        exact Or.inr (Or.inr (Or.inr (Or.inr (Or.inr (Or.inr (Or.inl ⟨b1, b2, b3, b4, dk_mono b6 hf hx2 (hR2 _ L L' (Nat.le_refl _) hL)⟩))))))
      · obtain ⟨b1, b2, b3, b4, b5, b6⟩ := b
        exact Or.inr (Or.inr (Or.inr (Or.inr (Or.inr (Or.inr (Or.inr (Or.inl ⟨b1, b2, b3, b4, b5, dk_mono b6 hf hx2 (hR2 _ L L' (Nat.le_refl _) hL)⟩)))))))
      · obtain ⟨b1, b2, b3, b4, b5, x2, b6, b7, b8, b9, b10⟩ := b
        exact Or.inr (Or.inr (Or.inr (Or.inr (Or.inr (Or.inr (Or.inr (Or.inr ⟨b1, b2, b3, b4, by omega, x2, by rw [hx2 _ (Nat.le_refl _)]; exact b6, b7, b8, b9, rw_mono b10 hf (hR2 _ _ _ b5 (Nat.le_refl _) _ (by omega))⟩)))))))
end BM
