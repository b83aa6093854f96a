/-! THE MINI LAYER: worlds with addresses 0, 1, 2 .. ; a judgement mm_V over them; blocks of instructions that run by computation -/
abbrev mm_C : Type := (FieldType × vp_A) ⊕ (Nat × List Value)
abbrev mm_H : Type := List mm_C
abbrev mm_L : Type := List (Option Value)
/-- pc, instruction, its length, a constant, two numbers (a class and a field; a target) -/
abbrev mm_I : Type := Nat × Instr × Nat × Value × Nat × Nat
def mm_v (ρ : List Nat) (u v : Value) : Prop := match u with
  | .ref a => ∃ b, ρ[a]? = some b ∧ v = .ref b
  | u => v = u
def mm_vs (ρ : List Nat) : List Value → List Value → Prop
  | [], vs => vs = []
  | u :: us, vs => ∃ v vs', vs = v :: vs' ∧ mm_v ρ u v ∧ mm_vs ρ us vs'
def mm_ov (ρ : List Nat) (u v : Option Value) : Prop := match u with
  | none => v = none
  | some x => ∃ y, v = some y ∧ mm_v ρ x y
def mm_e (cA : FieldType → ClassId) (ρ : List Nat) (x : mm_C) (y : va_E) : Prop := match x with
  | .inl a => y = .inl (cA a.1, a.2)
  | .inr o => ∃ fs, y = .inr (o.1, fs) ∧ mm_vs ρ o.2 fs
def mm_w (cA : FieldType → ClassId) (ρ : List Nat) (w : mm_H) (ws : va_W) : Prop := ρ.length = w.length ∧ ws.length = w.length ∧ ∀ (i : Nat) (x : mm_C), w[i]? = some x → ∃ (b : Nat) (y : va_E), ρ[i]? = some b ∧ ws[i]? = some (b, y) ∧ mm_e cA ρ x y
def mm_l (nL : Nat) (ρ : List Nat) (ls : Array Slot) (L : mm_L) : Prop := ls.size = nL ∧ L.length = nL ∧ lv_wf ls ∧ ∀ (i : Nat) (u : Value), L[i]? = some (some u) → ∃ v, ls[i]? = some (.val v) ∧ mm_v ρ u v
theorem mm_v_mono {ρ ρ' : List Nat} (h : ∀ a, a < ρ.length → ρ'[a]? = ρ[a]?) {u v : Value} (hv : mm_v ρ u v) : mm_v ρ' u v := by
  cases u with
  | ref a =>
    obtain ⟨b, h1, h2⟩ := hv
    exact ⟨b, by rw [h a (List.getElem?_eq_some_iff.mp h1).1]; exact h1, h2⟩
  | _ => exact hv
theorem mm_vs_mono {ρ ρ' : List Nat} (h : ∀ a, a < ρ.length → ρ'[a]? = ρ[a]?) : ∀ {us vs : List Value}, mm_vs ρ us vs → mm_vs ρ' us vs
  | [], _, hv => hv
  | _ :: _, _, ⟨v, vs', e, h1, h2⟩ => ⟨v, vs', e, mm_v_mono h h1, mm_vs_mono h h2⟩
theorem mm_e_mono {cA : FieldType → ClassId} {ρ ρ' : List Nat} (h : ∀ a, a < ρ.length → ρ'[a]? = ρ[a]?) {x : mm_C} {y : va_E} (hv : mm_e cA ρ x y) : mm_e cA ρ' x y := by
  cases x with
  | inl a => exact hv
  | inr o =>
    obtain ⟨fs, h1, h2⟩ := hv
    exact ⟨fs, h1, mm_vs_mono h h2⟩
theorem mm_l_mono {nL : Nat} {ρ ρ' : List Nat} (h : ∀ a, a < ρ.length → ρ'[a]? = ρ[a]?) {ls : Array Slot} {L : mm_L} (hl : mm_l nL ρ ls L) : mm_l nL ρ' ls L :=
  ⟨hl.1, hl.2.1, hl.2.2.1, fun i u hi => by
    obtain ⟨v, h1, h2⟩ := hl.2.2.2 i u hi
    exact ⟨v, h1, mm_v_mono h h2⟩⟩
theorem mm_v_cat {ρ : List Nat} {u v : Value} (h : mm_v ρ u v) : v.category = u.category := by
  cases u with
  | ref a =>
    obtain ⟨b, h1, h2⟩ := h
    rw [h2]; rfl
  | _ => rw [show v = _ from h]
theorem mm_vs_cat {ρ : List Nat} : ∀ {us vs : List Value}, mm_vs ρ us vs → (vs.map fun v => v.category) = (us.map fun v => v.category)
  | [], _, hv => by rw [show _ = [] from hv]
  | _ :: _, _, ⟨v, vs', e, h1, h2⟩ => by rw [e, List.map_cons, List.map_cons, mm_v_cat h1, mm_vs_cat h2]
theorem mm_vs_len {ρ : List Nat} : ∀ {us vs : List Value}, mm_vs ρ us vs → vs.length = us.length
  | [], _, hv => by rw [show _ = [] from hv]
  | _ :: _, _, ⟨v, vs', e, h1, h2⟩ => by rw [e, List.length_cons, List.length_cons, mm_vs_len h2]
theorem mm_vs_i {ρ : List Nat} {x : Int32} {us vs : List Value} (h : mm_vs ρ (.int x :: us) vs) : ∃ vs', vs = .int x :: vs' ∧ mm_vs ρ us vs' := by
  obtain ⟨v, vs', e, h1, h2⟩ := h
  have h1 : v = .int x := h1
  exact ⟨vs', by rw [e, h1], h2⟩
theorem mm_vs_j {ρ : List Nat} {x : Int64} {us vs : List Value} (h : mm_vs ρ (.long x :: us) vs) : ∃ vs', vs = .long x :: vs' ∧ mm_vs ρ us vs' := by
  obtain ⟨v, vs', e, h1, h2⟩ := h
  have h1 : v = .long x := h1
  exact ⟨vs', by rw [e, h1], h2⟩
theorem mm_vs_n {ρ : List Nat} {us vs : List Value} (h : mm_vs ρ (.null :: us) vs) : ∃ vs', vs = .null :: vs' ∧ mm_vs ρ us vs' := by
  obtain ⟨v, vs', e, h1, h2⟩ := h
  have h1 : v = .null := h1
  exact ⟨vs', by rw [e, h1], h2⟩
theorem mm_vs_r {ρ : List Nat} {a : Nat} {us vs : List Value} (h : mm_vs ρ (.ref a :: us) vs) : ∃ b vs', vs = .ref b :: vs' ∧ ρ[a]? = some b ∧ mm_vs ρ us vs' := by
  obtain ⟨v, vs', e, ⟨b, h1, h3⟩, h2⟩ := h
  exact ⟨b, vs', by rw [e, h3], h1, h2⟩
theorem mm_vs_app {ρ : List Nat} : ∀ {us us2 vs : List Value}, mm_vs ρ (us ++ us2) vs → ∃ v1 v2, vs = v1 ++ v2 ∧ mm_vs ρ us v1 ∧ mm_vs ρ us2 v2
  | [], _, vs, h => ⟨[], vs, rfl, rfl, h⟩
  | _ :: _, _, _, ⟨v, vs', e, h1, h2⟩ => by
    obtain ⟨v1, v2, e2, h3, h4⟩ := mm_vs_app h2
    exact ⟨v :: v1, v2, by rw [e, e2]; rfl, ⟨v, v1, rfl, h1, h3⟩, h4⟩
theorem mm_vs_join {ρ : List Nat} : ∀ {us us2 v1 v2 : List Value}, mm_vs ρ us v1 → mm_vs ρ us2 v2 → mm_vs ρ (us ++ us2) (v1 ++ v2)
  | [], _, _, _, h, h2 => by rw [show _ = [] from h]; exact h2
  | _ :: _, _, _, _, ⟨v, vs', e, h1, h2⟩, h3 => ⟨v, vs' ++ _, by rw [e]; rfl, h1, mm_vs_join h2 h3⟩
theorem mm_vs_rev {ρ : List Nat} : ∀ {us vs : List Value}, mm_vs ρ us vs → mm_vs ρ us.reverse vs.reverse
  | [], _, h => by rw [show _ = [] from h]; exact rfl
  | _ :: _, _, ⟨v, vs', e, h1, h2⟩ => by
    rw [e, List.reverse_cons, List.reverse_cons]
    exact mm_vs_join (mm_vs_rev h2) ⟨v, [], rfl, h1, rfl⟩
theorem mm_vs_get {ρ : List Nat} : ∀ {us vs : List Value}, mm_vs ρ us vs → ∀ {k : Nat} {u : Value}, us[k]? = some u → ∃ v, vs[k]? = some v ∧ mm_v ρ u v
  | [], _, _, _, _, hk => by simp at hk
  | _ :: _, _, ⟨v, vs', e, h1, h2⟩, 0, _, hk => by
    cases hk
    exact ⟨v, by rw [e]; rfl, h1⟩
  | _ :: _, _, ⟨v, vs', e, h1, h2⟩, k + 1, _, hk => by
    rw [List.getElem?_cons_succ] at hk
    obtain ⟨y, h3, h4⟩ := mm_vs_get h2 hk
    exact ⟨y, by rw [e, List.getElem?_cons_succ]; exact h3, h4⟩
theorem mm_vs_set {ρ : List Nat} {x y : Value} (hxy : mm_v ρ x y) : ∀ {us vs : List Value}, mm_vs ρ us vs → ∀ (k : Nat), mm_vs ρ (us.set k x) (vs.set k y)
  | [], _, h, _ => by rw [show _ = [] from h]; exact rfl
  | _ :: _, _, ⟨v, vs', e, h1, h2⟩, 0 => by rw [e]; exact ⟨y, vs', rfl, hxy, h2⟩
  | _ :: _, _, ⟨v, vs', e, h1, h2⟩, k + 1 => by rw [e]; exact ⟨v, vs'.set k y, rfl, h1, mm_vs_set hxy h2 k⟩
/-! locals -/
def mm_k1 (L : mm_L) (i : Nat) : mm_L := match i with
  | 0 => L
  | j + 1 => match L[j]? with
    | some (some (.long _)) => L.set j none
    | some (some (.double _)) => L.set j none
    | _ => L
def mm_s1 (L : mm_L) (i : Nat) (v : Value) : mm_L := (mm_k1 L i).set i (some v)
def mm_s2 (L : mm_L) (i : Nat) (v : Value) : mm_L := ((mm_k1 L i).set i (some v)).set (i + 1) none
theorem mm_k1_len (L : mm_L) (i : Nat) : (mm_k1 L i).length = L.length := by
  cases i with
  | zero => rfl
  | succ j =>
    show (match L[j]? with | some (some (.long _)) => L.set j none | some (some (.double _)) => L.set j none | _ => L).length = _
    split <;> simp
theorem mm_k1_get {L : mm_L} {i j : Nat} {u : Value} (h : (mm_k1 L i)[j]? = some (some u)) : L[j]? = some (some u) ∧ ¬ (j + 1 = i ∧ u.category = 2) := by
  cases i with
  | zero => exact ⟨h, fun q => by omega⟩
  | succ n =>
    have g : (match L[n]? with | some (some (.long _)) => L.set n none | some (some (.double _)) => L.set n none | _ => L)[j]? = some (some u) := h
    clear h
    revert g
    split
    · intro h
      rw [List.getElem?_set] at h
      by_cases e : n = j
      · rw [if_pos e] at h
        split at h <;> cases h
      · rw [if_neg e] at h
        exact ⟨h, fun q => e (by omega)⟩
    · intro h
      rw [List.getElem?_set] at h
      by_cases e : n = j
      · rw [if_pos e] at h
        split at h <;> cases h
      · rw [if_neg e] at h
        exact ⟨h, fun q => e (by omega)⟩
    · rename_i h1 h2
      intro h
      refine ⟨h, fun q => ?_⟩
      have e : j = n := by omega
      subst e
      cases u with
      | long x => exact h1 x h
      | double x => exact h2 x h
      | _ => exact absurd q.2 (by simp [Value.category])
def mm_lv (ls : Array Slot) : List (Nat × Value) := (List.range ls.size).filterMap (fun (i : Nat) => match ls[i]? with
  | some (.val v) => some (i, v)
  | _ => none)
theorem mm_lv_mem {ls : Array Slot} {i : Nat} {v : Value} : (i, v) ∈ mm_lv ls ↔ ls[i]? = some (.val v) := by
  constructor
  · intro h
    obtain ⟨j, -, hj⟩ := List.mem_filterMap.mp h
    split at hj
    · rename_i x hx
      cases hj
      exact hx
    · cases hj
  · intro h
    refine List.mem_filterMap.mpr ⟨i, List.mem_range.mpr (Array.getElem?_eq_some_iff.mp h).1, ?_⟩
    rw [h]
theorem mm_lv_has {ls : Array Slot} {nL : Nat} (hs : ls.size = nL) (hw : lv_wf ls) : lv_has ls nL (mm_lv ls) := ⟨hs, hw, fun q hq => mm_lv_mem.mp hq⟩
theorem mm_l_s1 {nL i : Nat} {ρ : List Nat} {ls ls' : Array Slot} {L : mm_L} {u v : Value} (hl : mm_l nL ρ ls L) (hv : mm_v ρ u v) (hi : i < nL)
    (h : lv_has ls' nL ((i, v) :: (mm_lv ls).filter (fun q => !(q.1 == i) && !(q.1 + 1 == i && q.2.category == 2)))) : mm_l nL ρ ls' (mm_s1 L i u) := by
  refine ⟨h.1, by rw [mm_s1, List.length_set, mm_k1_len]; exact hl.2.1, h.2.1, fun j x hj => ?_⟩
  rw [mm_s1, List.getElem?_set] at hj
  by_cases e : i = j
  · rw [if_pos e, mm_k1_len] at hj
    split at hj
    · cases hj
      exact ⟨v, by rw [← e]; exact h.2.2 (i, v) List.mem_cons_self, hv⟩
    · cases hj
  · rw [if_neg e] at hj
    obtain ⟨h1, h2⟩ := mm_k1_get hj
    obtain ⟨y, h3, h4⟩ := hl.2.2.2 j x h1
    refine ⟨y, h.2.2 (j, y) (List.mem_cons_of_mem _ (List.mem_filter.mpr ⟨mm_lv_mem.mpr h3, ?_⟩)), h4⟩
    have e2 : ¬ j = i := fun q => e q.symm
    rw [mm_v_cat h4]
    by_cases e3 : j + 1 = i
    · have e4 : ¬ x.category = 2 := fun q => h2 ⟨e3, q⟩
      simp [e2, e4]
    · simp [e2, e3]
theorem mm_l_s2 {nL i : Nat} {ρ : List Nat} {ls ls' : Array Slot} {L : mm_L} {u v : Value} (hl : mm_l nL ρ ls L) (hv : mm_v ρ u v) (hi : i + 1 < nL)
    (h : lv_has ls' nL ((i, v) :: (mm_lv ls).filter (fun q => !(q.1 == i) && (!(q.1 == i + 1) && !(q.1 + 1 == i && q.2.category == 2))))) : mm_l nL ρ ls' (mm_s2 L i u) := by
  refine ⟨h.1, by rw [mm_s2, List.length_set, List.length_set, mm_k1_len]; exact hl.2.1, h.2.1, fun j x hj => ?_⟩
  rw [mm_s2, List.getElem?_set] at hj
  by_cases e0 : i + 1 = j
  · rw [if_pos e0] at hj
    split at hj <;> cases hj
  · rw [if_neg e0, List.getElem?_set] at hj
    by_cases e : i = j
    · rw [if_pos e, mm_k1_len] at hj
      split at hj
      · cases hj
        exact ⟨v, by rw [← e]; exact h.2.2 (i, v) List.mem_cons_self, hv⟩
      · cases hj
    · rw [if_neg e] at hj
      obtain ⟨h1, h2⟩ := mm_k1_get hj
      obtain ⟨y, h3, h4⟩ := hl.2.2.2 j x h1
      refine ⟨y, h.2.2 (j, y) (List.mem_cons_of_mem _ (List.mem_filter.mpr ⟨mm_lv_mem.mpr h3, ?_⟩)), h4⟩
      have e2 : ¬ j = i := fun q => e q.symm
      have e5 : ¬ j = i + 1 := fun q => e0 q.symm
      rw [mm_v_cat h4]
      by_cases e3 : j + 1 = i
      · have e4 : ¬ x.category = 2 := fun q => h2 ⟨e3, q⟩
        simp [e2, e4, e5]
      · simp [e2, e3, e5]
/-- a method's arguments as its first locals -/
def mm_ar : List Value → mm_L
  | [] => []
  | v :: vs => if v.category = 2 then some v :: none :: mm_ar vs else some v :: mm_ar vs
def mm_args (nL : Nat) (vs : List Value) : mm_L := mm_ar vs ++ List.replicate (nL - (mm_ar vs).length) none
theorem mm_ar_len : ∀ (vs : List Value), (mm_ar vs).length = (lg_sl vs).length
  | [] => rfl
  | v :: vs => by
    have ih := mm_ar_len vs
    by_cases hc : v.category = 2
    · simp [mm_ar, lg_sl, hc] at *; omega
    · simp [mm_ar, lg_sl, hc] at *; omega
theorem mm_ar_get {ρ : List Nat} : ∀ {us vs : List Value}, mm_vs ρ us vs → ∀ (n i : Nat) (u : Value), (mm_ar us)[i]? = some (some u) → ∃ v, (n + i, v) ∈ lv_args n vs ∧ mm_v ρ u v
  | [], _, _, n, i, u, hi => by simp [mm_ar] at hi
  | x :: us, _, ⟨v, vs', e, h1, h2⟩, n, i, u, hi => by
    rw [e]
    by_cases hc : x.category = 2
    · have hc' : v.category = 2 := by rw [mm_v_cat h1]; exact hc
      simp only [mm_ar, hc, if_true] at hi
      match i, hi with
      | 0, hi =>
        cases hi
        exact ⟨v, by simp [lv_args], h1⟩
      | 1, hi => simp at hi
      | i + 2, hi =>
        rw [List.getElem?_cons_succ, List.getElem?_cons_succ] at hi
        obtain ⟨y, h3, h4⟩ := mm_ar_get h2 (n + 2) i u hi
        refine ⟨y, ?_, h4⟩
        simp only [lv_args, hc', if_true]
        rw [show n + (i + 2) = n + 2 + i by omega]
        exact List.mem_cons_of_mem _ h3
    · have hc' : ¬ v.category = 2 := by rw [mm_v_cat h1]; exact hc
      simp only [mm_ar, hc, if_false] at hi
      match i, hi with
      | 0, hi =>
        cases hi
        exact ⟨v, by simp [lv_args], h1⟩
      | i + 1, hi =>
        rw [List.getElem?_cons_succ] at hi
        obtain ⟨y, h3, h4⟩ := mm_ar_get h2 (n + 1) i u hi
        refine ⟨y, ?_, h4⟩
        simp only [lv_args, hc', if_false]
        rw [show n + (i + 1) = n + 1 + i by omega]
        exact List.mem_cons_of_mem _ h3
theorem mm_sl_cons (v : Value) (vs : List Value) : (lg_sl (v :: vs)).length = (if v.category = 2 then 2 else 1) + (lg_sl vs).length := by
  unfold lg_sl
  rw [List.flatMap_cons, List.length_append]
  split <;> rfl
theorem mm_sl_len {ρ : List Nat} : ∀ {us vs : List Value}, mm_vs ρ us vs → (lg_sl vs).length = (lg_sl us).length
  | [], _, h => by rw [show _ = [] from h]
  | x :: us, _, ⟨v, vs', e, h1, h2⟩ => by
    rw [e, mm_sl_cons, mm_sl_cons, mm_sl_len h2, mm_v_cat h1]
theorem mm_l_entry {nL : Nat} {ρ : List Nat} {us vs : List Value} (h : mm_vs ρ us vs) (hn : (mm_ar us).length ≤ nL) {ls : Array Slot} (hl : lv_has ls nL (lv_args 0 vs)) : mm_l nL ρ ls (mm_args nL us) := by
  refine ⟨hl.1, by simp [mm_args]; omega, hl.2.1, fun i u hi => ?_⟩
  rw [mm_args] at hi
  by_cases hi2 : i < (mm_ar us).length
  · rw [List.getElem?_append_left hi2] at hi
    obtain ⟨v, h1, h2⟩ := mm_ar_get h 0 i u hi
    rw [Nat.zero_add] at h1
    exact ⟨v, hl.2.2 (i, v) h1, h2⟩
  · rw [List.getElem?_append_right (by omega)] at hi
    have := List.eq_of_mem_replicate (List.mem_of_getElem? hi)
    cases this
/-! worlds -/
theorem mm_w_get {cA : FieldType → ClassId} {ρ : List Nat} {w : mm_H} {ws : va_W} (h : mm_w cA ρ w ws) {a b : Nat} {x : mm_C} (ha : w[a]? = some x) (hb : ρ[a]? = some b) : ∃ y, ws[a]? = some (b, y) ∧ mm_e cA ρ x y := by
  obtain ⟨b', y, h1, h2, h3⟩ := h.2.2 a x ha
  rw [hb] at h1
  cases h1
  exact ⟨y, h2, h3⟩
theorem mm_w_set {cA : FieldType → ClassId} {ρ : List Nat} {w : mm_H} {ws : va_W} (h : mm_w cA ρ w ws) {a b : Nat} {x : mm_C} {y : va_E} (hb : ρ[a]? = some b) (he : mm_e cA ρ x y) : mm_w cA ρ (w.set a x) (ws.set a (b, y)) := by
  refine ⟨by rw [List.length_set]; exact h.1, by rw [List.length_set, List.length_set]; exact h.2.1, fun i z hz => ?_⟩
  rw [List.getElem?_set] at hz
  by_cases e : a = i
  · rw [if_pos e] at hz
    split at hz
    · rename_i hlt
      cases hz
      refine ⟨b, y, by rw [← e]; exact hb, ?_, he⟩
      rw [List.getElem?_set, if_pos e, if_pos (by rw [h.2.1]; exact hlt)]
    · cases hz
  · rw [if_neg e] at hz
    obtain ⟨b', y', h1, h2, h3⟩ := h.2.2 i z hz
    exact ⟨b', y', h1, by rw [List.getElem?_set, if_neg e]; exact h2, h3⟩
theorem mm_w_push {cA : FieldType → ClassId} {ρ : List Nat} {w : mm_H} {ws : va_W} (h : mm_w cA ρ w ws) {q : Nat} {x : mm_C} {y : va_E} (he : mm_e cA (ρ ++ [q]) x y) : mm_w cA (ρ ++ [q]) (w ++ [x]) (ws ++ [(q, y)]) := by
  have hm : ∀ a, a < ρ.length → (ρ ++ [q])[a]? = ρ[a]? := fun a ha => List.getElem?_append_left ha
  refine ⟨by simp [h.1], by simp [h.2.1], fun i z hz => ?_⟩
  by_cases hi : i < w.length
  · rw [List.getElem?_append_left hi] at hz
    obtain ⟨b', y', h1, h2, h3⟩ := h.2.2 i z hz
    exact ⟨b', y', by rw [hm i (by rw [h.1]; exact hi)]; exact h1, by rw [List.getElem?_append_left (by rw [h.2.1]; exact hi)]; exact h2, mm_e_mono hm h3⟩
  · rw [List.getElem?_append_right (by omega)] at hz
    have hi2 : i = w.length := by
      have := (List.getElem?_eq_some_iff.mp hz).1
      simp at this
      omega
    subst hi2
    rw [Nat.sub_self] at hz
    cases hz
    exact ⟨q, y, by rw [← h.1]; simp, by rw [← h.2.1]; simp, he⟩
/-! THE JUDGEMENT -/
/-- words of locals that a call may cost, all told -/
def mm_K : Nat := 36
def mm_tys (cA : FieldType → ClassId) : List (ClassId × FieldType) := [(cA .int, .int), (cA .long, .long)]
/-- class, code, locals, is it <init>, what it returns -/
abbrev mm_M : Type := String × ByteArray × Nat × Bool × Option FieldType
/-- what lies outside of all worlds: the String constant of the class, its bytes, a static of String -/
def mm_tx : String := "|()?:=!>[]-^$.*+{}\\"
def mm_by : List Int32 := [124, 40, 41, 63, 58, 61, 33, 62, 91, 93, 45, 94, 36, 46, 42, 43, 123, 125, 92]
def mm_E (A : Nat → Prop) (U : State) (H : Heap) : Prop := ∃ adK adV : Nat → Nat, vk_R "PatternBench" 129 mm_tx (adK 0) U ∧ vk_S 1 [19] [mm_by] adK adV A U H ∧ va_Z "java/lang/String" "COMPACT_STRINGS" "Z" (.int 1) A U H
theorem mm_E.to {A B : Nat → Prop} {s U : State} {H H1 : Heap} (h : mm_E A s H) (hW : s.WarmedH U.vm) (hq : ∀ a : Nat, a < H.size → ¬ A a → H1[a]? = H[a]?) (hAB : ∀ q, B q → A q) : mm_E B U H1 := by
  obtain ⟨adK, adV, h1, h2, h3⟩ := h
  exact ⟨adK, adV, h1.warm hW, ((h2.moved hW.alike).kept hq).narrow hAB, ((h3.moved hW.alike).kept hq).narrow hAB⟩
theorem mm_E.same {A : Nat → Prop} {s U : State} {H : Heap} (h : mm_E A s H) (hv : U.vm = s.vm) : mm_E A U H := by
  obtain ⟨adK, adV, h1, h2, h3⟩ := h
  have ha : s.vm.Alike U.vm := by rw [hv]; exact Vm.Alike.refl _
  exact ⟨adK, adV, h1.same hv, h2.moved ha, h3.moved ha⟩
def mm_X (M : mm_M) (d : Nat) (p : Program) (R : Room) (s : State) (m : MethodId) (args : Array Value) (meth : Method) (c : Code) (D : va_G) (cA : FieldType → ClassId) (A : Nat → Prop) : Prop :=
  p.tables.exec = Jvm.exec ∧ c.code = M.2.1 ∧ c.maxLocals = M.2.2.1 ∧ s.vm.findClass M.1 = some m.cls ∧ (∀ w ∈ mm_T, w.before args s = true) ∧ (∀ w ∈ mm_N, va_Nw w s) ∧ va_K D mmCl (mm_tys cA) s ∧ (d ≤ R.frames ∧ mm_K * d ≤ R.locals) ∧ (∀ q : Nat, s.heap.size ≤ q → A q) ∧ (M.2.2.2.1 = true → meth.name = "<init>") ∧ mm_E A s s.heap
def mm_rd (M : mm_M) (pc : Nat) (v : Option Value) : Prop := match v with
  | none => M.2.2.2.2 = none ∧ decode M.2.1 pc = .ok (.return_, 1)
  | some (.int x) => ∃ ty, M.2.2.2.2 = some ty ∧ narrow ty (.int x) = .int x ∧ decode M.2.1 pc = .ok (.ireturn, 1)
  | some (.long _) => M.2.2.2.2 = some .long ∧ decode M.2.1 pc = .ok (.lreturn, 1)
  | some .null => (∃ rt, M.2.2.2.2 = some rt ∧ ((∃ n, rt = .object n) ∨ ∃ t, rt = .array t)) ∧ decode M.2.1 pc = .ok (.areturn, 1)
  | some (.ref _) => (∃ rt, M.2.2.2.2 = some rt ∧ ((∃ n, rt = .object n) ∨ ∃ t, rt = .array t)) ∧ decode M.2.1 pc = .ok (.areturn, 1)
  | _ => False
def mm_G (M : mm_M) (d k0 : Nat) (post : Option Value → mm_H → Prop) (p : Program) (l : Launch) (e : Env) (R : Room) (s : State) (m : MethodId) (args : Array Value) (below : List Frame) (meth : Method) (c : Code) (D : va_G) (cA : FieldType → ClassId) (A : Nat → Prop) (Q : State → Prop) (ρ0 : List Nat) (mc ms : Nat) : Prop :=
  mm_X M d p R s m args meth c D cA A ∧ (mc ≤ R.cells ∧ ms ≤ R.slots) ∧ k0 ≤ ρ0.length ∧ ∀ (pc : Nat) (ls : Array Slot) (v v' : Option Value) (w : mm_H) (ρ : List Nat) (ws : va_W) (H : Heap) (locs : List Loc), post v w → mm_ov ρ v v' → mm_rd M pc v → (∀ a, a < k0 → ρ[a]? = ρ0[a]?) → mm_w cA ρ w ws → va_P D mmCl ws H → va_D A ws → va_S A s.heap H locs → W p l e R s m args below meth c H locs mc ms Q (F0 m pc ls v'.toList)
def mm_R (M : mm_M) (k0 : Nat) (s : State) (D : va_G) (cA : FieldType → ClassId) (A : Nat → Prop) (ρ0 : List Nat) (mc ms kc ks : Nat) (ρ : List Nat) (w : mm_H) (H : Heap) (locs : List Loc) (ls : Array Slot) (L : mm_L) (st st' : List Value) (cells slots : Nat) : Prop :=
  (∀ a, a < k0 → ρ[a]? = ρ0[a]?) ∧ (∃ ws : va_W, mm_w cA ρ w ws ∧ va_P D mmCl ws H ∧ va_D A ws) ∧ va_S A s.heap H locs ∧ mm_l M.2.2.1 ρ ls L ∧ mm_vs ρ st st' ∧ cells + kc ≤ mc ∧ slots + ks ≤ ms
def mm_V (M : mm_M) (d k0 : Nat) (post : Option Value → mm_H → Prop) (kc ks pc : Nat) (L : mm_L) (st : List Value) (w : mm_H) : Prop :=
  ∀ ⦃p : Program⦄ ⦃l : Launch⦄ ⦃e : Env⦄ ⦃R : Room⦄ ⦃s : State⦄ ⦃m : MethodId⦄ ⦃args : Array Value⦄ ⦃below : List Frame⦄ ⦃meth : Method⦄ ⦃c : Code⦄ ⦃D : va_G⦄ ⦃cA : FieldType → ClassId⦄ ⦃A : Nat → Prop⦄ ⦃Q : State → Prop⦄ ⦃ρ0 : List Nat⦄ ⦃mc ms : Nat⦄, mm_G M d k0 post p l e R s m args below meth c D cA A Q ρ0 mc ms →
  ∀ ⦃ρ : List Nat⦄ ⦃H : Heap⦄ ⦃locs : List Loc⦄ ⦃ls : Array Slot⦄ ⦃st' : List Value⦄ ⦃cells slots : Nat⦄, mm_R M k0 s D cA A ρ0 mc ms kc ks ρ w H locs ls L st st' cells slots → W p l e R s m args below meth c H locs cells slots Q (F0 m pc ls st')
theorem mm_in_Text : ∀ w ∈ u_ws r_Text t_Text 2, w ∈ mm_T := by
  intro w hw
  obtain ⟨k, hk, rfl⟩ := List.mem_map.mp hw
  have hk := List.mem_range.mp hk
  match k, hk with
  | 0, _ => exact tw_42
  | 1, _ => exact tw_44
  | k + 2, hk => omega
theorem mm_in_Program : ∀ w ∈ u_ws r_Program t_Program 14, w ∈ mm_T := by
  intro w hw
  obtain ⟨k, hk, rfl⟩ := List.mem_map.mp hw
  have hk := List.mem_range.mp hk
  match k, hk with
  | 0, _ => exact tw_90
  | 1, _ => exact tw_92
  | 2, _ => exact tw_94
  | 3, _ => exact tw_96
  | 4, _ => exact tw_98
  | 5, _ => exact tw_100
  | 6, _ => exact tw_102
  | 7, _ => exact tw_104
  | 8, _ => exact tw_106
  | 9, _ => exact tw_108
  | 10, _ => exact tw_110
  | 11, _ => exact tw_112
  | 12, _ => exact tw_114
  | 13, _ => exact tw_116
  | k + 14, hk => omega
theorem mm_in_Reader : ∀ w ∈ u_ws r_Reader t_Reader 11, w ∈ mm_T := by
  intro w hw
  obtain ⟨k, hk, rfl⟩ := List.mem_map.mp hw
  have hk := List.mem_range.mp hk
  match k, hk with
  | 0, _ => exact tw_132
  | 1, _ => exact tw_134
  | 2, _ => exact tw_136
  | 3, _ => exact tw_138
  | 4, _ => exact tw_140
  | 5, _ => exact tw_142
  | 6, _ => exact tw_144
  | 7, _ => exact tw_146
  | 8, _ => exact tw_148
  | 9, _ => exact tw_150
  | 10, _ => exact tw_152
  | k + 11, hk => omega
theorem mm_in_Frames : ∀ w ∈ u_ws r_Frames t_Frames 8, w ∈ mm_T := by
  intro w hw
  obtain ⟨k, hk, rfl⟩ := List.mem_map.mp hw
  have hk := List.mem_range.mp hk
  match k, hk with
  | 0, _ => exact tw_192
  | 1, _ => exact tw_194
  | 2, _ => exact tw_196
  | 3, _ => exact tw_198
  | 4, _ => exact tw_200
  | 5, _ => exact tw_202
  | 6, _ => exact tw_204
  | 7, _ => exact tw_206
  | k + 8, hk => omega
theorem mm_in_Choices : ∀ w ∈ u_ws r_Choices t_Choices 6, w ∈ mm_T := by
  intro w hw
  obtain ⟨k, hk, rfl⟩ := List.mem_map.mp hw
  have hk := List.mem_range.mp hk
  match k, hk with
  | 0, _ => exact tw_228
  | 1, _ => exact tw_230
  | 2, _ => exact tw_232
  | 3, _ => exact tw_234
  | 4, _ => exact tw_236
  | 5, _ => exact tw_238
  | k + 6, hk => omega
theorem mm_in_Matcher : ∀ w ∈ u_ws r_Matcher t_Matcher 11, w ∈ mm_T := by
  intro w hw
  obtain ⟨k, hk, rfl⟩ := List.mem_map.mp hw
  have hk := List.mem_range.mp hk
  match k, hk with
  | 0, _ => exact tw_257
  | 1, _ => exact tw_259
  | 2, _ => exact tw_261
  | 3, _ => exact tw_263
  | 4, _ => exact tw_265
  | 5, _ => exact tw_267
  | 6, _ => exact tw_269
  | 7, _ => exact tw_271
  | 8, _ => exact tw_273
  | 9, _ => exact tw_275
  | 10, _ => exact tw_277
  | k + 11, hk => omega
theorem mm_in_Bench : ∀ w ∈ u_ws r_Bench t_Bench 8, w ∈ mm_T := by
  intro w hw
  obtain ⟨k, hk, rfl⟩ := List.mem_map.mp hw
  have hk := List.mem_range.mp hk
  match k, hk with
  | 0, _ => exact tw_288
  | 1, _ => exact tw_290
  | 2, _ => exact tw_292
  | 3, _ => exact tw_294
  | 4, _ => exact tw_296
  | 5, _ => exact tw_298
  | 6, _ => exact tw_300
  | 7, _ => exact tw_302
  | k + 8, hk => omega
theorem mm_in_Model : ∀ w ∈ u_ws r_Model t_Model 27, w ∈ mm_T := by
  intro w hw
  obtain ⟨k, hk, rfl⟩ := List.mem_map.mp hw
  have hk := List.mem_range.mp hk
  match k, hk with
  | 0, _ => exact tw_712
  | 1, _ => exact tw_714
  | 2, _ => exact tw_716
  | 3, _ => exact tw_718
  | 4, _ => exact tw_720
  | 5, _ => exact tw_722
  | 6, _ => exact tw_724
  | 7, _ => exact tw_726
  | 8, _ => exact tw_728
  | 9, _ => exact tw_730
  | 10, _ => exact tw_732
  | 11, _ => exact tw_734
  | 12, _ => exact tw_736
  | 13, _ => exact tw_738
  | 14, _ => exact tw_740
  | 15, _ => exact tw_742
  | 16, _ => exact tw_744
  | 17, _ => exact tw_746
  | 18, _ => exact tw_748
  | 19, _ => exact tw_750
  | 20, _ => exact tw_752
  | 21, _ => exact tw_754
  | 22, _ => exact tw_756
  | 23, _ => exact tw_758
  | 24, _ => exact tw_760
  | 25, _ => exact tw_762
  | 26, _ => exact tw_764
  | k + 27, hk => omega
theorem mm_in : ∀ q ∈ mmCl, ∀ w ∈ u_ws q.1 q.2.1 q.2.2, w ∈ mm_T := by
  intro q hq
  simp only [mmCl, List.mem_cons, List.not_mem_nil, or_false] at hq
  rcases hq with rfl | rfl | rfl | rfl | rfl | rfl | rfl | rfl
  · exact mm_in_Text
  · exact mm_in_Program
  · exact mm_in_Reader
  · exact mm_in_Frames
  · exact mm_in_Choices
  · exact mm_in_Matcher
  · exact mm_in_Bench
  · exact mm_in_Model
section MMV
variable {M : mm_M} {d k0 kc ks pc : Nat} {post : Option Value → mm_H → Prop} {L : mm_L} {r : List Value} {w : mm_H}
theorem mm_iconst {n : Int} {v : Int32} (hd : decode M.2.1 pc = .ok (.iconst n, 1)) (hv : Int32.ofInt n = v) (k : mm_V M d k0 post kc ks (pc + 1) L (.int v :: r) w) : mm_V M d k0 post kc ks pc L r w := by
  intro p l e R s m args below meth c D cA A Q ρ0 mc ms hG ρ H locs ls st' cells slots ⟨h0, hw, hS, hl, hst, hb⟩
  exact lv_iconst hG.1.1 hG.1.2.1 hd hv (k hG ⟨h0, hw, hS, hl, ⟨_, _, rfl, rfl, hst⟩, hb⟩)
theorem mm_bipush {n : Int} {v : Int32} (hd : decode M.2.1 pc = .ok (.bipush n, 2)) (hv : (Int8.ofInt n).toInt32 = v) (k : mm_V M d k0 post kc ks (pc + 2) L (.int v :: r) w) : mm_V M d k0 post kc ks pc L r w := by
  intro p l e R s m args below meth c D cA A Q ρ0 mc ms hG ρ H locs ls st' cells slots ⟨h0, hw, hS, hl, hst, hb⟩
  exact lv_bipush hG.1.1 hG.1.2.1 hd hv (k hG ⟨h0, hw, hS, hl, ⟨_, _, rfl, rfl, hst⟩, hb⟩)
theorem mm_sipush {n : Int} {v : Int32} (hd : decode M.2.1 pc = .ok (.sipush n, 3)) (hv : (Int16.ofInt n).toInt32 = v) (k : mm_V M d k0 post kc ks (pc + 3) L (.int v :: r) w) : mm_V M d k0 post kc ks pc L r w := by
  intro p l e R s m args below meth c D cA A Q ρ0 mc ms hG ρ H locs ls st' cells slots ⟨h0, hw, hS, hl, hst, hb⟩
  exact lv_sipush hG.1.1 hG.1.2.1 hd hv (k hG ⟨h0, hw, hS, hl, ⟨_, _, rfl, rfl, hst⟩, hb⟩)
theorem mm_lconst {n : Fin 2} {v : Int64} (hd : decode M.2.1 pc = .ok (.lconst n, 1)) (hv : Int64.ofNat (n : Nat) = v) (k : mm_V M d k0 post kc ks (pc + 1) L (.long v :: r) w) : mm_V M d k0 post kc ks pc L r w := by
  intro p l e R s m args below meth c D cA A Q ρ0 mc ms hG ρ H locs ls st' cells slots ⟨h0, hw, hS, hl, hst, hb⟩
  exact lv_lconst hG.1.1 hG.1.2.1 hd hv (k hG ⟨h0, hw, hS, hl, ⟨_, _, rfl, rfl, hst⟩, hb⟩)
theorem mm_null  (hd : decode M.2.1 pc = .ok (.aconst_null, 1)) (k : mm_V M d k0 post kc ks (pc + 1) L (.null :: r) w) : mm_V M d k0 post kc ks pc L r w := by
  intro p l e R s m args below meth c D cA A Q ρ0 mc ms hG ρ H locs ls st' cells slots ⟨h0, hw, hS, hl, hst, hb⟩
  exact lv_null hG.1.1 hG.1.2.1 hd (k hG ⟨h0, hw, hS, hl, ⟨_, _, rfl, rfl, hst⟩, hb⟩)
theorem mm_ldc {idx : Nat} {v : Int32} (hd : decode M.2.1 pc = .ok (.ldc idx, 2)) (hv : Cond.constant M.1 idx v ∈ mm_T) (k : mm_V M d k0 post kc ks (pc + 2) L (.int v :: r) w) : mm_V M d k0 post kc ks pc L r w := by
  intro p l e R s m args below meth c D cA A Q ρ0 mc ms hG ρ H locs ls st' cells slots ⟨h0, hw, hS, hl, hst, hb⟩
  exact lv_ldc hG.1.1 hG.1.2.1 hG.1.2.2.2.1 (hG.1.2.2.2.2.1 _ hv) hd (k hG ⟨h0, hw, hS, hl, ⟨_, _, rfl, rfl, hst⟩, hb⟩)
theorem mm_ldc2 {idx : Nat} {v : Int64} (hd : decode M.2.1 pc = .ok (.ldc2_w idx, 3)) (hv : Cond.constantLong M.1 idx v ∈ mm_T) (k : mm_V M d k0 post kc ks (pc + 3) L (.long v :: r) w) : mm_V M d k0 post kc ks pc L r w := by
  intro p l e R s m args below meth c D cA A Q ρ0 mc ms hG ρ H locs ls st' cells slots ⟨h0, hw, hS, hl, hst, hb⟩
  exact lv_ldc2 hG.1.1 hG.1.2.1 hG.1.2.2.2.1 (hG.1.2.2.2.2.1 _ hv) hd (k hG ⟨h0, hw, hS, hl, ⟨_, _, rfl, rfl, hst⟩, hb⟩)
theorem mm_iload {n : Nat} {x : Int32} (hd : decode M.2.1 pc = .ok (.iload n, 2)) (hx : L[n]? = some (some (.int x))) (k : mm_V M d k0 post kc ks (pc + 2) L (.int x :: r) w) : mm_V M d k0 post kc ks pc L r w := by
  intro p l e R s m args below meth c D cA A Q ρ0 mc ms hG ρ H locs ls st' cells slots ⟨h0, hw, hS, hl, hst, hb⟩
  obtain ⟨v, h1, h2⟩ := hl.2.2.2 _ _ hx
  have h2 : v = .int x := h2
  subst h2
  exact lv_iload hG.1.1 hG.1.2.1 hd h1 (k hG ⟨h0, hw, hS, hl, ⟨_, _, rfl, rfl, hst⟩, hb⟩)
theorem mm_iload_n {n : Fin 4} {x : Int32} (hd : decode M.2.1 pc = .ok (.iload_n n, 1)) (hx : L[(n : Nat)]? = some (some (.int x))) (k : mm_V M d k0 post kc ks (pc + 1) L (.int x :: r) w) : mm_V M d k0 post kc ks pc L r w := by
  intro p l e R s m args below meth c D cA A Q ρ0 mc ms hG ρ H locs ls st' cells slots ⟨h0, hw, hS, hl, hst, hb⟩
  obtain ⟨v, h1, h2⟩ := hl.2.2.2 _ _ hx
  have h2 : v = .int x := h2
  subst h2
  exact lv_iload_n hG.1.1 hG.1.2.1 hd rfl h1 (k hG ⟨h0, hw, hS, hl, ⟨_, _, rfl, rfl, hst⟩, hb⟩)
theorem mm_lload {n : Nat} {x : Int64} (hd : decode M.2.1 pc = .ok (.lload n, 2)) (hx : L[n]? = some (some (.long x))) (k : mm_V M d k0 post kc ks (pc + 2) L (.long x :: r) w) : mm_V M d k0 post kc ks pc L r w := by
  intro p l e R s m args below meth c D cA A Q ρ0 mc ms hG ρ H locs ls st' cells slots ⟨h0, hw, hS, hl, hst, hb⟩
  obtain ⟨v, h1, h2⟩ := hl.2.2.2 _ _ hx
  have h2 : v = .long x := h2
  subst h2
  exact lv_lload hG.1.1 hG.1.2.1 hd h1 (k hG ⟨h0, hw, hS, hl, ⟨_, _, rfl, rfl, hst⟩, hb⟩)
theorem mm_lload_n {n : Fin 4} {x : Int64} (hd : decode M.2.1 pc = .ok (.lload_n n, 1)) (hx : L[(n : Nat)]? = some (some (.long x))) (k : mm_V M d k0 post kc ks (pc + 1) L (.long x :: r) w) : mm_V M d k0 post kc ks pc L r w := by
  intro p l e R s m args below meth c D cA A Q ρ0 mc ms hG ρ H locs ls st' cells slots ⟨h0, hw, hS, hl, hst, hb⟩
  obtain ⟨v, h1, h2⟩ := hl.2.2.2 _ _ hx
  have h2 : v = .long x := h2
  subst h2
  exact lv_lload_n hG.1.1 hG.1.2.1 hd rfl h1 (k hG ⟨h0, hw, hS, hl, ⟨_, _, rfl, rfl, hst⟩, hb⟩)
theorem mm_aload {n : Nat} {a : Nat} (hd : decode M.2.1 pc = .ok (.aload n, 2)) (hx : L[n]? = some (some (.ref a))) (k : mm_V M d k0 post kc ks (pc + 2) L (.ref a :: r) w) : mm_V M d k0 post kc ks pc L r w := by
  intro p l e R s m args below meth c D cA A Q ρ0 mc ms hG ρ H locs ls st' cells slots ⟨h0, hw, hS, hl, hst, hb⟩
  obtain ⟨v, h1, b, h2, h3⟩ := hl.2.2.2 _ _ hx
  subst h3
  exact lv_aload hG.1.1 hG.1.2.1 hd h1 (k hG ⟨h0, hw, hS, hl, ⟨_, _, rfl, ⟨b, h2, rfl⟩, hst⟩, hb⟩)
theorem mm_aloadN {n : Nat} (hd : decode M.2.1 pc = .ok (.aload n, 2)) (hx : L[n]? = some (some .null)) (k : mm_V M d k0 post kc ks (pc + 2) L (.null :: r) w) : mm_V M d k0 post kc ks pc L r w := by
  intro p l e R s m args below meth c D cA A Q ρ0 mc ms hG ρ H locs ls st' cells slots ⟨h0, hw, hS, hl, hst, hb⟩
  obtain ⟨v, h1, h2⟩ := hl.2.2.2 _ _ hx
  have h2 : v = .null := h2
  subst h2
  exact lv_aloadN hG.1.1 hG.1.2.1 hd h1 (k hG ⟨h0, hw, hS, hl, ⟨_, _, rfl, rfl, hst⟩, hb⟩)
theorem mm_aload_n {n : Fin 4} {a : Nat} (hd : decode M.2.1 pc = .ok (.aload_n n, 1)) (hx : L[(n : Nat)]? = some (some (.ref a))) (k : mm_V M d k0 post kc ks (pc + 1) L (.ref a :: r) w) : mm_V M d k0 post kc ks pc L r w := by
  intro p l e R s m args below meth c D cA A Q ρ0 mc ms hG ρ H locs ls st' cells slots ⟨h0, hw, hS, hl, hst, hb⟩
  obtain ⟨v, h1, b, h2, h3⟩ := hl.2.2.2 _ _ hx
  subst h3
  exact lv_aload_n hG.1.1 hG.1.2.1 hd rfl h1 (k hG ⟨h0, hw, hS, hl, ⟨_, _, rfl, ⟨b, h2, rfl⟩, hst⟩, hb⟩)
theorem mm_aload_nN {n : Fin 4} (hd : decode M.2.1 pc = .ok (.aload_n n, 1)) (hx : L[(n : Nat)]? = some (some .null)) (k : mm_V M d k0 post kc ks (pc + 1) L (.null :: r) w) : mm_V M d k0 post kc ks pc L r w := by
  intro p l e R s m args below meth c D cA A Q ρ0 mc ms hG ρ H locs ls st' cells slots ⟨h0, hw, hS, hl, hst, hb⟩
  obtain ⟨v, h1, h2⟩ := hl.2.2.2 _ _ hx
  have h2 : v = .null := h2
  subst h2
  exact lv_aload_nN hG.1.1 hG.1.2.1 hd rfl h1 (k hG ⟨h0, hw, hS, hl, ⟨_, _, rfl, rfl, hst⟩, hb⟩)
theorem mm_istore {n : Nat} {x : Int32} (hd : decode M.2.1 pc = .ok (.istore n, 2)) (hn : n < M.2.2.1) (k : mm_V M d k0 post kc ks (pc + 2) (mm_s1 L n (.int x)) r w) : mm_V M d k0 post kc ks pc L ((.int x) :: r) w := by
  intro p l e R s m args below meth c D cA A Q ρ0 mc ms hG ρ H locs ls st' cells slots ⟨h0, hw, hS, hl, hst, hb⟩
  obtain ⟨t1, rfl, h1⟩ := mm_vs_i hst
  exact lv_istore hG.1.1 hG.1.2.1 hd (mm_lv_has hl.1 hl.2.2.1) hn rfl (fun ls' hl' => k hG ⟨h0, hw, hS, mm_l_s1 hl rfl hn hl', h1, hb⟩)
theorem mm_lstore {n : Nat} {x : Int64} (hd : decode M.2.1 pc = .ok (.lstore n, 2)) (hn : n + 1 < M.2.2.1) (k : mm_V M d k0 post kc ks (pc + 2) (mm_s2 L n (.long x)) r w) : mm_V M d k0 post kc ks pc L ((.long x) :: r) w := by
  intro p l e R s m args below meth c D cA A Q ρ0 mc ms hG ρ H locs ls st' cells slots ⟨h0, hw, hS, hl, hst, hb⟩
  obtain ⟨t1, rfl, h1⟩ := mm_vs_j hst
  exact lv_lstore hG.1.1 hG.1.2.1 hd (mm_lv_has hl.1 hl.2.2.1) hn rfl (fun ls' hl' => k hG ⟨h0, hw, hS, mm_l_s2 hl rfl hn hl', h1, hb⟩)
theorem mm_astore {n : Nat} {a : Nat} (hd : decode M.2.1 pc = .ok (.astore n, 2)) (hn : n < M.2.2.1) (k : mm_V M d k0 post kc ks (pc + 2) (mm_s1 L n (.ref a)) r w) : mm_V M d k0 post kc ks pc L ((.ref a) :: r) w := by
  intro p l e R s m args below meth c D cA A Q ρ0 mc ms hG ρ H locs ls st' cells slots ⟨h0, hw, hS, hl, hst, hb⟩
  obtain ⟨b, t1, rfl, hb1, h1⟩ := mm_vs_r hst
  exact lv_astore hG.1.1 hG.1.2.1 hd (mm_lv_has hl.1 hl.2.2.1) hn rfl (fun ls' hl' => k hG ⟨h0, hw, hS, mm_l_s1 hl ⟨b, hb1, rfl⟩ hn hl', h1, hb⟩)
theorem mm_astoreN {n : Nat} (hd : decode M.2.1 pc = .ok (.astore n, 2)) (hn : n < M.2.2.1) (k : mm_V M d k0 post kc ks (pc + 2) (mm_s1 L n .null) r w) : mm_V M d k0 post kc ks pc L (.null :: r) w := by
  intro p l e R s m args below meth c D cA A Q ρ0 mc ms hG ρ H locs ls st' cells slots ⟨h0, hw, hS, hl, hst, hb⟩
  obtain ⟨t1, rfl, h1⟩ := mm_vs_n hst
  exact lv_astoreN hG.1.1 hG.1.2.1 hd (mm_lv_has hl.1 hl.2.2.1) hn rfl (fun ls' hl' => k hG ⟨h0, hw, hS, mm_l_s1 hl rfl hn hl', h1, hb⟩)
theorem mm_istore_n {n : Fin 4} {x : Int32} (hd : decode M.2.1 pc = .ok (.istore_n n, 1)) (hn : (n : Nat) < M.2.2.1) (k : mm_V M d k0 post kc ks (pc + 1) (mm_s1 L (n : Nat) (.int x)) r w) : mm_V M d k0 post kc ks pc L ((.int x) :: r) w := by
  intro p l e R s m args below meth c D cA A Q ρ0 mc ms hG ρ H locs ls st' cells slots ⟨h0, hw, hS, hl, hst, hb⟩
  obtain ⟨t1, rfl, h1⟩ := mm_vs_i hst
  exact lv_istore_n hG.1.1 hG.1.2.1 hd rfl (mm_lv_has hl.1 hl.2.2.1) hn rfl (fun ls' hl' => k hG ⟨h0, hw, hS, mm_l_s1 hl rfl hn hl', h1, hb⟩)
theorem mm_lstore_n {n : Fin 4} {x : Int64} (hd : decode M.2.1 pc = .ok (.lstore_n n, 1)) (hn : (n : Nat) + 1 < M.2.2.1) (k : mm_V M d k0 post kc ks (pc + 1) (mm_s2 L (n : Nat) (.long x)) r w) : mm_V M d k0 post kc ks pc L ((.long x) :: r) w := by
  intro p l e R s m args below meth c D cA A Q ρ0 mc ms hG ρ H locs ls st' cells slots ⟨h0, hw, hS, hl, hst, hb⟩
  obtain ⟨t1, rfl, h1⟩ := mm_vs_j hst
  exact lv_lstore_n hG.1.1 hG.1.2.1 hd rfl (mm_lv_has hl.1 hl.2.2.1) hn rfl (fun ls' hl' => k hG ⟨h0, hw, hS, mm_l_s2 hl rfl hn hl', h1, hb⟩)
theorem mm_astore_n {n : Fin 4} {a : Nat} (hd : decode M.2.1 pc = .ok (.astore_n n, 1)) (hn : (n : Nat) < M.2.2.1) (k : mm_V M d k0 post kc ks (pc + 1) (mm_s1 L (n : Nat) (.ref a)) r w) : mm_V M d k0 post kc ks pc L ((.ref a) :: r) w := by
  intro p l e R s m args below meth c D cA A Q ρ0 mc ms hG ρ H locs ls st' cells slots ⟨h0, hw, hS, hl, hst, hb⟩
  obtain ⟨b, t1, rfl, hb1, h1⟩ := mm_vs_r hst
  exact lv_astore_n hG.1.1 hG.1.2.1 hd rfl (mm_lv_has hl.1 hl.2.2.1) hn rfl (fun ls' hl' => k hG ⟨h0, hw, hS, mm_l_s1 hl ⟨b, hb1, rfl⟩ hn hl', h1, hb⟩)
theorem mm_astore_nN {n : Fin 4} (hd : decode M.2.1 pc = .ok (.astore_n n, 1)) (hn : (n : Nat) < M.2.2.1) (k : mm_V M d k0 post kc ks (pc + 1) (mm_s1 L (n : Nat) .null) r w) : mm_V M d k0 post kc ks pc L (.null :: r) w := by
  intro p l e R s m args below meth c D cA A Q ρ0 mc ms hG ρ H locs ls st' cells slots ⟨h0, hw, hS, hl, hst, hb⟩
  obtain ⟨t1, rfl, h1⟩ := mm_vs_n hst
  exact lv_astore_nN hG.1.1 hG.1.2.1 hd rfl (mm_lv_has hl.1 hl.2.2.1) hn rfl (fun ls' hl' => k hG ⟨h0, hw, hS, mm_l_s1 hl rfl hn hl', h1, hb⟩)
theorem mm_iinc {n : Nat} {i : Int} {x v : Int32} (hd : decode M.2.1 pc = .ok (.iinc n i, 3)) (hx : L[n]? = some (some (.int x))) (hv : Int32.ofInt i = v) (hn : n < M.2.2.1) (k : mm_V M d k0 post kc ks (pc + 3) (mm_s1 L n (.int (x + v))) r w) : mm_V M d k0 post kc ks pc L r w := by
  intro p l e R s m args below meth c D cA A Q ρ0 mc ms hG ρ H locs ls st' cells slots ⟨h0, hw, hS, hl, hst, hb⟩
  obtain ⟨y, h1, h2⟩ := hl.2.2.2 _ _ hx
  have h2 : y = .int x := h2
  subst h2
  obtain ⟨j, hj⟩ := List.getElem?_of_mem (mm_lv_mem.mpr h1)
  exact lv_iinc hG.1.1 hG.1.2.1 hd (mm_lv_has hl.1 hl.2.2.1) hj (by rw [hv]) hn rfl (fun ls' hl' => k hG ⟨h0, hw, hS, mm_l_s1 hl rfl hn hl', hst, hb⟩)
theorem mm_iadd {x y : Int32} (hd : decode M.2.1 pc = .ok (.iadd, 1)) (k : mm_V M d k0 post kc ks (pc + 1) L (.int (x + y) :: r) w) : mm_V M d k0 post kc ks pc L (.int y :: .int x :: r) w := by
  intro p l e R s m args below meth c D cA A Q ρ0 mc ms hG ρ H locs ls st' cells slots ⟨h0, hw, hS, hl, hst, hb⟩
  obtain ⟨t1, rfl, h1⟩ := mm_vs_i hst
  obtain ⟨t2, rfl, h2⟩ := mm_vs_i h1
  exact lv_iadd hG.1.1 hG.1.2.1 hd (k hG ⟨h0, hw, hS, hl, ⟨_, _, rfl, rfl, h2⟩, hb⟩)
theorem mm_isub {x y : Int32} (hd : decode M.2.1 pc = .ok (.isub, 1)) (k : mm_V M d k0 post kc ks (pc + 1) L (.int (x - y) :: r) w) : mm_V M d k0 post kc ks pc L (.int y :: .int x :: r) w := by
  intro p l e R s m args below meth c D cA A Q ρ0 mc ms hG ρ H locs ls st' cells slots ⟨h0, hw, hS, hl, hst, hb⟩
  obtain ⟨t1, rfl, h1⟩ := mm_vs_i hst
  obtain ⟨t2, rfl, h2⟩ := mm_vs_i h1
  exact lv_isub hG.1.1 hG.1.2.1 hd (k hG ⟨h0, hw, hS, hl, ⟨_, _, rfl, rfl, h2⟩, hb⟩)
theorem mm_imul {x y : Int32} (hd : decode M.2.1 pc = .ok (.imul, 1)) (k : mm_V M d k0 post kc ks (pc + 1) L (.int (x * y) :: r) w) : mm_V M d k0 post kc ks pc L (.int y :: .int x :: r) w := by
  intro p l e R s m args below meth c D cA A Q ρ0 mc ms hG ρ H locs ls st' cells slots ⟨h0, hw, hS, hl, hst, hb⟩
  obtain ⟨t1, rfl, h1⟩ := mm_vs_i hst
  obtain ⟨t2, rfl, h2⟩ := mm_vs_i h1
  exact lv_imul hG.1.1 hG.1.2.1 hd (k hG ⟨h0, hw, hS, hl, ⟨_, _, rfl, rfl, h2⟩, hb⟩)
theorem mm_iand {x y : Int32} (hd : decode M.2.1 pc = .ok (.iand, 1)) (k : mm_V M d k0 post kc ks (pc + 1) L (.int (x &&& y) :: r) w) : mm_V M d k0 post kc ks pc L (.int y :: .int x :: r) w := by
  intro p l e R s m args below meth c D cA A Q ρ0 mc ms hG ρ H locs ls st' cells slots ⟨h0, hw, hS, hl, hst, hb⟩
  obtain ⟨t1, rfl, h1⟩ := mm_vs_i hst
  obtain ⟨t2, rfl, h2⟩ := mm_vs_i h1
  exact lv_iand hG.1.1 hG.1.2.1 hd (k hG ⟨h0, hw, hS, hl, ⟨_, _, rfl, rfl, h2⟩, hb⟩)
theorem mm_ior {x y : Int32} (hd : decode M.2.1 pc = .ok (.ior, 1)) (k : mm_V M d k0 post kc ks (pc + 1) L (.int (x ||| y) :: r) w) : mm_V M d k0 post kc ks pc L (.int y :: .int x :: r) w := by
  intro p l e R s m args below meth c D cA A Q ρ0 mc ms hG ρ H locs ls st' cells slots ⟨h0, hw, hS, hl, hst, hb⟩
  obtain ⟨t1, rfl, h1⟩ := mm_vs_i hst
  obtain ⟨t2, rfl, h2⟩ := mm_vs_i h1
  exact lv_ior hG.1.1 hG.1.2.1 hd (k hG ⟨h0, hw, hS, hl, ⟨_, _, rfl, rfl, h2⟩, hb⟩)
theorem mm_ixor {x y : Int32} (hd : decode M.2.1 pc = .ok (.ixor, 1)) (k : mm_V M d k0 post kc ks (pc + 1) L (.int (x ^^^ y) :: r) w) : mm_V M d k0 post kc ks pc L (.int y :: .int x :: r) w := by
  intro p l e R s m args below meth c D cA A Q ρ0 mc ms hG ρ H locs ls st' cells slots ⟨h0, hw, hS, hl, hst, hb⟩
  obtain ⟨t1, rfl, h1⟩ := mm_vs_i hst
  obtain ⟨t2, rfl, h2⟩ := mm_vs_i h1
  exact lv_ixor hG.1.1 hG.1.2.1 hd (k hG ⟨h0, hw, hS, hl, ⟨_, _, rfl, rfl, h2⟩, hb⟩)
theorem mm_ishl {x y : Int32} (hd : decode M.2.1 pc = .ok (.ishl, 1)) (k : mm_V M d k0 post kc ks (pc + 1) L (.int (x <<< (y &&& 31)) :: r) w) : mm_V M d k0 post kc ks pc L (.int y :: .int x :: r) w := by
  intro p l e R s m args below meth c D cA A Q ρ0 mc ms hG ρ H locs ls st' cells slots ⟨h0, hw, hS, hl, hst, hb⟩
  obtain ⟨t1, rfl, h1⟩ := mm_vs_i hst
  obtain ⟨t2, rfl, h2⟩ := mm_vs_i h1
  exact lv_ishl hG.1.1 hG.1.2.1 hd (k hG ⟨h0, hw, hS, hl, ⟨_, _, rfl, rfl, h2⟩, hb⟩)
theorem mm_ishr {x y : Int32} (hd : decode M.2.1 pc = .ok (.ishr, 1)) (k : mm_V M d k0 post kc ks (pc + 1) L (.int (x >>> (y &&& 31)) :: r) w) : mm_V M d k0 post kc ks pc L (.int y :: .int x :: r) w := by
  intro p l e R s m args below meth c D cA A Q ρ0 mc ms hG ρ H locs ls st' cells slots ⟨h0, hw, hS, hl, hst, hb⟩
  obtain ⟨t1, rfl, h1⟩ := mm_vs_i hst
  obtain ⟨t2, rfl, h2⟩ := mm_vs_i h1
  exact lv_ishr hG.1.1 hG.1.2.1 hd (k hG ⟨h0, hw, hS, hl, ⟨_, _, rfl, rfl, h2⟩, hb⟩)
theorem mm_idiv {x y : Int32} (hd : decode M.2.1 pc = .ok (.idiv, 1)) (hne : ¬ y = 0) (k : mm_V M d k0 post kc ks (pc + 1) L (.int (x / y) :: r) w) : mm_V M d k0 post kc ks pc L (.int y :: .int x :: r) w := by
  intro p l e R s m args below meth c D cA A Q ρ0 mc ms hG ρ H locs ls st' cells slots ⟨h0, hw, hS, hl, hst, hb⟩
  obtain ⟨t1, rfl, h1⟩ := mm_vs_i hst
  obtain ⟨t2, rfl, h2⟩ := mm_vs_i h1
  exact lv_idiv hG.1.1 hG.1.2.1 hd hne (k hG ⟨h0, hw, hS, hl, ⟨_, _, rfl, rfl, h2⟩, hb⟩)
theorem mm_irem {x y : Int32} (hd : decode M.2.1 pc = .ok (.irem, 1)) (hne : ¬ y = 0) (k : mm_V M d k0 post kc ks (pc + 1) L (.int (x - x / y * y) :: r) w) : mm_V M d k0 post kc ks pc L (.int y :: .int x :: r) w := by
  intro p l e R s m args below meth c D cA A Q ρ0 mc ms hG ρ H locs ls st' cells slots ⟨h0, hw, hS, hl, hst, hb⟩
  obtain ⟨t1, rfl, h1⟩ := mm_vs_i hst
  obtain ⟨t2, rfl, h2⟩ := mm_vs_i h1
  exact lv_irem hG.1.1 hG.1.2.1 hd hne (k hG ⟨h0, hw, hS, hl, ⟨_, _, rfl, rfl, h2⟩, hb⟩)
theorem mm_iushr {x y : Int32} (hd : decode M.2.1 pc = .ok (.iushr, 1)) (k : mm_V M d k0 post kc ks (pc + 1) L (.int (x.toUInt32 >>> (y.toUInt32 &&& Int32.toUInt32 31)).toInt32 :: r) w) : mm_V M d k0 post kc ks pc L (.int y :: .int x :: r) w := by
  intro p l e R s m args below meth c D cA A Q ρ0 mc ms hG ρ H locs ls st' cells slots ⟨h0, hw, hS, hl, hst, hb⟩
  obtain ⟨t1, rfl, h1⟩ := mm_vs_i hst
  obtain ⟨t2, rfl, h2⟩ := mm_vs_i h1
  exact lv_iushr hG.1.1 hG.1.2.1 hd rfl (k hG ⟨h0, hw, hS, hl, ⟨_, _, rfl, rfl, h2⟩, hb⟩)
theorem mm_ladd {x y : Int64} (hd : decode M.2.1 pc = .ok (.ladd, 1)) (k : mm_V M d k0 post kc ks (pc + 1) L (.long (x + y) :: r) w) : mm_V M d k0 post kc ks pc L (.long y :: .long x :: r) w := by
  intro p l e R s m args below meth c D cA A Q ρ0 mc ms hG ρ H locs ls st' cells slots ⟨h0, hw, hS, hl, hst, hb⟩
  obtain ⟨t1, rfl, h1⟩ := mm_vs_j hst
  obtain ⟨t2, rfl, h2⟩ := mm_vs_j h1
  exact lv_ladd hG.1.1 hG.1.2.1 hd (k hG ⟨h0, hw, hS, hl, ⟨_, _, rfl, rfl, h2⟩, hb⟩)
theorem mm_lsub {x y : Int64} (hd : decode M.2.1 pc = .ok (.lsub, 1)) (k : mm_V M d k0 post kc ks (pc + 1) L (.long (x - y) :: r) w) : mm_V M d k0 post kc ks pc L (.long y :: .long x :: r) w := by
  intro p l e R s m args below meth c D cA A Q ρ0 mc ms hG ρ H locs ls st' cells slots ⟨h0, hw, hS, hl, hst, hb⟩
  obtain ⟨t1, rfl, h1⟩ := mm_vs_j hst
  obtain ⟨t2, rfl, h2⟩ := mm_vs_j h1
  exact lv_lsub hG.1.1 hG.1.2.1 hd (k hG ⟨h0, hw, hS, hl, ⟨_, _, rfl, rfl, h2⟩, hb⟩)
theorem mm_lmul {x y : Int64} (hd : decode M.2.1 pc = .ok (.lmul, 1)) (k : mm_V M d k0 post kc ks (pc + 1) L (.long (x * y) :: r) w) : mm_V M d k0 post kc ks pc L (.long y :: .long x :: r) w := by
  intro p l e R s m args below meth c D cA A Q ρ0 mc ms hG ρ H locs ls st' cells slots ⟨h0, hw, hS, hl, hst, hb⟩
  obtain ⟨t1, rfl, h1⟩ := mm_vs_j hst
  obtain ⟨t2, rfl, h2⟩ := mm_vs_j h1
  exact lv_lmul hG.1.1 hG.1.2.1 hd (k hG ⟨h0, hw, hS, hl, ⟨_, _, rfl, rfl, h2⟩, hb⟩)
theorem mm_land {x y : Int64} (hd : decode M.2.1 pc = .ok (.land, 1)) (k : mm_V M d k0 post kc ks (pc + 1) L (.long (x &&& y) :: r) w) : mm_V M d k0 post kc ks pc L (.long y :: .long x :: r) w := by
  intro p l e R s m args below meth c D cA A Q ρ0 mc ms hG ρ H locs ls st' cells slots ⟨h0, hw, hS, hl, hst, hb⟩
  obtain ⟨t1, rfl, h1⟩ := mm_vs_j hst
  obtain ⟨t2, rfl, h2⟩ := mm_vs_j h1
  exact lv_land hG.1.1 hG.1.2.1 hd (k hG ⟨h0, hw, hS, hl, ⟨_, _, rfl, rfl, h2⟩, hb⟩)
theorem mm_lor {x y : Int64} (hd : decode M.2.1 pc = .ok (.lor, 1)) (k : mm_V M d k0 post kc ks (pc + 1) L (.long (x ||| y) :: r) w) : mm_V M d k0 post kc ks pc L (.long y :: .long x :: r) w := by
  intro p l e R s m args below meth c D cA A Q ρ0 mc ms hG ρ H locs ls st' cells slots ⟨h0, hw, hS, hl, hst, hb⟩
  obtain ⟨t1, rfl, h1⟩ := mm_vs_j hst
  obtain ⟨t2, rfl, h2⟩ := mm_vs_j h1
  exact lv_lor hG.1.1 hG.1.2.1 hd (k hG ⟨h0, hw, hS, hl, ⟨_, _, rfl, rfl, h2⟩, hb⟩)
theorem mm_lxor {x y : Int64} (hd : decode M.2.1 pc = .ok (.lxor, 1)) (k : mm_V M d k0 post kc ks (pc + 1) L (.long (x ^^^ y) :: r) w) : mm_V M d k0 post kc ks pc L (.long y :: .long x :: r) w := by
  intro p l e R s m args below meth c D cA A Q ρ0 mc ms hG ρ H locs ls st' cells slots ⟨h0, hw, hS, hl, hst, hb⟩
  obtain ⟨t1, rfl, h1⟩ := mm_vs_j hst
  obtain ⟨t2, rfl, h2⟩ := mm_vs_j h1
  exact lv_lxor hG.1.1 hG.1.2.1 hd (k hG ⟨h0, hw, hS, hl, ⟨_, _, rfl, rfl, h2⟩, hb⟩)
theorem mm_lshl {x : Int64} {y : Int32} (hd : decode M.2.1 pc = .ok (.lshl, 1)) (k : mm_V M d k0 post kc ks (pc + 1) L (.long (x <<< (y.toInt64 &&& 63)) :: r) w) : mm_V M d k0 post kc ks pc L (.int y :: .long x :: r) w := by
  intro p l e R s m args below meth c D cA A Q ρ0 mc ms hG ρ H locs ls st' cells slots ⟨h0, hw, hS, hl, hst, hb⟩
  obtain ⟨t1, rfl, h1⟩ := mm_vs_i hst
  obtain ⟨t2, rfl, h2⟩ := mm_vs_j h1
  exact lv_lshl hG.1.1 hG.1.2.1 hd rfl (k hG ⟨h0, hw, hS, hl, ⟨_, _, rfl, rfl, h2⟩, hb⟩)
theorem mm_lshr {x : Int64} {y : Int32} (hd : decode M.2.1 pc = .ok (.lshr, 1)) (k : mm_V M d k0 post kc ks (pc + 1) L (.long (x >>> (y.toInt64 &&& 63)) :: r) w) : mm_V M d k0 post kc ks pc L (.int y :: .long x :: r) w := by
  intro p l e R s m args below meth c D cA A Q ρ0 mc ms hG ρ H locs ls st' cells slots ⟨h0, hw, hS, hl, hst, hb⟩
  obtain ⟨t1, rfl, h1⟩ := mm_vs_i hst
  obtain ⟨t2, rfl, h2⟩ := mm_vs_j h1
  exact lv_lshr hG.1.1 hG.1.2.1 hd rfl (k hG ⟨h0, hw, hS, hl, ⟨_, _, rfl, rfl, h2⟩, hb⟩)
theorem mm_lushr {x : Int64} {y : Int32} (hd : decode M.2.1 pc = .ok (.lushr, 1)) (k : mm_V M d k0 post kc ks (pc + 1) L (.long ((x.toUInt64 >>> (y.toInt64.toUInt64 &&& Int64.toUInt64 63)).toInt64) :: r) w) : mm_V M d k0 post kc ks pc L (.int y :: .long x :: r) w := by
  intro p l e R s m args below meth c D cA A Q ρ0 mc ms hG ρ H locs ls st' cells slots ⟨h0, hw, hS, hl, hst, hb⟩
  obtain ⟨t1, rfl, h1⟩ := mm_vs_i hst
  obtain ⟨t2, rfl, h2⟩ := mm_vs_j h1
  exact lv_lushr hG.1.1 hG.1.2.1 hd rfl (k hG ⟨h0, hw, hS, hl, ⟨_, _, rfl, rfl, h2⟩, hb⟩)
theorem mm_ineg {x : Int32} (hd : decode M.2.1 pc = .ok (.ineg, 1)) (k : mm_V M d k0 post kc ks (pc + 1) L (.int (-x) :: r) w) : mm_V M d k0 post kc ks pc L (.int x :: r) w := by
  intro p l e R s m args below meth c D cA A Q ρ0 mc ms hG ρ H locs ls st' cells slots ⟨h0, hw, hS, hl, hst, hb⟩
  obtain ⟨t1, rfl, h1⟩ := mm_vs_i hst
  exact lv_ineg hG.1.1 hG.1.2.1 hd (k hG ⟨h0, hw, hS, hl, ⟨_, _, rfl, rfl, h1⟩, hb⟩)
theorem mm_i2b {x : Int32} (hd : decode M.2.1 pc = .ok (.i2b, 1)) (k : mm_V M d k0 post kc ks (pc + 1) L (.int x.toInt8.toInt32 :: r) w) : mm_V M d k0 post kc ks pc L (.int x :: r) w := by
  intro p l e R s m args below meth c D cA A Q ρ0 mc ms hG ρ H locs ls st' cells slots ⟨h0, hw, hS, hl, hst, hb⟩
  obtain ⟨t1, rfl, h1⟩ := mm_vs_i hst
  exact lv_i2b hG.1.1 hG.1.2.1 hd rfl (k hG ⟨h0, hw, hS, hl, ⟨_, _, rfl, rfl, h1⟩, hb⟩)
theorem mm_i2s {x : Int32} (hd : decode M.2.1 pc = .ok (.i2s, 1)) (k : mm_V M d k0 post kc ks (pc + 1) L (.int x.toInt16.toInt32 :: r) w) : mm_V M d k0 post kc ks pc L (.int x :: r) w := by
  intro p l e R s m args below meth c D cA A Q ρ0 mc ms hG ρ H locs ls st' cells slots ⟨h0, hw, hS, hl, hst, hb⟩
  obtain ⟨t1, rfl, h1⟩ := mm_vs_i hst
  exact lv_i2s hG.1.1 hG.1.2.1 hd rfl (k hG ⟨h0, hw, hS, hl, ⟨_, _, rfl, rfl, h1⟩, hb⟩)
theorem mm_i2c {x : Int32} (hd : decode M.2.1 pc = .ok (.i2c, 1)) (k : mm_V M d k0 post kc ks (pc + 1) L (.int (x.toUInt32 % 65536).toInt32 :: r) w) : mm_V M d k0 post kc ks pc L (.int x :: r) w := by
  intro p l e R s m args below meth c D cA A Q ρ0 mc ms hG ρ H locs ls st' cells slots ⟨h0, hw, hS, hl, hst, hb⟩
  obtain ⟨t1, rfl, h1⟩ := mm_vs_i hst
  exact lv_i2c hG.1.1 hG.1.2.1 hd rfl (k hG ⟨h0, hw, hS, hl, ⟨_, _, rfl, rfl, h1⟩, hb⟩)
theorem mm_i2l {x : Int32} (hd : decode M.2.1 pc = .ok (.i2l, 1)) (k : mm_V M d k0 post kc ks (pc + 1) L (.long x.toInt64 :: r) w) : mm_V M d k0 post kc ks pc L (.int x :: r) w := by
  intro p l e R s m args below meth c D cA A Q ρ0 mc ms hG ρ H locs ls st' cells slots ⟨h0, hw, hS, hl, hst, hb⟩
  obtain ⟨t1, rfl, h1⟩ := mm_vs_i hst
  exact lv_i2l hG.1.1 hG.1.2.1 hd rfl (k hG ⟨h0, hw, hS, hl, ⟨_, _, rfl, rfl, h1⟩, hb⟩)
theorem mm_l2i {x : Int64} (hd : decode M.2.1 pc = .ok (.l2i, 1)) (k : mm_V M d k0 post kc ks (pc + 1) L (.int x.toInt32 :: r) w) : mm_V M d k0 post kc ks pc L (.long x :: r) w := by
  intro p l e R s m args below meth c D cA A Q ρ0 mc ms hG ρ H locs ls st' cells slots ⟨h0, hw, hS, hl, hst, hb⟩
  obtain ⟨t1, rfl, h1⟩ := mm_vs_j hst
  exact lv_l2i hG.1.1 hG.1.2.1 hd rfl (k hG ⟨h0, hw, hS, hl, ⟨_, _, rfl, rfl, h1⟩, hb⟩)
theorem mm_lcmp {x y : Int64} (hd : decode M.2.1 pc = .ok (.lcmp, 1)) (k : mm_V M d k0 post kc ks (pc + 1) L (.int (lg_cmp x y) :: r) w) : mm_V M d k0 post kc ks pc L (.long y :: .long x :: r) w := by
  intro p l e R s m args below meth c D cA A Q ρ0 mc ms hG ρ H locs ls st' cells slots ⟨h0, hw, hS, hl, hst, hb⟩
  obtain ⟨t1, rfl, h1⟩ := mm_vs_j hst
  obtain ⟨t2, rfl, h2⟩ := mm_vs_j h1
  exact W.lcmp hG.1.1 hG.1.2.1 hd (k hG ⟨h0, hw, hS, hl, ⟨_, _, rfl, rfl, h2⟩, hb⟩)
theorem mm_dup {u : Value} (hd : decode M.2.1 pc = .ok (.dup, 1)) (hu : u.category = 1) (k : mm_V M d k0 post kc ks (pc + 1) L (u :: u :: r) w) : mm_V M d k0 post kc ks pc L (u :: r) w := by
  intro p l e R s m args below meth c D cA A Q ρ0 mc ms hG ρ H locs ls st' cells slots ⟨h0, hw, hS, hl, hst, hb⟩
  obtain ⟨v, t1, rfl, h1, h2⟩ := hst
  exact lv_dup hG.1.1 hG.1.2.1 hd (by rw [mm_v_cat h1]; exact hu) (k hG ⟨h0, hw, hS, hl, ⟨_, _, rfl, h1, _, _, rfl, h1, h2⟩, hb⟩)
theorem mm_pop {u : Value} (hd : decode M.2.1 pc = .ok (.pop, 1)) (hu : u.category = 1) (k : mm_V M d k0 post kc ks (pc + 1) L r w) : mm_V M d k0 post kc ks pc L (u :: r) w := by
  intro p l e R s m args below meth c D cA A Q ρ0 mc ms hG ρ H locs ls st' cells slots ⟨h0, hw, hS, hl, hst, hb⟩
  obtain ⟨v, t1, rfl, h1, h2⟩ := hst
  exact lv_pop hG.1.1 hG.1.2.1 hd (by rw [mm_v_cat h1]; exact hu) (k hG ⟨h0, hw, hS, hl, h2, hb⟩)
theorem mm_dup_x1 {u u2 : Value} (hd : decode M.2.1 pc = .ok (.dup_x1, 1)) (hu : u.category = 1) (hu2 : u2.category = 1) (k : mm_V M d k0 post kc ks (pc + 1) L (u :: u2 :: u :: r) w) : mm_V M d k0 post kc ks pc L (u :: u2 :: r) w := by
  intro p l e R s m args below meth c D cA A Q ρ0 mc ms hG ρ H locs ls st' cells slots ⟨h0, hw, hS, hl, hst, hb⟩
  obtain ⟨v, t1, rfl, h1, v2, t2, rfl, h2, h3⟩ := hst
  exact lv_dup_x1 hG.1.1 hG.1.2.1 hd (by rw [mm_v_cat h1]; exact hu) (by rw [mm_v_cat h2]; exact hu2) (k hG ⟨h0, hw, hS, hl, ⟨_, _, rfl, h1, _, _, rfl, h2, _, _, rfl, h1, h3⟩, hb⟩)
theorem mm_dup_x2 {u u2 u3 : Value} (hd : decode M.2.1 pc = .ok (.dup_x2, 1)) (hu : u.category = 1) (hu2 : u2.category = 1) (hu3 : u3.category = 1) (k : mm_V M d k0 post kc ks (pc + 1) L (u :: u2 :: u3 :: u :: r) w) : mm_V M d k0 post kc ks pc L (u :: u2 :: u3 :: r) w := by
  intro p l e R s m args below meth c D cA A Q ρ0 mc ms hG ρ H locs ls st' cells slots ⟨h0, hw, hS, hl, hst, hb⟩
  obtain ⟨v, t1, rfl, h1, v2, t2, rfl, h2, v3, t3, rfl, h3, h4⟩ := hst
  exact lv_dup_x2 hG.1.1 hG.1.2.1 hd (by rw [mm_v_cat h1]; exact hu) (by rw [mm_v_cat h2]; exact hu2) (by rw [mm_v_cat h3]; exact hu3) (k hG ⟨h0, hw, hS, hl, ⟨_, _, rfl, h1, _, _, rfl, h2, _, _, rfl, h3, _, _, rfl, h1, h4⟩, hb⟩)
theorem mm_dup2 {u u2 : Value} (hd : decode M.2.1 pc = .ok (.dup2, 1)) (hu : u.category = 1) (hu2 : u2.category = 1) (k : mm_V M d k0 post kc ks (pc + 1) L (u :: u2 :: u :: u2 :: r) w) : mm_V M d k0 post kc ks pc L (u :: u2 :: r) w := by
  intro p l e R s m args below meth c D cA A Q ρ0 mc ms hG ρ H locs ls st' cells slots ⟨h0, hw, hS, hl, hst, hb⟩
  obtain ⟨v, t1, rfl, h1, v2, t2, rfl, h2, h3⟩ := hst
  exact lv_dup2_11 hG.1.1 hG.1.2.1 hd (by rw [mm_v_cat h1]; exact hu) (by rw [mm_v_cat h2]; exact hu2) (k hG ⟨h0, hw, hS, hl, ⟨_, _, rfl, h1, _, _, rfl, h2, _, _, rfl, h1, _, _, rfl, h2, h3⟩, hb⟩)
theorem mm_goto {off : Int} {tgt : Nat} (hd : decode M.2.1 pc = .ok (.goto off, 3)) (ht : (pc : Int) + off = (tgt : Int)) (k : mm_V M d k0 post kc ks tgt L r w) : mm_V M d k0 post kc ks pc L r w := by
  intro p l e R s m args below meth c D cA A Q ρ0 mc ms hG ρ H locs ls st' cells slots ⟨h0, hw, hS, hl, hst, hb⟩
  exact lv_goto hG.1.1 hG.1.2.1 hd ht (k hG ⟨h0, hw, hS, hl, hst, hb⟩)
theorem mm_if_eq {x : Int32} {off : Int} (tgt : Nat) (hd : decode M.2.1 pc = .ok (.ifCond .eq off, 3)) (ht : (pc : Int) + off = (tgt : Int)) (kt : x = 0 → mm_V M d k0 post kc ks tgt L r w) (kf : ¬ x = 0 → mm_V M d k0 post kc ks (pc + 3) L r w) : mm_V M d k0 post kc ks pc L (.int x :: r) w := by
  intro p l e R s m args below meth c D cA A Q ρ0 mc ms hG ρ H locs ls st' cells slots ⟨h0, hw, hS, hl, hst, hb⟩
  obtain ⟨t1, rfl, h1⟩ := mm_vs_i hst
  exact lv_if_eq hG.1.1 hG.1.2.1 hd ht (fun q => kt q hG ⟨h0, hw, hS, hl, h1, hb⟩) (fun q => kf q hG ⟨h0, hw, hS, hl, h1, hb⟩)
theorem mm_icmp_eq {x y : Int32} {off : Int} (tgt : Nat) (hd : decode M.2.1 pc = .ok (.if_icmp .eq off, 3)) (ht : (pc : Int) + off = (tgt : Int)) (kt : x = y → mm_V M d k0 post kc ks tgt L r w) (kf : ¬ x = y → mm_V M d k0 post kc ks (pc + 3) L r w) : mm_V M d k0 post kc ks pc L (.int y :: .int x :: r) w := by
  intro p l e R s m args below meth c D cA A Q ρ0 mc ms hG ρ H locs ls st' cells slots ⟨h0, hw, hS, hl, hst, hb⟩
  obtain ⟨t1, rfl, h1⟩ := mm_vs_i hst
  obtain ⟨t2, rfl, h2⟩ := mm_vs_i h1
  exact lv_icmp_eq hG.1.1 hG.1.2.1 hd ht (fun q => kt q hG ⟨h0, hw, hS, hl, h2, hb⟩) (fun q => kf q hG ⟨h0, hw, hS, hl, h2, hb⟩)
theorem mm_if_ne {x : Int32} {off : Int} (tgt : Nat) (hd : decode M.2.1 pc = .ok (.ifCond .ne off, 3)) (ht : (pc : Int) + off = (tgt : Int)) (kt : ¬ x = 0 → mm_V M d k0 post kc ks tgt L r w) (kf : x = 0 → mm_V M d k0 post kc ks (pc + 3) L r w) : mm_V M d k0 post kc ks pc L (.int x :: r) w := by
  intro p l e R s m args below meth c D cA A Q ρ0 mc ms hG ρ H locs ls st' cells slots ⟨h0, hw, hS, hl, hst, hb⟩
  obtain ⟨t1, rfl, h1⟩ := mm_vs_i hst
  exact lv_if_ne hG.1.1 hG.1.2.1 hd ht (fun q => kt q hG ⟨h0, hw, hS, hl, h1, hb⟩) (fun q => kf q hG ⟨h0, hw, hS, hl, h1, hb⟩)
theorem mm_icmp_ne {x y : Int32} {off : Int} (tgt : Nat) (hd : decode M.2.1 pc = .ok (.if_icmp .ne off, 3)) (ht : (pc : Int) + off = (tgt : Int)) (kt : ¬ x = y → mm_V M d k0 post kc ks tgt L r w) (kf : x = y → mm_V M d k0 post kc ks (pc + 3) L r w) : mm_V M d k0 post kc ks pc L (.int y :: .int x :: r) w := by
  intro p l e R s m args below meth c D cA A Q ρ0 mc ms hG ρ H locs ls st' cells slots ⟨h0, hw, hS, hl, hst, hb⟩
  obtain ⟨t1, rfl, h1⟩ := mm_vs_i hst
  obtain ⟨t2, rfl, h2⟩ := mm_vs_i h1
  exact lv_icmp_ne hG.1.1 hG.1.2.1 hd ht (fun q => kt q hG ⟨h0, hw, hS, hl, h2, hb⟩) (fun q => kf q hG ⟨h0, hw, hS, hl, h2, hb⟩)
theorem mm_if_lt {x : Int32} {off : Int} (tgt : Nat) (hd : decode M.2.1 pc = .ok (.ifCond .lt off, 3)) (ht : (pc : Int) + off = (tgt : Int)) (kt : x < 0 → mm_V M d k0 post kc ks tgt L r w) (kf : ¬ x < 0 → mm_V M d k0 post kc ks (pc + 3) L r w) : mm_V M d k0 post kc ks pc L (.int x :: r) w := by
  intro p l e R s m args below meth c D cA A Q ρ0 mc ms hG ρ H locs ls st' cells slots ⟨h0, hw, hS, hl, hst, hb⟩
  obtain ⟨t1, rfl, h1⟩ := mm_vs_i hst
  exact lv_if_lt hG.1.1 hG.1.2.1 hd ht (fun q => kt q hG ⟨h0, hw, hS, hl, h1, hb⟩) (fun q => kf q hG ⟨h0, hw, hS, hl, h1, hb⟩)
theorem mm_icmp_lt {x y : Int32} {off : Int} (tgt : Nat) (hd : decode M.2.1 pc = .ok (.if_icmp .lt off, 3)) (ht : (pc : Int) + off = (tgt : Int)) (kt : x < y → mm_V M d k0 post kc ks tgt L r w) (kf : ¬ x < y → mm_V M d k0 post kc ks (pc + 3) L r w) : mm_V M d k0 post kc ks pc L (.int y :: .int x :: r) w := by
  intro p l e R s m args below meth c D cA A Q ρ0 mc ms hG ρ H locs ls st' cells slots ⟨h0, hw, hS, hl, hst, hb⟩
  obtain ⟨t1, rfl, h1⟩ := mm_vs_i hst
  obtain ⟨t2, rfl, h2⟩ := mm_vs_i h1
  exact lv_icmp_lt hG.1.1 hG.1.2.1 hd ht (fun q => kt q hG ⟨h0, hw, hS, hl, h2, hb⟩) (fun q => kf q hG ⟨h0, hw, hS, hl, h2, hb⟩)
theorem mm_if_ge {x : Int32} {off : Int} (tgt : Nat) (hd : decode M.2.1 pc = .ok (.ifCond .ge off, 3)) (ht : (pc : Int) + off = (tgt : Int)) (kt : 0 ≤ x → mm_V M d k0 post kc ks tgt L r w) (kf : ¬ 0 ≤ x → mm_V M d k0 post kc ks (pc + 3) L r w) : mm_V M d k0 post kc ks pc L (.int x :: r) w := by
  intro p l e R s m args below meth c D cA A Q ρ0 mc ms hG ρ H locs ls st' cells slots ⟨h0, hw, hS, hl, hst, hb⟩
  obtain ⟨t1, rfl, h1⟩ := mm_vs_i hst
  exact lv_if_ge hG.1.1 hG.1.2.1 hd ht (fun q => kt q hG ⟨h0, hw, hS, hl, h1, hb⟩) (fun q => kf q hG ⟨h0, hw, hS, hl, h1, hb⟩)
theorem mm_icmp_ge {x y : Int32} {off : Int} (tgt : Nat) (hd : decode M.2.1 pc = .ok (.if_icmp .ge off, 3)) (ht : (pc : Int) + off = (tgt : Int)) (kt : y ≤ x → mm_V M d k0 post kc ks tgt L r w) (kf : ¬ y ≤ x → mm_V M d k0 post kc ks (pc + 3) L r w) : mm_V M d k0 post kc ks pc L (.int y :: .int x :: r) w := by
  intro p l e R s m args below meth c D cA A Q ρ0 mc ms hG ρ H locs ls st' cells slots ⟨h0, hw, hS, hl, hst, hb⟩
  obtain ⟨t1, rfl, h1⟩ := mm_vs_i hst
  obtain ⟨t2, rfl, h2⟩ := mm_vs_i h1
  exact lv_icmp_ge hG.1.1 hG.1.2.1 hd ht (fun q => kt q hG ⟨h0, hw, hS, hl, h2, hb⟩) (fun q => kf q hG ⟨h0, hw, hS, hl, h2, hb⟩)
theorem mm_if_gt {x : Int32} {off : Int} (tgt : Nat) (hd : decode M.2.1 pc = .ok (.ifCond .gt off, 3)) (ht : (pc : Int) + off = (tgt : Int)) (kt : 0 < x → mm_V M d k0 post kc ks tgt L r w) (kf : ¬ 0 < x → mm_V M d k0 post kc ks (pc + 3) L r w) : mm_V M d k0 post kc ks pc L (.int x :: r) w := by
  intro p l e R s m args below meth c D cA A Q ρ0 mc ms hG ρ H locs ls st' cells slots ⟨h0, hw, hS, hl, hst, hb⟩
  obtain ⟨t1, rfl, h1⟩ := mm_vs_i hst
  exact lv_if_gt hG.1.1 hG.1.2.1 hd ht (fun q => kt q hG ⟨h0, hw, hS, hl, h1, hb⟩) (fun q => kf q hG ⟨h0, hw, hS, hl, h1, hb⟩)
theorem mm_icmp_gt {x y : Int32} {off : Int} (tgt : Nat) (hd : decode M.2.1 pc = .ok (.if_icmp .gt off, 3)) (ht : (pc : Int) + off = (tgt : Int)) (kt : y < x → mm_V M d k0 post kc ks tgt L r w) (kf : ¬ y < x → mm_V M d k0 post kc ks (pc + 3) L r w) : mm_V M d k0 post kc ks pc L (.int y :: .int x :: r) w := by
  intro p l e R s m args below meth c D cA A Q ρ0 mc ms hG ρ H locs ls st' cells slots ⟨h0, hw, hS, hl, hst, hb⟩
  obtain ⟨t1, rfl, h1⟩ := mm_vs_i hst
  obtain ⟨t2, rfl, h2⟩ := mm_vs_i h1
  exact lv_icmp_gt hG.1.1 hG.1.2.1 hd ht (fun q => kt q hG ⟨h0, hw, hS, hl, h2, hb⟩) (fun q => kf q hG ⟨h0, hw, hS, hl, h2, hb⟩)
theorem mm_if_le {x : Int32} {off : Int} (tgt : Nat) (hd : decode M.2.1 pc = .ok (.ifCond .le off, 3)) (ht : (pc : Int) + off = (tgt : Int)) (kt : x ≤ 0 → mm_V M d k0 post kc ks tgt L r w) (kf : ¬ x ≤ 0 → mm_V M d k0 post kc ks (pc + 3) L r w) : mm_V M d k0 post kc ks pc L (.int x :: r) w := by
  intro p l e R s m args below meth c D cA A Q ρ0 mc ms hG ρ H locs ls st' cells slots ⟨h0, hw, hS, hl, hst, hb⟩
  obtain ⟨t1, rfl, h1⟩ := mm_vs_i hst
  exact lv_if_le hG.1.1 hG.1.2.1 hd ht (fun q => kt q hG ⟨h0, hw, hS, hl, h1, hb⟩) (fun q => kf q hG ⟨h0, hw, hS, hl, h1, hb⟩)
theorem mm_icmp_le {x y : Int32} {off : Int} (tgt : Nat) (hd : decode M.2.1 pc = .ok (.if_icmp .le off, 3)) (ht : (pc : Int) + off = (tgt : Int)) (kt : x ≤ y → mm_V M d k0 post kc ks tgt L r w) (kf : ¬ x ≤ y → mm_V M d k0 post kc ks (pc + 3) L r w) : mm_V M d k0 post kc ks pc L (.int y :: .int x :: r) w := by
  intro p l e R s m args below meth c D cA A Q ρ0 mc ms hG ρ H locs ls st' cells slots ⟨h0, hw, hS, hl, hst, hb⟩
  obtain ⟨t1, rfl, h1⟩ := mm_vs_i hst
  obtain ⟨t2, rfl, h2⟩ := mm_vs_i h1
  exact lv_icmp_le hG.1.1 hG.1.2.1 hd ht (fun q => kt q hG ⟨h0, hw, hS, hl, h2, hb⟩) (fun q => kf q hG ⟨h0, hw, hS, hl, h2, hb⟩)
theorem mm_ifnull {off : Int} {a : Nat} (hd : decode M.2.1 pc = .ok (.ifnull off, 3)) (k : mm_V M d k0 post kc ks (pc + 3) L r w) : mm_V M d k0 post kc ks pc L (.ref a :: r) w := by
  intro p l e R s m args below meth c D cA A Q ρ0 mc ms hG ρ H locs ls st' cells slots ⟨h0, hw, hS, hl, hst, hb⟩
  obtain ⟨b, t1, rfl, hb1, h1⟩ := mm_vs_r hst
  exact lv_ifnull hG.1.1 hG.1.2.1 hd (k hG ⟨h0, hw, hS, hl, h1, hb⟩)
theorem mm_ifnonnull {off : Int} {a : Nat} (tgt : Nat) (hd : decode M.2.1 pc = .ok (.ifnonnull off, 3)) (ht : (pc : Int) + off = (tgt : Int)) (k : mm_V M d k0 post kc ks tgt L r w) : mm_V M d k0 post kc ks pc L (.ref a :: r) w := by
  intro p l e R s m args below meth c D cA A Q ρ0 mc ms hG ρ H locs ls st' cells slots ⟨h0, hw, hS, hl, hst, hb⟩
  obtain ⟨b, t1, rfl, hb1, h1⟩ := mm_vs_r hst
  exact lv_ifnonnull hG.1.1 hG.1.2.1 hd ht (k hG ⟨h0, hw, hS, hl, h1, hb⟩)
theorem mm_ifnullN {off : Int} (tgt : Nat) (hd : decode M.2.1 pc = .ok (.ifnull off, 3)) (ht : (pc : Int) + off = (tgt : Int)) (k : mm_V M d k0 post kc ks tgt L r w) : mm_V M d k0 post kc ks pc L (.null :: r) w := by
  intro p l e R s m args below meth c D cA A Q ρ0 mc ms hG ρ H locs ls st' cells slots ⟨h0, hw, hS, hl, hst, hb⟩
  obtain ⟨t1, rfl, h1⟩ := mm_vs_n hst
  exact lv_ifnullN hG.1.1 hG.1.2.1 hd ht (k hG ⟨h0, hw, hS, hl, h1, hb⟩)
theorem mm_ifnonnullN {off : Int} (hd : decode M.2.1 pc = .ok (.ifnonnull off, 3)) (k : mm_V M d k0 post kc ks (pc + 3) L r w) : mm_V M d k0 post kc ks pc L (.null :: r) w := by
  intro p l e R s m args below meth c D cA A Q ρ0 mc ms hG ρ H locs ls st' cells slots ⟨h0, hw, hS, hl, hst, hb⟩
  obtain ⟨t1, rfl, h1⟩ := mm_vs_n hst
  exact lv_ifnonnullN hG.1.1 hG.1.2.1 hd (k hG ⟨h0, hw, hS, hl, h1, hb⟩)
/-- a switch as a row of questions -/
def mm_Sel (P : Nat → Prop) (x : Int32) : List (Int32 × Nat) → Nat → Prop
  | [], t => P t
  | (c, t) :: cs, d => (x = c → P t) ∧ (¬ x = c → mm_Sel P x cs d)
theorem mm_Sel_off {P : Nat → Prop} {x : Int32} {pc : Nat} {dflt : Int} {dt : Nat} (hdt : (pc : Int) + dflt = (dt : Int)) : ∀ {cs : List (Int32 × Nat)} {ps : List (Int × Int)}, ps = cs.map (fun q => (q.1.toInt, (q.2 : Int) - (pc : Int))) → mm_Sel P x cs dt → ∃ tgt : Nat, (pc : Int) + Op.lookupswitch.offset ps dflt x.toInt = (tgt : Int) ∧ P tgt
  | [], ps, h, hs => by rw [h]; exact ⟨dt, hdt, hs⟩
  | (c, t) :: cs, ps, h, hs => by
    rw [h, List.map_cons]
    by_cases hx : x = c
    · refine ⟨t, ?_, hs.1 hx⟩
      have e : Op.lookupswitch.offset ((c.toInt, (t : Int) - (pc : Int)) :: cs.map (fun q => (q.1.toInt, (q.2 : Int) - (pc : Int)))) dflt x.toInt = (t : Int) - (pc : Int) := by
        rw [hx]; simp [Op.lookupswitch.offset]
      rw [e]; omega
    · obtain ⟨tgt, h1, h2⟩ := mm_Sel_off hdt rfl (hs.2 hx)
      exact ⟨tgt, by rw [lv_osw hx rfl]; exact h1, h2⟩
theorem mm_lookup {dflt : Int} {ps : Array (Int × Int)} {len : Nat} {x : Int32} (cs : List (Int32 × Nat)) (dt : Nat) (hd : decode M.2.1 pc = .ok (.lookupswitch dflt ps, len)) (hp : (ps.toList.zip (ps.toList.drop 1)).all (fun (a, next) => a.1 < next.1) = true) (hc : ps.toList = cs.map (fun q => (q.1.toInt, (q.2 : Int) - (pc : Int)))) (hdt : (pc : Int) + dflt = (dt : Int)) (k : mm_Sel (fun t => mm_V M d k0 post kc ks t L r w) x cs dt) : mm_V M d k0 post kc ks pc L (.int x :: r) w := by
  intro p l e R s m args below meth c D cA A Q ρ0 mc ms hG ρ H locs ls st' cells slots ⟨h0, hw, hS, hl, hst, hb⟩
  obtain ⟨t1, rfl, h1⟩ := mm_vs_i hst
  obtain ⟨tgt, e1, hk⟩ := mm_Sel_off hdt hc k
  exact lv_lookup hG.1.1 hG.1.2.1 hd hp rfl e1 (hk hG ⟨h0, hw, hS, hl, h1, hb⟩)
theorem mm_Sel_tab {P : Nat → Prop} {x : Int32} {lo : Int} {dt : Nat} : ∀ {cs : List (Int32 × Nat)} (i : Nat), (∀ (j : Nat) (q : Int32 × Nat), cs[j]? = some q → q.1.toInt = lo + ((i + j : Nat) : Int)) → mm_Sel P x cs dt → (∃ (j : Nat) (q : Int32 × Nat), cs[j]? = some q ∧ x.toInt = lo + ((i + j : Nat) : Int) ∧ P q.2) ∨ ((∀ (j : Nat) (q : Int32 × Nat), cs[j]? = some q → ¬ x = q.1) ∧ P dt)
  | [], i, _, hs => Or.inr ⟨fun j q hj => by simp at hj, hs⟩
  | (c, t) :: cs, i, h, hs => by
    by_cases hx : x = c
    · refine Or.inl ⟨0, (c, t), rfl, ?_, hs.1 hx⟩
      rw [hx]
      exact h 0 (c, t) rfl
    · rcases mm_Sel_tab (i + 1) (fun j q hj => by
        have := h (j + 1) q (by rw [List.getElem?_cons_succ]; exact hj)
        rw [this]
        congr 1
        omega) (hs.2 hx) with ⟨j, q, h1, h2, h3⟩ | ⟨h1, h2⟩
      · exact Or.inl ⟨j + 1, q, by rw [List.getElem?_cons_succ]; exact h1, by rw [h2]; congr 1; omega, h3⟩
      · refine Or.inr ⟨fun j q hj => ?_, h2⟩
        match j, hj with
        | 0, hj => cases hj; exact hx
        | j + 1, hj => exact h1 j q (by rw [List.getElem?_cons_succ] at hj; exact hj)
theorem mm_table {dflt lo hi : Int} {offs : Array Int} {len : Nat} {x : Int32} (cs : List (Int32 × Nat)) (dt : Nat) (hd : decode M.2.1 pc = .ok (.tableswitch dflt lo hi offs, len)) (hlo : lo + cs.length = hi + 1) (hc : offs.toList = cs.map (fun q => (q.2 : Int) - (pc : Int))) (hv : cs.map (fun q => q.1.toInt) = (List.range cs.length).map (fun (j : Nat) => lo + (j : Int))) (hdt : (pc : Int) + dflt = (dt : Int)) (k : mm_Sel (fun t => mm_V M d k0 post kc ks t L r w) x cs dt) : mm_V M d k0 post kc ks pc L (.int x :: r) w := by
  intro p l e R s m args below meth c D cA A Q ρ0 mc ms hG ρ H locs ls st' cells slots ⟨h0, hw, hS, hl, hst, hb⟩
  obtain ⟨t1, rfl, h1⟩ := mm_vs_i hst
  have hcs : ∀ (j : Nat) (q : Int32 × Nat), cs[j]? = some q → q.1.toInt = lo + ((0 + j : Nat) : Int) := by
    intro j q hj
    have e1 : (cs.map (fun q => q.1.toInt))[j]? = some q.1.toInt := by rw [List.getElem?_map, hj]; rfl
    have hlt : j < cs.length := (List.getElem?_eq_some_iff.mp hj).1
    rw [hv, List.getElem?_map, List.getElem?_range hlt] at e1
    rw [Nat.zero_add]
    exact (Option.some.inj e1).symm
  rcases mm_Sel_tab 0 hcs k with ⟨j, q, e1, e2, hk⟩ | ⟨e1, hk⟩
  · have hlt : j < cs.length := (List.getElem?_eq_some_iff.mp e1).1
    rw [Nat.zero_add] at e2
    have e3 : offs[(x.toInt - lo).toNat]? = some ((q.2 : Int) - (pc : Int)) := by
      rw [show (x.toInt - lo).toNat = j by omega, ← Array.getElem?_toList, hc, List.getElem?_map, e1]; rfl
    exact lv_tableIn hG.1.1 hG.1.2.1 hd (by omega) (by omega) e3 (tgt := q.2) (by omega) (hk hG ⟨h0, hw, hS, hl, h1, hb⟩)
  · refine lv_tableOut hG.1.1 hG.1.2.1 hd ?_ hdt (hk hG ⟨h0, hw, hS, hl, h1, hb⟩)
    rcases Int.lt_or_le x.toInt lo with q1 | q1
    · exact Or.inl q1
    · rcases Int.lt_or_le hi x.toInt with q2 | q2
      · exact Or.inr q2
      · exfalso
        have hlt : (x.toInt - lo).toNat < cs.length := by omega
        obtain ⟨q, hq⟩ : ∃ q, cs[(x.toInt - lo).toNat]? = some q := ⟨_, List.getElem?_eq_getElem hlt⟩
        refine e1 _ q hq (Int32.toInt_inj.mp ?_)
        rw [hcs _ q hq]
        omega
def mm_fl (own : String) (idx ci k : Nat) : Prop := ∃ (C : String) (T : u_T) (N : Nat), mmCl[ci]? = some (C, T, N) ∧ k < N ∧ (Cond.fieldLink own idx (T k).1 (T k).2.1 (T k).2.2.1 ∈ mm_T ∨ ∃ host, Cond.fieldLinkNest own idx (T k).1 (T k).2.1 (T k).2.2.1 host ∈ mm_N)
theorem mm_Cin {ci : Nat} {C : String} {T : u_T} {N : Nat} (h : mmCl[ci]? = some (C, T, N)) : ∀ w ∈ u_ws C T N, w ∈ mm_T := mm_in (C, T, N) (List.mem_of_getElem? h)
theorem mm_getf {idx a : Nat} {fs : List Value} {u : Value} (ci j : Nat) (hd : decode M.2.1 pc = .ok (.getfield idx, 3)) (hf : mm_fl M.1 idx ci j) (ha : w[a]? = some (.inr (ci, fs))) (hu : fs[j]? = some u) (k : mm_V M d k0 post kc ks (pc + 3) L (u :: r) w) : mm_V M d k0 post kc ks pc L (.ref a :: r) w := by
  intro p l e R s m args below meth c D cA A Q ρ0 mc ms hG ρ H locs ls st' cells slots ⟨h0, hw, hS, hl, hst, hb⟩
  obtain ⟨b, t1, rfl, hb1, h1⟩ := mm_vs_r hst
  obtain ⟨ws, hws, hP, hD⟩ := hw
  obtain ⟨y, hy1, fs', hy2, hy3⟩ := mm_w_get hws ha hb1
  subst hy2
  obtain ⟨v, hv1, hv2⟩ := mm_vs_get hy3 hu
  obtain ⟨C, T, N, hc, hk, hlk⟩ := hf
  have hts := hG.1.2.2.2.2.1
  have kk := k hG ⟨h0, ⟨ws, hws, hP, hD⟩, hS, hl, ⟨_, _, rfl, hv2, h1⟩, hb⟩
  rcases hlk with hlk | ⟨host, hlk⟩
  · exact va_get hG.1.1 hG.1.2.1 hts (mm_Cin hc) hG.1.2.2.2.1 hG.1.2.2.2.2.2.2.1 hP a hy1 hc j hk (hts _ hlk) (fun _ q => q) hv1 hd kk
  · exact va_getN hG.1.1 hG.1.2.1 hts (mm_Cin hc) hG.1.2.2.2.1 hG.1.2.2.2.2.2.2.1 hP a hy1 hc j hk ((hG.1.2.2.2.2.2.1 _ hlk).use rfl) (fun _ q => q) hv1 hd kk
/-- what a field of this type may be given -/
def mm_fit (ty : FieldType) (u : Value) : Prop := match ty, u with
  | .int, .int _ => True
  | .boolean, .int x => x = 0 ∨ x = 1
  | .long, .long _ => True
  | .object _, .ref _ => True
  | .object _, .null => True
  | .array _, .ref _ => True
  | .array _, .null => True
  | _, _ => False
theorem mm_fit_spec {ρ : List Nat} {ty : FieldType} {u v : Value} (h : mm_fit ty u) (hv : mm_v ρ u v) : narrow ty v = v ∧ fits ty v = true := by
  unfold mm_fit at h
  split at h
  · rw [show v = _ from hv]; exact ⟨rfl, rfl⟩
  · rw [show v = _ from hv]
    rcases h with rfl | rfl
    · exact ⟨by decide, by decide⟩
    · exact ⟨by decide, by decide⟩
  · rw [show v = _ from hv]; exact ⟨rfl, rfl⟩
  · obtain ⟨b, -, e⟩ := hv; rw [e]; exact ⟨rfl, rfl⟩
  · rw [show v = _ from hv]; exact ⟨rfl, rfl⟩
  · obtain ⟨b, -, e⟩ := hv; rw [e]; exact ⟨rfl, rfl⟩
  · rw [show v = _ from hv]; exact ⟨rfl, rfl⟩
  · exact h.elim
def mm_ty (q : vw_C) (k : Nat) : FieldType := (parseFieldDescriptor (q.2.1 k).2.2.1).getD .int
theorem mm_tyok : ∀ q ∈ mmCl, ∀ k, k < q.2.2 → parseFieldDescriptor (q.2.1 k).2.2.1 = some (mm_ty q k) := by decide +kernel
theorem mm_nmok : ∀ q ∈ mmCl, ∀ a, a < q.2.2 → ∀ b, b < q.2.2 → a ≠ b → (q.2.1 a).2.1 ≠ (q.2.1 b).2.1 := by decide +kernel
/-- may the field be written here -/
def mm_fp (M : mm_M) (idx ci k : Nat) : Prop := ∃ (C : String) (T : u_T) (N : Nat), mmCl[ci]? = some (C, T, N) ∧ ((T k).2.2.2 = false ∨ ((M.2.2.2.1 = true ∧ (T k).1 = M.1) ∧ Cond.fieldLink M.1 idx (T k).1 (T k).2.1 (T k).2.2.1 ∈ mm_T))
def mm_ft (ci k : Nat) (ty : FieldType) : Prop := ∃ (C : String) (T : u_T) (N : Nat), mmCl[ci]? = some (C, T, N) ∧ parseFieldDescriptor (T k).2.2.1 = some ty
theorem mm_putf {idx a : Nat} {fs : List Value} {u : Value} (ci j : Nat) (ty : FieldType) (hd : decode M.2.1 pc = .ok (.putfield idx, 3)) (hf : mm_fl M.1 idx ci j) (hp : mm_fp M idx ci j) (ht : mm_ft ci j ty) (ha : w[a]? = some (.inr (ci, fs))) (hj : j < fs.length) (hu : mm_fit ty u) (k : mm_V M d k0 post kc ks (pc + 3) L r (w.set a (.inr (ci, fs.set j u)))) : mm_V M d k0 post kc ks pc L (u :: .ref a :: r) w := by
  intro p l e R s m args below meth c D cA A Q ρ0 mc ms hG ρ H locs ls st' cells slots ⟨h0, hw, hS, hl, hst, hb⟩
  obtain ⟨v, t0, rfl, hv, hst⟩ := hst
  obtain ⟨b, t1, rfl, hb1, h1⟩ := mm_vs_r hst
  obtain ⟨ws, hws, hP, hD⟩ := hw
  obtain ⟨y, hy1, fs', hy2, hy3⟩ := mm_w_get hws ha hb1
  subst hy2
  obtain ⟨C, T, N, hc, hk, hlk⟩ := hf
  have hts := hG.1.2.2.2.2.1
  obtain ⟨hn, hfit⟩ := mm_fit_spec hu hv
  have hlen : j < fs'.length := by rw [mm_vs_len hy3]; exact hj
  have hmem := List.mem_of_getElem? hc
  have hty : parseFieldDescriptor (T j).2.2.1 = some ty := by
    obtain ⟨C2, T2, N2, hc2, ht⟩ := ht
    rw [hc] at hc2
    cases hc2
    exact ht
  have kk : ∀ (H1 : Heap) (locs1 : List Loc), va_P D mmCl (ws.set a (b, .inr (ci, fs'.set j v))) H1 → va_D A (ws.set a (b, .inr (ci, fs'.set j v))) → va_S A s.heap H1 locs1 → W p l e R s m args below meth c H1 locs1 cells slots Q (F0 m (pc + 3) ls t1) := fun H1 locs1 q1 q2 q3 =>
    k hG ⟨h0, ⟨_, mm_w_set hws hb1 ⟨_, rfl, mm_vs_set hv hy3 j⟩, q1, q2⟩, q3, hl, h1, hb⟩
  by_cases hfin : (T j).2.2.2 = false
  · rcases hlk with hlk | ⟨host, hlk⟩
    · exact va_put hG.1.1 hG.1.2.1 hts (mm_Cin hc) (mm_ty (C, T, N)) (mm_tyok (C, T, N) hmem) (mm_nmok (C, T, N) hmem) hG.1.2.2.2.1 hG.1.2.2.2.2.2.2.1 hP hD hS a hy1 hc j hk (hts _ hlk) (fun _ q => q) hfin hty hn hfit hlen hd kk
    · exact va_putN hG.1.1 hG.1.2.1 hts (mm_Cin hc) (mm_ty (C, T, N)) (mm_tyok (C, T, N) hmem) (mm_nmok (C, T, N) hmem) hG.1.2.2.2.1 hG.1.2.2.2.2.2.2.1 hP hD hS a hy1 hc j hk ((hG.1.2.2.2.2.2.1 _ hlk).use rfl) (fun _ q => q) hfin hty hn hfit hlen hd kk
  · have hp2 : (M.2.2.2.1 = true ∧ (T j).1 = M.1) ∧ Cond.fieldLink M.1 idx (T j).1 (T j).2.1 (T j).2.2.1 ∈ mm_T := by
      obtain ⟨C2, T2, N2, hc2, hp⟩ := hp
      rw [hc] at hc2
      cases hc2
      exact hp.resolve_left hfin
    exact va_putF hG.1.1 hG.1.2.1 hts (mm_Cin hc) (mm_ty (C, T, N)) (mm_tyok (C, T, N) hmem) (mm_nmok (C, T, N) hmem) hG.1.2.2.2.1 hG.1.2.2.2.2.2.2.1 hP hD hS a hy1 hc j hk (hts _ hp2.2) (fun _ q => q) (by simpa using hfin) (hG.1.2.2.2.2.2.2.2.2.2.1 hp2.1.1) hp2.1.2 hty hn hfit hlen hd kk
theorem mm_iald {a n : Nat} {f : Nat → Int32} {i : Int32} (hd : decode M.2.1 pc = .ok (.iaload, 1)) (ha : w[a]? = some (.inl (.int, (n, .inl f)))) (hin : vp_in i n) (k : mm_V M d k0 post kc ks (pc + 1) L (.int (f i.toNatClampNeg) :: r) w) : mm_V M d k0 post kc ks pc L (.int i :: .ref a :: r) w := by
  intro p l e R s m args below meth c D cA A Q ρ0 mc ms hG ρ H locs ls st' cells slots ⟨h0, hw, hS, hl, hst, hb⟩
  obtain ⟨t0, rfl, h8⟩ := mm_vs_i hst
  obtain ⟨b, t1, rfl, hb1, h1⟩ := mm_vs_r h8
  obtain ⟨ws, hws, hP, hD⟩ := hw
  obtain ⟨y, hy1, hy2⟩ := mm_w_get hws ha hb1
  have hy2 : y = .inl (cA .int, (n, .inl f)) := hy2
  subst hy2
  exact va_iald hG.1.1 hG.1.2.1 hG.1.2.2.2.2.2.2.1 hP a 0 hy1 rfl hin hd (k hG ⟨h0, ⟨ws, hws, hP, hD⟩, hS, hl, ⟨_, _, rfl, rfl, h1⟩, hb⟩)
theorem mm_lald {a n : Nat} {f : Nat → Int64} {i : Int32} (hd : decode M.2.1 pc = .ok (.laload, 1)) (ha : w[a]? = some (.inl (.long, (n, .inr (.inl f))))) (hin : vp_in i n) (k : mm_V M d k0 post kc ks (pc + 1) L (.long (f i.toNatClampNeg) :: r) w) : mm_V M d k0 post kc ks pc L (.int i :: .ref a :: r) w := by
  intro p l e R s m args below meth c D cA A Q ρ0 mc ms hG ρ H locs ls st' cells slots ⟨h0, hw, hS, hl, hst, hb⟩
  obtain ⟨t0, rfl, h8⟩ := mm_vs_i hst
  obtain ⟨b, t1, rfl, hb1, h1⟩ := mm_vs_r h8
  obtain ⟨ws, hws, hP, hD⟩ := hw
  obtain ⟨y, hy1, hy2⟩ := mm_w_get hws ha hb1
  have hy2 : y = .inl (cA .long, (n, .inr (.inl f))) := hy2
  subst hy2
  exact va_lald hG.1.1 hG.1.2.1 hG.1.2.2.2.2.2.2.1 hP a 1 hy1 rfl hin hd (k hG ⟨h0, ⟨ws, hws, hP, hD⟩, hS, hl, ⟨_, _, rfl, rfl, h1⟩, hb⟩)
theorem mm_iast {a n : Nat} {f : Nat → Int32} {i : Int32} {x : Int32} (hd : decode M.2.1 pc = .ok (.iastore, 1)) (ha : w[a]? = some (.inl (.int, (n, .inl (f))))) (hin : vp_in i n) (k : mm_V M d k0 post kc ks (pc + 1) L r (w.set a (.inl (.int, (n, .inl (upd f i.toNatClampNeg x)))))) : mm_V M d k0 post kc ks pc L (.int x :: .int i :: .ref a :: r) w := by
  intro p l e R s m args below meth c D cA A Q ρ0 mc ms hG ρ H locs ls st' cells slots ⟨h0, hw, hS, hl, hst, hb⟩
  obtain ⟨t9, rfl, h7⟩ := mm_vs_i hst
  obtain ⟨t0, rfl, h8⟩ := mm_vs_i h7
  obtain ⟨b, t1, rfl, hb1, h1⟩ := mm_vs_r h8
  obtain ⟨ws, hws, hP, hD⟩ := hw
  obtain ⟨y, hy1, hy2⟩ := mm_w_get hws ha hb1
  have hy2 : y = .inl (cA .int, (n, .inl (f))) := hy2
  subst hy2
  exact va_iast hG.1.1 hG.1.2.1 hG.1.2.2.2.2.2.2.1 hP hD hS a 0 hy1 rfl hin hd (fun H1 locs1 q1 q2 q3 => k hG ⟨h0, ⟨_, mm_w_set hws hb1 rfl, q1, q2⟩, q3, hl, h1, hb⟩)
theorem mm_last {a n : Nat} {f : Nat → Int64} {i : Int32} {x : Int64} (hd : decode M.2.1 pc = .ok (.lastore, 1)) (ha : w[a]? = some (.inl (.long, (n, .inr (.inl (f)))))) (hin : vp_in i n) (k : mm_V M d k0 post kc ks (pc + 1) L r (w.set a (.inl (.long, (n, .inr (.inl (vp_updL f i.toNatClampNeg x))))))) : mm_V M d k0 post kc ks pc L (.long x :: .int i :: .ref a :: r) w := by
  intro p l e R s m args below meth c D cA A Q ρ0 mc ms hG ρ H locs ls st' cells slots ⟨h0, hw, hS, hl, hst, hb⟩
  obtain ⟨t9, rfl, h7⟩ := mm_vs_j hst
  obtain ⟨t0, rfl, h8⟩ := mm_vs_i h7
  obtain ⟨b, t1, rfl, hb1, h1⟩ := mm_vs_r h8
  obtain ⟨ws, hws, hP, hD⟩ := hw
  obtain ⟨y, hy1, hy2⟩ := mm_w_get hws ha hb1
  have hy2 : y = .inl (cA .long, (n, .inr (.inl (f)))) := hy2
  subst hy2
  exact va_last hG.1.1 hG.1.2.1 hG.1.2.2.2.2.2.2.1 hP hD hS a 1 hy1 rfl hin hd (fun H1 locs1 q1 q2 q3 => k hG ⟨h0, ⟨_, mm_w_set hws hb1 rfl, q1, q2⟩, q3, hl, h1, hb⟩)
theorem mm_alen0 {a : Nat} {x : vp_A} {v : Int32} (hd : decode M.2.1 pc = .ok (.arraylength, 1)) (ha : w[a]? = some (.inl (.int, x))) (hv : Int32.ofNat x.1 = v) (k : mm_V M d k0 post kc ks (pc + 1) L (.int v :: r) w) : mm_V M d k0 post kc ks pc L (.ref a :: r) w := by
  intro p l e R s m args below meth c D cA A Q ρ0 mc ms hG ρ H locs ls st' cells slots ⟨h0, hw, hS, hl, hst, hb⟩
  obtain ⟨b, t1, rfl, hb1, h1⟩ := mm_vs_r hst
  obtain ⟨ws, hws, hP, hD⟩ := hw
  obtain ⟨y, hy1, hy2⟩ := mm_w_get hws ha hb1
  have hy2 : y = .inl (cA .int, x) := hy2
  subst hy2
  exact va_alen hG.1.1 hG.1.2.1 hG.1.2.2.2.2.2.2.1 hP a 0 hy1 rfl hv hd (k hG ⟨h0, ⟨ws, hws, hP, hD⟩, hS, hl, ⟨_, _, rfl, rfl, h1⟩, hb⟩)
theorem mm_alen1 {a : Nat} {x : vp_A} {v : Int32} (hd : decode M.2.1 pc = .ok (.arraylength, 1)) (ha : w[a]? = some (.inl (.long, x))) (hv : Int32.ofNat x.1 = v) (k : mm_V M d k0 post kc ks (pc + 1) L (.int v :: r) w) : mm_V M d k0 post kc ks pc L (.ref a :: r) w := by
  intro p l e R s m args below meth c D cA A Q ρ0 mc ms hG ρ H locs ls st' cells slots ⟨h0, hw, hS, hl, hst, hb⟩
  obtain ⟨b, t1, rfl, hb1, h1⟩ := mm_vs_r hst
  obtain ⟨ws, hws, hP, hD⟩ := hw
  obtain ⟨y, hy1, hy2⟩ := mm_w_get hws ha hb1
  have hy2 : y = .inl (cA .long, x) := hy2
  subst hy2
  exact va_alen hG.1.1 hG.1.2.1 hG.1.2.2.2.2.2.2.1 hP a 1 hy1 rfl hv hd (k hG ⟨h0, ⟨ws, hws, hP, hD⟩, hS, hl, ⟨_, _, rfl, rfl, h1⟩, hb⟩)
def mm_nr (v : Value) : Bool := match v with
  | .ref _ => false
  | _ => true
theorem mm_vs_nr {ρ : List Nat} : ∀ {fs : List Value}, fs.all mm_nr = true → mm_vs ρ fs fs
  | [], _ => rfl
  | u :: us, h => by
    simp only [List.all_cons, Bool.and_eq_true] at h
    refine ⟨u, us, rfl, ?_, mm_vs_nr h.2⟩
    cases u with
    | ref a => simp [mm_nr] at h
    | _ => exact rfl
def mm_nw (own : String) (idx ci : Nat) (fs : List Value) (N : Nat) : Prop := ∃ (C : String) (T : u_T), mmCl[ci]? = some (C, T, N) ∧ Cond.classLink own idx C ∈ mm_T ∧ Cond.instantiable C N ∈ mm_T ∧ Cond.initialized C ∈ mm_T ∧ fs.all mm_nr = true ∧ (List.range N).all (fun j => decide (defaultValue (mm_ty (C, T, N) j) = vp_V fs j)) = true
theorem mm_ext {ρ : List Nat} {k0 q : Nat} {ρ0 : List Nat} (hk : k0 ≤ ρ0.length) (h : ∀ a, a < k0 → ρ[a]? = ρ0[a]?) : ∀ a, a < k0 → (ρ ++ [q])[a]? = ρ0[a]? := fun a ha => by
  have h1 := h a ha
  rw [List.getElem?_eq_getElem (by omega : a < ρ0.length)] at h1
  rw [List.getElem?_append_left (List.getElem?_eq_some_iff.mp h1).1]
  exact h a ha
theorem mm_newo {idx N : Nat} (ci : Nat) (fs : List Value) (hd : decode M.2.1 pc = .ok (.new idx, 3)) (hf : mm_nw M.1 idx ci fs N) (k : mm_V M d k0 post kc ks (pc + 3) L (.ref w.length :: r) (w ++ [.inr (ci, fs)])) : mm_V M d k0 post (kc + 1) (ks + N) pc L r w := by
  intro p l e R s m args below meth c D cA A Q ρ0 mc ms hG ρ H locs ls st' cells slots ⟨h0, hw, hS, hl, hst, hb⟩
  obtain ⟨ws, hws, hP, hD⟩ := hw
  obtain ⟨C, T, hc, f1, f2, f3, f4, f5⟩ := hf
  have hts := hG.1.2.2.2.2.1
  have hmem := List.mem_of_getElem? hc
  have hR := hG.2.1
  refine va_new hG.1.1 hG.1.2.1 hts (mm_Cin hc) (mm_ty (C, T, N)) (mm_tyok (C, T, N) hmem) hG.1.2.2.2.1 (hts _ f1) (hts _ f2) (hts _ f3) hG.1.2.2.2.2.2.2.1 hP hD hS hG.1.2.2.2.2.2.2.2.2.1 hc (fun j hj => of_decide_eq_true (List.all_eq_true.mp f5 j (List.mem_range.mpr hj))) (by omega) (by omega) hd (fun q H1 q1 q2 q3 => ?_)
  have hm : ∀ a, a < ρ.length → (ρ ++ [q])[a]? = ρ[a]? := fun a ha => List.getElem?_append_left ha
  exact k hG ⟨mm_ext hG.2.2.1 h0, ⟨_, mm_w_push hws ⟨fs, rfl, mm_vs_nr f4⟩, q1, q2⟩, q3, mm_l_mono hm hl, ⟨_, _, rfl, ⟨q, by rw [← hws.1]; simp, rfl⟩, mm_vs_mono hm hst⟩, by omega, by omega⟩
theorem mm_newi {n : Int32} (N : Nat) (hd : decode M.2.1 pc = .ok (.newarray .int, 2)) (hw0 : Cond.arrayClass .int ∈ mm_T) (hn : ¬ n < 0) (hN : n.toNatClampNeg = N) (hb8 : N * componentBytes .int ≤ 536870912) (k : mm_V M d k0 post kc ks (pc + 2) L (.ref w.length :: r) (w ++ [.inl (.int, (N, .inl (fun _ => 0)))])) : mm_V M d k0 post (kc + 1) (ks + N) pc L (.int n :: r) w := by
  intro p l e R s m args below meth c D cA A Q ρ0 mc ms hG ρ H locs ls st' cells slots ⟨h0, hw, hS, hl, hst, hb⟩
  obtain ⟨t1, rfl, h1⟩ := mm_vs_i hst
  obtain ⟨ws, hws, hP, hD⟩ := hw
  have hR := hG.2.1
  refine va_newa (atype := .int) hG.1.1 hG.1.2.1 (hG.1.2.2.2.2.1 _ hw0) rfl hG.1.2.2.2.2.2.2.1 hP hD hS hG.1.2.2.2.2.2.2.2.2.1 (a0 := (N, .inl (fun _ => 0))) (fun _ => rfl) hn hN hb8 (by omega) (by omega) hd (fun q cA' H1 q0 q1 q2 q3 => ?_)
  have e1 : va_RA s (cA .int) .int := (hG.1.2.2.2.2.2.2.1.2 0 _ rfl).2
  have e2 : va_RA s cA' .int := (q0.2 2 _ rfl).2
  have e3 : cA' = cA .int := Option.some.inj (Eq.trans (Eq.symm e2) e1)
  subst e3
  have hm : ∀ a, a < ρ.length → (ρ ++ [q])[a]? = ρ[a]? := fun a ha => List.getElem?_append_left ha
  exact k hG ⟨mm_ext hG.2.2.1 h0, ⟨_, mm_w_push hws rfl, q1, q2⟩, q3, mm_l_mono hm hl, ⟨_, _, rfl, ⟨q, by rw [← hws.1]; simp, rfl⟩, mm_vs_mono hm h1⟩, by omega⟩
theorem mm_newl {n : Int32} (N : Nat) (hd : decode M.2.1 pc = .ok (.newarray .long, 2)) (hw0 : Cond.arrayClass .long ∈ mm_T) (hn : ¬ n < 0) (hN : n.toNatClampNeg = N) (hb8 : N * componentBytes .long ≤ 536870912) (k : mm_V M d k0 post kc ks (pc + 2) L (.ref w.length :: r) (w ++ [.inl (.long, (N, .inr (.inl (fun _ => 0))))])) : mm_V M d k0 post (kc + 1) (ks + N) pc L (.int n :: r) w := by
  intro p l e R s m args below meth c D cA A Q ρ0 mc ms hG ρ H locs ls st' cells slots ⟨h0, hw, hS, hl, hst, hb⟩
  obtain ⟨t1, rfl, h1⟩ := mm_vs_i hst
  obtain ⟨ws, hws, hP, hD⟩ := hw
  have hR := hG.2.1
  refine va_newa (atype := .long) hG.1.1 hG.1.2.1 (hG.1.2.2.2.2.1 _ hw0) rfl hG.1.2.2.2.2.2.2.1 hP hD hS hG.1.2.2.2.2.2.2.2.2.1 (a0 := (N, .inr (.inl (fun _ => 0)))) (fun _ => rfl) hn hN hb8 (by omega) (by omega) hd (fun q cA' H1 q0 q1 q2 q3 => ?_)
  have e1 : va_RA s (cA .long) .long := (hG.1.2.2.2.2.2.2.1.2 1 _ rfl).2
  have e2 : va_RA s cA' .long := (q0.2 2 _ rfl).2
  have e3 : cA' = cA .long := Option.some.inj (Eq.trans (Eq.symm e2) e1)
  subst e3
  have hm : ∀ a, a < ρ.length → (ρ ++ [q])[a]? = ρ[a]? := fun a ha => List.getElem?_append_left ha
  exact k hG ⟨mm_ext hG.2.2.1 h0, ⟨_, mm_w_push hws rfl, q1, q2⟩, q3, mm_l_mono hm hl, ⟨_, _, rfl, ⟨q, by rw [← hws.1]; simp, rfl⟩, mm_vs_mono hm h1⟩, by omega⟩
theorem mm_obj {idx a : Nat} (hd : decode M.2.1 pc = .ok (.invokespecial idx, 3)) (hw1 : Cond.methodLink M.1 idx Lib.objectInit ∈ mm_T) (hw2 : Cond.instanceMethod Lib.objectInit ∈ mm_T) (hw3 : Cond.code Lib.objectInit ⟨#[0xb1]⟩ 1 none ∈ mm_T) (hr : (r.map fun v => v.category).sum ≤ 8) (hd0 : 0 < d) (k : mm_V M d k0 post kc ks (pc + 3) L r w) : mm_V M d k0 post kc ks pc L (.ref a :: r) w := by
  intro p l e R s m args below meth c D cA A Q ρ0 mc ms hG ρ H locs ls st' cells slots ⟨h0, hw, hS, hl, hst, hb⟩
  obtain ⟨b, t1, rfl, hb1, h1⟩ := mm_vs_r hst
  have hts := hG.1.2.2.2.2.1
  have hrm := hG.1.2.2.2.2.2.2.2.1
  unfold mm_K at hrm
  refine W.objInit hG.1.1 hG.1.2.1 hG.1.2.2.2.1 (hts _ hw1) (hts _ hw2) (hts _ hw3) rfl (by rw [hG.1.2.2.1]; exact hl.1) rfl hd (by omega) ?_ (k hG ⟨h0, hw, hS, hl, h1, hb⟩)
  have e : (t1.map fun v => v.category).sum ≤ 8 := by rw [mm_vs_cat h1]; exact hr
  have e2 := lv_room (m := m) (pc := pc) (ls := ls) (rest := .ref b :: t1) e
  omega
theorem mm_mmax {idx : Nat} {x y : Int32} (hd : decode M.2.1 pc = .ok (.invokestatic idx, 3)) (hw1 : Cond.methodLink M.1 idx Lib.Math.max.name ∈ mm_T) (hw2 : Cond.static Lib.Math.max.name ∈ mm_T) (hw4 : Cond.initialized "java/lang/Math" ∈ mm_T) (hw3 : Cond.code Lib.Math.max.name Lib.Math.max.code 2 (some .int) ∈ mm_T) (hr : (r.map fun v => v.category).sum ≤ 8) (hd0 : 0 < d) (k : mm_V M d k0 post kc ks (pc + 3) L (.int (if x < y then y else x) :: r) w) : mm_V M d k0 post kc ks pc L (.int y :: .int x :: r) w := by
  intro p l e R s m args below meth c D cA A Q ρ0 mc ms hG ρ H locs ls st' cells slots ⟨h0, hw, hS, hl, hst, hb⟩
  obtain ⟨t0, rfl, h8⟩ := mm_vs_i hst
  obtain ⟨t1, rfl, h1⟩ := mm_vs_i h8
  have hts := hG.1.2.2.2.2.1
  have hrm := hG.1.2.2.2.2.2.2.2.1
  unfold mm_K at hrm
  have hR := hG.2.1
  refine va_mmax hG.1.1 hG.1.2.1 (by rw [hG.1.2.2.1]; exact hl.1.symm) hG.1.2.2.2.1 (hts _ hw1) (hts _ hw2) (hts _ hw4) (hts _ hw3) (by omega) ?_ (by omega) (by omega) hd (k hG ⟨h0, hw, hS, hl, ⟨_, _, rfl, rfl, h1⟩, hb⟩)
  have e : (t1.map fun v => v.category).sum ≤ 8 := by rw [mm_vs_cat h1]; exact hr
  omega
theorem mm_mmin {idx : Nat} {x y : Int32} (hd : decode M.2.1 pc = .ok (.invokestatic idx, 3)) (hw1 : Cond.methodLink M.1 idx Lib.Math.min.name ∈ mm_T) (hw2 : Cond.static Lib.Math.min.name ∈ mm_T) (hw4 : Cond.initialized "java/lang/Math" ∈ mm_T) (hw3 : Cond.code Lib.Math.min.name Lib.Math.min.code 2 (some .int) ∈ mm_T) (hr : (r.map fun v => v.category).sum ≤ 8) (hd0 : 0 < d) (k : mm_V M d k0 post kc ks (pc + 3) L (.int (if y < x then y else x) :: r) w) : mm_V M d k0 post kc ks pc L (.int y :: .int x :: r) w := by
  intro p l e R s m args below meth c D cA A Q ρ0 mc ms hG ρ H locs ls st' cells slots ⟨h0, hw, hS, hl, hst, hb⟩
  obtain ⟨t0, rfl, h8⟩ := mm_vs_i hst
  obtain ⟨t1, rfl, h1⟩ := mm_vs_i h8
  have hts := hG.1.2.2.2.2.1
  have hrm := hG.1.2.2.2.2.2.2.2.1
  unfold mm_K at hrm
  have hR := hG.2.1
  refine va_mmin hG.1.1 hG.1.2.1 (by rw [hG.1.2.2.1]; exact hl.1.symm) hG.1.2.2.2.1 (hts _ hw1) (hts _ hw2) (hts _ hw4) (hts _ hw3) (by omega) ?_ (by omega) (by omega) hd (k hG ⟨h0, hw, hS, hl, ⟨_, _, rfl, rfl, h1⟩, hb⟩)
  have e : (t1.map fun v => v.category).sum ≤ 8 := by rw [mm_vs_cat h1]; exact hr
  omega
theorem mm_ret (hr : mm_rd M pc none) (hp : post none w) : mm_V M d k0 post kc ks pc L [] w := by
  intro p l e R s m args below meth c D cA A Q ρ0 mc ms hG ρ H locs ls st' cells slots ⟨h0, hw, hS, hl, hst, hb⟩
  have hst : st' = [] := hst
  subst hst
  obtain ⟨ws, hws, hP, hD⟩ := hw
  exact W.widen (by omega) (by omega) (hG.2.2.2 pc ls none none w ρ ws H locs hp rfl hr h0 hws hP hD hS)
theorem mm_retv {u : Value} (hr : mm_rd M pc (some u)) (hp : post (some u) w) : mm_V M d k0 post kc ks pc L [u] w := by
  intro p l e R s m args below meth c D cA A Q ρ0 mc ms hG ρ H locs ls st' cells slots ⟨h0, hw, hS, hl, hst, hb⟩
  obtain ⟨v, t1, rfl, hv, h1⟩ := hst
  have h1 : t1 = [] := h1
  subst h1
  obtain ⟨ws, hws, hP, hD⟩ := hw
  exact W.widen (by omega) (by omega) (hG.2.2.2 pc ls (some u) (some v) w ρ ws H locs hp ⟨v, rfl, hv⟩ hr h0 hws hP hD hS)
theorem mm_eqw {st : List Value} {w' : mm_H} (h : w = w') (k : mm_V M d k0 post kc ks pc L st w') : mm_V M d k0 post kc ks pc L st w := h ▸ k
theorem mm_eqL {st : List Value} {L' : mm_L} (h : L = L') (k : mm_V M d k0 post kc ks pc L' st w) : mm_V M d k0 post kc ks pc L st w := h ▸ k
theorem mm_eqp {st : List Value} {pc' : Nat} (h : pc = pc') (k : mm_V M d k0 post kc ks pc' L st w) : mm_V M d k0 post kc ks pc L st w := h ▸ k
theorem mm_eqs {st st2 : List Value} (h : st = st2) (k : mm_V M d k0 post kc ks pc L st2 w) : mm_V M d k0 post kc ks pc L st w := h ▸ k
end MMV
/-! CONTRACTS -/
def mm_Pc (D : va_G) (cA : FieldType → ClassId) (ws : va_W) (sz : Nat) (av : List Value) : Array Value → State → Prop := va_Pc av (fun U => U.heap.size = sz ∧ va_P D mmCl ws U.heap ∧ va_K D mmCl (mm_tys cA) U ∧ va_D (fun _ => True) ws ∧ (∀ w ∈ mm_N, va_Nw w U) ∧ mm_E (va_A ws sz) U U.heap)
def mm_Q (D : va_G) (cA : FieldType → ClassId) (ρ : List Nat) (A : Nat → Prop) (k0 : Nat) (post : Option Value → mm_H → Prop) : Array Value → State → Outcome → State → Prop := fun _ st oc t =>
  (∃ (v v' : Option Value) (w' : mm_H) (ρ' : List Nat) (ws' : va_W), oc = .returned v' ∧ post v w' ∧ mm_ov ρ' v v' ∧ (∀ a, a < k0 → ρ'[a]? = ρ[a]?) ∧ mm_w cA ρ' w' ws' ∧ va_P D mmCl ws' t.heap ∧ va_D A ws') ∧ va_F A st t
def mm_Ct (y : MethodName) (M : mm_M) (d kc ks : Nat) (av : List Value) (w : mm_H) (post : Option Value → mm_H → Prop) : Prop :=
  ∀ (l : Launch) (D : va_G) (cA : FieldType → ClassId) (ρ : List Nat) (av' : List Value) (ws : va_W) (sz : Nat), mm_w cA ρ w ws → mm_vs ρ av av' →
    Met l y (.code y M.2.1 M.2.2.1 M.2.2.2.2 :: mm_T) { frames := d, cells := kc, slots := ks, locals := mm_K * d } (mm_Pc D cA ws sz av') (mm_Q D cA ρ (va_A ws sz) w.length post) kc ks (va_A ws sz)
theorem mm_Nw_onT {w : Cond} (h : w ∈ mm_N) : w.onTables = true := by
  have h2 := (List.mem_filter.mp h).2
  unfold mm_nest at h2
  split at h2
  · rfl
  · rfl
  · cases h2
theorem mm_Nw_warm {w : Cond} (h : w ∈ mm_N) {s U : State} (hW : s.WarmedH U.vm) (hZ : va_Nw w s) : va_Nw w U := by
  have h2 := (List.mem_filter.mp h).2
  unfold mm_nest at h2
  split at h2
  · exact va_Nw.warmF hW hZ
  · exact va_Nw.warmM hW hZ
  · cases h2
theorem mm_blind (D : va_G) (cA : FieldType → ClassId) (ws : va_W) (sz : Nat) (av : List Value) : FrameBlind (mm_Pc D cA ws sz av) := by
  intro a U g mk q
  obtain ⟨q0, q1, qP, qK, qD, qN, qE⟩ := q
  exact ⟨q0, q1, qP, va_K.moved (u := U) (U := U.calling g mk a) (Vm.Alike.refl U.vm) qK, qD, fun w hw => va_Nw.same (u := U) (U := U.calling g mk a) (mm_Nw_onT hw) rfl (qN w hw), qE.same rfl⟩
theorem mm_ws_good {y : MethodName} {M : mm_M} (hc : Cond.code y M.2.1 M.2.2.1 M.2.2.2.2 ∈ mm_T) : GoodIn mm_T (.code y M.2.1 M.2.2.1 M.2.2.2.2 :: mm_T) := by
  have hg : ∀ w ∈ mm_T, w ∈ mm_T ∧ ((w.onTables && w.keeps) = true ∨ ∃ ty, w = .arrayClass ty) := by
    intro w hw
    refine ⟨hw, ?_⟩
    have h2 := (List.mem_filter.mp hw).2
    unfold mm_good at h2
    rw [Bool.or_eq_true] at h2
    rcases h2 with h2 | h2
    · exact Or.inl h2
    · split at h2
      · exact Or.inr ⟨_, rfl⟩
      · cases h2
  intro w hw
  rcases List.mem_cons.mp hw with rfl | hw
  · exact hg _ hc
  · exact hg _ hw
theorem mm_Ct.of {y : MethodName} {M : mm_M} {d kc ks : Nat} {av : List Value} {w : mm_H} {post : Option Value → mm_H → Prop} (hy : plainName y.cls = true) (ho : y.cls = M.1) (hi : M.2.2.2.1 = true → y.name = "<init>") (hn : (mm_ar av).length ≤ M.2.2.1)
    (hV : mm_V M d w.length post kc ks 0 (mm_args M.2.2.1 av) [] w) : mm_Ct y M d kc ks av w post := by
  intro l D cA ρ av' ws sz hw hav
  refine Met.ofW (cc := M.2.1) (maxL := M.2.2.1) (ret := M.2.2.2.2) hy rfl ?_
  intro p e s m args below meth c s₁ B hml hv
  obtain ⟨rfl, hsz, hP, hK, hD0, hN, hE⟩ := hv
  subst hsz
  have hts := atoms_spec (ws := .code y M.2.1 M.2.2.1 M.2.2.2.2 :: mm_T) B.pre
  have hown : s.vm.findClass M.1 = some m.cls := by rw [← ho]; exact findClass_of_methodNamed B.named
  have hlocks := B.notSynchronized
  have hD := hD0.self (sz := s.heap.size)
  have hle : (lg_sl av').length ≤ M.2.2.1 := by rw [mm_sl_len hav, ← mm_ar_len]; exact hn
  have hl := lv_entry av' (n := M.2.2.1) hle
  rw [lg_entry_eq]
  generalize (lg_sl av' ++ List.replicate (M.2.2.1 - (lg_sl av').length) Slot.unset).toArray = ls at hl ⊢
  refine hV (A := va_A ws s.heap.size) (ρ0 := ρ) (mc := kc) (ms := ks) (cA := cA) (D := D) ⟨⟨B.exec, B.bytes, hml, hown, fun w hw => hts w (List.mem_cons_of_mem _ hw), hN, hK, ⟨Nat.le_refl _, Nat.le_refl _⟩, fun q h => Or.inr h, fun h => by rw [(name_of_methodNamed B.named B.method).1]; exact hi h, hE⟩, ⟨Nat.le_refl _, Nat.le_refl _⟩, by rw [hw.1]; exact Nat.le_refl _, ?_⟩ ⟨fun _ _ => rfl, ⟨ws, hw, hP, hD⟩, va_S.rf, mm_l_entry hav hn hl, rfl, by omega, by omega⟩
  intro pc ls v v' w' ρ' ws' H locs hp hov hrd hpre hw' hP' hD' hS'
  have fin : ∀ t : State, t.heap = H → s.WarmedH t.vm → mm_Q D cA ρ (va_A ws s.heap.size) w.length post av'.toArray s (.returned v') t := fun t ht _ => ⟨⟨v, v', w', ρ', ws', rfl, hp, hov, hpre, hw', by rw [ht]; exact hP', hD'⟩, hS'.F ht⟩
  unfold mm_rd at hrd
  split at hrd
  · have hov : v' = none := hov
    subst hov
    exact W.vret B.exec B.bytes (by rw [B.returns]; exact hrd.1) fin hS'.2.2 hrd.2
  · obtain ⟨ty, h1, h2, h3⟩ := hrd
    obtain ⟨z, rfl, hz⟩ := hov
    have hz : z = .int _ := hz
    subst hz
    exact W.zret B.exec B.bytes (by rw [B.returns]; exact h1) h2 fin hS'.2.2 h3
  · obtain ⟨z, rfl, hz⟩ := hov
    have hz : z = .long _ := hz
    subst hz
    exact W.lret B.exec B.bytes (by rw [B.returns]; exact hrd.1) fin hS'.2.2 hrd.2
  · obtain ⟨⟨rt, h1, h2⟩, h3⟩ := hrd
    obtain ⟨z, rfl, hz⟩ := hov
    have hz : z = .null := hz
    subst hz
    exact W.aret B.exec B.bytes (by rw [B.returns]; exact h1) h2 (Or.inl rfl) fin hS'.2.2 h3
  · obtain ⟨⟨rt, h1, h2⟩, h3⟩ := hrd
    obtain ⟨z, rfl, b, hb, hz⟩ := hov
    subst hz
    exact W.aret B.exec B.bytes (by rw [B.returns]; exact h1) h2 (Or.inr ⟨b, rfl⟩) fin hS'.2.2 h3
  · exact hrd.elim
/-- the same contract with a weaker end -/
theorem mm_Ct.imp {y : MethodName} {M : mm_M} {d kc ks : Nat} {av : List Value} {w : mm_H} {post post' : Option Value → mm_H → Prop} (h : mm_Ct y M d kc ks av w post) (hp : ∀ v w', post v w' → post' v w') : mm_Ct y M d kc ks av w post' := by
  intro l D cA ρ av' ws sz hw hav p e ha hc hk s m args below hf happ hP hK
  obtain ⟨n, o, h1, h2, h3, ⟨⟨v, v', w', ρ', ws', q0, q1, q2⟩, hF⟩, q3⟩ := h l D cA ρ av' ws sz hw hav p e ha hc hk s m args below hf happ hP hK
  exact ⟨n, o, h1, h2, h3, ⟨⟨v, v', w', ρ', ws', q0, hp v w' q1, q2⟩, hF⟩, q3⟩
section MMC
variable {M : mm_M} {d k0 kc ks pc : Nat} {post : Option Value → mm_H → Prop} {L : mm_L} {r : List Value} {w : mm_H} {y : MethodName} {M' : mm_M} {d' kc' ks' idx n : Nat} {av : List Value} {post' : Option Value → mm_H → Prop}
/-- what a call of y asks of the tables, wherever it stands -/
def mm_okM (y : MethodName) (M' : mm_M) (n : Nat) : Prop := Cond.code y M'.2.1 M'.2.2.1 M'.2.2.2.2 ∈ mm_T ∧ Cond.initialized y.cls ∈ mm_T ∧ (y.cls ≠ "java/lang/invoke/MethodHandle" ∧ y.cls ≠ "java/lang/invoke/VarHandle") ∧ (parseMethodDescriptor y.desc).map (fun d => d.parameters.length) = some n ∧ M'.2.2.1 + 19 ≤ mm_K
def mm_ml (own : String) (idx : Nat) (y : MethodName) : Prop := Cond.methodLink own idx y ∈ mm_T ∨ ∃ host, Cond.methodLinkNest own idx y host ∈ mm_N
theorem mm_ov_list {ρ : List Nat} {v v' : Option Value} (h : mm_ov ρ v v') {r r' : List Value} (hr : mm_vs ρ r r') : mm_vs ρ (v.toList ++ r) (v'.toList ++ r') := by
  cases v with
  | none => rw [show v' = none from h]; exact hr
  | some x =>
    obtain ⟨y, rfl, hy⟩ := h
    exact ⟨y, r', rfl, hy, hr⟩
theorem mm_after {p : Program} {l : Launch} {e : Env} {R : Room} {s : State} {m : MethodId} {args : Array Value} {below : List Frame} {meth : Method} {c : Code} {D : va_G} {cA : FieldType → ClassId} {A : Nat → Prop} {Q : State → Prop} {ρ0 : List Nat} {mc ms : Nat} (hG : mm_G M d k0 post p l e R s m args below meth c D cA A Q ρ0 mc ms)
    {ρ : List Nat} {H : Heap} {locs : List Loc} {ls : Array Slot} {st0 r' : List Value} {cells slots : Nat} (h0 : ∀ a, a < k0 → ρ[a]? = ρ0[a]?) {ws : va_W} (hws : mm_w cA ρ w ws) (hD : va_D A ws) (hS : va_S A s.heap H locs) (hl : mm_l M.2.2.1 ρ ls L) (hr' : mm_vs ρ r r') (hb : cells + (kc + kc') ≤ mc ∧ slots + (ks + ks') ≤ ms) {a : Array Value}
    (hr : va_Run p l e R s m args below meth c H locs cells slots kc' ks' (F0 m pc ls st0) r' (mm_Q D cA ρ (va_A ws H.size) w.length post' a) (va_A ws H.size))
    (k : ∀ v w', post' v w' → mm_V M d k0 post kc ks (pc + 3) L (v.toList ++ r) w') : W p l e R s m args below meth c H locs cells slots Q (F0 m pc ls st0) := by
  intro T hT X
  obtain ⟨v', st₀, t, T', Lx, e0, X', hL, e1, e2, ⟨⟨v, v2, w', ρ', ws', ho, hpost, hov, hpre, hw', hP', hD'⟩, hz, hk⟩, st⟩ := hr T hT X
  cases ho
  rw [e0] at hz hk
  have hA : ∀ q, va_A ws H.size q → A q := by
    intro q hq
    rcases hq with ⟨i, x, hx⟩ | hq
    · exact hD.2 i (q, x) hx
    · exact hG.1.2.2.2.2.2.2.2.2.1 q (Nat.le_trans hS.1 hq)
  have hm : ∀ a, a < ρ.length → ρ'[a]? = ρ[a]? := fun a ha => hpre a (by rw [← hws.1]; exact ha)
  have hpre0 : ∀ a, a < k0 → ρ'[a]? = ρ0[a]? := fun a ha => by
    have h1 := h0 a ha
    have h2 := hG.2.2.1
    rw [List.getElem?_eq_getElem (by omega : a < ρ0.length)] at h1
    rw [hm a (List.getElem?_eq_some_iff.mp h1).1]
    exact h0 a ha
  have hS1 : va_S A s.heap T'.heap (locs ++ Lx) := ⟨Nat.le_trans hS.1 (by rw [e1]; exact hz), fun q h1 h2 => by rw [e1, hk q (Nat.lt_of_lt_of_le h1 hS.1) (fun z => h2 (hA q z))]; exact hS.2.1 q h1 h2, fun q hq => by
      rcases List.mem_append.mp hq with h | h
      · exact hS.2.2 q h
      · exact hA _ (hL q h)⟩
  have kk : W p l e R s m args below meth c T'.heap (locs ++ Lx) (cells + kc') (slots + ks') Q (F0 m (pc + 3) ls (v'.toList ++ r')) :=
    k v w' hpost hG ⟨hpre0, ⟨ws', hw', by rw [e1]; exact hP', hD'.weaken (fun _ _ _ h => hA _ h)⟩, hS1, mm_l_mono hm hl, mm_ov_list hov (mm_vs_mono hm hr'), by omega⟩
  obtain ⟨t2, a1, b1⟩ := kk T' rfl X'
  exact ⟨t2, st t2 a1, b1⟩
theorem mm_callB {p : Program} {l : Launch} {e : Env} {R : Room} {s : State} {m : MethodId} {args : Array Value} {below : List Frame} {meth : Method} {c : Code} {D : va_G} {cA : FieldType → ClassId} {A : Nat → Prop} {Q : State → Prop} {ρ0 : List Nat} {mc ms : Nat} (hG : mm_G M d k0 post p l e R s m args below meth c D cA A Q ρ0 mc ms) (hM : mm_okM y M' n) (hd1 : d' < d) :
    ((({ frames := d', cells := kc', slots := ks', locals := mm_K * d' } : Room).cells = kc' ∧ ({ frames := d', cells := kc', slots := ks', locals := mm_K * d' } : Room).slots = ks' ∧ ({ frames := d', cells := kc', slots := ks', locals := mm_K * d' } : Room).frames + 1 ≤ R.frames ∧ 8 + (M'.2.2.1 + 11) + ({ frames := d', cells := kc', slots := ks', locals := mm_K * d' } : Room).locals ≤ R.locals ∧ (∀ w ∈ (Cond.code y M'.2.1 M'.2.2.1 M'.2.2.2.2 :: mm_T), ∀ (a' : Array Value) (U : State), s.WarmedH U.vm → w.before a' U = true) ∧ Cond.code y M'.2.1 M'.2.2.1 M'.2.2.2.2 ∈ (Cond.code y M'.2.1 M'.2.2.1 M'.2.2.2.2 :: mm_T)) ∧ (Cond.code y M'.2.1 M'.2.2.1 M'.2.2.2.2).before args s = true ∧ (Cond.initialized y.cls).before args s = true ∧ (y.cls ≠ "java/lang/invoke/MethodHandle" ∧ y.cls ≠ "java/lang/invoke/VarHandle") ∧ (∀ sig, parseMethodDescriptor y.desc = some sig → n = sig.parameters.length)) := by
  obtain ⟨hc, hini, hy, hn, hL⟩ := hM
  have hts := hG.1.2.2.2.2.1
  have hrm := hG.1.2.2.2.2.2.2.2.1
  unfold mm_K at hrm hL ⊢
  refine ⟨⟨rfl, rfl, ?_, ?_, pay_in hts (mm_ws_good hc), List.mem_cons_self⟩, hts _ hc, hts _ hini, hy, fun sig h => ?_⟩
  · show d' + 1 ≤ R.frames
    omega
  · show 8 + (M'.2.2.1 + 11) + 36 * d' ≤ R.locals
    omega
  · rw [h] at hn
    exact (Option.some.inj hn).symm
theorem mm_pre {p : Program} {l : Launch} {e : Env} {R : Room} {s : State} {m : MethodId} {args : Array Value} {below : List Frame} {meth : Method} {c : Code} {D : va_G} {cA : FieldType → ClassId} {A : Nat → Prop} {Q : State → Prop} {ρ0 : List Nat} {mc ms : Nat} (hG : mm_G M d k0 post p l e R s m args below meth c D cA A Q ρ0 mc ms) {ws : va_W} {H : Heap} (hP : va_P D mmCl ws H) (hD : va_D A ws) {locs : List Loc} (hS : va_S A s.heap H locs) (av' : List Value) : ∀ U : State, U.heap = H → s.WarmedH U.vm → mm_Pc D cA ws H.size av' av'.toArray U :=
  fun U hU hW => ⟨rfl, by rw [hU], by rw [hU]; exact hP, va_K.moved hW.alike hG.1.2.2.2.2.2.2.1, hD.weaken (fun _ _ _ _ => trivial), fun w hw => mm_Nw_warm hw hW (hG.1.2.2.2.2.2.1 w hw), by
    rw [hU]
    refine hG.1.2.2.2.2.2.2.2.2.2.2.to hW hS.2.1 (fun q hq => ?_)
    rcases hq with ⟨i, x, hx⟩ | hq
    · exact hD.2 i (q, x) hx
    · exact hG.1.2.2.2.2.2.2.2.2.1 q (Nat.le_trans hS.1 hq)⟩
theorem mm_callV {a ci : Nat} {fs : List Value} (hd : decode M.2.1 pc = .ok (.invokevirtual idx, 3)) (hM : mm_okM y M' n) (hlk : mm_ml M.1 idx y) (hd1 : d' < d) (hn : av.length = n) (hr8 : (r.map fun v => v.category).sum ≤ 8) (hi : Cond.instanceMethod y ∈ mm_T ∧ Cond.selects y.cls y y ∈ mm_T) (ha : w[a]? = some (.inr (ci, fs))) (hcl : (mmCl[ci]?.map (fun q => q.1)) = some y.cls) (hC : mm_Ct y M' d' kc' ks' (.ref a :: av) w post') (k : ∀ v w', post' v w' → mm_V M d k0 post kc ks (pc + 3) L (v.toList ++ r) w') : mm_V M d k0 post (kc + kc') (ks + ks') pc L (av.reverse ++ .ref a :: r) w := by
  intro p l e R s m args below meth c D cA A Q ρ0 mc ms hG ρ H locs ls st' cells slots ⟨h0, hw, hS, hl, hst, hb⟩
  obtain ⟨v1, v2, rfl, hv1, hv2⟩ := mm_vs_app hst
  obtain ⟨b, r', rfl, hb1, hr'⟩ := mm_vs_r hv2
  obtain ⟨ws, hws, hP, hD⟩ := hw
  obtain ⟨yy, hy1, fs', hy2, hy3⟩ := mm_w_get hws ha hb1
  subst hy2
  have hav : mm_vs ρ (.ref a :: av) (.ref b :: v1.reverse) := ⟨_, _, rfl, ⟨b, hb1, rfl⟩, by have := mm_vs_rev hv1; rw [List.reverse_reverse] at this; exact this⟩
  have hMet := hC l D cA ρ _ ws H.size hws hav
  have hB := mm_callB (kc' := kc') (ks' := ks') hG hM hd1
  have hts := hG.1.2.2.2.2.1
  have hR := hG.2.1
  have h8 := lv_room (m := m) (pc := pc) (ls := ls) (rest := v1 ++ .ref b :: r') (st := r') (by rw [mm_vs_cat hr']; exact hr8)
  have hlen : v1.reverse.length = n := by rw [List.length_reverse, mm_vs_len hv1, List.length_reverse]; exact hn
  have hrecv : ∃ cellB : Cell, H[b]? = some cellB ∧ cellB.vm.isStatics = false ∧ s.vm.findClass y.cls = some cellB.cls := by
    cases hq : mmCl[ci]? with
    | none => rw [hq] at hcl; cases hcl
    | some q =>
      rw [hq] at hcl
      have e : q.1 = y.cls := Option.some.inj hcl
      rw [← e]
      exact va_recv hG.1.2.2.2.2.2.2.1 hP hq hy1
  rcases hlk with hlk | ⟨host, hlk⟩
  · exact mm_after hG h0 hws hD hS hl hr' (by omega) (va_runV (C := y.cls) ⟨hG.1.1, hG.1.2.1, hG.1.2.2.1, hG.1.2.2.2.1, hts⟩ hMet ⟨⟨hB.1.1, hB.1.2.1, hB.1.2.2.1, hB.1.2.2.2.1, hB.1.2.2.2.2.1, hB.1.2.2.2.2.2, hB.2.1, hB.2.2.1, hB.2.2.2.1, hB.2.2.2.2, hts _ hlk⟩, hts _ hi.1, hts _ hi.2⟩ ⟨mm_blind _ _ _ _ _, hrecv, mm_pre hG hP hD hS _⟩ rfl hlen hl.1 (by rw [List.reverse_reverse]) h8 hd (by omega)) k
  · exact mm_after hG h0 hws hD hS hl hr' (by omega) (va_runVN (C := y.cls) (host := host) ⟨hG.1.1, hG.1.2.1, hG.1.2.2.1, hG.1.2.2.2.1, hts⟩ hMet ⟨⟨hB.1, hB.2.1, hB.2.2.1, hB.2.2.2.1, hB.2.2.2.2, (hG.1.2.2.2.2.2.1 _ hlk).use rfl⟩, hts _ hi.1, hts _ hi.2⟩ ⟨mm_blind _ _ _ _ _, hrecv, mm_pre hG hP hD hS _⟩ rfl hlen hl.1 (by rw [List.reverse_reverse]) h8 hd (by omega)) k
theorem mm_callS (hd : decode M.2.1 pc = .ok (.invokestatic idx, 3)) (hM : mm_okM y M' n) (hlk : mm_ml M.1 idx y) (hd1 : d' < d) (hn : av.length = n) (hr8 : (r.map fun v => v.category).sum ≤ 8) (hi : Cond.static y ∈ mm_T) (hC : mm_Ct y M' d' kc' ks' av w post') (k : ∀ v w', post' v w' → mm_V M d k0 post kc ks (pc + 3) L (v.toList ++ r) w') : mm_V M d k0 post (kc + kc') (ks + ks') pc L (av.reverse ++ r) w := by
  intro p l e R s m args below meth c D cA A Q ρ0 mc ms hG ρ H locs ls st' cells slots ⟨h0, hw, hS, hl, hst, hb⟩
  obtain ⟨v1, r', rfl, hv1, hr'⟩ := mm_vs_app hst
  obtain ⟨ws, hws, hP, hD⟩ := hw
  have hav : mm_vs ρ av v1.reverse := by have := mm_vs_rev hv1; rw [List.reverse_reverse] at this; exact this
  have hMet := hC l D cA ρ _ ws H.size hws hav
  have hB := mm_callB (kc' := kc') (ks' := ks') hG hM hd1
  have hts := hG.1.2.2.2.2.1
  have hR := hG.2.1
  have h8 := lv_room (m := m) (pc := pc) (ls := ls) (rest := v1 ++ r') (st := r') (by rw [mm_vs_cat hr']; exact hr8)
  have hlen : v1.reverse.length = n := by rw [List.length_reverse, mm_vs_len hv1, List.length_reverse]; exact hn
  rcases hlk with hlk | ⟨host, hlk⟩
  · exact mm_after hG h0 hws hD hS hl hr' (by omega) (va_runS ⟨hG.1.1, hG.1.2.1, hG.1.2.2.1, hG.1.2.2.2.1, hts⟩ hMet ⟨⟨hB.1.1, hB.1.2.1, hB.1.2.2.1, hB.1.2.2.2.1, hB.1.2.2.2.2.1, hB.1.2.2.2.2.2, hB.2.1, hB.2.2.1, hB.2.2.2.1, hB.2.2.2.2, hts _ hlk⟩, hts _ hi⟩ ⟨mm_blind _ _ _ _ _, mm_pre hG hP hD hS _⟩ rfl hlen hl.1 (by rw [List.reverse_reverse]) h8 hd (by omega)) k
  · exact mm_after hG h0 hws hD hS hl hr' (by omega) (va_runSN (host := host) ⟨hG.1.1, hG.1.2.1, hG.1.2.2.1, hG.1.2.2.2.1, hts⟩ hMet ⟨⟨hB.1, hB.2.1, hB.2.2.1, hB.2.2.2.1, hB.2.2.2.2, (hG.1.2.2.2.2.2.1 _ hlk).use rfl⟩, hts _ hi, trivial⟩ ⟨mm_blind _ _ _ _ _, mm_pre hG hP hD hS _⟩ rfl hlen hl.1 (by rw [List.reverse_reverse]) h8 hd (by omega)) k
theorem mm_callI {a : Nat} (hd : decode M.2.1 pc = .ok (.invokespecial idx, 3)) (hM : mm_okM y M' n) (hlk : mm_ml M.1 idx y) (hd1 : d' < d) (hn : av.length = n) (hr8 : (r.map fun v => v.category).sum ≤ 8) (hi : y.name = "<init>" ∧ Cond.instanceMethod y ∈ mm_T) (hvo : M'.2.2.2.2 = none) (hC : mm_Ct y M' d' kc' ks' (.ref a :: av) w post') (k : ∀ v w', post' v w' → mm_V M d k0 post kc ks (pc + 3) L (v.toList ++ r) w') : mm_V M d k0 post (kc + kc') (ks + ks') pc L (av.reverse ++ .ref a :: r) w := by
  intro p l e R s m args below meth c D cA A Q ρ0 mc ms hG ρ H locs ls st' cells slots ⟨h0, hw, hS, hl, hst, hb⟩
  obtain ⟨v1, v2, rfl, hv1, hv2⟩ := mm_vs_app hst
  obtain ⟨b, r', rfl, hb1, hr'⟩ := mm_vs_r hv2
  obtain ⟨ws, hws, hP, hD⟩ := hw
  have hav : mm_vs ρ (.ref a :: av) (.ref b :: v1.reverse) := ⟨_, _, rfl, ⟨b, hb1, rfl⟩, by have := mm_vs_rev hv1; rw [List.reverse_reverse] at this; exact this⟩
  have hMet := hC l D cA ρ _ ws H.size hws hav
  have hB := mm_callB (kc' := kc') (ks' := ks') hG hM hd1
  rw [hvo] at hMet hB
  have hts := hG.1.2.2.2.2.1
  have hR := hG.2.1
  have h8 := lv_room (m := m) (pc := pc) (ls := ls) (rest := v1 ++ .ref b :: r') (st := r') (by rw [mm_vs_cat hr']; exact hr8)
  have hlen : v1.reverse.length = n := by rw [List.length_reverse, mm_vs_len hv1, List.length_reverse]; exact hn
  rcases hlk with hlk | ⟨host, hlk⟩
  · exact mm_after hG h0 hws hD hS hl hr' (by omega) (va_runI ⟨hG.1.1, hG.1.2.1, hG.1.2.2.1, hG.1.2.2.2.1, hts⟩ hMet ⟨⟨hB.1.1, hB.1.2.1, hB.1.2.2.1, hB.1.2.2.2.1, hB.1.2.2.2.2.1, hB.1.2.2.2.2.2, hB.2.1, hB.2.2.1, hB.2.2.2.1, hB.2.2.2.2, hts _ hlk⟩, hi.1, hts _ hi.2⟩ ⟨mm_blind _ _ _ _ _, mm_pre hG hP hD hS _⟩ rfl hlen hl.1 (by rw [List.reverse_reverse]) h8 hd (by omega)) k
  · exact mm_after hG h0 hws hD hS hl hr' (by omega) (va_runIN (host := host) ⟨hG.1.1, hG.1.2.1, hG.1.2.2.1, hG.1.2.2.2.1, hts⟩ hMet ⟨⟨hB.1, hB.2.1, hB.2.2.1, hB.2.2.2.1, hB.2.2.2.2, (hG.1.2.2.2.2.2.1 _ hlk).use rfl⟩, hi.1, hts _ hi.2⟩ ⟨mm_blind _ _ _ _ _, mm_pre hG hP hD hS _⟩ rfl hlen hl.1 (by rw [List.reverse_reverse]) h8 hd (by omega)) k
end MMC
