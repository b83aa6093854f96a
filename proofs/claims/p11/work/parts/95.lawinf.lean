/-! calls out of the law's body: two worlds side by side -/
def M_law : mm_M := (R_law, code, 4, false, some .boolean)
def la_A (s : State) : Nat → Prop := fun q => s.heap.size ≤ q
def la_C (s : State) (b : Nat) (D : va_G) (cA : FieldType → ClassId) : Prop := (∀ w ∈ mm_T, w.before #[Value.ref b] s = true) ∧ (∀ w ∈ mm_N, va_Nw w s) ∧ va_K D mmCl (mm_tys cA) s ∧ mm_E (la_A s) s s.heap
/-- two worlds have no cell in common -/
def la_dis (ws wo : va_W) : Prop := ∀ (i j : Nat) (x y : Nat × va_E), ws[i]? = some x → wo[j]? = some y → ¬ x.1 = y.1
/-- a world that lies in the heap -/
def la_w (D : va_G) (cA : FieldType → ClassId) (A : Nat → Prop) (ρ : List Nat) (w : mm_H) (ws : va_W) (H : Heap) : Prop := mm_w cA ρ w ws ∧ va_P D mmCl ws H ∧ va_D A ws
section LA
variable {p : Program} {e : Env} {s : State} {m : MethodId} {below : List Frame} {meth : Method} {c : Code} {l : Launch} {b L : Nat} {xs : Nat → Int32} {D : va_G} {cA : FieldType → ClassId} {Q : State → Prop} {H : Heap} {locs : List Loc} {ls : Array Slot} {cells slots pc idx n d' kc' ks' : Nat} {y : MethodName} {M' : mm_M} {w wo : mm_H} {ρ : List Nat} {ws wso : va_W} {av av' r' st0 : List Value} {post' : Option Value → mm_H → Prop}
theorem la_G (C0 : lw_At p s m meth c b L xs) (hC : la_C s b D cA) : mm_G M_law 11 0 (fun _ _ => False) p l e room_1 s m #[Value.ref b] below meth c D cA (la_A s) Q [] 0 0 := by
  obtain ⟨hx, hb, hr, hml, hown, hts, hX, hbl, hlocks, hgv⟩ := C0
  exact ⟨⟨hx, hb, hml, hown, hC.1, hC.2.1, hC.2.2.1, ⟨by decide, by decide⟩, fun q h => h, fun h => absurd h (by decide), hC.2.2.2⟩, ⟨Nat.zero_le _, Nat.zero_le _⟩, Nat.zero_le _, fun _ _ _ _ _ _ _ _ _ h => h.elim⟩
theorem la_after (hw : la_w D cA (la_A s) ρ w ws H) (hPo : va_P D mmCl wso H) (hdis : la_dis ws wso) (hS : va_S (la_A s) s.heap H locs) {a : Array Value}
    (hr : va_Run p l e room_1 s m #[Value.ref b] below meth c H locs cells slots kc' ks' (F0 m pc ls st0) r' (mm_Q D cA ρ (va_A ws H.size) w.length post' a) (va_A ws H.size))
    (k : ∀ v v' w' ρ' ws' H' locs', post' v w' → mm_ov ρ' v v' → (∀ a, a < w.length → ρ'[a]? = ρ[a]?) → la_w D cA (la_A s) ρ' w' ws' H' → va_P D mmCl wso H' → la_dis ws' wso → va_S (la_A s) s.heap H' locs' → W p l e room_1 s m #[Value.ref b] below meth c H' locs' (cells + kc') (slots + ks') Q (F0 m (pc + 3) ls (v'.toList ++ r'))) : W p l e room_1 s m #[Value.ref b] below meth c H locs cells slots Q (F0 m pc ls st0) := by
  obtain ⟨hws, hP, hD⟩ := hw
  intro T hT X
  obtain ⟨v', st₀, t, T', Lx, e0, X', hL, e1, e2, ⟨⟨v, v2, w', ρ', ws', ho, hpost, hov, hpre, hw', hP', hD'⟩, hz, hk⟩, st⟩ := hr T hT X
  cases ho
  rw [e0] at hz hk
  have hA : ∀ q, va_A ws H.size q → la_A s q := by
    intro q hq
    rcases hq with ⟨i, x, hx⟩ | hq
    · exact hD.2 i (q, x) hx
    · exact Nat.le_trans hS.1 hq
  have hS1 : va_S (la_A s) s.heap T'.heap (locs ++ Lx) := ⟨Nat.le_trans hS.1 (by rw [e1]; exact hz), fun q h1 h2 => by rw [e1, hk q (Nat.lt_of_lt_of_le h1 hS.1) (fun z => h2 (hA q z))]; exact hS.2.1 q h1 h2, fun q hq => by
      rcases List.mem_append.mp hq with h | h
      · exact hS.2.2 q h
      · exact hA _ (hL q h)⟩
  have hno : ∀ (j : Nat) (y : Nat × va_E), wso[j]? = some y → y.1 < H.size ∧ ¬ va_A ws H.size y.1 := by
    intro j y hy
    have hlt := (hPo j y hy).lt
    refine ⟨hlt, fun z => ?_⟩
    rcases z with ⟨i, x, hx⟩ | z
    · exact hdis i j _ y hx hy rfl
    · exact absurd hlt (Nat.not_lt.mpr z)
  have kk := k v v' w' ρ' ws' T'.heap (locs ++ Lx) hpost hov hpre ⟨hw', by rw [e1]; exact hP', hD'.weaken (fun _ _ _ h => hA _ h)⟩ (fun j y hy => (hPo j y hy).kept (by rw [e1]; exact hk y.1 (hno j y hy).1 (hno j y hy).2)) (fun i j x y hx hy he => (hno j y hy).2 (by rw [← he]; exact hD'.2 i x hx)) hS1
  obtain ⟨t2, a1, b1⟩ := kk T' rfl X'
  exact ⟨t2, st t2 a1, b1⟩
theorem la_callV (C0 : lw_At p s m meth c b L xs) (hC : la_C s b D cA) {ci a q0 : Nat} {fs : List Value} (hd : decode code pc = .ok (.invokevirtual idx, 3)) (hM : mm_okM y M' n) (hlk : Cond.methodLink R_law idx y ∈ mm_T) (hd1 : d' < 11) (hn : av.length = n) (hr8 : (r'.map fun v => v.category).sum ≤ 8) (hi : Cond.instanceMethod y ∈ mm_T ∧ Cond.selects y.cls y y ∈ mm_T) (ha : w[a]? = some (.inr (ci, fs))) (hcl : (mmCl[ci]?.map (fun q => q.1)) = some y.cls) (hCt : mm_Ct y M' d' 0 0 (.ref a :: av) w post') (hls : ls.size = 4)
    (hw : la_w D cA (la_A s) ρ w ws H) (hPo : va_P D mmCl wso H) (hdis : la_dis ws wso) (hS : va_S (la_A s) s.heap H locs) (hq : ρ[a]? = some q0) (hav : mm_vs ρ av av') (hcs : cells ≤ 600000 ∧ slots ≤ 7302250)
    (k : ∀ v v' w' ρ' ws' H' locs', post' v w' → mm_ov ρ' v v' → (∀ a, a < w.length → ρ'[a]? = ρ[a]?) → la_w D cA (la_A s) ρ' w' ws' H' → va_P D mmCl wso H' → la_dis ws' wso → va_S (la_A s) s.heap H' locs' → W p l e room_1 s m #[Value.ref b] below meth c H' locs' cells slots Q (F0 m (pc + 3) ls (v'.toList ++ r'))) : W p l e room_1 s m #[Value.ref b] below meth c H locs cells slots Q (F0 m pc ls (av'.reverse ++ .ref q0 :: r')) := by
  have hG := la_G (Q := Q) (l := l) (e := e) (below := below) C0 hC
  have hw' := hw
  obtain ⟨hws, hP, hD⟩ := hw
  obtain ⟨yy, hy1, fs', hy2, hy3⟩ := mm_w_get hws ha hq
  subst hy2
  have hav2 : mm_vs ρ (.ref a :: av) (.ref q0 :: av') := ⟨_, _, rfl, ⟨q0, hq, rfl⟩, hav⟩
  have hMet := hCt l D cA ρ _ ws H.size hws hav2
  have hB := mm_callB (kc' := 0) (ks' := 0) hG hM hd1
  have hts := hG.1.2.2.2.2.1
  have h8 := lv_room (m := m) (pc := pc) (ls := ls) (rest := av'.reverse ++ .ref q0 :: r') (st := r') hr8
  have hlen : av'.length = n := by rw [mm_vs_len hav]; exact hn
  have hrecv : ∃ cellB : Cell, H[q0]? = some cellB ∧ cellB.vm.isStatics = false ∧ s.vm.findClass y.cls = some cellB.cls := by
    cases hq : mmCl[ci]? with
    | none => rw [hq] at hcl; cases hcl
    | some q =>
      rw [hq] at hcl
      have e : q.1 = y.cls := Option.some.inj hcl
      rw [← e]
      exact va_recv hG.1.2.2.2.2.2.2.1 hP hq hy1
  refine la_after hw' hPo hdis hS (va_runV (C := y.cls) ⟨hG.1.1, hG.1.2.1, hG.1.2.2.1, hG.1.2.2.2.1, hts⟩ hMet ⟨⟨hB.1.1, hB.1.2.1, hB.1.2.2.1, hB.1.2.2.2.1, hB.1.2.2.2.2.1, hB.1.2.2.2.2.2, hB.2.1, hB.2.2.1, hB.2.2.2.1, hB.2.2.2.2, hts _ hlk⟩, hts _ hi.1, hts _ hi.2⟩ ⟨mm_blind _ _ _ _ _, hrecv, mm_pre hG hP hD hS _⟩ rfl hlen hls rfl h8 hd ⟨hcs.1, hcs.2⟩) k
theorem la_callI (C0 : lw_At p s m meth c b L xs) (hC : la_C s b D cA) {a q0 : Nat} (hd : decode code pc = .ok (.invokespecial idx, 3)) (hM : mm_okM y M' n) (hlk : Cond.methodLink R_law idx y ∈ mm_T) (hd1 : d' < 11) (hn : av.length = n) (hr8 : (r'.map fun v => v.category).sum ≤ 8) (hi : y.name = "<init>" ∧ Cond.instanceMethod y ∈ mm_T) (hvo : M'.2.2.2.2 = none) (hCt : mm_Ct y M' d' kc' ks' (.ref a :: av) w post') (hls : ls.size = 4)
    (hw : la_w D cA (la_A s) ρ w ws H) (hPo : va_P D mmCl wso H) (hdis : la_dis ws wso) (hS : va_S (la_A s) s.heap H locs) (hq : ρ[a]? = some q0) (hav : mm_vs ρ av av') (hcs : cells + kc' ≤ 600000 ∧ slots + ks' ≤ 7302250)
    (k : ∀ v v' w' ρ' ws' H' locs', post' v w' → mm_ov ρ' v v' → (∀ a, a < w.length → ρ'[a]? = ρ[a]?) → la_w D cA (la_A s) ρ' w' ws' H' → va_P D mmCl wso H' → la_dis ws' wso → va_S (la_A s) s.heap H' locs' → W p l e room_1 s m #[Value.ref b] below meth c H' locs' (cells + kc') (slots + ks') Q (F0 m (pc + 3) ls (v'.toList ++ r'))) : W p l e room_1 s m #[Value.ref b] below meth c H locs cells slots Q (F0 m pc ls (av'.reverse ++ .ref q0 :: r')) := by
  have hG := la_G (Q := Q) (l := l) (e := e) (below := below) C0 hC
  have hw' := hw
  obtain ⟨hws, hP, hD⟩ := hw
  have hav2 : mm_vs ρ (.ref a :: av) (.ref q0 :: av') := ⟨_, _, rfl, ⟨q0, hq, rfl⟩, hav⟩
  have hMet := hCt l D cA ρ _ ws H.size hws hav2
  have hB := mm_callB (kc' := kc') (ks' := ks') hG hM hd1
  rw [hvo] at hMet hB
  have hts := hG.1.2.2.2.2.1
  have h8 := lv_room (m := m) (pc := pc) (ls := ls) (rest := av'.reverse ++ .ref q0 :: r') (st := r') hr8
  have hlen : av'.length = n := by rw [mm_vs_len hav]; exact hn
  exact la_after hw' hPo hdis hS (va_runI ⟨hG.1.1, hG.1.2.1, hG.1.2.2.1, hG.1.2.2.2.1, hts⟩ hMet ⟨⟨hB.1.1, hB.1.2.1, hB.1.2.2.1, hB.1.2.2.2.1, hB.1.2.2.2.2.1, hB.1.2.2.2.2.2, hB.2.1, hB.2.2.1, hB.2.2.2.1, hB.2.2.2.2, hts _ hlk⟩, hi.1, hts _ hi.2⟩ ⟨mm_blind _ _ _ _ _, mm_pre hG hP hD hS _⟩ rfl hlen hls rfl h8 hd ⟨hcs.1, hcs.2⟩) k
/-- the kinds of arrays -/
theorem la_arr {args : Array Value} {s : State} (h : (Cond.arrayClass .int).before args s = true) : ∃ cA, ArrOfT s cA .int ∧ va_RA s cA .int := by
  obtain ⟨cA, kA, comp, h1, h2, h3⟩ := Cond.arrayClass_spec h
  exact ⟨cA, fun n z => ⟨fun k h => (by cases h), kA, h2, comp, h3⟩, h1⟩
theorem la_arrL {args : Array Value} {s : State} (h : (Cond.arrayClass .long).before args s = true) : ∃ cA, ArrOfT s cA .long ∧ va_RA s cA .long := by
  obtain ⟨cA, kA, comp, h1, h2, h3⟩ := Cond.arrayClass_spec h
  exact ⟨cA, fun n z => ⟨fun k h => (by cases h), kA, h2, comp, h3⟩, h1⟩
end LA
/-! the two programs change places: other numbers for the same cells -/
def pf (j : Nat) : Nat := if 4 ≤ j ∧ j < 15 then j + 18 else if 22 ≤ j ∧ j < 33 then j - 18 else j
theorem pf_pf (j : Nat) : pf (pf j) = j := by
  unfold pf
  by_cases h1 : 4 ≤ j ∧ j < 15
  · rw [if_pos h1, if_neg (by omega), if_pos (by omega)]; omega
  · rw [if_neg h1]
    by_cases h2 : 22 ≤ j ∧ j < 33
    · rw [if_pos h2, if_pos (by omega)]; omega
    · rw [if_neg h2, if_neg h1, if_neg h2]
theorem pf_lt {j : Nat} (h : j < 47) : pf j < 47 := by
  unfold pf
  split
  · omega
  · split <;> omega
def pv (v : Value) : Value := match v with
  | .ref a => .ref (pf a)
  | v => v
def pc_ (x : mm_C) : mm_C := match x with
  | .inl a => .inl a
  | .inr o => .inr (o.1, o.2.map pv)
set_option maxRecDepth 100000 in
theorem Wd_sw {n1 n2 : Nat} {i : mm_i} {l : mm_j} {a : mm_a} {b : mm_b} : ∀ j, j < 47 → (Wd 4 22 n1 n2 (sw_i i) l (sw_a a) b)[j]? = ((Wd 22 4 n1 n2 i l a b)[pf j]?).map pc_ := by
  intro j hj
  match j, hj with
  | 0, _ => rfl
  | 1, _ => rfl
  | 2, _ => rfl
  | 3, _ => rfl
  | 4, _ => rfl
  | 5, _ => rfl
  | 6, _ => rfl
  | 7, _ => rfl
  | 8, _ => rfl
  | 9, _ => rfl
  | 10, _ => rfl
  | 11, _ => rfl
  | 12, _ => rfl
  | 13, _ => rfl
  | 14, _ => rfl
  | 15, _ => rfl
  | 16, _ => rfl
  | 17, _ => rfl
  | 18, _ => rfl
  | 19, _ => rfl
  | 20, _ => rfl
  | 21, _ => rfl
  | 22, _ => rfl
  | 23, _ => rfl
  | 24, _ => rfl
  | 25, _ => rfl
  | 26, _ => rfl
  | 27, _ => rfl
  | 28, _ => rfl
  | 29, _ => rfl
  | 30, _ => rfl
  | 31, _ => rfl
  | 32, _ => rfl
  | 33, _ => rfl
  | 34, _ => rfl
  | 35, _ => rfl
  | 36, _ => rfl
  | 37, _ => rfl
  | 38, _ => rfl
  | 39, _ => rfl
  | 40, _ => rfl
  | 41, _ => rfl
  | 42, _ => rfl
  | 43, _ => rfl
  | 44, _ => rfl
  | 45, _ => rfl
  | 46, _ => rfl
  | j + 47, hj => omega
theorem pv_v {ρ ρ' : List Nat} (h : ∀ a, ρ'[pf a]? = ρ[a]?) {u v : Value} (hv : mm_v ρ u v) : mm_v ρ' (pv u) v := by
  cases u with
  | ref a =>
    obtain ⟨b, h1, h2⟩ := hv
    exact ⟨b, by rw [h a]; exact h1, h2⟩
  | _ => exact hv
theorem pv_vs {ρ ρ' : List Nat} (h : ∀ a, ρ'[pf a]? = ρ[a]?) : ∀ {us vs : List Value}, mm_vs ρ us vs → mm_vs ρ' (us.map pv) vs
  | [], _, hv => hv
  | _ :: _, _, ⟨v, vs', e, h1, h2⟩ => ⟨v, vs', e, pv_v h h1, pv_vs h h2⟩
theorem la_sw {D : va_G} {cA : FieldType → ClassId} {A : Nat → Prop} {ρ : List Nat} {ws wso : va_W} {H : Heap} {n1 n2 : Nat} {i : mm_i} {l : mm_j} {a : mm_a} {b : mm_b} {q1 : Nat} (hw : la_w D cA A ρ (Wd 22 4 n1 n2 i l a b) ws H) (hdis : la_dis ws wso) (hq : ρ[0]? = some q1) : ∃ ρ' ws', la_w D cA A ρ' (Wd 4 22 n1 n2 (sw_i i) l (sw_a a) b) ws' H ∧ la_dis ws' wso ∧ ρ'[0]? = some q1 := by
  obtain ⟨⟨w1, w2, w3⟩, hP, hD⟩ := hw
  have l1 : ρ.length = 47 := w1
  have l2 : ws.length = 47 := w2
  let d0 : Nat × va_E := (0, .inl (cA .int, (0, .inl (fun _ => 0))))
  have hρ : ∀ j, j < 47 → ((List.range 47).map (fun j => (ρ[pf j]?).getD 0))[j]? = ρ[pf j]? := by
    intro j hj
    have hl : pf j < ρ.length := by rw [l1]; exact pf_lt hj
    rw [List.getElem?_map, List.getElem?_range hj]
    show some ((ρ[pf j]?).getD 0) = ρ[pf j]?
    rw [List.getElem?_eq_getElem hl]
    rfl
  have hws : ∀ j, j < 47 → ((List.range 47).map (fun j => (ws[pf j]?).getD d0))[j]? = ws[pf j]? := by
    intro j hj
    have hl : pf j < ws.length := by rw [l2]; exact pf_lt hj
    rw [List.getElem?_map, List.getElem?_range hj]
    show some ((ws[pf j]?).getD d0) = ws[pf j]?
    rw [List.getElem?_eq_getElem hl]
    rfl
  have lt : ∀ {j : Nat} {x : Nat × va_E}, ((List.range 47).map (fun j => (ws[pf j]?).getD d0))[j]? = some x → j < 47 := by
    intro j x hx
    have := (List.getElem?_eq_some_iff.mp hx).1
    rw [List.length_map, List.length_range] at this
    exact this
  have ps : ∀ a, ((List.range 47).map (fun j => (ρ[pf j]?).getD 0))[pf a]? = ρ[a]? := by
    intro a
    by_cases ha : a < 47
    · rw [hρ (pf a) (pf_lt ha), pf_pf]
    · have h1 : ρ[a]? = none := List.getElem?_eq_none (by omega)
      have h2 : pf a = a := by unfold pf; rw [if_neg (by omega), if_neg (by omega)]
      rw [h1, h2]
      exact List.getElem?_eq_none (by rw [List.length_map, List.length_range]; omega)
  refine ⟨(List.range 47).map (fun j => (ρ[pf j]?).getD 0), (List.range 47).map (fun j => (ws[pf j]?).getD d0), ⟨⟨by rw [List.length_map, List.length_range]; rfl, by rw [List.length_map, List.length_range]; rfl, fun j x' hx' => ?_⟩, fun j x hx => ?_, ⟨fun j j' x x' hx hx' he => ?_, fun j x hx => ?_⟩⟩, fun j j' x y hx hy => ?_, ?_⟩
  · have hj : j < 47 := (List.getElem?_eq_some_iff.mp hx').1
    rw [Wd_sw j hj] at hx'
    cases hx : (Wd 22 4 n1 n2 i l a b)[pf j]? with
    | none => rw [hx] at hx'; cases hx'
    | some x =>
      rw [hx] at hx'
      have hx' : pc_ x = x' := Option.some.inj hx'
      obtain ⟨b', y, g1, g2, g3⟩ := w3 (pf j) x hx
      refine ⟨b', y, by rw [hρ j hj]; exact g1, by rw [hws j hj]; exact g2, ?_⟩
      rw [← hx']
      cases x with
      | inl a => exact g3
      | inr o =>
        obtain ⟨fs, f1, f2⟩ := g3
        exact ⟨fs, f1, pv_vs ps f2⟩
  · rw [hws j (lt hx)] at hx
    exact hP _ x hx
  · have h1 := lt hx
    have h2 := lt hx'
    rw [hws j h1] at hx
    rw [hws j' h2] at hx'
    have := hD.1 _ _ x x' hx hx' he
    rw [← pf_pf j, this, pf_pf]
  · rw [hws j (lt hx)] at hx
    exact hD.2 _ x hx
  · rw [hws j (lt hx)] at hx
    exact hdis _ j' x y hx hy
  · have := hρ 0 (by decide)
    rw [this]
    exact hq
