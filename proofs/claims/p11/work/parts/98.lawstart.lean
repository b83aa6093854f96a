/-! the start of the law -/
theorem la_E {s : State} {b : Nat} (hts : ∀ w ∈ lw_tbl, w.before #[Value.ref b] s = true) (hgv : (Jvm.Cond.and given_1 narrow_1).before #[Value.ref b] s = true) : mm_E (la_A s) s s.heap := by
  have hs := flat_of_before _ hgv
  have hA : ∀ a : Nat, a < s.heap.size → ¬ la_A s a := fun a h => Nat.not_le.mpr h
  obtain ⟨adK, adV, h1, h2⟩ := vk_Sof (args := #[Value.ref b]) (s := s) (N := 1) (tm := fun _ => Term.string "PatternBench" 129) (len := [19]) (byt := [mm_by]) (A := la_A s) (by decide)
    (fun i hi => hs (Cond.exactly (Term.string "PatternBench" 129) "java/lang/String") (by decide +kernel))
    (fun i hi => hs (Cond.eq (Term.field (Term.string "PatternBench" 129) "java/lang/String" "coder" "B") (Term.int 0)) (by decide +kernel))
    (fun i hi => hs (Cond.arrayOf (Term.field (Term.string "PatternBench" 129) "java/lang/String" "value" "[B") .byte) (by decide +kernel))
    (fun i hi => by
      rw [show i = 0 by omega]
      exact hs (Cond.eq (Term.length (Term.field (Term.string "PatternBench" 129) "java/lang/String" "value" "[B")) (Term.int 19)) (by decide +kernel))
    (fun i hi j hj => by
      rw [show i = 0 by omega] at hj ⊢
      have hj : j < 19 := hj
      match j, hj with
      | 0, _ => exact hs (Cond.eq (Term.elem (Term.field (Term.string "PatternBench" 129) "java/lang/String" "value" "[B") (Term.int 0)) (Term.int 124)) (by decide +kernel)
      | 1, _ => exact hs (Cond.eq (Term.elem (Term.field (Term.string "PatternBench" 129) "java/lang/String" "value" "[B") (Term.int 1)) (Term.int 40)) (by decide +kernel)
      | 2, _ => exact hs (Cond.eq (Term.elem (Term.field (Term.string "PatternBench" 129) "java/lang/String" "value" "[B") (Term.int 2)) (Term.int 41)) (by decide +kernel)
      | 3, _ => exact hs (Cond.eq (Term.elem (Term.field (Term.string "PatternBench" 129) "java/lang/String" "value" "[B") (Term.int 3)) (Term.int 63)) (by decide +kernel)
      | 4, _ => exact hs (Cond.eq (Term.elem (Term.field (Term.string "PatternBench" 129) "java/lang/String" "value" "[B") (Term.int 4)) (Term.int 58)) (by decide +kernel)
      | 5, _ => exact hs (Cond.eq (Term.elem (Term.field (Term.string "PatternBench" 129) "java/lang/String" "value" "[B") (Term.int 5)) (Term.int 61)) (by decide +kernel)
      | 6, _ => exact hs (Cond.eq (Term.elem (Term.field (Term.string "PatternBench" 129) "java/lang/String" "value" "[B") (Term.int 6)) (Term.int 33)) (by decide +kernel)
      | 7, _ => exact hs (Cond.eq (Term.elem (Term.field (Term.string "PatternBench" 129) "java/lang/String" "value" "[B") (Term.int 7)) (Term.int 62)) (by decide +kernel)
      | 8, _ => exact hs (Cond.eq (Term.elem (Term.field (Term.string "PatternBench" 129) "java/lang/String" "value" "[B") (Term.int 8)) (Term.int 91)) (by decide +kernel)
      | 9, _ => exact hs (Cond.eq (Term.elem (Term.field (Term.string "PatternBench" 129) "java/lang/String" "value" "[B") (Term.int 9)) (Term.int 93)) (by decide +kernel)
      | 10, _ => exact hs (Cond.eq (Term.elem (Term.field (Term.string "PatternBench" 129) "java/lang/String" "value" "[B") (Term.int 10)) (Term.int 45)) (by decide +kernel)
      | 11, _ => exact hs (Cond.eq (Term.elem (Term.field (Term.string "PatternBench" 129) "java/lang/String" "value" "[B") (Term.int 11)) (Term.int 94)) (by decide +kernel)
      | 12, _ => exact hs (Cond.eq (Term.elem (Term.field (Term.string "PatternBench" 129) "java/lang/String" "value" "[B") (Term.int 12)) (Term.int 36)) (by decide +kernel)
      | 13, _ => exact hs (Cond.eq (Term.elem (Term.field (Term.string "PatternBench" 129) "java/lang/String" "value" "[B") (Term.int 13)) (Term.int 46)) (by decide +kernel)
      | 14, _ => exact hs (Cond.eq (Term.elem (Term.field (Term.string "PatternBench" 129) "java/lang/String" "value" "[B") (Term.int 14)) (Term.int 42)) (by decide +kernel)
      | 15, _ => exact hs (Cond.eq (Term.elem (Term.field (Term.string "PatternBench" 129) "java/lang/String" "value" "[B") (Term.int 15)) (Term.int 43)) (by decide +kernel)
      | 16, _ => exact hs (Cond.eq (Term.elem (Term.field (Term.string "PatternBench" 129) "java/lang/String" "value" "[B") (Term.int 16)) (Term.int 123)) (by decide +kernel)
      | 17, _ => exact hs (Cond.eq (Term.elem (Term.field (Term.string "PatternBench" 129) "java/lang/String" "value" "[B") (Term.int 17)) (Term.int 125)) (by decide +kernel)
      | 18, _ => exact hs (Cond.eq (Term.elem (Term.field (Term.string "PatternBench" 129) "java/lang/String" "value" "[B") (Term.int 18)) (Term.int 92)) (by decide +kernel)
      | j + 19, hj => omega)
    (fun i j hi hj hij => by omega) hA
  refine ⟨adK, adV, vk_R.of (A := #[Value.ref b]) (hts _ (List.mem_append_right _ (List.mem_of_getElem? (i := 318) (by decide +kernel)))) (h2 0 (by decide)), h1, ?_⟩
  exact va_Zof (args := #[Value.ref b]) (hts _ (List.mem_append_right _ (List.mem_of_getElem? (i := 332) (by decide +kernel)))) (hts _ (List.mem_filter.mp tw_10).1) (va_eqi (hs (Cond.eq (Term.static "java/lang/String" "COMPACT_STRINGS" "Z") (Term.int 1)) (by decide +kernel))) hA
theorem mm_inst : ∀ q ∈ mmCl, Cond.instantiable q.1 q.2.2 ∈ mm_T := by
  intro q hq
  simp only [mmCl, List.mem_cons, List.not_mem_nil, or_false] at hq
  rcases hq with rfl | rfl | rfl | rfl | rfl | rfl | rfl | rfl
  · exact tw_31
  · exact tw_49
  · exact tw_25
  · exact tw_172
  · exact tw_211
  · exact tw_156
  · exact tw_17
  · exact tw_680
theorem nw_law_7 : mm_nw R_law 7 6 [.null, .null, .int 0, .int 0, .int 0, .int 0, .long 0, .int 0] 8 := ⟨_, _, rfl, tw_16, tw_17, tw_1, by decide, by decide +kernel⟩
theorem nw_law_18 : mm_nw R_law 18 7 [.int 0, .int 0, .null, .int 0, .int 0, .int 0, .int 0, .null, .int 0, .null, .int 0, .int 0, .int 0, .int 0, .long 0, .null, .int 0, .null, .null, .int 0, .null, .null, .int 0, .int 0, .int 0, .int 0, .long 0] 27 := ⟨_, _, rfl, tw_679, tw_680, tw_9, by decide, by decide +kernel⟩
section LN
variable {p : Program} {e : Env} {s : State} {m : MethodId} {below : List Frame} {meth : Method} {c : Code} {l : Launch} {b L : Nat} {xs : Nat → Int32} {D : va_G} {cA : FieldType → ClassId} {Q : State → Prop} {H : Heap} {locs : List Loc} {ls : Array Slot} {cells slots pc idx N : Nat} {r' : List Value} {wso : va_W}
theorem la_new (C0 : lw_At p s m meth c b L xs) (hC : la_C s b D cA) (ci : Nat) (fs : List Value) (hd : decode code pc = .ok (.new idx, 3)) (hf : mm_nw R_law idx ci fs N) (hPo : va_P D mmCl wso H) (hDo : va_D (la_A s) wso) (hS : va_S (la_A s) s.heap H locs) (hcs : cells + 1 ≤ 600000 ∧ slots + N ≤ 7302250)
    (k : ∀ q H', la_w D cA (la_A s) [q] [.inr (ci, fs)] [(q, .inr (ci, fs))] H' → va_P D mmCl wso H' → la_dis [(q, .inr (ci, fs))] wso → va_S (la_A s) s.heap H' locs → W p l e room_1 s m #[Value.ref b] below meth c H' locs (cells + 1) (slots + N) Q (F0 m (pc + 3) ls (.ref q :: r'))) : W p l e room_1 s m #[Value.ref b] below meth c H locs cells slots Q (F0 m pc ls r') := by
  have hG := la_G (Q := Q) (l := l) (e := e) (below := below) C0 hC
  obtain ⟨Cn, T, hc, f1, f2, f3, f4, f5⟩ := hf
  have hts := hC.1
  have hmem := List.mem_of_getElem? hc
  refine va_new hG.1.1 hG.1.2.1 hts (mm_Cin hc) (mm_ty (Cn, T, N)) (mm_tyok (Cn, T, N) hmem) hG.1.2.2.2.1 (hts _ f1) (hts _ f2) (hts _ f3) hC.2.2.1 hPo hDo hS (fun q h => h) hc (fun j hj => of_decide_eq_true (List.all_eq_true.mp f5 j (List.mem_range.mpr hj))) hcs.1 hcs.2 hd (fun q H1 q1 q2 q3 => ?_)
  have hnew : (wso ++ [(q, .inr (ci, fs))])[wso.length]? = some (q, .inr (ci, fs)) := by
    rw [List.getElem?_append_right (Nat.le_refl _), Nat.sub_self]; rfl
  have hold : ∀ (j : Nat) (y : Nat × va_E), wso[j]? = some y → (wso ++ [(q, .inr (ci, fs))])[j]? = some y := fun j y hy => by
    rw [List.getElem?_append_left (List.getElem?_eq_some_iff.mp hy).1]; exact hy
  have one : ∀ (j : Nat) (y : Nat × va_E), [((q, .inr (ci, fs)) : Nat × va_E)][j]? = some y → j = 0 ∧ y = (q, .inr (ci, fs)) := fun j y hy => by
    match j, hy with
    | 0, hy => cases hy; exact ⟨rfl, rfl⟩
    | j + 1, hy => simp at hy
  refine k q H1 ⟨⟨rfl, rfl, fun j x hx => ?_⟩, fun j y hy => ?_, ⟨fun j j' x y hx hy _ => ?_, fun j y hy => ?_⟩⟩ (fun j y hy => q1 j y (hold j y hy)) (fun j j' x y hx hy he => ?_) q3
  · match j, hx with
    | 0, hx =>
      cases hx
      exact ⟨q, _, rfl, rfl, fs, rfl, mm_vs_nr f4⟩
    | j + 1, hx => simp at hx
  · obtain ⟨-, rfl⟩ := one j y hy
    exact q1 wso.length _ hnew
  · rw [(one j x hx).1, (one j' y hy).1]
  · obtain ⟨-, rfl⟩ := one j y hy
    exact q2.2 wso.length _ hnew
  · obtain ⟨-, rfl⟩ := one j x hx
    have := q2.1 wso.length j' _ y hnew (hold j' y hy) he
    have := (List.getElem?_eq_some_iff.mp hy).1
    omega
end LN
/-- the limit that both take -/
theorem la_lim (x : Int32) : ∃ lm, (20 ≤ lm ∧ lm ≤ 300) ∧ (if (20 : Int32) < (if x < (300 : Int32) then x else (300 : Int32)) then (if x < (300 : Int32) then x else (300 : Int32)) else (20 : Int32)) = nI lm ∧ clM x = nI lm := by
  have h20 : (20 : Int32).toInt = 20 := rfl
  have h300 : (300 : Int32).toInt = 300 := rfl
  unfold clM
  by_cases h1 : x < 300
  · by_cases h2 : (20 : Int32) < x
    · have a1 := i32_lt.mp h1
      have a2 := i32_lt.mp h2
      rcases pk_ix x (n := 300) (by decide) with w | w | ⟨j, w1, w2⟩
      · have := i32_lt.mp w
        have h0 : (0 : Int32).toInt = 0 := rfl
        omega
      · have := i32_le.mp w
        rw [nI_toInt (by decide)] at this
        omega
      · have hj : (nI j).toInt = j := nI_toInt (by omega)
        rw [w2, hj] at a2
        refine ⟨j, by omega, ?_, ?_⟩
        · rw [if_pos h1, if_pos h2]; exact w2
        · rw [if_pos (i32_le.mpr (by rw [w2, hj]; omega)), if_pos (i32_le.mpr (by omega))]; exact w2
    · refine ⟨20, by decide, ?_, ?_⟩
      · rw [if_pos h1, if_neg h2]; rfl
      · have a1 := i32_le.mp (i32_nl.mp h2)
        by_cases h3 : (20 : Int32) ≤ x
        · have a2 := i32_le.mp h3
          have e : x = 20 := Int32.toInt_inj.mp (by omega)
          rw [e]; decide
        · rw [if_neg h3]; rfl
  · refine ⟨300, by decide, ?_, ?_⟩
    · rw [if_neg h1]; decide
    · have a1 := i32_le.mp (i32_nl.mp h1)
      rw [if_pos (i32_le.mpr (by omega))]
      by_cases h3 : x ≤ 300
      · have a2 := i32_le.mp h3
        have e : x = 300 := Int32.toInt_inj.mp (by omega)
        rw [e]; decide
      · rw [if_neg h3]; rfl
def i0_C (lm : Nat) : mm_i := fun k => if k = 306 then nI lm else if k = 26 then 1 else if k = 309 then 9 else if k = 310 then -1 else if k = 535 then 1 else 0
theorem IC_0 {lm : Nat} (h : lm ≤ 300) : IC (3 * (lm + 1) + 4) (13 * (lm + 1) + 4) lm 0 (fun _ => 0) 0 (fun _ => 0) none 0 none (i0_C lm) (fun _ => 0) (fun _ _ => 0) (fun _ _ => 0) := by
  refine ⟨⟨rfl, rfl, h⟩, 0, 0, ⟨by decide, rfl, fun k hk => absurd hk (Nat.not_lt_zero _), fun _ => (by decide : (0 : Nat) < 128)⟩, ⟨fun _ => 0, fun _ _ => rfl⟩, ⟨fun _ => 0, fun _ _ => rfl⟩, ⟨rfl, rfl, by decide, fun k hk => absurd hk (Nat.not_lt_zero _), fun _ => (by decide : (0 : Nat) < 128), fun k hk => absurd hk (Nat.not_lt_zero _)⟩, ⟨rfl, Nat.zero_le _, fun f x hx => ?_, Nat.zero_le _, rfl⟩, Or.inl ⟨rfl, rfl⟩, Or.inl ⟨rfl, rfl⟩, rfl⟩
  match f, hx with
  | 0, hx =>
    cases hx
    exact ⟨rfl, rfl, rfl, rfl, cp_zero, rfl, rfl⟩
  | f + 1, hx => simp at hx
theorem IM_0 {lm : Nat} (h : lm ≤ 300) : IM lm 0 (fun _ => 0) 0 (fun _ => 0) none 0 none (upd (fun _ => 0) 0 (nI lm)) (fun _ => 0) (fun _ _ => 0) (fun _ _ => 0) := by
  refine ⟨fun _ => 0, 0, fun _ _ => 0, none, ⟨by decide, rfl, fun k hk => absurd hk (Nat.not_lt_zero _), fun _ => (by decide : (0 : Nat) < 128)⟩, ⟨⟨rfl, rfl, ⟨by decide, rfl, fun k hk => absurd hk (Nat.not_lt_zero _), fun _ => (by decide : (0 : Nat) < 128)⟩, fun k _ => rfl, by decide, h, fun _ => (by decide : (0 : Nat) < 128)⟩, rfl, Nat.zero_le _, rfl, fun _ => cx_0, fun s _ => cp_zero⟩, Or.inl ⟨rfl, rfl, rfl⟩, rfl, rfl, fun k hk => absurd hk (Nat.not_lt_zero _)⟩
theorem la_w_kept {D : va_G} {cA : FieldType → ClassId} {A : Nat → Prop} {ρ : List Nat} {w : mm_H} {ws : va_W} {H H1 : Heap} (h : la_w D cA A ρ w ws H) (hk : ∀ q : Nat, q < H.size → H1[q]? = H[q]?) : la_w D cA A ρ w ws H1 := ⟨h.1, fun k x hx => (h.2.1 k x hx).kept (hk x.1 (h.2.1 k x hx).lt), h.2.2⟩
set_option maxHeartbeats 4000000 in
set_option maxRecDepth 100000 in
theorem whole_start {p : Program} {e : Env} {s : State} {m : MethodId} {below : List Frame} {meth : Method} {c : Code} (l : Launch) {b L : Nat} {xs : Nat → Int32} (hL : L ≤ 1025) (C0 : lw_At p s m meth c b L xs) : W p l e room_1 s m #[Value.ref b] below meth c s.heap [] 0 0 (lw_Z below #[Value.ref b] s) (entryFrame m ([Value.ref b] : List Value).toArray 4) := by
  obtain ⟨hx, hb, hr, hml, hown, hts, hX, hbl, hlocks, hgv⟩ := id C0
  have hT : ∀ w ∈ mm_T, w.before #[Value.ref b] s = true := fun w hw => hts w (List.mem_filter.mp hw).1
  have hN : ∀ w ∈ mm_N, va_Nw w s := fun w hw => va_Nw.of (mm_Nw_onT hw) (hts w (List.mem_filter.mp hw).1)
  obtain ⟨cI, hI1, hI2⟩ := la_arr (hT _ tw_47)
  obtain ⟨cL, hL1, hL2⟩ := la_arrL (hT _ tw_209)
  have hcl : ∀ k : Nat, ∃ r : ClassId × (Nat → Nat), ∀ q, mmCl[k]? = some q → u_Kn s q.1 q.2.1 q.2.2 r.1 r.2 := by
    intro k
    cases hq : mmCl[k]? with
    | none => exact ⟨(cI, fun _ => 0), fun q h => (by cases h)⟩
    | some q =>
      have hmem := List.mem_of_getElem? hq
      obtain ⟨cC, iS, h⟩ := u_known (C := q.1) (T := q.2.1) (N := q.2.2) (n := q.2.2) hT (mm_in q hmem) (hT _ (mm_inst q hmem))
      exact ⟨(cC, iS), fun q' h' => by cases h'; exact h⟩
  obtain ⟨f, hf⟩ := Classical.axiomOfChoice hcl
  obtain ⟨cA, ea1, ea2⟩ : ∃ cA : FieldType → ClassId, cA .int = cI ∧ cA .long = cL := ⟨fun ty => match ty with | .long => cL | _ => cI, rfl, rfl⟩
  have hK : va_K (fun k => (f k).1, fun k => (f k).2) mmCl (mm_tys cA) s := by
    refine ⟨fun k q hq => hf k q hq, fun k q hq => ?_⟩
    match k, hq with
    | 0, hq => cases hq; rw [ea1]; exact ⟨hI1, hI2⟩
    | 1, hq => cases hq; rw [ea2]; exact ⟨hL1, hL2⟩
    | k + 2, hq => simp [mm_tys] at hq
  have hC : la_C s b (fun k => (f k).1, fun k => (f k).2) cA := ⟨hT, hN, hK, la_E hts hgv⟩
  generalize ((fun k => (f k).1, fun k => (f k).2) : va_G) = D at hC
  have hS : va_S (la_A s) s.heap s.heap [] := va_S.rf
  have hl := lv_entry ([.ref b]) (n := 4) (Nat.le_of_ble_eq_true rfl)
  rw [lg_entry_eq]
  generalize (lg_sl ([.ref b]) ++ List.replicate (4 - (lg_sl ([.ref b])).length) Slot.unset).toArray = ls at hl ⊢
  have hl : lv_has ls 4 [(0, .ref b)] := hl
  generalize hx0 : (if 0 < L then xs 0 else 0) = x0
  obtain ⟨lm, hlm, hcl1, hcl2⟩ := la_lim x0
  refine la_new C0 hC 6 [.null, .null, .int 0, .int 0, .int 0, .int 0, .long 0, .int 0] d_law_0 nw_law_7 (wso := []) (fun k q h => by simp at h) ⟨fun i j p q h => by simp at h, fun k q h => by simp at h⟩ hS ⟨by decide, by decide⟩ (fun q1 H hw1 _ _ hS => ?_)
  refine lv_dup hx hb d_law_3 rfl ?_
  refine lv_aload_n hx hb d_law_4 rfl (lv_at hl 0 rfl) ?_
  refine lv_iconst (v := 0) hx hb d_law_5 (by decide) ?_
  refine la_cell C0 hC (by omega) d_law_6 (Nat.le_of_ble_eq_true rfl) hl.1 hS ⟨by decide, by decide⟩ (fun H2 locs2 hk hS => ?_)
  rw [hx0]
  refine la_callI (av := [.int x0]) (av' := [.int x0]) (r' := [.ref q1]) C0 hC (a := 0) d_law_9 ok_Bench_init tw_18 (by decide) rfl (Nat.le_of_ble_eq_true rfl) ⟨rfl, tw_19⟩ rfl (ci_Bench (x1 := x0) hlm.2 hcl1) hl.1 (la_w_kept hw1 hk) (wso := []) (fun k q h => by simp at h) (fun i j x y _ h => by simp at h) hS rfl ⟨_, _, rfl, rfl, rfl⟩ ⟨by decide, by omega⟩ (fun v v' w' ρ1 ws1 H locs hp hov hpre hw1 _ _ hS => ?_)
  obtain ⟨rfl, hw'⟩ := hp
  have hov : v' = none := hov
  subst hov
  have hW1 : w' = Wd 4 22 (3 * (lm + 1) + 4) (13 * (lm + 1) + 4) (i0_C lm) (fun _ => 0) (fun _ _ => 0) (fun _ _ => 0) := by rw [hw']; rfl
  rw [hW1] at hw1
  have hq1 : ρ1[0]? = some q1 := hpre 0 (Nat.zero_lt_succ _)
  refine lv_astore_n (lv' := [(1, .ref q1), (0, .ref b)]) hx hb d_law_12 rfl hl (by decide) rfl (fun ls hl => ?_)
  refine la_new C0 hC 7 [.int 0, .int 0, .null, .int 0, .int 0, .int 0, .int 0, .null, .int 0, .null, .int 0, .int 0, .int 0, .int 0, .long 0, .null, .int 0, .null, .null, .int 0, .null, .null, .int 0, .int 0, .int 0, .int 0, .long 0] d_law_13 nw_law_18 (wso := ws1) hw1.2.1 hw1.2.2 hS ⟨by decide, by omega⟩ (fun q2 H2 hw2 hP1 hdis hS => ?_)
  refine lv_dup hx hb d_law_16 rfl ?_
  refine lv_aload_n hx hb d_law_17 rfl (lv_at hl 1 rfl) ?_
  refine lv_iconst (v := 0) hx hb d_law_18 (by decide) ?_
  refine la_cell C0 hC (by omega) d_law_19 (Nat.le_of_ble_eq_true rfl) hl.1 hS ⟨by decide, by omega⟩ (fun H3 locs3 hk hS => ?_)
  rw [hx0]
  have hP1 := (la_w_kept ⟨hw1.1, hP1, hw1.2.2⟩ hk).2.1
  refine la_callI (av := [.int x0]) (av' := [.int x0]) (r' := [.ref q2]) C0 hC (a := 0) d_law_22 ok_Model_init tw_681 (by decide) rfl (Nat.le_of_ble_eq_true rfl) ⟨rfl, tw_682⟩ rfl (ci_Model (x1 := x0)) hl.1 (la_w_kept hw2 hk) hP1 hdis hS rfl ⟨_, _, rfl, rfl, rfl⟩ ⟨by decide, by omega⟩ (fun v v' w' ρ2 ws2 H4 locs4 hp hov hpre hw2 hP1 hdis hS => ?_)
  obtain ⟨rfl, Lx, hw', hLx⟩ := hp
  have hov : v' = none := hov
  subst hov
  rw [hw', hLx, hcl2] at hw2
  have hq2 : ρ2[0]? = some q2 := hpre 0 (Nat.zero_lt_succ _)
  refine lv_astore_n (lv' := [(2, .ref q2), (1, .ref q1), (0, .ref b)]) hx hb d_law_25 rfl hl (by decide) rfl (fun ls hl => ?_)
  refine lv_iconst (v := 1) hx hb d_law_26 (by decide) ?_
  refine lv_istore_n (lv' := [(3, .int 1), (2, .ref q2), (1, .ref q1), (0, .ref b)]) hx hb d_law_27 rfl hl (by decide) rfl (fun ls hl => ?_)
  refine W.widen (k := 100) (n := 200000) (by omega) (by omega) ?_
  exact law_loop hL C0 hC (L + 3) 1 (by omega) (by omega) (0, fun _ => 0, 0, fun _ => 0, none, 0, none) _ _ ls ⟨_, _, _, _, _, _, _, _, ρ1, ws1, ρ2, ws2, IC_0 hlm.2, IM_0 hlm.2, ⟨hw1.1, hP1, hw1.2.2⟩, hw2, la_dis_sy hdis, hq1, hq2⟩ hS (lv_sub hl [3, 2, 1, 0] rfl)
