/-! the two readers: a turn -/
section RU
variable {tx : Nat → Nat} {n : Nat}
variable {k lv hn ni nr gr : Nat} {az : Int32} {P : pg} {Lv : Nat → dL}
/-- a bad turn: the class refuses; so does the measure, or there is a fifth group -/
def tBad (tx : Nat → Nat) (n lv k gr : Nat) (d' : dS) : Prop := d'.2.2.2.2.1 = 0 ∧ ((∀ f s, y_ms tx n (f + 1) lv k s = -1) ∨ (xt tx n k = 40 ∧ ¬ xt tx n (k + 1) = 63 ∧ 4 ≤ gr))
def tOpen (tx : Nat → Nat) (n k lv hn : Nat) (P : pg) (ni nr gr : Nat) (Lv : Nat → dL) (d' : dS) : Prop := ∃ kd, lv < 6 ∧ xt tx n k = 40 ∧ ((kd = 5 ∧ gr < 4 ∧ ¬ xt tx n (k + 1) = 63 ∧ y_op tx n k = 1) ∨ (xt tx n (k + 1) = 63 ∧ y_op tx n k = 3 ∧ ((kd = 8 ∧ xt tx n (k + 2) = 33) ∨ (kd = 6 ∧ xt tx n (k + 2) = 58) ∨ (kd = 7 ∧ xt tx n (k + 2) = 61) ∨ (kd = 9 ∧ xt tx n (k + 2) = 62)))) ∧ d' = d_opn k lv hn 1 P ni nr gr Lv kd ∧ ∀ f s, y_ms tx n (f + 1) lv k s = y_ms tx n f (lv + 1) (k + y_op tx n k) (upd s (lv + 1) 0)
def tBar (tx : Nat → Nat) (n k lv : Nat) (d d' : dS) : Prop := xt tx n k = 124 ∧ d' = d_pBar d ∧ ∀ f s, y_ms tx n (f + 1) lv k s = y_ms tx n f lv (k + 1) (upd s lv (s lv + 1))
def tClose (tx : Nat → Nat) (n k lv hn : Nat) (P : pg) (ni nr gr : Nat) (Lv : Nat → dL) (d' : dS) : Prop := ∃ k2 it, xt tx n k = 41 ∧ 0 < lv ∧ (Lv lv).1 = some it ∧ y_br tx n (k + 1) = some k2 ∧ d' = (k2, lv - 1, (Lv lv).2.2.2 + 2, hn, 1, x_P tx n (k + 1) P it, ni, nr, gr, d_sz Lv (lv - 1) (x_z tx n (k + 1) k2 ((Lv lv).2.2.2 + 2))) ∧ ∀ f s, y_ms tx n (f + 1) lv k s = y_ms tx n f (lv - 1) k2 (upd s (lv - 1) (s (lv - 1) + x_z tx n (k + 1) k2 (s lv + 2)))
def tAtom (tx : Nat → Nat) (n k lv hn : Nat) (P : pg) (ni nr gr : Nat) (Lv : Nat → dL) (d' : dS) : Prop := ∃ e k2, y_op tx n k = 0 ∧ ¬ xt tx n k = 41 ∧ ¬ xt tx n k = 124 ∧ y_bp tx n k = some e ∧ y_br tx n e = some k2 ∧ d' = (k2, lv, 1, max hn (x_nm tx n k), 1, x_P tx n e (d_put P ni (x_kv tx n k).1 (x_kv tx n k).2 (Lv lv).2.1 (Lv lv).2.2.1) ni, ni + 1, nr, gr, d_sz (va_up Lv lv ((Lv lv).1, (Lv lv).2.1, some ni, (Lv lv).2.2.2)) lv (x_z tx n e k2 1)) ∧ ∀ f s, y_ms tx n (f + 1) lv k s = y_ms tx n f lv k2 (upd s lv (s lv + x_z tx n e k2 1))
theorem turn_is (ht : ∀ j, tx j < 128) (hn32 : n ≤ 32) (hk : k < n) (hl6 : lv ≤ 6) (hit : 0 < lv → ∃ it, (Lv lv).1 = some it) : tBad tx n lv k gr (d_turn tx n (k, lv, az, hn, 1, P, ni, nr, gr, Lv)) ∨ tOpen tx n k lv hn P ni nr gr Lv (d_turn tx n (k, lv, az, hn, 1, P, ni, nr, gr, Lv)) ∨ tBar tx n k lv (k, lv, az, hn, 1, P, ni, nr, gr, Lv) (d_turn tx n (k, lv, az, hn, 1, P, ni, nr, gr, Lv)) ∨ tClose tx n k lv hn P ni nr gr Lv (d_turn tx n (k, lv, az, hn, 1, P, ni, nr, gr, Lv)) ∨ tAtom tx n k lv hn P ni nr gr Lv (d_turn tx n (k, lv, az, hn, 1, P, ni, nr, gr, Lv)) := by
  have hy : ∀ f s, y_ms tx n (f + 1) lv k s = if n ≤ k then (if lv = 0 then s 0 else -1)
    else if 0 < y_op tx n k then (if lv = 6 then -1 else y_ms tx n f (lv + 1) (k + y_op tx n k) (upd s (lv + 1) 0))
    else if xt tx n k = 124 then y_ms tx n f lv (k + 1) (upd s lv (s lv + 1))
    else match y_at tx n lv k s with
      | none => -1
      | some (d2, x, e) => match y_br tx n e with
        | none => -1
        | some k2 => y_ms tx n f d2 k2 (upd s d2 (s d2 + (if e < k2 then y_sz tx n e x else x))) := fun f s => rfl
  have hy : ∀ f s, y_ms tx n (f + 1) lv k s = _ := fun f s => (hy f s).trans (if_neg (by omega))
  have tn : ∀ {d : dS}, d_part tx n (k, lv, az, hn, 1, P, ni, nr, gr, Lv) = (none, d) → d_turn tx n (k, lv, az, hn, 1, P, ni, nr, gr, Lv) = d := by
    intro d q1
    unfold d_turn
    rw [q1]
  have ts : ∀ {d : dS} {it : Nat}, d_part tx n (k, lv, az, hn, 1, P, ni, nr, gr, Lv) = (some it, d) → d_turn tx n (k, lv, az, hn, 1, P, ni, nr, gr, Lv) = d_rep' tx n d it := by
    intro d it q1
    unfold d_turn
    rw [q1]
  by_cases ho : 0 < y_op tx n k
  · have hy : ∀ f s, y_ms tx n (f + 1) lv k s = _ := fun f s => (hy f s).trans (if_pos ho)
    obtain ⟨kd, k1, k2, k3, k4⟩ := open_is (lv := lv) (hn := hn) (ni := ni) (nr := nr) (gr := gr) (az := az) (P := P) (Lv := Lv) ho
    have hp : d_pOpen tx n (k, lv, az, hn, 1, P, ni, nr, gr, Lv) = match q_kind tx n k with
      | none => (none, d_bad (k, lv, az, hn, 1, P, ni, nr, gr, Lv) k)
      | some kd => if 6 ≤ lv ∨ (kd = 5 ∧ 4 ≤ gr) then (none, d_bad (k, lv, az, hn, 1, P, ni, nr, gr, Lv) k) else (none, d_opn k lv hn 1 P ni nr gr Lv kd) := rfl
    rw [k1] at hp
    replace hp : d_pOpen tx n (k, lv, az, hn, 1, P, ni, nr, gr, Lv) = if 6 ≤ lv ∨ (kd = 5 ∧ 4 ≤ gr) then (none, d_bad (k, lv, az, hn, 1, P, ni, nr, gr, Lv) k) else (none, d_opn k lv hn 1 P ni nr gr Lv kd) := hp
    by_cases h6 : 6 ≤ lv
    · rw [if_pos (Or.inl h6)] at hp
      refine Or.inl ⟨?_, Or.inl (fun f s => (hy f s).trans (if_pos (by omega)))⟩
      rw [tn (k2.trans hp)]
      rfl
    · by_cases h5 : kd = 5 ∧ 4 ≤ gr
      · rw [if_pos (Or.inr h5)] at hp
        refine Or.inl ⟨?_, Or.inr ⟨k3, ?_, h5.2⟩⟩
        · rw [tn (k2.trans hp)]
          rfl
        · rcases k4 with w | w
          · exact w.2.1
          · omega
      · rw [if_neg (fun w => w.elim h6 h5)] at hp
        refine Or.inr (Or.inl ⟨kd, by omega, k3, ?_, tn (k2.trans hp), fun f s => (hy f s).trans (if_neg (by omega))⟩)
        rcases k4 with w | w
        · exact Or.inl ⟨w.1, by have := h5; omega, w.2⟩
        · exact Or.inr w
  · have hy : ∀ f s, y_ms tx n (f + 1) lv k s = _ := fun f s => (hy f s).trans (if_neg ho)
    have ho0 : y_op tx n k = 0 := by omega
    have h40p : q_at tx n k = some 40 → False ∨ True := fun _ => Or.inr trivial
    by_cases h124 : xt tx n k = 124
    · have hy : ∀ f s, y_ms tx n (f + 1) lv k s = _ := fun f s => (hy f s).trans (if_pos h124)
      refine Or.inr (Or.inr (Or.inl ⟨h124, tn ?_, hy⟩))
      unfold d_part
      show (if q_at tx n k = some 40 then _ else if q_at tx n k = some 41 then _ else if q_at tx n k = some 91 then _ else if q_at tx n k = some 92 then _ else if q_at tx n k = some 124 then _ else _) = _
      rw [if_neg (fun w => by have := (qa_is (by decide)).mp w; omega), if_neg (fun w => by have := (qa_is (by decide)).mp w; omega), if_neg (fun w => by have := (qa_is (by decide)).mp w; omega), if_neg (fun w => by have := (qa_is (by decide)).mp w; omega), if_pos ((qa_is (by decide)).mpr h124)]
    · have hy : ∀ f s, y_ms tx n (f + 1) lv k s = _ := fun f s => (hy f s).trans (if_neg h124)
      by_cases h41 : xt tx n k = 41
      · have ya : ∀ s, y_at tx n lv k s = if lv = 0 then none else some (lv - 1, s lv + 2, k + 1) := fun s => if_pos h41
        have hp : d_part tx n (k, lv, az, hn, 1, P, ni, nr, gr, Lv) = if lv = 0 then (none, d_bad (k, lv, az, hn, 1, P, ni, nr, gr, Lv) k) else ((Lv lv).1, (k + 1, lv - 1, (Lv lv).2.2.2 + 2, hn, 1, P, ni, nr, gr, Lv)) := by
          unfold d_part
          show (if q_at tx n k = some 40 then _ else if q_at tx n k = some 41 then _ else _) = _
          rw [if_neg (fun w => by have := (qa_is (by decide)).mp w; omega), if_pos ((qa_is (by decide)).mpr h41)]
          rfl
        by_cases h0 : lv = 0
        · rw [if_pos h0] at hp
          refine Or.inl ⟨?_, Or.inl (fun f s => ?_)⟩
          · rw [tn hp]
            rfl
          · rw [hy f s, ya s, if_pos h0]
        · rw [if_neg h0] at hp
          have ya : ∀ s, y_at tx n lv k s = some (lv - 1, s lv + 2, k + 1) := fun s => (ya s).trans (if_neg h0)
          obtain ⟨it, hit⟩ := hit (by omega)
          rw [hit] at hp
          have hr := rep_is (tx := tx) (n := n) (e := k + 1) (lv := lv - 1) (hn := hn) (gd := 1) (ni := ni) (nr := nr) (gr := gr) (it := it) (az := (Lv lv).2.2.2 + 2) (P := P) (Lv := Lv) ht
          cases hb : y_br tx n (k + 1) with
          | none =>
            refine Or.inl ⟨?_, Or.inl (fun f s => ?_)⟩
            · rw [ts hp]
              exact hr.2 hb
            · rw [hy f s, ya s]
              show (match y_br tx n (k + 1) with | none => _ | some k2 => _) = _
              rw [hb]
          | some k2 =>
            refine Or.inr (Or.inr (Or.inr (Or.inl ⟨k2, it, h41, by omega, hit, hb, ?_, fun f s => ?_⟩)))
            · rw [ts hp]
              exact hr.1 k2 hb
            · rw [hy f s, ya s]
              show (match y_br tx n (k + 1) with | none => _ | some k2 => _) = _
              rw [hb]
              rfl
      · have ya : ∀ s, y_at tx n lv k s = (y_bp tx n k).map (fun e => (lv, 1, e)) := fun s => if_neg h41
        obtain ⟨a1, a2⟩ := atom_is (lv := lv) (hn := hn) (ni := ni) (nr := nr) (gr := gr) (az := az) (P := P) (Lv := Lv) hn32 hk ho0 h41 h124
        cases hb : y_bp tx n k with
        | none =>
          refine Or.inl ⟨a2 hb, Or.inl (fun f s => ?_)⟩
          rw [hy f s, ya s, hb]
          rfl
        | some e =>
          have hp := a1 e hb
          have hr := rep_is (tx := tx) (n := n) (e := e) (lv := lv) (hn := max hn (x_nm tx n k)) (gd := 1) (ni := ni + 1) (nr := nr) (gr := gr) (it := ni) (az := 1) (P := d_put P ni (x_kv tx n k).1 (x_kv tx n k).2 (Lv lv).2.1 (Lv lv).2.2.1) (Lv := va_up Lv lv ((Lv lv).1, (Lv lv).2.1, some ni, (Lv lv).2.2.2)) ht
          cases hb2 : y_br tx n e with
          | none =>
            refine Or.inl ⟨?_, Or.inl (fun f s => ?_)⟩
            · rw [ts hp]
              exact hr.2 hb2
            · rw [hy f s, ya s, hb]
              show (match y_br tx n e with | none => _ | some k2 => _) = _
              rw [hb2]
          | some k2 =>
            refine Or.inr (Or.inr (Or.inr (Or.inr ⟨e, k2, ho0, h41, h124, hb, hb2, ?_, fun f s => ?_⟩)))
            · rw [ts hp]
              exact hr.1 k2 hb2
            · rw [hy f s, ya s, hb]
              show (match y_br tx n e with | none => _ | some k2 => _) = _
              rw [hb2]
              rfl
end RU
