/-! the two readers: a token at a time -/
theorem q_mann {tx : Nat → Nat} {n p it : Nat} {P : pg} : (d_mann tx n p P it).2 = y_sfx tx n p := by
  unfold d_mann y_sfx
  by_cases h1 : xt tx n p = 63
  · rw [if_pos ((qa_is (by decide)).mpr h1), if_pos (Or.inl h1)]
  · rw [if_neg (fun w => h1 ((qa_is (by decide)).mp w))]
    by_cases h2 : xt tx n p = 43
    · rw [if_pos ((qa_is (by decide)).mpr h2), if_pos (Or.inr h2)]
    · rw [if_neg (fun w => h2 ((qa_is (by decide)).mp w)), if_neg (fun w => w.elim h1 h2)]
/-- what a repeat at e makes of the program -/
def x_P (tx : Nat → Nat) (n e : Nat) (P : pg) (it : Nat) : pg :=
  if xt tx n e = 42 then (d_mann tx n (e + 1) (P_rp P it 3) it).1
  else if xt tx n e = 43 then (d_mann tx n (e + 1) (P_rp P it 4) it).1
  else if xt tx n e = 63 then (d_mann tx n (e + 1) (P_rp P it 2) it).1
  else if xt tx n e = 123 then (d_mann tx n (e + 3) (P_rp (P_tm P it (xt tx n (e + 1) - 48)) it (if xt tx n (e + 1) - 48 = 0 then 1 else 5)) it).1
  else P
def x_z (tx : Nat → Nat) (n e k2 : Nat) (az : Int32) : Int32 := if e < k2 then y_sz tx n e az else az
section RT
variable {tx : Nat → Nat} {n : Nat}
theorem sfx_gt {j : Nat} : j ≤ y_sfx tx n j := by
  unfold y_sfx
  split <;> omega
theorem rep_is {e lv hn gd ni nr gr it : Nat} {az : Int32} {P : pg} {Lv : Nat → dL} (ht : ∀ j, tx j < 128) : (∀ k2, y_br tx n e = some k2 → d_rep tx n e lv az hn gd P ni nr gr Lv it = (k2, lv, az, hn, gd, x_P tx n e P it, ni, nr, gr, d_sz Lv lv (x_z tx n e k2 az))) ∧ (y_br tx n e = none → (d_rep tx n e lv az hn gd P ni nr gr Lv it).2.2.2.2.1 = 0) := by
  have s1 := sfx_gt (tx := tx) (n := n) (j := e + 1)
  have s3 := sfx_gt (tx := tx) (n := n) (j := e + 3)
  have hl1 := x_lt (n := n) (k := e + 1) ht
  unfold d_rep y_br x_P x_z y_sz
  by_cases h1 : xt tx n e = 42
  · rw [if_pos ((qa_is (by decide)).mpr h1), if_pos (Or.inl h1)]
    refine ⟨fun k2 h => ?_, fun h => (by cases h)⟩
    have h2 := (Option.some.inj h).symm
    subst h2
    rw [if_pos h1, if_pos (by omega), if_pos h1]
    show (_, _) = (_, _)
    rw [q_mann]
  rw [if_neg (fun w => h1 ((qa_is (by decide)).mp w))]
  by_cases h2 : xt tx n e = 43
  · rw [if_pos ((qa_is (by decide)).mpr h2), if_pos (Or.inr (Or.inl h2))]
    refine ⟨fun k2 h => ?_, fun h => (by cases h)⟩
    have h2' := (Option.some.inj h).symm
    subst h2'
    rw [if_neg h1, if_pos h2, if_pos (by omega), if_neg h1, if_pos h2]
    show (_, _) = (_, _)
    rw [q_mann]
  rw [if_neg (fun w => h2 ((qa_is (by decide)).mp w))]
  by_cases h3 : xt tx n e = 63
  · rw [if_pos ((qa_is (by decide)).mpr h3), if_pos (Or.inr (Or.inr h3))]
    refine ⟨fun k2 h => ?_, fun h => (by cases h)⟩
    have h2' := (Option.some.inj h).symm
    subst h2'
    rw [if_neg h1, if_neg h2, if_pos h3, if_pos (by omega), if_neg h1, if_neg h2, if_pos h3]
    show (_, _) = (_, _)
    rw [q_mann]
  rw [if_neg (fun w => h3 ((qa_is (by decide)).mp w)), if_neg (fun w => w.elim h1 (fun w => w.elim h2 h3))]
  by_cases h4 : xt tx n e = 123
  · rw [if_pos ((qa_is (by decide)).mpr h4), if_pos h4]
    unfold d_tms
    by_cases h5 : 48 ≤ xt tx n (e + 1) ∧ xt tx n (e + 1) ≤ 57
    · rw [qd_is.1 h5]
      by_cases h6 : xt tx n (e + 2) = 125
      · rw [if_pos ⟨h5, h6⟩]
        show (∀ k2, _ → (if q_at tx n (e + 2) = some 125 then _ else _) = _) ∧ _
        rw [if_pos ((qa_is (by decide)).mpr h6)]
        refine ⟨fun k2 h => ?_, fun h => (by cases h)⟩
        have h2' := (Option.some.inj h).symm
        subst h2'
        rw [if_neg h1, if_neg h2, if_neg h3, if_pos h4, if_pos (c := e < y_sfx tx n (e + 3)) (by omega), if_neg h1, if_neg h2, if_neg h3, if_pos h4]
        show (_, _) = (_, _)
        rw [q_mann, show (48 : Int32) = nI 48 from rfl, pk_sub h5.1]
      · rw [if_neg (fun w => h6 w.2)]
        show (∀ k2, _ → (if q_at tx n (e + 2) = some 125 then _ else _) = _) ∧ (_ → (if q_at tx n (e + 2) = some 125 then _ else _ : dS).2.2.2.2.1 = 0)
        rw [if_neg (fun w => h6 ((qa_is (by decide)).mp w))]
        exact ⟨fun k2 h => (by cases h), fun _ => rfl⟩
    · rw [qd_is.2 h5, if_neg (fun w => h5 w.1)]
      exact ⟨fun k2 h => (by cases h), fun _ => rfl⟩
  · rw [if_neg (fun w => h4 ((qa_is (by decide)).mp w)), if_neg h4]
    refine ⟨fun k2 h => ?_, fun h => (by cases h)⟩
    have h2' := (Option.some.inj h).symm
    subst h2'
    rw [if_neg h1, if_neg h2, if_neg h3, if_neg h4, if_neg (by omega)]
theorem rep_0 {e lv hn ni nr gr it : Nat} {az : Int32} {P : pg} {Lv : Nat → dL} : (d_rep tx n e lv az hn 0 P ni nr gr Lv it).2.2.2.2.1 = 0 := by
  unfold d_rep
  split
  · rfl
  · split
    · rfl
    · split
      · rfl
      · split
        · unfold d_tms
          split
          · split <;> rfl
          · rfl
        · rfl
/-- the name that a token at k says, kind and value of its item -/
def x_nm (tx : Nat → Nat) (n k : Nat) : Nat := if xt tx n k = 40 then (if xt tx n (k + 1) = 63 ∧ (48 ≤ xt tx n (k + 2) ∧ xt tx n (k + 2) ≤ 52) then xt tx n (k + 2) - 48 else 0) else if xt tx n k = 92 then xt tx n (k + 1) - 48 else 0
def x_kv (tx : Nat → Nat) (n k : Nat) : Nat × Int32 :=
  if xt tx n k = 40 then (4, nI (xt tx n (k + 2) - 48))
  else if xt tx n k = 92 then (3, nI (xt tx n (k + 1) - 48))
  else if xt tx n k = 91 then (0, if (q_inv tx n k).1 = 0 then (q_class tx n k 1).1 else (67108863 : Int32) &&& ((q_class tx n k 1).1 ^^^ (-1)))
  else if xt tx n k = 36 then (2, 0) else if xt tx n k = 46 then (0, 67108863) else if xt tx n k = 94 then (1, 0) else (0, q_bt (nI (xt tx n k)) (nI (xt tx n k)))
variable {k lv hn ni nr gr : Nat} {az : Int32} {P : pg} {Lv : Nat → dL}
theorem atom_is (hn32 : n ≤ 32) (hk : k < n) (ho : y_op tx n k = 0) (h41 : ¬ xt tx n k = 41) (h124 : ¬ xt tx n k = 124) : (∀ e, y_bp tx n k = some e → d_part tx n (k, lv, az, hn, 1, P, ni, nr, gr, Lv) = (some ni, d_one e lv (max hn (x_nm tx n k)) 1 P ni nr gr Lv (x_kv tx n k).1 (x_kv tx n k).2)) ∧ (y_bp tx n k = none → (d_turn tx n (k, lv, az, hn, 1, P, ni, nr, gr, Lv)).2.2.2.2.1 = 0) := by
  have tn : ∀ {d : dS}, d_part tx n (k, lv, az, hn, 1, P, ni, nr, gr, Lv) = (none, d) → d.2.2.2.2.1 = 0 → (d_turn tx n (k, lv, az, hn, 1, P, ni, nr, gr, Lv)).2.2.2.2.1 = 0 := by
    intro d q1 q2
    unfold d_turn
    rw [q1]
    exact q2
  unfold y_bp
  by_cases h40 : xt tx n k = 40
  · have hp : d_part tx n (k, lv, az, hn, 1, P, ni, nr, gr, Lv) = d_pParen tx n (k, lv, az, hn, 1, P, ni, nr, gr, Lv) := by
      unfold d_part
      rw [if_pos ((qa_is (by decide)).mpr h40)]
    rw [if_neg (by omega), if_neg (by omega), if_neg (by omega)]
    unfold y_op at ho
    rw [if_pos h40] at ho
    by_cases h63 : xt tx n (k + 1) = 63
    · rw [if_pos h63] at ho
      have ho2 : ¬ (xt tx n (k + 2) = 58 ∨ xt tx n (k + 2) = 61 ∨ xt tx n (k + 2) = 33 ∨ xt tx n (k + 2) = 62) := by
        intro w
        rw [if_pos w] at ho
        omega
      by_cases hd : 48 ≤ xt tx n (k + 2) ∧ xt tx n (k + 2) ≤ 57
      · have hp2 : d_part tx n (k, lv, az, hn, 1, P, ni, nr, gr, Lv) = d_pCall tx n (k, lv, az, hn, 1, P, ni, nr, gr, Lv) (xt tx n (k + 2) - 48) := by
          rw [hp]
          unfold d_pParen
          show (if q_at tx n (k + 1) = some 63 then _ else _) = _
          rw [if_pos ((qa_is (by decide)).mpr h63)]
          show (match q_dig (q_at tx n (k + 2)) with | some g => _ | none => _) = _
          rw [qd_is.1 hd]
        unfold d_pCall at hp2
        by_cases hc : xt tx n (k + 2) - 48 ≤ 4 ∧ xt tx n (k + 3) = 41
        · rw [if_pos ⟨h40, h63, by omega, hc.2⟩]
          refine ⟨fun e he => ?_, fun he => (by cases he)⟩
          cases he
          rw [if_pos ⟨hc.1, (qa_is (by decide)).mpr hc.2⟩] at hp2
          rw [hp2]
          unfold x_nm x_kv
          rw [if_pos h40, if_pos ⟨h63, by omega⟩, if_pos h40]
          rfl
        · rw [if_neg (fun w => hc ⟨by omega, w.2.2.2⟩)]
          rw [if_neg (fun w => hc ⟨w.1, (qa_is (by decide)).mp w.2⟩)] at hp2
          exact ⟨fun e he => (by cases he), fun _ => tn hp2 rfl⟩
      · rw [if_neg (fun w => hd (by omega))]
        refine ⟨fun e he => (by cases he), fun _ => tn (d := d_bad (k, lv, az, hn, 1, P, ni, nr, gr, Lv) k) ?_ rfl⟩
        rw [hp]
        unfold d_pParen
        show (if q_at tx n (k + 1) = some 63 then _ else _) = _
        rw [if_pos ((qa_is (by decide)).mpr h63)]
        show (match q_dig (q_at tx n (k + 2)) with | some g => _ | none => _) = _
        rw [qd_is.2 hd]
        show d_pOpen tx n (k, lv, az, hn, 1, P, ni, nr, gr, Lv) = _
        unfold d_pOpen
        have : q_kind tx n k = none := by
          unfold q_kind
          rw [if_pos ((qa_is (by decide)).mpr h63), if_neg (fun w => ho2 (by have := (qa_is (by decide)).mp w; omega)), if_neg (fun w => ho2 (by have := (qa_is (by decide)).mp w; omega)), if_neg (fun w => ho2 (by have := (qa_is (by decide)).mp w; omega)), if_neg (fun w => ho2 (by have := (qa_is (by decide)).mp w; omega))]
        show (match q_kind tx n k with | none => _ | some kd => _) = _
        rw [this]
    · rw [if_neg h63] at ho
      omega
  · have hx : x_kv tx n k = if xt tx n k = 92 then (3, nI (xt tx n (k + 1) - 48)) else if xt tx n k = 91 then (0, if (q_inv tx n k).1 = 0 then (q_class tx n k 1).1 else (67108863 : Int32) &&& ((q_class tx n k 1).1 ^^^ (-1))) else if xt tx n k = 36 then (2, 0) else if xt tx n k = 46 then (0, 67108863) else if xt tx n k = 94 then (1, 0) else (0, q_bt (nI (xt tx n k)) (nI (xt tx n k))) := by
      unfold x_kv
      rw [if_neg h40]
    have hm : x_nm tx n k = if xt tx n k = 92 then xt tx n (k + 1) - 48 else 0 := by
      unfold x_nm
      rw [if_neg h40]
    have hp : d_part tx n (k, lv, az, hn, 1, P, ni, nr, gr, Lv) = if q_at tx n k = some 91 then d_pClass tx n (k, lv, az, hn, 1, P, ni, nr, gr, Lv) else if q_at tx n k = some 92 then d_pRef tx n (k, lv, az, hn, 1, P, ni, nr, gr, Lv) else d_pSign tx n (k, lv, az, hn, 1, P, ni, nr, gr, Lv) := by
      unfold d_part
      rw [if_neg (fun w => h40 ((qa_is (by decide)).mp w)), if_neg (fun w => h41 ((qa_is (by decide)).mp w)), if_neg (c := q_at tx n (k, lv, az, hn, 1, P, ni, nr, gr, Lv).1 = some 124) (fun w => h124 ((qa_is (by decide)).mp w))]
    rw [hp, hx, hm]
    by_cases h91 : xt tx n k = 91
    · rw [if_neg (by omega), if_pos h91, if_pos ((qa_is (by decide)).mpr h91), if_neg (by omega), if_pos h91, if_neg (by omega), Nat.max_eq_left (Nat.zero_le _)]
      rw [if_pos ((qa_is (by decide)).mpr h91)] at hp
      obtain ⟨c1, c2⟩ := class_is hn32 hk (tx := tx)
      have hp2 : d_pClass tx n (k, lv, az, hn, 1, P, ni, nr, gr, Lv) = if (q_class tx n k 1).1 = 0 ∨ ¬ q_at tx n (q_class tx n k 1).2.1 = some 93 then (none, d_bad (k, lv, az, hn, 1, P, ni, nr, gr, Lv) (q_class tx n k 1).2.1) else (some ni, d_one ((q_class tx n k 1).2.1 + 1) lv hn (q_class tx n k 1).2.2 P ni nr gr Lv 0 (if (q_inv tx n k).1 = 0 then (q_class tx n k 1).1 else (67108863 : Int32) &&& ((q_class tx n k 1).1 ^^^ (-1)))) := rfl
      refine ⟨fun e he => ?_, fun he => ?_⟩
      · obtain ⟨e1, e2, e3, e4, e5⟩ := c1 e he
        rw [hp2, if_neg (fun w => w.elim e4 (fun w => w ((qa_is (by decide)).mpr (by rw [e2]; exact e5)))), e2, e3, Nat.sub_add_cancel e1]
      · by_cases h0 : (q_class tx n k 1).1 = 0 ∨ ¬ q_at tx n (q_class tx n k 1).2.1 = some 93
        · rw [if_pos h0] at hp2
          exact tn (hp.trans hp2) rfl
        · rw [if_neg h0] at hp2
          have h00 : (q_class tx n k 1).2.2 = 0 := by
            rcases c2 he with w | w | w
            · exact w
            · exact absurd (Or.inl w) h0
            · exact absurd (Or.inr (fun v => w ((qa_is (by decide)).mp v))) h0
          unfold d_turn
          rw [hp, hp2]
          show (d_rep' tx n (d_one _ _ _ (q_class tx n k 1).2.2 _ _ _ _ _ _ _) ni).2.2.2.2.1 = 0
          rw [h00]
          exact rep_0
    · rw [if_neg (c := q_at tx n k = some 91) (fun w => h91 ((qa_is (by decide)).mp w))]
      rw [if_neg (c := q_at tx n k = some 91) (fun w => h91 ((qa_is (by decide)).mp w))] at hp
      by_cases h92 : xt tx n k = 92
      · rw [if_neg (by omega), if_neg h91, if_pos h92, if_pos ((qa_is (by decide)).mpr h92), if_pos h92, if_pos h92]
        rw [if_pos ((qa_is (by decide)).mpr h92)] at hp
        have hp2 : d_pRef tx n (k, lv, az, hn, 1, P, ni, nr, gr, Lv) = match q_dig (q_at tx n (k + 1)) with
          | some g => if 1 ≤ g ∧ g ≤ 4 then (some ni, d_one (k + 2) lv (max hn g) 1 P ni nr gr Lv 3 (nI g)) else (none, d_bad (k, lv, az, hn, 1, P, ni, nr, gr, Lv) k)
          | none => (none, d_bad (k, lv, az, hn, 1, P, ni, nr, gr, Lv) k) := rfl
        by_cases hd : 49 ≤ xt tx n (k + 1) ∧ xt tx n (k + 1) ≤ 52
        · rw [if_pos hd]
          refine ⟨fun e he => ?_, fun he => (by cases he)⟩
          cases he
          rw [qd_is.1 (by omega)] at hp2
          rw [hp2]
          show (if 1 ≤ xt tx n (k + 1) - 48 ∧ xt tx n (k + 1) - 48 ≤ 4 then _ else _) = _
          rw [if_pos (by omega)]
        · rw [if_neg hd]
          refine ⟨fun e he => (by cases he), fun _ => ?_⟩
          by_cases hd2 : 48 ≤ xt tx n (k + 1) ∧ xt tx n (k + 1) ≤ 57
          · rw [qd_is.1 hd2] at hp2
            have hp3 : d_pRef tx n (k, lv, az, hn, 1, P, ni, nr, gr, Lv) = (none, d_bad (k, lv, az, hn, 1, P, ni, nr, gr, Lv) k) := by
              rw [hp2]
              show (if 1 ≤ xt tx n (k + 1) - 48 ∧ xt tx n (k + 1) - 48 ≤ 4 then _ else _) = _
              rw [if_neg (by omega)]
            exact tn (hp.trans hp3) rfl
          · rw [qd_is.2 hd2] at hp2
            exact tn (hp.trans hp2) rfl
      · rw [if_neg (c := q_at tx n k = some 92) (fun w => h92 ((qa_is (by decide)).mp w)), if_neg h92, if_neg h91, if_neg h92, if_neg h91, if_neg h92, Nat.max_eq_left (Nat.zero_le _)]
        rw [if_neg (c := q_at tx n k = some 92) (fun w => h92 ((qa_is (by decide)).mp w))] at hp
        rw [if_neg (c := xt tx n k = 40 ∧ _) (fun w => h40 w.1)]
        have hp2 : d_pSign tx n (k, lv, az, hn, 1, P, ni, nr, gr, Lv) = match q_sign (q_at tx n k) with
          | none => (none, d_bad (k, lv, az, hn, 1, P, ni, nr, gr, Lv) (k + 1))
          | some x => (some ni, d_one (k + 1) lv hn 1 P ni nr gr Lv x.1 x.2) := rfl
        have hq : q_sign (q_at tx n k) = match q_let (q_at tx n k) with
          | some c => some (0, q_bt (nI c) (nI c))
          | none => if q_at tx n k = some 36 then some (2, 0) else if q_at tx n k = some 46 then some (0, 67108863) else if q_at tx n k = some 94 then some (1, 0) else none := rfl
        by_cases hl : y_let (xt tx n k)
        · rw [ql_is.1 hl] at hq
          rw [if_pos (Or.inl hl), if_neg (by omega), if_neg (by omega), if_neg (by omega)]
          refine ⟨fun e he => ?_, fun he => (by cases he)⟩
          cases he
          rw [hq] at hp2
          exact hp2
        · rw [ql_is.2 hl] at hq
          by_cases h36 : xt tx n k = 36
          · rw [if_pos (by omega), if_pos h36]
            refine ⟨fun e he => ?_, fun he => (by cases he)⟩
            cases he
            replace hq : q_sign (q_at tx n k) = _ := hq.trans (if_pos ((qa_is (by decide)).mpr h36))
            rw [hq] at hp2
            exact hp2
          · replace hq : q_sign (q_at tx n k) = _ := hq.trans (if_neg (fun w => h36 ((qa_is (by decide)).mp w)))
            by_cases h46 : xt tx n k = 46
            · rw [if_pos (by omega), if_neg h36, if_pos h46]
              refine ⟨fun e he => ?_, fun he => (by cases he)⟩
              cases he
              replace hq : q_sign (q_at tx n k) = _ := hq.trans (if_pos ((qa_is (by decide)).mpr h46))
              rw [hq] at hp2
              exact hp2
            · replace hq : q_sign (q_at tx n k) = _ := hq.trans (if_neg (fun w => h46 ((qa_is (by decide)).mp w)))
              by_cases h94 : xt tx n k = 94
              · rw [if_pos (by omega), if_neg h36, if_neg h46, if_pos h94]
                refine ⟨fun e he => ?_, fun he => (by cases he)⟩
                cases he
                replace hq : q_sign (q_at tx n k) = _ := hq.trans (if_pos ((qa_is (by decide)).mpr h94))
                rw [hq] at hp2
                exact hp2
              · replace hq : q_sign (q_at tx n k) = _ := hq.trans (if_neg (fun w => h94 ((qa_is (by decide)).mp w)))
                rw [if_neg (by omega)]
                refine ⟨fun e he => (by cases he), fun _ => ?_⟩
                rw [hq] at hp2
                exact tn (hp.trans hp2) rfl
theorem open_is (ho : 0 < y_op tx n k) : ∃ kd, q_kind tx n k = some kd ∧ d_part tx n (k, lv, az, hn, 1, P, ni, nr, gr, Lv) = d_pOpen tx n (k, lv, az, hn, 1, P, ni, nr, gr, Lv) ∧ xt tx n k = 40 ∧ ((kd = 5 ∧ ¬ xt tx n (k + 1) = 63 ∧ y_op tx n k = 1) ∨ (xt tx n (k + 1) = 63 ∧ y_op tx n k = 3 ∧ ((kd = 8 ∧ xt tx n (k + 2) = 33) ∨ (kd = 6 ∧ xt tx n (k + 2) = 58) ∨ (kd = 7 ∧ xt tx n (k + 2) = 61) ∨ (kd = 9 ∧ xt tx n (k + 2) = 62)))) := by
  have hy : y_op tx n k = if xt tx n k = 40 then (if xt tx n (k + 1) = 63 then (if xt tx n (k + 2) = 58 ∨ xt tx n (k + 2) = 61 ∨ xt tx n (k + 2) = 33 ∨ xt tx n (k + 2) = 62 then 3 else 0) else 1) else 0 := rfl
  by_cases h40 : xt tx n k = 40
  · rw [if_pos h40] at hy
    have hp : d_part tx n (k, lv, az, hn, 1, P, ni, nr, gr, Lv) = if q_at tx n (k + 1) = some 63 then (match q_dig (q_at tx n (k + 2)) with
    | some g => d_pCall tx n (k, lv, az, hn, 1, P, ni, nr, gr, Lv) g
    | none => d_pOpen tx n (k, lv, az, hn, 1, P, ni, nr, gr, Lv)) else d_pOpen tx n (k, lv, az, hn, 1, P, ni, nr, gr, Lv) := by
      unfold d_part
      rw [if_pos ((qa_is (by decide)).mpr h40)]
      rfl
    by_cases h63 : xt tx n (k + 1) = 63
    · rw [if_pos h63] at hy
      by_cases h5 : xt tx n (k + 2) = 58 ∨ xt tx n (k + 2) = 61 ∨ xt tx n (k + 2) = 33 ∨ xt tx n (k + 2) = 62
      · rw [if_pos h5] at hy
        rw [if_pos ((qa_is (by decide)).mpr h63), qd_is.2 (by omega)] at hp
        have hk : q_kind tx n k = _ := if_pos ((qa_is (by decide)).mpr h63)
        by_cases g1 : xt tx n (k + 2) = 33
        · exact ⟨8, hk.trans (if_pos ((qa_is (by decide)).mpr g1)), hp, h40, Or.inr ⟨h63, hy, Or.inl ⟨rfl, g1⟩⟩⟩
        · replace hk : q_kind tx n k = _ := hk.trans (if_neg (fun w => g1 ((qa_is (by decide)).mp w)))
          by_cases g2 : xt tx n (k + 2) = 58
          · exact ⟨6, hk.trans (if_pos ((qa_is (by decide)).mpr g2)), hp, h40, Or.inr ⟨h63, hy, Or.inr (Or.inl ⟨rfl, g2⟩)⟩⟩
          · replace hk : q_kind tx n k = _ := hk.trans (if_neg (fun w => g2 ((qa_is (by decide)).mp w)))
            by_cases g3 : xt tx n (k + 2) = 61
            · exact ⟨7, hk.trans (if_pos ((qa_is (by decide)).mpr g3)), hp, h40, Or.inr ⟨h63, hy, Or.inr (Or.inr (Or.inl ⟨rfl, g3⟩))⟩⟩
            · replace hk : q_kind tx n k = _ := hk.trans (if_neg (fun w => g3 ((qa_is (by decide)).mp w)))
              have g4 : xt tx n (k + 2) = 62 := by omega
              exact ⟨9, hk.trans (if_pos ((qa_is (by decide)).mpr g4)), hp, h40, Or.inr ⟨h63, hy, Or.inr (Or.inr (Or.inr ⟨rfl, g4⟩))⟩⟩
      · rw [if_neg h5] at hy
        omega
    · rw [if_neg h63] at hy
      rw [if_neg (c := q_at tx n (k + 1) = some 63) (fun w => h63 ((qa_is (by decide)).mp w))] at hp
      exact ⟨5, if_neg (fun w => h63 ((qa_is (by decide)).mp w)), hp, h40, Or.inl ⟨rfl, h63, hy⟩⟩
  · rw [if_neg h40] at hy
    omega
end RT
