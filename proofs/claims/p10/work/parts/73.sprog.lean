/-! what the reader's strokes make of a program -/
section SP
variable {P : pg} {ni nr kd row : Nat} {v : Int32} {last : Option Nat}
theorem put_kd (j : Nat) : q_kd (d_put P ni kd v row last) j = if j = ni then kd else q_kd P j := by cases last <;> rfl
theorem put_vl (j : Nat) : q_vl (d_put P ni kd v row last) j = if j = ni then v else q_vl P j := by cases last <;> rfl
theorem put_rp (j : Nat) : q_rp (d_put P ni kd v row last) j = if j = ni then 0 else q_rp P j := by cases last <;> rfl
theorem put_tm (j : Nat) : q_tm (d_put P ni kd v row last) j = if j = ni then 1 else q_tm P j := by cases last <;> rfl
theorem put_mn (j : Nat) : q_mn (d_put P ni kd v row last) j = if j = ni then 0 else q_mn P j := by cases last <;> rfl
theorem put_bd (j : Nat) : q_bd (d_put P ni kd v row last) j = if j = ni then none else q_bd P j := by cases last <;> rfl
theorem put_nr : q_nr (d_put P ni kd v row last) = q_nr P := by cases last <;> rfl
theorem put_gb : q_gb (d_put P ni kd v row last) = q_gb P := by cases last <;> rfl
theorem put_nx (j : Nat) : q_nx (d_put P ni kd v row last) j = if last = some j then some ni else if j = ni then none else q_nx P j := by
  cases last with
  | none =>
    rw [if_neg (fun h => by cases h)]
    rfl
  | some la =>
    show (if j = la then some ni else if j = ni then none else q_nx P j) = _
    by_cases h : j = la
    · rw [if_pos h, if_pos (by rw [h])]
    · rw [if_neg h, if_neg (fun w => h (Option.some.inj w).symm)]
theorem put_fi (j : Nat) : q_fi (d_put P ni kd v row last) j = if last = none ∧ j = row then some ni else q_fi P j := by
  cases last with
  | none =>
    show (if j = row then some ni else q_fi P j) = _
    by_cases h : j = row
    · rw [if_pos h, if_pos ⟨rfl, h⟩]
    · rw [if_neg h, if_neg (fun w => h w.2)]
  | some la =>
    rw [if_neg (fun w => by cases w.1)]
    rfl
end SP
section SX
variable {tx : Nat → Nat} {n e it : Nat} {P : pg}
theorem mann_c {p : Nat} : q_kd (d_mann tx n p P it).1 = q_kd P ∧ q_vl (d_mann tx n p P it).1 = q_vl P ∧ q_rp (d_mann tx n p P it).1 = q_rp P ∧ q_tm (d_mann tx n p P it).1 = q_tm P ∧ q_bd (d_mann tx n p P it).1 = q_bd P ∧ q_nx (d_mann tx n p P it).1 = q_nx P ∧ q_fi (d_mann tx n p P it).1 = q_fi P ∧ q_nr (d_mann tx n p P it).1 = q_nr P ∧ q_gb (d_mann tx n p P it).1 = q_gb P := by
  unfold d_mann
  split
  · exact ⟨rfl, rfl, rfl, rfl, rfl, rfl, rfl, rfl, rfl⟩
  · split
    · exact ⟨rfl, rfl, rfl, rfl, rfl, rfl, rfl, rfl, rfl⟩
    · exact ⟨rfl, rfl, rfl, rfl, rfl, rfl, rfl, rfl, rfl⟩
theorem mann_m {p : Nat} (j : Nat) : q_mn (d_mann tx n p P it).1 j = if j = it then (if xt tx n p = 63 then 1 else if xt tx n p = 43 then 2 else q_mn P j) else q_mn P j := by
  unfold d_mann
  by_cases h1 : xt tx n p = 63
  · rw [if_pos ((qa_is (by decide)).mpr h1), if_pos h1]
    rfl
  · rw [if_neg (fun w => h1 ((qa_is (by decide)).mp w)), if_neg h1]
    by_cases h2 : xt tx n p = 43
    · rw [if_pos ((qa_is (by decide)).mpr h2), if_pos h2]
      rfl
    · rw [if_neg (fun w => h2 ((qa_is (by decide)).mp w)), if_neg h2]
      show q_mn P j = if j = it then q_mn P j else q_mn P j
      split <;> rfl
theorem xP_c : q_kd (x_P tx n e P it) = q_kd P ∧ q_vl (x_P tx n e P it) = q_vl P ∧ q_bd (x_P tx n e P it) = q_bd P ∧ q_nx (x_P tx n e P it) = q_nx P ∧ q_fi (x_P tx n e P it) = q_fi P ∧ q_nr (x_P tx n e P it) = q_nr P ∧ q_gb (x_P tx n e P it) = q_gb P := by
  have g : ∀ (p : Nat) (P' : pg), (q_kd P' = q_kd P ∧ q_vl P' = q_vl P ∧ q_bd P' = q_bd P ∧ q_nx P' = q_nx P ∧ q_fi P' = q_fi P ∧ q_nr P' = q_nr P ∧ q_gb P' = q_gb P) → q_kd (d_mann tx n p P' it).1 = q_kd P ∧ q_vl (d_mann tx n p P' it).1 = q_vl P ∧ q_bd (d_mann tx n p P' it).1 = q_bd P ∧ q_nx (d_mann tx n p P' it).1 = q_nx P ∧ q_fi (d_mann tx n p P' it).1 = q_fi P ∧ q_nr (d_mann tx n p P' it).1 = q_nr P ∧ q_gb (d_mann tx n p P' it).1 = q_gb P := by
    intro p P' h
    obtain ⟨a1, a2, a3, a4, a5, a6, a7, a8, a9⟩ := mann_c (tx := tx) (n := n) (it := it) (P := P') (p := p)
    obtain ⟨h1, h2, h3, h4, h5, h6, h7⟩ := h
    exact ⟨a1.trans h1, a2.trans h2, a5.trans h3, a6.trans h4, a7.trans h5, a8.trans h6, a9.trans h7⟩
  have r : ∀ m, q_kd (P_rp P it m) = q_kd P ∧ q_vl (P_rp P it m) = q_vl P ∧ q_bd (P_rp P it m) = q_bd P ∧ q_nx (P_rp P it m) = q_nx P ∧ q_fi (P_rp P it m) = q_fi P ∧ q_nr (P_rp P it m) = q_nr P ∧ q_gb (P_rp P it m) = q_gb P := fun m => ⟨rfl, rfl, rfl, rfl, rfl, rfl, rfl⟩
  unfold x_P
  split
  · exact g _ _ (r 3)
  · split
    · exact g _ _ (r 4)
    · split
      · exact g _ _ (r 2)
      · split
        · exact g _ _ ⟨rfl, rfl, rfl, rfl, rfl, rfl, rfl⟩
        · exact ⟨rfl, rfl, rfl, rfl, rfl, rfl, rfl⟩
theorem xP_n {j : Nat} (hj : ¬ j = it) : q_rp (x_P tx n e P it) j = q_rp P j ∧ q_tm (x_P tx n e P it) j = q_tm P j ∧ q_mn (x_P tx n e P it) j = q_mn P j := by
  have g : ∀ (p : Nat) (P' : pg), (q_rp P' j = q_rp P j ∧ q_tm P' j = q_tm P j ∧ q_mn P' j = q_mn P j) → q_rp (d_mann tx n p P' it).1 j = q_rp P j ∧ q_tm (d_mann tx n p P' it).1 j = q_tm P j ∧ q_mn (d_mann tx n p P' it).1 j = q_mn P j := by
    intro p P' h
    obtain ⟨a1, a2, a3, a4, a5, a6, a7, a8, a9⟩ := mann_c (tx := tx) (n := n) (it := it) (P := P') (p := p)
    rw [a3, a4, mann_m, if_neg hj]
    exact h
  have u : ∀ (f : Nat → Nat) (m : Nat), va_up f it m j = f j := fun f m => if_neg hj
  unfold x_P
  split
  · exact g _ _ ⟨u _ _, rfl, rfl⟩
  · split
    · exact g _ _ ⟨u _ _, rfl, rfl⟩
    · split
      · exact g _ _ ⟨u _ _, rfl, rfl⟩
      · split
        · exact g _ _ ⟨u _ _, u _ _, rfl⟩
        · exact ⟨rfl, rfl, rfl⟩
theorem xP_at (h1 : q_rp P it = 0) (h2 : q_mn P it = 0) : q_rp (x_P tx n e P it) it = x_rpv tx n e ∧ q_mn (x_P tx n e P it) it = x_mnv tx n e ∧ (xt tx n e = 123 → q_tm (x_P tx n e P it) it = xt tx n (e + 1) - 48) := by
  have g : ∀ (p : Nat) (P' : pg), q_rp (d_mann tx n p P' it).1 it = q_rp P' it ∧ q_tm (d_mann tx n p P' it).1 it = q_tm P' it ∧ q_mn (d_mann tx n p P' it).1 it = (if xt tx n p = 63 then 1 else if xt tx n p = 43 then 2 else q_mn P' it) := by
    intro p P'
    obtain ⟨a1, a2, a3, a4, a5, a6, a7, a8, a9⟩ := mann_c (tx := tx) (n := n) (it := it) (P := P') (p := p)
    rw [a3, a4, mann_m, if_pos rfl]
    exact ⟨rfl, rfl, rfl⟩
  have u : ∀ (f : Nat → Nat) (m : Nat), va_up f it m it = m := fun f m => if_pos rfl
  unfold x_P x_rpv x_mnv
  by_cases e1 : xt tx n e = 42
  · rw [if_pos e1, if_pos e1, if_pos (Or.inl e1), if_neg (show ¬ xt tx n e = 123 by omega)]
    obtain ⟨g1, g2, g3⟩ := g (e + 1) (P_rp P it 3)
    refine ⟨g1.trans (u _ _), g3.trans ?_, fun w => by omega⟩
    rw [show q_mn (P_rp P it 3) it = 0 from h2]
  rw [if_neg e1, if_neg e1]
  by_cases e2 : xt tx n e = 43
  · rw [if_pos e2, if_pos e2, if_pos (Or.inr (Or.inl e2)), if_neg (show ¬ xt tx n e = 123 by omega)]
    obtain ⟨g1, g2, g3⟩ := g (e + 1) (P_rp P it 4)
    refine ⟨g1.trans (u _ _), g3.trans ?_, fun w => by omega⟩
    rw [show q_mn (P_rp P it 4) it = 0 from h2]
  rw [if_neg e2, if_neg e2]
  by_cases e3 : xt tx n e = 63
  · rw [if_pos e3, if_pos e3, if_pos (Or.inr (Or.inr (Or.inl e3))), if_neg (show ¬ xt tx n e = 123 by omega)]
    obtain ⟨g1, g2, g3⟩ := g (e + 1) (P_rp P it 2)
    refine ⟨g1.trans (u _ _), g3.trans ?_, fun w => by omega⟩
    rw [show q_mn (P_rp P it 2) it = 0 from h2]
  rw [if_neg e3, if_neg e3]
  by_cases e4 : xt tx n e = 123
  · rw [if_pos e4, if_pos e4, if_pos (Or.inr (Or.inr (Or.inr e4))), if_pos e4]
    obtain ⟨g1, g2, g3⟩ := g (e + 3) (P_rp (P_tm P it (xt tx n (e + 1) - 48)) it (if xt tx n (e + 1) - 48 = 0 then 1 else 5))
    refine ⟨g1.trans (u _ _), g3.trans ?_, fun _ => g2.trans (u _ _)⟩
    rw [show q_mn (P_rp (P_tm P it (xt tx n (e + 1) - 48)) it (if xt tx n (e + 1) - 48 = 0 then 1 else 5)) it = 0 from h2]
  · rw [if_neg e4, if_neg e4, if_neg (show ¬ x_any (xt tx n e) by unfold x_any; omega)]
    exact ⟨h1, h2, fun w => absurd w e4⟩
end SX
/-! the invariant: items and rows stand at places of the text -/
def itK (tx : Nat → Nat) (n : Nat) (P : pg) (nr : Nat) (rp : Nat → Nat) (A it : Nat) : Prop :=
  (xt tx n A = 40 ∧ ¬ xt tx n (A + 1) = 63 ∧ q_kd P it = 5 ∧ q_vl P it = nI (x_gc tx n (A + 1)) ∧ ∃ r, q_bd P it = some r ∧ r < nr ∧ rp r = A + 1) ∨
  (xt tx n A = 40 ∧ xt tx n (A + 1) = 63 ∧ ((q_kd P it = 8 ∧ xt tx n (A + 2) = 33) ∨ (q_kd P it = 6 ∧ xt tx n (A + 2) = 58) ∨ (q_kd P it = 7 ∧ xt tx n (A + 2) = 61) ∨ (q_kd P it = 9 ∧ xt tx n (A + 2) = 62)) ∧ ∃ r, q_bd P it = some r ∧ r < nr ∧ rp r = A + 3) ∨
  (∃ e, y_op tx n A = 0 ∧ y_bp tx n A = some e ∧ q_kd P it = (x_kv tx n A).1 ∧ q_vl P it = (x_kv tx n A).2)
def itR (tx : Nat → Nat) (n : Nat) (P : pg) (A it : Nat) : Prop := q_rp P it = x_rpv tx n (x_ba tx n A) ∧ q_mn P it = x_mnv tx n (x_ba tx n A) ∧ (xt tx n (x_ba tx n A) = 123 → q_tm P it = xt tx n (x_ba tx n A + 1) - 48) ∧ y_br tx n (x_ba tx n A) = some (x_bh tx n A) ∧ x_ba tx n A ≤ n
def rwC (tx : Nat → Nat) (n : Nat) (P : pg) (ni nr : Nat) (ip rp : Nat → Nat) (r : Nat) : Prop := ((q_fi P r = none ∧ x_re tx n (rp r)) ∨ ∃ a, q_fi P r = some a ∧ a < ni ∧ ip a = rp r) ∧ ((q_nr P r = none ∧ x_nr tx n (rp r) = none) ∨ ∃ o, q_nr P r = some o ∧ o < nr ∧ x_nr tx n (rp r) = some (rp o) ∧ ∀ d, 1 ≤ d → x_cl tx n n d (rp r) = x_cl tx n n d (rp o))
/-- the same end of a row, the same closing -/
def sm (tx : Nat → Nat) (n X Y : Nat) : Prop := x_en tx n (n + 1) X = x_en tx n (n + 1) Y ∧ ∀ d, 1 ≤ d → x_cl tx n n d X = x_cl tx n n d Y
def opn (Lv : Nat → dL) (lv it : Nat) : Prop := ∃ j, 1 ≤ j ∧ j ≤ lv ∧ (Lv j).1 = some it
def sA (tx : Nat → Nat) (n k lv : Nat) (P : pg) (ni : Nat) (Lv : Nat → dL) (ip : Nat → Nat) : Prop := ∀ j, 1 ≤ j → j ≤ lv → ∃ it, (Lv j).1 = some it ∧ it < ni ∧ (Lv (j - 1)).2.2.1 = some it ∧ xt tx n (ip it) = 40 ∧ x_cl tx n n 1 (ip it + 1) = x_cl tx n n (lv - j + 1) k ∧ q_rp P it = 0 ∧ q_mn P it = 0 ∧ q_nx P it = none
def sB (tx : Nat → Nat) (n k lv : Nat) (P : pg) (nr : Nat) (Lv : Nat → dL) (ip rp : Nat → Nat) : Prop := (∀ j, j ≤ lv → (Lv j).2.1 < nr ∧ q_nr P (Lv j).2.1 = none) ∧ (∀ j it, j < lv → (Lv (j + 1)).1 = some it → sm tx n (rp (Lv j).2.1) (ip it)) ∧ sm tx n (rp (Lv lv).2.1) k
def sC (tx : Nat → Nat) (n k lv : Nat) (P : pg) (ni : Nat) (Lv : Nat → dL) (ip rp : Nat → Nat) : Prop := (∀ j, j < lv → ∃ fi, q_fi P (Lv j).2.1 = some fi ∧ fi < ni ∧ ip fi = rp (Lv j).2.1) ∧ (((Lv lv).2.2.1 = none ∧ q_fi P (Lv lv).2.1 = none ∧ rp (Lv lv).2.1 = k) ∨ (∃ la, (Lv lv).2.2.1 = some la ∧ la < ni ∧ x_bh tx n (ip la) = k ∧ q_nx P la = none ∧ ¬ opn Lv lv la ∧ ∃ fi, q_fi P (Lv lv).2.1 = some fi ∧ fi < ni ∧ ip fi = rp (Lv lv).2.1))
def sD (tx : Nat → Nat) (n k lv : Nat) (P : pg) (ni nr : Nat) (Lv : Nat → dL) (ip rp : Nat → Nat) : Prop := ∀ it, it < ni → ip it < k ∧ ¬ x_re tx n (ip it) ∧ itK tx n P nr rp (ip it) it ∧ (¬ opn Lv lv it → itR tx n P (ip it) it ∧ ((∃ b, q_nx P it = some b ∧ b < ni ∧ ip b = x_bh tx n (ip it)) ∨ (q_nx P it = none ∧ (x_re tx n (x_bh tx n (ip it)) ∨ (Lv lv).2.2.1 = some it))))
def sE (tx : Nat → Nat) (n lv : Nat) (P : pg) (ni nr : Nat) (Lv : Nat → dL) (ip rp : Nat → Nat) : Prop := ∀ r, r < nr → rp r ≤ n ∧ ((∃ j, j ≤ lv ∧ (Lv j).2.1 = r) ∨ rwC tx n P ni nr ip rp r)
def sF (tx : Nat → Nat) (n gr : Nat) (P : pg) (nr : Nat) (rp : Nat → Nat) : Prop := (q_gb P 0 = 0 ∧ rp 0 = 0 ∧ 0 < nr) ∧ ∀ g, 1 ≤ g → g ≤ gr → q_gb P g < nr ∧ rp (q_gb P g) = x_co tx n (n + 1) g 0
def sG (lv : Nat) (Lv : Nat → dL) : Prop := (∀ i j a b, 1 ≤ i → i < j → j ≤ lv → (Lv i).1 = some a → (Lv j).1 = some b → a < b) ∧ ∀ i j, i < j → j ≤ lv → (Lv i).2.1 < (Lv j).2.1
def SI (tx : Nat → Nat) (n k lv : Nat) (P : pg) (ni nr gr : Nat) (Lv : Nat → dL) (ip rp : Nat → Nat) : Prop := k ≤ n ∧ sA tx n k lv P ni Lv ip ∧ sB tx n k lv P nr Lv ip rp ∧ sC tx n k lv P ni Lv ip rp ∧ sD tx n k lv P ni nr Lv ip rp ∧ sE tx n lv P ni nr Lv ip rp ∧ sF tx n gr P nr rp ∧ sG lv Lv
