section READ
variable {n1 n2 tl : Nat} {tx : Nat → Nat} {i : mm_i} {l : mm_j} {a : mm_a} {b : mm_b}
theorem wE_ini {G : Nat → Nat} {az : Int32} : wE (d_ini G az) := ⟨Nat.le_of_ble_eq_true rfl, Nat.le_of_ble_eq_true rfl, Nat.le_of_ble_eq_true rfl, Nat.le_of_ble_eq_true rfl, Nat.le_of_ble_eq_true rfl, Nat.le_of_ble_eq_true rfl, Nat.le_of_ble_eq_true rfl, fun k _ => ⟨by show 0 < 1; decide, fun j hj => (by cases hj), fun j hj => (by cases hj)⟩⟩
/-- Reader.read is the function d_loop, from any state of the reader -/
theorem d_readT {K : Int32 → mm_i → mm_j → mm_a → mm_b → Prop} (ht : ∀ j, tx j < 128) (htl : tl ≤ 32) (h1 : i 33 = nI tl) (h2 : ∀ k, k < tl → a 3 k = nI (tx k)) (G : Nat → Nat) (hG : ∀ g, g < 5 → a 14 g = nI (G g)) (hK : ∀ i' a', rD tx tl (d_loop tx tl 32 (d_ini G (i 24))) i' a' → wE (d_loop tx tl 32 (d_ini G (i 24))) → rW i a i' a' → K (if d_ok (d_loop tx tl 32 (d_ini G (i 24))) then 1 else 0) (upd i' 77 ((d_loop tx tl 32 (d_ini G (i 24))).2.2.2.2.2.2.2.2.2 0).2.2.2) l a' b) : wp_Reader_read_1 n1 n2 i l a b K := by
  unfold wp_Reader_read_1 wp_Program_empty_4 wp_Reader_openLevel_1
  have c0 : (0 : Int32).toNatClampNeg = 0 := rfl
  have v7 : vp_in 0 7 := vp_in_nI (n := 0) (by decide) (by decide)
  have v5 : vp_in 0 5 := vp_in_nI (n := 0) (by decide) (by decide)
  rw [c0]
  refine ⟨v7, ?_⟩
  have hP : rP (fun _ => 0, fun _ => 0, fun _ => 0, fun _ => 0, fun _ => 0, fun _ => none, fun _ => none, fun _ => none, fun _ => none, G) 0 0 (sh (mm_ua a 15 (upd (a 15) 0 (-1)))) := ⟨by decide, by decide, fun k hk => absurd hk (by omega), fun k hk => absurd hk (by omega), hG⟩
  refine t_addRow hP (by decide) rfl (fun a' r1 r2 => ?_)
  simp only [ud_s, ud_n (show ¬ (22 : Nat) = 75 by decide), ud_n (show ¬ (22 : Nat) = 26 by decide)]
  refine ⟨v7, v7, v7, v7, v5, 33, ?_⟩
  have q3 : a' 3 = a 3 := by rw [r2 3 (by decide) (by decide)]; exact mu_n (by decide)
  have q15 : a' 15 = upd (a 15) 0 (-1) := by rw [r2 15 (by decide) (by decide)]; exact mu_s
  refine d_loopT ht 32 0 (d_ini G (i 24)) _ _ rfl ⟨⟨htl, ?_, fun k hk => ?_⟩, ?_, ?_, ?_, ?_, ?_, ?_, ?_, ?_, ?_, fun k hk => ?_⟩ wE_ini ⟨fun k hk => ?_, fun t ht => ?_⟩ hK
  · exact h1
  · show a' 3 k = _
    rw [q3]; exact h2 k hk
  · rfl
  · rfl
  · rfl
  · rfl
  · rfl
  · exact rP_gb (rP_sh r1 (fun t t1 t2 => by rw [mu_n (by omega), mu_n (by omega), mu_n (by omega)])) rfl
  · rfl
  · rfl
  · rfl
  · have hk : k = 0 := Nat.le_zero.mp hk
    subst hk
    exact ⟨by show a' 15 0 = -1; rw [q15]; rfl, rfl, rfl, rfl⟩
  · rw [ud_n (by omega), ud_n (by omega), ud_n (by omega), ud_n (by omega), ud_n (by omega), ud_n (by omega), ud_n (by omega), ud_n (by omega), ud_n (by omega)]
  · rw [mu_n (by omega), mu_n (by omega), mu_n (by omega), mu_n (by omega), r2 t (by omega) (by omega), mu_n (by omega)]
end READ
