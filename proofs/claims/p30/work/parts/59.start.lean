/-! the start -/
def s0 (j : Nat) : Nat := (j + 1) % 24
theorem s0_Pm : Pm s0 := ⟨fun j _ => Nat.mod_lt _ (by decide), fun i j hi hj e => by unfold s0 at e; omega⟩
theorem initC_lp : ∀ (n i : Nat) (ft fu : Nat → Int32), i ≤ 24 → 24 - i < n → (∀ j, j < i → ft j = nI (s0 j)) → (∀ j, j < i → fu (s0 j) = nI j) → ∃ ft' fu', F_X1_init_22 n (nI i) ft fu = some (ft', fu') ∧ (∀ j, j < 24 → ft' j = nI (s0 j)) ∧ ∀ j, j < 24 → fu' (s0 j) = nI j := by
  intro n
  induction n with
  | zero => intro i _ _ _ h; omega
  | succ n ih =>
    intro i ft fu hi hn h1 h2
    rw [F_X1_init_22]
    by_cases c : 24 ≤ i
    · rw [if_pos ((le24 (by omega)).mpr c)]
      exact ⟨ft, fu, rfl, fun j hj => h1 j (by omega), fun j hj => h2 j (by omega)⟩
    · have hi2 : i < 24 := by omega
      have g1 : ∀ j, j < i + 1 → upd ft i (nI (s0 i)) j = nI (s0 j) := fun j hj => by
        by_cases e : j = i
        · rw [e, pk_us]
        · rw [pk_un e]; exact h1 j (by omega)
      have g2 : ∀ j, j < i + 1 → upd fu (s0 i) (nI i) (s0 j) = nI j := fun j hj => by
        by_cases e : j = i
        · rw [e, pk_us]
        · rw [pk_un (fun q => e (s0_Pm.2 j i (by omega) hi2 q))]; exact h2 j (by omega)
      have hr := ih (i + 1) _ _ (by omega) (by omega) g1 g2
      rw [if_neg (fun q => c ((le24 (by omega)).mp q)), l1]
      by_cases d : 24 ≤ i + 1
      · have e0 : s0 i = 0 := by unfold s0; omega
        rw [if_pos ((le24 (by omega)).mpr d), ck_ok hi2 (by omega), show (0 : Int32) = nI 0 from rfl, ck_ok (show 0 < 24 by decide) (by omega), tn (by omega), tn (by omega)]
        rw [e0] at hr
        exact hr
      · have e0 : s0 i = i + 1 := by unfold s0; omega
        rw [if_neg (fun q => d ((le24 (by omega)).mp q)), ck_ok hi2 (by omega), ck_ok (show i + 1 < 24 by omega) (by omega), tn (by omega), tn (by omega)]
        rw [e0] at hr
        exact hr
theorem initM_lp : ∀ (n i : Nat) (fs : Nat → Int32), i ≤ 24 → 24 - i < n → (∀ j, j < i → fs j = nI (s0 j)) → (∀ j, 24 ≤ j → fs j = 0) → ∃ fs', F_X5_init_47 n (nI i) fs = some fs' ∧ (∀ j, j < 24 → fs' j = nI (s0 j)) ∧ ∀ j, 24 ≤ j → fs' j = 0 := by
  intro n
  induction n with
  | zero => intro i _ _ h; omega
  | succ n ih =>
    intro i fs hi hn h1 h2
    rw [F_X5_init_47]
    by_cases c : 24 ≤ i
    · rw [if_pos ((le24 (by omega)).mpr c)]
      exact ⟨fs, rfl, fun j hj => h1 j (by omega), h2⟩
    · have hi2 : i < 24 := by omega
      have g1 : ∀ j, j < i + 1 → upd fs i (nI (s0 i)) j = nI (s0 j) := fun j hj => by
        by_cases e : j = i
        · rw [e, pk_us]
        · rw [pk_un e]; exact h1 j (by omega)
      have hr := ih (i + 1) _ (by omega) (by omega) g1 (fun j hj => by rw [pk_un (by omega)]; exact h2 j hj)
      rw [if_neg (fun q => c ((le24 (by omega)).mp q)), l0, ck_ok (by omega) (by omega), tn (by omega), l1, show (24 : Int32) = nI 24 from rfl, pk_rem (show i + 1 < 2 ^ 31 by omega) (by decide) (by decide)]
      exact hr
theorem St_0 {fs ft fu : Nat → Int32} (h1 : ∀ j, j < 24 → fs j = nI (s0 j)) (h2 : ∀ j, 24 ≤ j → fs j = 0) (h3 : ∀ j, j < 24 → ft j = nI (s0 j)) (h4 : ∀ j, j < 24 → fu (s0 j) = nI j) : St fs 0 0 0 0 0 ft fu (fun _ => 0) (fun _ => 0) (fun _ => 0) := by
  refine ⟨⟨s0, 0, s0_Pm, h1, by omega, h2 24 (by omega), fun t _ => ⟨0, by decide, h2 _ (by omega)⟩, fun t _ => ⟨0, by decide, h2 _ (by omega)⟩, ⟨0, by decide, h2 _ (by omega)⟩, fun t _ _ => h2 _ (by omega)⟩, fun j hj => by rw [h3 j hj, h1 j hj], fun j hj => ?_, fun j _ => (h2 _ (by omega)).symm, fun j _ => (h2 _ (by omega)).symm, fun j _ => (h2 _ (by omega)).symm, (h2 _ (by omega)).symm, (h2 _ (by omega)).symm, (h2 _ (by omega)).symm, (h2 _ (by omega)).symm, (h2 _ (by omega)).symm⟩
  have := s0_Pm.1 j hj
  rw [h1 j hj, tn (by omega)]
  exact h4 j hj
theorem z_init : ∃ r1 r2, F_X1_init = some r1 ∧ F_X5_init = some r2 ∧ ∀ rqa r1qa r2qa r3qa, RR rqa r1qa r2qa r3qa 0 0 0 0 0 0 r1.1 r1.2 (fun _ => 0) (fun _ => 0) (fun _ => 0) 0 0 0 0 0 r1.1 r1.2 (fun _ => 0) (fun _ => 0) (fun _ => 0) 0 0 (va_up (va_up (va_up (va_up (fun _ => none) (Int32.toNatClampNeg 0) (some rqa)) (Int32.toNatClampNeg 1) (some r1qa)) (Int32.toNatClampNeg 2) (some r2qa)) (Int32.toNatClampNeg 3) (some r3qa)) 0 0 0 0 0 0 0 0 (fun _ => 0) (fun _ => 0) 0 0 0 0 0 r1.1 r1.2 (fun _ => 0) (fun _ => 0) (fun _ => 0) 0 0 0 0 0 r1.1 r1.2 (fun _ => 0) (fun _ => 0) (fun _ => 0) 0 0 0 0 0 r1.1 r1.2 (fun _ => 0) (fun _ => 0) (fun _ => 0) 0 0 0 0 0 r1.1 r1.2 (fun _ => 0) (fun _ => 0) (fun _ => 0) 0 0 0 0 0 0 0 0 0 r2 (fun _ => 0) (fun _ => 0) (fun _ => 0) (fun _ => 0) := by
  obtain ⟨ft, fu, c1, c2, c3⟩ := initC_lp 10000 0 (fun _ => 0) (fun _ => 0) (Nat.zero_le _) (by omega) (fun j hj => absurd hj (Nat.not_lt_zero j)) (fun j hj => absurd hj (Nat.not_lt_zero j))
  obtain ⟨fs, m1, m2, m3⟩ := initM_lp 10000 0 (fun _ => 0) (Nat.zero_le _) (by omega) (fun j hj => absurd hj (Nat.not_lt_zero j)) (fun _ _ => rfl)
  refine ⟨(ft, fu), fs, c1, m1, fun rqa r1qa r2qa r3qa => ⟨St_0 m2 m3 c2 c3, ⟨rfl, Or.inl rfl⟩, ⟨0, 0, by omega, by omega, rfl, rfl, rfl, ?_, ?_, ?_, ?_, fun h => absurd h (by omega), fun h => absurd h (by omega), fun h => absurd h (by omega), fun h => absurd h (by omega)⟩, ⟨0, by omega, rfl, rfl, fun j hj => absurd hj (Nat.not_lt_zero j)⟩⟩⟩
  · rfl
  · rfl
  · rfl
  · rfl
