/-! what hangs together in the move -/
def ordS : Nat → List Nat := fun n => match n with
  | 0 => [1]
  | 1 => [1]
  | 2 => [1, 2]
  | 3 => [1, 2, 3]
  | 4 => [1, 2, 3, 4]
  | 5 => [1, 2, 3, 4, 5, 6]
  | 6 => [1, 2, 3, 4, 5, 6]
  | 7 => [1, 2, 3, 4, 5, 6, 7, 10, 12]
  | 8 => [1, 2, 3, 4, 5, 6, 7, 8, 10, 12, 15]
  | 9 => [1, 2, 3, 4, 5, 6, 7, 8, 9, 10, 12, 14, 15, 20]
  | 10 => [1, 2, 3, 4, 5, 6, 7, 8, 9, 10, 12, 14, 15, 20, 21, 30]
  | 11 => [1, 2, 3, 4, 5, 6, 7, 8, 9, 10, 11, 12, 14, 15, 18, 20, 21, 24, 28, 30]
  | 12 => [1, 2, 3, 4, 5, 6, 7, 8, 9, 10, 11, 12, 14, 15, 18, 20, 21, 24, 28, 30, 35, 42, 60]
  | 13 => [1, 2, 3, 4, 5, 6, 7, 8, 9, 10, 11, 12, 13, 14, 15, 18, 20, 21, 22, 24, 28, 30, 35, 36, 40, 42, 60]
  | 14 => [1, 2, 3, 4, 5, 6, 7, 8, 9, 10, 11, 12, 13, 14, 15, 18, 20, 21, 22, 24, 28, 30, 33, 35, 36, 40, 42, 45, 60, 70, 84]
  | 15 => [1, 2, 3, 4, 5, 6, 7, 8, 9, 10, 11, 12, 13, 14, 15, 18, 20, 21, 22, 24, 26, 28, 30, 33, 35, 36, 40, 42, 44, 45, 56, 60, 70, 84, 105]
  | 16 => [1, 2, 3, 4, 5, 6, 7, 8, 9, 10, 11, 12, 13, 14, 15, 16, 18, 20, 21, 22, 24, 26, 28, 30, 33, 35, 36, 39, 40, 42, 44, 45, 55, 56, 60, 63, 66, 70, 84, 90, 105, 120, 140]
  | 17 => [1, 2, 3, 4, 5, 6, 7, 8, 9, 10, 11, 12, 13, 14, 15, 16, 17, 18, 20, 21, 22, 24, 26, 28, 30, 33, 35, 36, 39, 40, 42, 44, 45, 52, 55, 56, 60, 63, 66, 70, 72, 84, 90, 105, 120, 140, 210]
  | 18 => [1, 2, 3, 4, 5, 6, 7, 8, 9, 10, 11, 12, 13, 14, 15, 16, 17, 18, 20, 21, 22, 24, 26, 28, 30, 33, 35, 36, 39, 40, 42, 44, 45, 52, 55, 56, 60, 63, 65, 66, 70, 72, 77, 78, 84, 90, 105, 110, 120, 126, 132, 140, 168, 180, 210]
  | 19 => [1, 2, 3, 4, 5, 6, 7, 8, 9, 10, 11, 12, 13, 14, 15, 16, 17, 18, 19, 20, 21, 22, 24, 26, 28, 30, 33, 34, 35, 36, 39, 40, 42, 44, 45, 48, 52, 55, 56, 60, 63, 65, 66, 70, 72, 77, 78, 84, 88, 90, 105, 110, 120, 126, 132, 140, 165, 168, 180, 210, 420]
  | 20 => [1, 2, 3, 4, 5, 6, 7, 8, 9, 10, 11, 12, 13, 14, 15, 16, 17, 18, 19, 20, 21, 22, 24, 26, 28, 30, 33, 34, 35, 36, 39, 40, 42, 44, 45, 48, 51, 52, 55, 56, 60, 63, 65, 66, 70, 72, 77, 78, 84, 88, 90, 91, 99, 105, 110, 120, 126, 130, 132, 140, 154, 156, 165, 168, 180, 210, 220, 252, 280, 420]
  | 21 => [1, 2, 3, 4, 5, 6, 7, 8, 9, 10, 11, 12, 13, 14, 15, 16, 17, 18, 19, 20, 21, 22, 24, 26, 28, 30, 33, 34, 35, 36, 38, 39, 40, 42, 44, 45, 48, 51, 52, 55, 56, 60, 63, 65, 66, 68, 70, 72, 77, 78, 80, 84, 88, 90, 91, 99, 104, 105, 110, 120, 126, 130, 132, 140, 154, 156, 165, 168, 180, 195, 210, 220, 231, 252, 280, 315, 330, 420]
  | 22 => [1, 2, 3, 4, 5, 6, 7, 8, 9, 10, 11, 12, 13, 14, 15, 16, 17, 18, 19, 20, 21, 22, 24, 26, 28, 30, 33, 34, 35, 36, 38, 39, 40, 42, 44, 45, 48, 51, 52, 55, 56, 57, 60, 63, 65, 66, 68, 70, 72, 77, 78, 80, 84, 85, 88, 90, 91, 99, 102, 104, 105, 110, 117, 120, 126, 130, 132, 140, 154, 156, 165, 168, 180, 182, 195, 198, 210, 220, 231, 252, 260, 264, 280, 308, 315, 330, 360, 420]
  | 23 => [1, 2, 3, 4, 5, 6, 7, 8, 9, 10, 11, 12, 13, 14, 15, 16, 17, 18, 19, 20, 21, 22, 23, 24, 26, 28, 30, 33, 34, 35, 36, 38, 39, 40, 42, 44, 45, 48, 51, 52, 55, 56, 57, 60, 63, 65, 66, 68, 70, 72, 76, 77, 78, 80, 84, 85, 88, 90, 91, 99, 102, 104, 105, 110, 112, 117, 120, 126, 130, 132, 140, 154, 156, 165, 168, 180, 182, 195, 198, 210, 220, 231, 252, 260, 264, 273, 280, 308, 315, 330, 360, 385, 390, 420, 462, 630, 660, 840]
  | 24 => [1, 2, 3, 4, 5, 6, 7, 8, 9, 10, 11, 12, 13, 14, 15, 16, 17, 18, 19, 20, 21, 22, 23, 24, 26, 28, 30, 33, 34, 35, 36, 38, 39, 40, 42, 44, 45, 48, 51, 52, 55, 56, 57, 60, 63, 65, 66, 68, 70, 72, 76, 77, 78, 80, 84, 85, 88, 90, 91, 95, 99, 102, 104, 105, 110, 112, 114, 117, 119, 120, 126, 130, 132, 140, 143, 154, 156, 165, 168, 170, 180, 182, 195, 198, 204, 210, 220, 231, 234, 240, 252, 260, 264, 273, 280, 308, 312, 315, 330, 360, 364, 385, 390, 396, 420, 440, 462, 504, 630, 660, 840]
  | _ => []
theorem ordS_all : ((List.range 25).all fun n => (List.range 25).all fun l => decide (l = 0) || decide (25 ≤ n + l) || (ordS n).all fun v => (ordS (n + l)).contains (Nat.lcm v l)) = true := by decide +kernel
theorem ordS_ok : ∀ n, n < 25 → ∀ l, l < 25 → 1 ≤ l → n + l < 25 → ∀ v, v ∈ ordS n → Nat.lcm v l ∈ ordS (n + l) := by
  intro n hn l hl h1 h2 v hv
  have a := List.all_eq_true.mp ordS_all n (List.mem_range.mpr hn)
  have b := List.all_eq_true.mp a l (List.mem_range.mpr hl)
  rw [decide_eq_false (show ¬ l = 0 by omega), decide_eq_false (show ¬ 25 ≤ n + l by omega), Bool.false_or, Bool.false_or] at b
  have c := List.all_eq_true.mp b v hv
  exact List.contains_iff_mem.mp c
theorem ordS_le : ∀ n, n < 25 → ∀ v, v ∈ ordS n → v ≤ 840 := by decide +kernel
theorem odF_in {σ : Nat → Nat} (h : Pm σ) : ∀ p, p ≤ 24 → odF σ p ∈ ordS (pc (snF σ p))
  | 0, _ => by show 1 ∈ ordS (pc 0); rw [pc_0]; decide
  | p + 1, hp => by
    have ih := odF_in h p (by omega)
    by_cases c : (snF σ p).testBit p = true
    · rw [odF_seen h (by omega) c, show snF σ (p + 1) = snF σ p from if_pos c]
      exact ih
    · rw [show snF σ (p + 1) = snF σ p ||| rnd σ p from if_neg c]
      have hd : pc (snF σ p ||| rnd σ p) = pc (snF σ p) + ln σ p := by
        rw [pc_or, pc_rnd h (by omega)]
        rintro x hx ⟨h1, h2⟩
        obtain ⟨q, h3, h4⟩ := (snF_bit h x p (by omega)).mp h1
        have e1 := rnd_eq h (by omega : q < 24) hx h4
        have e2 := rnd_eq h (by omega : p < 24) hx h2
        refine c ((snF_bit h p p (by omega)).mpr ⟨q, h3, ?_⟩)
        rw [e1, ← e2]
        exact (rnd_bit h (by omega) p).mpr ⟨0, rfl⟩
      have hb := pc_le (snF σ p ||| rnd σ p)
      rw [hd] at hb ⊢
      have := ln_pos σ p
      have := ln_le h (show p < 24 by omega)
      exact ordS_ok _ (by omega) _ (by omega) (by omega) (by omega) _ ih
theorem od840 {σ : Nat → Nat} (h : Pm σ) : od σ ≤ 840 := ordS_le _ (by have := pc_le (snF σ 24); omega) _ (odF_in h 24 (Nat.le_refl 24))
theorem all24 {x : Nat} : (16777215 : Nat).testBit x = decide (x < 24) := by
  rw [show (16777215 : Nat) = 2 ^ 24 - 1 by decide, Nat.testBit_two_pow_sub_one]
/-- the places to which those below p are sent -/
def TG (σ : Nat → Nat) (p : Nat) : Nat := mpF σ 16777215 p
theorem TG_bit (σ : Nat → Nat) {p : Nat} (hp : p ≤ 24) (x : Nat) : (TG σ p).testBit x = true ↔ ∃ q, q < p ∧ σ q = x := by
  unfold TG
  rw [mpF_bit]
  constructor
  · rintro ⟨q, h1, -, h3⟩; exact ⟨q, h1, h3⟩
  · rintro ⟨q, h1, h3⟩; exact ⟨q, h1, by rw [all24]; exact decide_eq_true (by omega), h3⟩
theorem TG_0 (σ : Nat → Nat) : TG σ 0 = 0 := rfl
theorem TG_lt {σ : Nat → Nat} (h : Pm σ) {p : Nat} (hp : p ≤ 24) : TG σ p < 2 ^ 24 := mpF_lt h.1 _ hp
theorem TG_succ (σ : Nat → Nat) {p : Nat} (hp : p < 24) : TG σ (p + 1) = TG σ p ||| 2 ^ σ p := by
  show (if (16777215 : Nat).testBit p = true then mpF σ 16777215 p ||| 2 ^ σ p else mpF σ 16777215 p) = _
  rw [if_pos (by rw [all24]; exact decide_eq_true hp)]; rfl
theorem TG_new {σ : Nat → Nat} (h : Pm σ) {p : Nat} (hp : p < 24) : (TG σ p).testBit (σ p) = false := by
  cases c : (TG σ p).testBit (σ p)
  · rfl
  · obtain ⟨q, h1, h2⟩ := (TG_bit σ (by omega) _).mp c
    have := h.2 q p (by omega) hp h2
    omega
theorem low_le {σ : Nat → Nat} (p : Nat) : low σ p ≤ p := lo_le σ p (ln σ p) 0 (ln_pos σ p)
theorem rnd_step {σ : Nat → Nat} (h : Pm σ) {p : Nat} (hp : p < 24) : rnd σ (σ p) = rnd σ p := (rnd_eq h hp (h.1 p hp) ((rnd_bit h hp _).mpr ⟨1, rfl⟩)).symm
theorem low_step {σ : Nat → Nat} (h : Pm σ) {p : Nat} (hp : p < 24) : low σ (σ p) = low σ p := by
  have hq := h.1 p hp
  have e := rnd_step h hp
  have b1 := low_bit h hp
  have b2 := low_bit h hq
  rcases Nat.lt_or_ge (low σ (σ p)) (low σ p) with c | c
  · have := low_min h hp c
    rw [e, this] at b2; cases b2
  · rcases Nat.lt_or_ge (low σ p) (low σ (σ p)) with d | d
    · have := low_min h hq d
      rw [e, b1] at this; cases this
    · omega
theorem lgF_mono (σ : Nat → Nat) (p : Nat) : lgF σ p ≤ lgF σ (p + 1) := by
  show _ ≤ if lgF σ p < ln σ p then ln σ p else lgF σ p
  split <;> omega
theorem ln_lgF (σ : Nat → Nat) {p : Nat} : ∀ n, p < n → ln σ p ≤ lgF σ n
  | 0, h => absurd h (Nat.not_lt_zero p)
  | n + 1, h => by
    by_cases c : p = n
    · subst c
      show _ ≤ if lgF σ p < ln σ p then ln σ p else lgF σ p
      split <;> omega
    · exact Nat.le_trans (ln_lgF σ n (by omega)) (lgF_mono σ n)
theorem whF_lt (H : Nat → Nat) (p : Nat) : ∀ k, whF H p k < 2 ^ k
  | 0 => by show 0 < 1; omega
  | k + 1 => by
    have := whF_lt H p k
    show (if (H k).testBit p = true then whF H p k ||| 2 ^ k else whF H p k) < 2 ^ (k + 1)
    have h2 : 2 ^ k < 2 ^ (k + 1) := Nat.pow_lt_pow_right (by decide) (Nat.lt_succ_self k)
    split
    · exact Nat.or_lt_two_pow (by omega) h2
    · omega
theorem rc_step {σ : Nat → Nat} (h : Pm σ) {p : Nat} (hp : p < 24) : rcF σ (p + 1) = rcF σ p + (if low σ p = p then 1 else 0) := by
  show (if (snF σ p).testBit p = true then rcF σ p else rcF σ p + 1) = _
  by_cases c : low σ p = p
  · rw [if_pos c, if_neg (by rw [(low_seen h hp).mp c]; decide)]
  · rw [if_neg c, if_pos (by
      cases d : (snF σ p).testBit p
      · exact absurd ((low_seen h hp).mpr d) c
      · rfl)]; rfl
theorem fx_step (σ : Nat → Nat) (p : Nat) : fxF σ (p + 1) = fxF σ p + (if σ p = p then 1 else 0) := by
  show (if σ p = p then fxF σ p + 1 else fxF σ p) = _
  split <;> rfl
theorem rc_mono {σ : Nat → Nat} (h : Pm σ) : ∀ p, 1 ≤ p → p ≤ 24 → 1 ≤ rcF σ p
  | 0, h0, _ => by omega
  | p + 1, _, hp => by
    rw [rc_step h (by omega)]
    by_cases c : p = 0
    · subst c
      have := low_le (σ := σ) 0
      rw [if_pos (by omega)]; omega
    · have := rc_mono h p (by omega) (by omega)
      omega
theorem fx_le (σ : Nat → Nat) : ∀ p, fxF σ p ≤ p
  | 0 => Nat.le_refl 0
  | p + 1 => by
    have := fx_le σ p
    rw [fx_step]
    split <;> omega
/-! the least number of moves that lead a set back to itself -/
def pd (σ : Nat → Nat) (a : Nat) : Nat := al σ (MV σ 1 a) a + 1
theorem pd_le {σ : Nat → Nat} (h : Pm σ) {a : Nat} (ha : a < 2 ^ 24) : pd σ a ≤ od σ := back_lt h ha
theorem pd_back {σ : Nat → Nat} (h : Pm σ) {a : Nat} (ha : a < 2 ^ 24) : MV σ (pd σ a) a = a := by
  have := al_yes (back_lt h ha)
  rw [MV_add h] at this
  exact this
theorem pd_no {σ : Nat → Nat} (h : Pm σ) {a j : Nat} (h0 : 0 < j) (hj : j < pd σ a) : MV σ j a ≠ a := by
  have := al_no (σ := σ) (a := MV σ 1 a) (b := a) (j := j - 1) (by unfold pd at hj; omega)
  rw [MV_add h, show j - 1 + 1 = j by omega] at this
  exact this
theorem pd_mul {σ : Nat → Nat} (h : Pm σ) {a : Nat} (ha : a < 2 ^ 24) : ∀ c, MV σ (pd σ a * c) a = a
  | 0 => MV_0 ha
  | c + 1 => by rw [Nat.mul_succ, ← MV_add h, pd_back h ha, pd_mul h ha c]
theorem pd_mod {σ : Nat → Nat} (h : Pm σ) {a : Nat} (ha : a < 2 ^ 24) (j : Nat) : MV σ j a = MV σ (j % pd σ a) a := by
  have e : j = j % pd σ a + pd σ a * (j / pd σ a) := by rw [Nat.mod_add_div]
  rw [show MV σ j a = MV σ (j % pd σ a + pd σ a * (j / pd σ a)) a by rw [← e], ← MV_add h, pd_mul h ha]
theorem pd_dvd {σ : Nat → Nat} (h : Pm σ) {a : Nat} (ha : a < 2 ^ 24) {j : Nat} (e : MV σ j a = a) : pd σ a ∣ j := by
  have h1 : j % pd σ a < pd σ a := Nat.mod_lt _ (Nat.succ_pos _)
  rcases Nat.eq_zero_or_pos (j % pd σ a) with c | c
  · exact Nat.dvd_of_mod_eq_zero c
  · rw [pd_mod h ha] at e
    exact absurd e (pd_no h c h1)
theorem pd_od {σ : Nat → Nat} (h : Pm σ) {a : Nat} (ha : a < 2 ^ 24) : pd σ a ∣ od σ := pd_dvd h ha (MV_od h ha)
theorem re_iff {σ : Nat → Nat} (h : Pm σ) {a b : Nat} : al σ a b < od σ ↔ ∃ j, MV σ j a = b := by
  rw [al_ex]
  constructor
  · rintro ⟨j, -, e⟩; exact ⟨j, e⟩
  · rintro ⟨j, e⟩; exact ⟨j % od σ, Nat.mod_lt _ (od_pos σ), by rw [← MV_mod h]; exact e⟩
theorem re_sym {σ : Nat → Nat} (h : Pm σ) {a b : Nat} (ha : a < 2 ^ 24) (hr : al σ a b < od σ) : al σ b a < od σ := by
  obtain ⟨j, e⟩ := (re_iff h).mp hr
  obtain ⟨i, -, e2⟩ := MV_inv h ha e
  exact (re_iff h).mpr ⟨i, e2⟩
theorem re_tr {σ : Nat → Nat} (h : Pm σ) {a b c : Nat} (h1 : al σ a b < od σ) (h2 : al σ b c < od σ) : al σ a c < od σ := by
  obtain ⟨j, e⟩ := (re_iff h).mp h1
  obtain ⟨i, e2⟩ := (re_iff h).mp h2
  exact (re_iff h).mpr ⟨i + j, by rw [← MV_add h, e, e2]⟩
theorem al_self {σ : Nat → Nat} {a : Nat} (ha : a < 2 ^ 24) : al σ a a = 0 := by
  rcases Nat.eq_zero_or_pos (al σ a a) with c | c
  · exact c
  · exact absurd (MV_0 ha) (al_no c)
theorem al_pd {σ : Nat → Nat} (h : Pm σ) {a b : Nat} (ha : a < 2 ^ 24) (hr : al σ a b < od σ) : al σ a b < pd σ a := by
  have e := al_yes hr
  rw [pd_mod h ha] at e
  have h1 : al σ a b % pd σ a < pd σ a := Nat.mod_lt _ (Nat.succ_pos _)
  rcases Nat.lt_or_ge (al σ a b % pd σ a) (al σ a b) with c | c
  · exact absurd e (al_no c)
  · omega
theorem al_sum {σ : Nat → Nat} (h : Pm σ) {a b : Nat} (ha : a < 2 ^ 24) (hr : al σ a b < od σ) : pd σ a ∣ al σ a b + al σ b a := by
  refine pd_dvd h ha ?_
  rw [Nat.add_comm, ← MV_add h, al_yes hr, al_yes (re_sym h ha hr)]
theorem MV_rnd {σ : Nat → Nat} (h : Pm σ) (j a : Nat) {q : Nat} (hq : q < 24) : MV σ j a &&& rnd σ q = MV σ j (a &&& rnd σ q) := by
  apply Nat.eq_of_testBit_eq
  intro x
  refine Bool.eq_iff_iff.mpr ?_
  rw [Nat.testBit_and, Bool.and_eq_true, MV_bit, MV_bit]
  constructor
  · rintro ⟨⟨p, h1, h2, h3⟩, h4⟩
    refine ⟨p, h1, ?_, h3⟩
    rw [Nat.testBit_and, Bool.and_eq_true]
    refine ⟨h2, (rnd_bit h hq p).mpr ?_⟩
    obtain ⟨i, e⟩ := (rnd_bit h hq x).mp h4
    obtain ⟨i2, -, e2⟩ := it_back h h1 h3
    exact ⟨i2 + i, by rw [it_add, e, e2]⟩
  · rintro ⟨p, h1, h2, h3⟩
    rw [Nat.testBit_and, Bool.and_eq_true] at h2
    refine ⟨⟨p, h1, h2.1, h3⟩, (rnd_bit h hq x).mpr ?_⟩
    obtain ⟨i, e⟩ := (rnd_bit h hq p).mp h2.2
    exact ⟨j + i, by rw [it_add, e, h3]⟩
theorem re_lk {σ : Nat → Nat} (h : Pm σ) {a b : Nat} (ha : a < 2 ^ 24) (hr : al σ a b < od σ) : pc a = pc b ∧ lkP σ a b 24 := by
  obtain ⟨j, e⟩ := (re_iff h).mp hr
  subst e
  refine ⟨(MV_pc h j ha).symm, fun q hq => ?_⟩
  rw [MV_rnd h j a hq, MV_pc h j (Nat.lt_of_le_of_lt Nat.and_le_left ha)]
theorem kin_eq {σ : Nat → Nat} (h : Pm σ) {H : Nat → Nat} {k t u : Nat} (hH : ∀ s, s < k → H s < 2 ^ 24) (ht : t < k) (hu : u < k) (hr : al σ (H t) (H u) < od σ) : kmF σ H t k = kmF σ H u k := by
  apply Nat.eq_of_testBit_eq
  intro x
  refine Bool.eq_iff_iff.mpr ?_
  rw [kmF_bit, kmF_bit]
  constructor
  · rintro ⟨h1, h2⟩; exact ⟨h1, re_tr h h2 hr⟩
  · rintro ⟨h1, h2⟩; exact ⟨h1, re_tr h h2 (re_sym h (hH t ht) hr)⟩
theorem kin_lt (σ : Nat → Nat) (H : Nat → Nat) (t : Nat) {k : Nat} (hk : k ≤ 12) : kmF σ H t k < 2 ^ 12 := by
  refine Nat.lt_pow_two_of_testBit _ (fun x hx => ?_)
  cases c : (kmF σ H t k).testBit x
  · rfl
  · have := ((kmF_bit σ H t x k).mp c).1
    omega
theorem meets_self {σ : Nat → Nat} (h : Pm σ) {a : Nat} (ha : a < 2 ^ 24) : mtv σ a a (od σ) = if a = 0 then -5 else 0 := by
  have h0 := od_pos σ
  unfold mtv
  by_cases c : a = 0
  · rw [if_pos c, if_neg (fun q => ?_)]
    obtain ⟨x, -, h1, -⟩ := (mtP_bit σ a a _).mp (fa_first_yes (mtP σ a a) (od σ) q)
    rw [c, Nat.zero_testBit] at h1; cases h1
  · have e : mtP σ a a 0 = true := by
      obtain ⟨x, hx⟩ := ne0_bit.mp c
      exact (mtP_bit σ a a 0).mpr ⟨x, bit24' ha hx, hx, hx⟩
    have e2 : fa_first (mtP σ a a) (od σ) = 0 := by
      rcases Nat.eq_zero_or_pos (fa_first (mtP σ a a) (od σ)) with d | d
      · exact d
      · have := fa_first_no (mtP σ a a) (od σ) 0 d
        rw [e] at this; cases this
    rw [if_neg c, e2, if_pos (by omega)]; rfl
/-! light -/
theorem lbF_bit (H : Nat → Nat) (m x : Nat) : ∀ k, (lbF H m k).testBit x = true ↔ x < 24 ∧ ∀ u, u < k → m.testBit u = true → (H u).testBit x = true
  | 0 => by
    show (16777215 : Nat).testBit x = true ↔ _
    rw [all24, decide_eq_true_eq]
    exact ⟨fun h => ⟨h, fun u hu => absurd hu (Nat.not_lt_zero u)⟩, fun h => h.1⟩
  | k + 1 => by
    have ih := lbF_bit H m x k
    show (if m.testBit k = true then lbF H m k &&& H k else lbF H m k).testBit x = true ↔ _
    by_cases c : m.testBit k = true
    · rw [if_pos c, Nat.testBit_and, Bool.and_eq_true, ih]
      constructor
      · rintro ⟨⟨h1, h2⟩, h3⟩
        refine ⟨h1, fun u hu hm => ?_⟩
        by_cases e : u = k
        · rw [e]; exact h3
        · exact h2 u (by omega) hm
      · rintro ⟨h1, h2⟩
        exact ⟨⟨h1, fun u hu => h2 u (by omega)⟩, h2 k (Nat.lt_succ_self k) c⟩
    · rw [if_neg c, ih]
      constructor
      · rintro ⟨h1, h2⟩
        refine ⟨h1, fun u hu hm => ?_⟩
        by_cases e : u = k
        · rw [e] at hm; exact absurd hm c
        · exact h2 u (by omega) hm
      · rintro ⟨h1, h2⟩
        exact ⟨h1, fun u hu => h2 u (by omega)⟩
theorem lt_in {H : Nat → Nat} {ms k t : Nat} (ht : t < k) (d : ms.testBit t = true) {x : Nat} (hx : (lt_ H ms k).testBit x = true) : (H t).testBit x = true := by
  unfold lt_ at hx
  by_cases c : ms = 0
  · rw [if_pos c, Nat.zero_testBit] at hx; cases hx
  · rw [if_neg c] at hx
    exact ((lbF_bit H ms x k).mp hx).2 t ht d
theorem and_sub {a b : Nat} (h : ∀ x, a.testBit x = true → b.testBit x = true) : a &&& b = a := by
  apply Nat.eq_of_testBit_eq
  intro x
  rw [Nat.testBit_and]
  cases c : a.testBit x
  · rfl
  · rw [h x c]; rfl
theorem xor_all {b : Nat} : nI b &&& (nI b ^^^ (-1)) = 0 := by
  apply Int32.toBitVec_inj.mp
  show (nI b).toBitVec &&& ((nI b).toBitVec ^^^ (-1 : Int32).toBitVec) = 0#32
  rw [show (-1 : Int32).toBitVec = BitVec.allOnes 32 from rfl, BitVec.xor_allOnes]
  apply BitVec.eq_of_getLsbD_eq
  intro i hi
  simp
theorem and_not0 {a b : Nat} (h : ∀ x, a.testBit x = true → b.testBit x = true) : nI a &&& (nI b ^^^ (-1)) = 0 := by
  have e : nI a = nI a &&& nI b := by rw [fa_and, and_sub h]
  rw [e, Int32.and_assoc, xor_all]
  apply Int32.toBitVec_inj.mp
  show (nI a).toBitVec &&& 0#32 = 0#32
  simp
theorem lt_cl {H : Nat → Nat} {ms k t : Nat} (hk : k ≤ 12) (ht : t < k) (hH : H t < 2 ^ 24) (d : ms.testBit t = true) : pc (lt_ H ms k) = pc (H t &&& lbF H (cl ms t) k) := by
  refine pc_ext (fun x hx => Bool.eq_iff_iff.mpr ?_)
  have c : ms ≠ 0 := fun q => by rw [q, Nat.zero_testBit] at d; cases d
  unfold lt_
  rw [if_neg c, Nat.testBit_and, Bool.and_eq_true, lbF_bit, lbF_bit]
  constructor
  · rintro ⟨h1, h2⟩
    exact ⟨h2 t ht d, h1, fun u hu hm => h2 u hu ((cl_bit (by omega)).mp hm).1⟩
  · rintro ⟨h1, h2, h3⟩
    refine ⟨h2, fun u hu hm => ?_⟩
    by_cases e : u = t
    · rw [e]; exact h1
    · exact h3 u hu ((cl_bit (by omega)).mpr ⟨hm, e⟩)
theorem bi_max (f : Nat → Nat) : ∀ n j, j < n → f j ≤ f (bi f n)
  | 0, j, h => absurd h (Nat.not_lt_zero j)
  | n + 1, j, h => by
    have ih := bi_max f n
    show f j ≤ f (if f n ≤ f (bi f n) then bi f n else n)
    by_cases c : f n ≤ f (bi f n)
    · rw [if_pos c]
      by_cases e : j = n
      · rw [e]; exact c
      · exact ih j (by omega)
    · rw [if_neg c]
      by_cases e : j = n
      · rw [e]; exact Nat.le_refl _
      · have := ih j (by omega); omega
theorem bi_min (f : Nat → Nat) : ∀ n j, j < bi f n → f j < f (bi f n)
  | 0, j, h => absurd h (Nat.not_lt_zero j)
  | n + 1, j, h => by
    have ih := bi_min f n j
    have h2 : j < (if f n ≤ f (bi f n) then bi f n else n) := h
    show f j < f (if f n ≤ f (bi f n) then bi f n else n)
    by_cases c : f n ≤ f (bi f n)
    · rw [if_pos c] at h2 ⊢; exact ih h2
    · rw [if_neg c] at h2 ⊢
      have := bi_max f n j h2
      omega
theorem best_pd {σ : Nat → Nat} (h : Pm σ) {a : Nat} (ha : a < 2 ^ 24) (c n : Nat) : bi (lgt σ a c) n < pd σ a := by
  rcases Nat.lt_or_ge (bi (lgt σ a c) n) (pd σ a) with d | d
  · exact d
  · have h1 : bi (lgt σ a c) n % pd σ a < pd σ a := Nat.mod_lt _ (Nat.succ_pos _)
    have := bi_min (lgt σ a c) n (bi (lgt σ a c) n % pd σ a) (by omega)
    unfold lgt at this
    rw [← pd_mod h ha] at this
    exact absurd this (Nat.lt_irrefl _)
theorem best_ge {σ : Nat → Nat} {H : Nat → Nat} {ms k t : Nat} (hk : k ≤ 12) (ht : t < k) (hH : H t < 2 ^ 24) (d : ms.testBit t = true) : pc (lt_ H ms k) ≤ lgt σ (H t) (lbF H (cl ms t) k) (bi (lgt σ (H t) (lbF H (cl ms t) k)) (od σ)) := by
  have := bi_max (lgt σ (H t) (lbF H (cl ms t) k)) (od σ) 0 (od_pos σ)
  refine Nat.le_trans (Nat.le_of_eq ?_) this
  unfold lgt
  rw [MV_0 hH, lt_cl hk ht hH d]
theorem pc_zero {m : Nat} (hm : m < 2 ^ 24) (h : pc m = 0) : m = 0 := by
  apply Nat.eq_of_testBit_eq
  intro x
  rw [Nat.zero_testBit]
  cases c : m.testBit x
  · rfl
  · have hx := bit24' hm c
    have := fb_sm_zero h x hx
    rw [bitv, if_pos c] at this
    cases this
