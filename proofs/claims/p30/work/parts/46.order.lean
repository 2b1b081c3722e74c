/-! the order of the move, its rounds, by both -/
def odF (σ : Nat → Nat) : Nat → Nat
  | 0 => 1
  | p + 1 => Nat.lcm (odF σ p) (ln σ p)
def od (σ : Nat → Nat) : Nat := odF σ 24
def snF (σ : Nat → Nat) : Nat → Nat
  | 0 => 0
  | p + 1 => if (snF σ p).testBit p = true then snF σ p else snF σ p ||| rnd σ p
theorem snF_bit {σ : Nat → Nat} (h : Pm σ) (x : Nat) : ∀ p, p ≤ 24 → ((snF σ p).testBit x = true ↔ ∃ q, q < p ∧ (rnd σ q).testBit x = true)
  | 0, _ => by
    show (0 : Nat).testBit x = true ↔ _
    rw [Nat.zero_testBit]
    exact ⟨fun h => (by cases h), fun ⟨j, hj, _⟩ => absurd hj (Nat.not_lt_zero j)⟩
  | p + 1, hp => by
    have ih := snF_bit h x p (by omega)
    show (if (snF σ p).testBit p = true then snF σ p else snF σ p ||| rnd σ p).testBit x = true ↔ _
    by_cases c : (snF σ p).testBit p = true
    · rw [if_pos c, ih]
      constructor
      · rintro ⟨q, h1, h2⟩; exact ⟨q, by omega, h2⟩
      · rintro ⟨q, h1, h2⟩
        rcases Nat.lt_or_ge q p with k | k
        · exact ⟨q, k, h2⟩
        · have e : q = p := by omega
          subst e
          obtain ⟨r, h3, h4⟩ := (snF_bit h q q (by omega)).mp c
          exact ⟨r, h3, by rw [rnd_eq h (by omega) (by omega) h4]; exact h2⟩
    · rw [if_neg c, Nat.testBit_or, Bool.or_eq_true, ih]
      constructor
      · rintro (⟨q, h1, h2⟩ | h2)
        · exact ⟨q, by omega, h2⟩
        · exact ⟨p, by omega, h2⟩
      · rintro ⟨q, h1, h2⟩
        rcases Nat.lt_or_ge q p with k | k
        · exact Or.inl ⟨q, k, h2⟩
        · have e : q = p := by omega
          subst e
          exact Or.inr h2
theorem snF_lt {σ : Nat → Nat} (h : Pm σ) {p : Nat} (hp : p ≤ 24) : snF σ p < 2 ^ 24 := lt24 (fun x hx => by
  cases q : (snF σ p).testBit x
  · rfl
  · obtain ⟨r, h1, h2⟩ := (snF_bit h x p hp).mp q
    have := bit24' (rnd_lt h (by omega)) h2
    omega)
theorem odF_dvd (σ : Nat → Nat) (q : Nat) : ∀ p, q < p → ln σ q ∣ odF σ p
  | 0, h => absurd h (Nat.not_lt_zero q)
  | p + 1, h => by
    show ln σ q ∣ Nat.lcm (odF σ p) (ln σ p)
    rcases Nat.lt_or_ge q p with k | k
    · exact Nat.dvd_trans (odF_dvd σ q p k) (Nat.dvd_lcm_left _ _)
    · have e : q = p := by omega
      subst e
      exact Nat.dvd_lcm_right _ _
theorem od_dvd (σ : Nat → Nat) {q : Nat} (h : q < 24) : ln σ q ∣ od σ := odF_dvd σ q 24 h
theorem odF_pos (σ : Nat → Nat) : ∀ p, 1 ≤ odF σ p
  | 0 => Nat.le_refl 1
  | p + 1 => Nat.lcm_pos (odF_pos σ p) (ln_pos σ p)
theorem cube24 : ∀ n, n < 25 → n ^ 3 ≤ 3 ^ n := by decide +kernel
theorem odF_seen {σ : Nat → Nat} (h : Pm σ) {p : Nat} (hp : p < 24) (c : (snF σ p).testBit p = true) : odF σ (p + 1) = odF σ p := by
  obtain ⟨q, h1, h2⟩ := (snF_bit h p p (by omega)).mp c
  have e : ln σ p = ln σ q := by rw [← pc_rnd h hp, ← pc_rnd h (by omega : q < 24), rnd_eq h (by omega) hp h2]
  show Nat.lcm (odF σ p) (ln σ p) = odF σ p
  rw [e]
  exact Nat.lcm_eq_left (odF_dvd σ q p h1)
theorem odF_cube {σ : Nat → Nat} (h : Pm σ) : ∀ p, p ≤ 24 → (odF σ p) ^ 3 ≤ 3 ^ pc (snF σ p)
  | 0, _ => by show 1 ^ 3 ≤ 3 ^ pc 0; rw [pc_0]; decide
  | p + 1, hp => by
    have ih := odF_cube h p (by omega)
    by_cases c : (snF σ p).testBit p = true
    · rw [odF_seen h (by omega) c, show snF σ (p + 1) = snF σ p from if_pos c]
      exact ih
    · rw [show snF σ (p + 1) = snF σ p ||| rnd σ p from if_neg c]
      have hd : pc (snF σ p ||| rnd σ p) = pc (snF σ p) + ln σ p := by
        rw [pc_or, pc_rnd h (by omega)]
        rintro x hx ⟨h1, h2⟩
        obtain ⟨q, h3, h4⟩ := (snF_bit h x p (by omega)).mp h1
        have e1 := rnd_eq h (by omega : q < 24) hx h4
        have e2 := rnd_eq h (by omega : p < 24) hx h2
        refine c ((snF_bit h p p (by omega)).mpr ⟨q, h3, ?_⟩)
        rw [e1, ← e2]
        exact (rnd_bit h (by omega) p).mpr ⟨0, rfl⟩
      rw [hd, Nat.pow_add]
      have hle : odF σ (p + 1) ≤ odF σ p * ln σ p := Nat.le_of_dvd (Nat.mul_pos (odF_pos σ p) (ln_pos σ p)) (Nat.lcm_dvd (Nat.dvd_mul_right _ _) (Nat.dvd_mul_left _ _))
      calc odF σ (p + 1) ^ 3 ≤ (odF σ p * ln σ p) ^ 3 := Nat.pow_le_pow_left hle 3
        _ = odF σ p ^ 3 * ln σ p ^ 3 := Nat.mul_pow _ _ _
        _ ≤ 3 ^ pc (snF σ p) * 3 ^ ln σ p := Nat.mul_le_mul ih (cube24 _ (by have := ln_le h (show p < 24 by omega); omega))
theorem odF_le {σ : Nat → Nat} (h : Pm σ) {p : Nat} (hp : p ≤ 24) : odF σ p ≤ 6561 := by
  have h1 := odF_cube h p hp
  have h2 : (3 : Nat) ^ pc (snF σ p) ≤ 3 ^ 24 := Nat.pow_le_pow_right (by decide) (pc_le _)
  rcases Nat.lt_or_ge 6561 (odF σ p) with q | q
  · have h3 : (6562 : Nat) ^ 3 ≤ odF σ p ^ 3 := Nat.pow_le_pow_left q 3
    have h4 : (6562 : Nat) ^ 3 ≤ 3 ^ 24 := Nat.le_trans h3 (Nat.le_trans h1 h2)
    exact absurd h4 (by decide)
  · exact q
theorem od_le {σ : Nat → Nat} (h : Pm σ) : od σ ≤ 6561 := odF_le h (Nat.le_refl 24)
theorem od_pos (σ : Nat → Nat) : 1 ≤ od σ := odF_pos σ 24
theorem orderC_lp {σ : Nat → Nat} {ft : Nat → Int32} (h : Pm σ) (hf : Mv σ ft) : ∀ (n p : Nat), p ≤ 24 → 24 - p < n → F_X1_order_6 ft n (nI (odF σ p)) (nI (snF σ p)) (nI p) = some (nI (od σ)) := by
  intro n
  induction n with
  | zero => intro p _ h; omega
  | succ n ih =>
    intro p hp hn
    rw [F_X1_order_6]
    by_cases c : 24 ≤ p
    · rw [if_pos ((le24 (by omega)).mpr c), show p = 24 by omega]
      rfl
    · have hp2 : p < 24 := by omega
      have hr := ih (p + 1) (by omega) (by omega)
      rw [if_neg (fun q => c ((le24 (by omega)).mp q))]
      cases d : (snF σ p).testBit p
      · rw [has_f (by omega) d, Option.bind_some, if_pos rfl, round_eq h hf hp2, Option.bind_some, bc_eq (rnd_lt h hp2), Option.bind_some, pc_rnd h hp2, lcmC (odF_pos σ p) (odF_le h (by omega)) (ln_pos σ p) (ln_le h hp2), Option.bind_some, fa_or, l1]
        rw [show snF σ (p + 1) = snF σ p ||| rnd σ p from if_neg (by rw [d]; decide)] at hr
        exact hr
      · rw [has_t (by omega) d, Option.bind_some, if_neg (by decide), l1]
        rw [show snF σ (p + 1) = snF σ p from if_pos d, odF_seen h hp2 d] at hr
        exact hr
theorem orderC {σ : Nat → Nat} {ft : Nat → Int32} (h : Pm σ) (hf : Mv σ ft) : F_X1_order ft = some (nI (od σ)) := orderC_lp h hf 10000 0 (Nat.zero_le _) (by omega)
theorem orderM_lp {σ : Nat → Nat} {fs : Nat → Int32} (h : Pm σ) (hf : Mv σ fs) : ∀ (n p : Nat), p ≤ 24 → 24 - p < n → F_X5_order_4 fs n (nI (odF σ p)) (nI p) = some (nI (od σ)) := by
  intro n
  induction n with
  | zero => intro p _ h; omega
  | succ n ih =>
    intro p hp hn
    rw [F_X5_order_4]
    by_cases c : 24 ≤ p
    · rw [if_pos ((le24 (by omega)).mpr c), show p = 24 by omega]
      rfl
    · have hp2 : p < 24 := by omega
      rw [if_neg (fun q => c ((le24 (by omega)).mp q)), long_eq h hf hp2, Option.bind_some, lcmM fs _ (odF_pos σ p) (odF_le h (by omega)) (ln_pos σ p) (ln_le h hp2), Option.bind_some, l1]
      exact ih (p + 1) (by omega) (by omega)
theorem orderM {σ : Nat → Nat} {fs : Nat → Int32} (h : Pm σ) (hf : Mv σ fs) : F_X5_order fs = some (nI (od σ)) := orderM_lp h hf 10000 0 (Nat.zero_le _) (by omega)
/-! how many rounds -/
def rcF (σ : Nat → Nat) : Nat → Nat
  | 0 => 0
  | p + 1 => if (snF σ p).testBit p = true then rcF σ p else rcF σ p + 1
theorem rcF_le (σ : Nat → Nat) : ∀ p, rcF σ p ≤ p
  | 0 => Nat.le_refl 0
  | p + 1 => by
    have := rcF_le σ p
    show (if (snF σ p).testBit p = true then rcF σ p else rcF σ p + 1) ≤ p + 1
    by_cases c : (snF σ p).testBit p = true
    · rw [if_pos c]; omega
    · rw [if_neg c]; omega
theorem low_seen {σ : Nat → Nat} (h : Pm σ) {p : Nat} (hp : p < 24) : low σ p = p ↔ (snF σ p).testBit p = false := by
  constructor
  · intro e
    cases q : (snF σ p).testBit p
    · rfl
    · obtain ⟨r, h1, h2⟩ := (snF_bit h p p (by omega)).mp q
      have := (rnd_sym h (by omega) hp).mp h2
      have h3 := low_min h hp (x := r) (by omega)
      rw [h3] at this
      cases this
  · intro e
    have hl := low_lt h hp
    have hb := low_bit h hp
    rcases Nat.lt_trichotomy (low σ p) p with q | q | q
    · have := (snF_bit h p p (by omega)).mpr ⟨low σ p, q, (rnd_sym h hp hl).mp hb⟩
      rw [this] at e
      cases e
    · exact q
    · have h3 := low_min h hp q
      rw [(rnd_bit h hp p).mpr ⟨0, rfl⟩] at h3
      cases h3
theorem roundsC_lp {σ : Nat → Nat} {ft : Nat → Int32} (h : Pm σ) (hf : Mv σ ft) : ∀ (n p : Nat), p ≤ 24 → 24 - p < n → F_X1_rounds_6 ft n (nI (rcF σ p)) (nI (snF σ p)) (nI p) = some (nI (rcF σ 24)) := by
  intro n
  induction n with
  | zero => intro p _ h; omega
  | succ n ih =>
    intro p hp hn
    rw [F_X1_rounds_6]
    by_cases c : 24 ≤ p
    · rw [if_pos ((le24 (by omega)).mpr c), show p = 24 by omega]
    · have hp2 : p < 24 := by omega
      have hr := ih (p + 1) (by omega) (by omega)
      rw [if_neg (fun q => c ((le24 (by omega)).mp q))]
      cases d : (snF σ p).testBit p
      · rw [has_f (by omega) d, Option.bind_some, if_pos rfl, round_eq h hf hp2, Option.bind_some, fa_or, l1, l1]
        rw [show snF σ (p + 1) = snF σ p ||| rnd σ p from if_neg (by rw [d]; decide), show rcF σ (p + 1) = rcF σ p + 1 from if_neg (by rw [d]; decide)] at hr
        exact hr
      · rw [has_t (by omega) d, Option.bind_some, if_neg (by decide), l1]
        rw [show snF σ (p + 1) = snF σ p from if_pos d, show rcF σ (p + 1) = rcF σ p from if_pos d] at hr
        exact hr
theorem roundsC {σ : Nat → Nat} {ft : Nat → Int32} (h : Pm σ) (hf : Mv σ ft) : F_X1_rounds ft = some (nI (rcF σ 24)) := roundsC_lp h hf 10000 0 (Nat.zero_le _) (by omega)
theorem nI_p0 (a : Nat) : nI a + 0 = nI a := nI_add a 0
theorem roundsM_lp {σ : Nat → Nat} {fs : Nat → Int32} (h : Pm σ) (hf : Mv σ fs) : ∀ (n p : Nat), p ≤ 24 → 24 - p < n → F_X5_rounds_4 fs n (nI (rcF σ p)) (nI p) = some (nI (rcF σ 24)) := by
  intro n
  induction n with
  | zero => intro p _ h; omega
  | succ n ih =>
    intro p hp hn
    rw [F_X5_rounds_4]
    by_cases c : 24 ≤ p
    · rw [if_pos ((le24 (by omega)).mpr c), show p = 24 by omega]
    · have hp2 : p < 24 := by omega
      have hr := ih (p + 1) (by omega) (by omega)
      have hl := low_lt h hp2
      rw [if_neg (fun q => c ((le24 (by omega)).mp q)), low_eq h hf hp2, Option.bind_some]
      cases d : (snF σ p).testBit p
      · rw [if_pos (by rw [(low_seen h hp2).mpr d]), l1, l1]
        rw [show rcF σ (p + 1) = rcF σ p + 1 from if_neg (by rw [d]; decide)] at hr
        exact hr
      · rw [if_neg (fun q => by have e := (low_seen h hp2).mp ((nI_eq (by omega) (by omega)).mp q); rw [d] at e; cases e), nI_p0, l1]
        rw [show rcF σ (p + 1) = rcF σ p from if_pos d] at hr
        exact hr
theorem roundsM {σ : Nat → Nat} {fs : Nat → Int32} (h : Pm σ) (hf : Mv σ fs) : F_X5_rounds fs = some (nI (rcF σ 24)) := roundsM_lp h hf 10000 0 (Nat.zero_le _) (by omega)
/-! places that stay, the longest round -/
def fxF (σ : Nat → Nat) : Nat → Nat
  | 0 => 0
  | p + 1 => if σ p = p then fxF σ p + 1 else fxF σ p
theorem fixC_lp {σ : Nat → Nat} {ft : Nat → Int32} (h : Pm σ) (hf : Mv σ ft) : ∀ (n p : Nat), p ≤ 24 → 24 - p < n → F_X1_fixedPlaces_4 ft n (nI (fxF σ p)) (nI p) = some (nI (fxF σ 24)) := by
  intro n
  induction n with
  | zero => intro p _ h; omega
  | succ n ih =>
    intro p hp hn
    rw [F_X1_fixedPlaces_4]
    by_cases c : 24 ≤ p
    · rw [if_pos ((le24 (by omega)).mpr c), show p = 24 by omega]
    · have hp2 : p < 24 := by omega
      have hr := ih (p + 1) (by omega) (by omega)
      have hs := h.1 p hp2
      rw [if_neg (fun q => c ((le24 (by omega)).mp q)), ck_ok hp2 (by omega), tn (by omega), hf p hp2]
      by_cases d : σ p = p
      · rw [if_pos (by rw [d]), l1, l1]
        rw [show fxF σ (p + 1) = fxF σ p + 1 from if_pos d] at hr
        exact hr
      · rw [if_neg (fun q => d ((nI_eq (by omega) (by omega)).mp q)), l1]
        rw [show fxF σ (p + 1) = fxF σ p from if_neg d] at hr
        exact hr
theorem fixC {σ : Nat → Nat} {ft : Nat → Int32} (h : Pm σ) (hf : Mv σ ft) : F_X1_fixedPlaces ft = some (nI (fxF σ 24)) := fixC_lp h hf 10000 0 (Nat.zero_le _) (by omega)
theorem fixM_lp {σ : Nat → Nat} {fs : Nat → Int32} (h : Pm σ) (hf : Mv σ fs) : ∀ (n p : Nat), p ≤ 24 → 24 - p < n → F_X5_stays_4 fs n (nI (fxF σ p)) (nI p) = some (nI (fxF σ 24)) := by
  intro n
  induction n with
  | zero => intro p _ h; omega
  | succ n ih =>
    intro p hp hn
    rw [F_X5_stays_4]
    by_cases c : 24 ≤ p
    · rw [if_pos ((le24 (by omega)).mpr c), show p = 24 by omega]
    · have hp2 : p < 24 := by omega
      have hr := ih (p + 1) (by omega) (by omega)
      have hs := h.1 p hp2
      rw [if_neg (fun q => c ((le24 (by omega)).mp q)), l0, ck_ok (by omega) (by omega), tn (by omega), hf p hp2]
      by_cases d : σ p = p
      · rw [if_pos (by rw [d]), l1, l1]
        rw [show fxF σ (p + 1) = fxF σ p + 1 from if_pos d] at hr
        exact hr
      · rw [if_neg (fun q => d ((nI_eq (by omega) (by omega)).mp q)), nI_p0, l1]
        rw [show fxF σ (p + 1) = fxF σ p from if_neg d] at hr
        exact hr
theorem fixM {σ : Nat → Nat} {fs : Nat → Int32} (h : Pm σ) (hf : Mv σ fs) : F_X5_stays fs = some (nI (fxF σ 24)) := fixM_lp h hf 10000 0 (Nat.zero_le _) (by omega)
def lgF (σ : Nat → Nat) : Nat → Nat
  | 0 => 0
  | p + 1 => if lgF σ p < ln σ p then ln σ p else lgF σ p
theorem lgF_le {σ : Nat → Nat} (h : Pm σ) : ∀ p, p ≤ 24 → lgF σ p ≤ 24
  | 0, _ => by show 0 ≤ 24; omega
  | p + 1, hp => by
    have h1 := lgF_le h p (by omega)
    have h2 := ln_le h (show p < 24 by omega)
    show (if lgF σ p < ln σ p then ln σ p else lgF σ p) ≤ 24
    by_cases c : lgF σ p < ln σ p
    · rw [if_pos c]; exact h2
    · rw [if_neg c]; exact h1
theorem lgC_lp {σ : Nat → Nat} {ft : Nat → Int32} (h : Pm σ) (hf : Mv σ ft) : ∀ (n p : Nat), p ≤ 24 → 24 - p < n → F_X1_longestRound_4 ft n (nI (lgF σ p)) (nI p) = some (nI (lgF σ 24)) := by
  intro n
  induction n with
  | zero => intro p _ h; omega
  | succ n ih =>
    intro p hp hn
    rw [F_X1_longestRound_4]
    by_cases c : 24 ≤ p
    · rw [if_pos ((le24 (by omega)).mpr c), show p = 24 by omega]
    · have hp2 : p < 24 := by omega
      have hr := ih (p + 1) (by omega) (by omega)
      have h1 := lgF_le h p hp
      have h2 := ln_le h hp2
      rw [if_neg (fun q => c ((le24 (by omega)).mp q)), round_eq h hf hp2, Option.bind_some, bc_eq (rnd_lt h hp2), Option.bind_some, pc_rnd h hp2]
      unfold nmd
      by_cases d : lgF σ p < ln σ p
      · rw [if_pos ((nI_ltI (by omega) (by omega)).mpr d), l1]
        rw [show lgF σ (p + 1) = ln σ p from if_pos d] at hr
        exact hr
      · rw [if_neg (fun q => d ((nI_ltI (by omega) (by omega)).mp q)), l1]
        rw [show lgF σ (p + 1) = lgF σ p from if_neg d] at hr
        exact hr
theorem lgC {σ : Nat → Nat} {ft : Nat → Int32} (h : Pm σ) (hf : Mv σ ft) : F_X1_longestRound ft = some (nI (lgF σ 24)) := lgC_lp h hf 10000 0 (Nat.zero_le _) (by omega)
theorem lgM_lp {σ : Nat → Nat} {fs : Nat → Int32} (h : Pm σ) (hf : Mv σ fs) : ∀ (n p : Nat), p ≤ 24 → 24 - p < n → F_X5_longest_4 fs n (nI (lgF σ p)) (nI p) = some (nI (lgF σ 24)) := by
  intro n
  induction n with
  | zero => intro p _ h; omega
  | succ n ih =>
    intro p hp hn
    rw [F_X5_longest_4]
    by_cases c : 24 ≤ p
    · rw [if_pos ((le24 (by omega)).mpr c), show p = 24 by omega]
    · have hp2 : p < 24 := by omega
      have hr := ih (p + 1) (by omega) (by omega)
      have h1 := lgF_le h p hp
      have h2 := ln_le h hp2
      rw [if_neg (fun q => c ((le24 (by omega)).mp q)), long_eq h hf hp2, Option.bind_some]
      by_cases d : lgF σ p < ln σ p
      · rw [if_neg (fun q => by have := (nI_leI (by omega) (by omega)).mp q; omega), Option.bind_some, l1]
        rw [show lgF σ (p + 1) = ln σ p from if_pos d] at hr
        exact hr
      · rw [if_pos ((nI_leI (by omega) (by omega)).mpr (by omega)), l1]
        rw [show lgF σ (p + 1) = lgF σ p from if_neg d] at hr
        exact hr
theorem lgM {σ : Nat → Nat} {fs : Nat → Int32} (h : Pm σ) (hf : Mv σ fs) : F_X5_longest fs = some (nI (lgF σ 24)) := lgM_lp h hf 10000 0 (Nat.zero_le _) (by omega)
