/-! the rounds of the move, by both -/
def Mv (σ : Nat → Nat) (f : Nat → Int32) : Prop := ∀ j, j < 24 → f j = nI (σ j)
theorem isP {j : Nat} (h : j < 24) : F_X4_isPlace (nI j) = some 1 := by
  unfold F_X4_isPlace
  rw [if_neg (fun q => (lt0 (by omega)).mp q), if_neg (fun q => by have := (le24 (by omega)).mp q; omega)]
theorem only_eq {x : Nat} (hx : x < 32) : F_X4_only (nI x) = some (nI (2 ^ x)) := by
  unfold F_X4_only
  rw [z_one hx]
theorem has_t {m x : Nat} (hx : x < 31) (h : m.testBit x = true) : F_X4_has (nI m) (nI x) = some 1 := by
  unfold F_X4_has
  rw [z_one (by omega), if_neg]
  intro q
  rw [fa_bit hx, h] at q
  cases q
theorem has_f {m x : Nat} (hx : x < 31) (h : m.testBit x = false) : F_X4_has (nI m) (nI x) = some 0 := by
  unfold F_X4_has
  rw [z_one (by omega), if_pos ((fa_bit hx).mpr h)]
theorem round_lp {σ : Nat → Nat} {ft : Nat → Int32} (h : Pm σ) (hf : Mv σ ft) {p : Nat} (hp : p < 24) : ∀ (n i : Nat), i ≤ ln σ p → 24 - i < n → F_X1_round_7 ft n (nI p) (nI (Rk σ p i)) (nI (it σ i p)) (nI i) = some (nI (rnd σ p)) := by
  intro n
  induction n with
  | zero => intro i _ h; omega
  | succ n ih =>
    intro i hi hn
    rw [F_X1_round_7]
    have hl := ln_le h hp
    have hb := it_lt h hp i
    by_cases c : 24 ≤ i
    · rw [if_pos ((le24 (by omega)).mpr c)]
      have e : i = ln σ p := by omega
      subst e
      rfl
    · rw [if_neg (fun q => c ((le24 (by omega)).mp q)), isP hb, Option.bind_some, if_neg (by decide)]
      rcases Nat.lt_or_ge i (ln σ p) with q | q
      · rw [has_f (by omega) (Rk_new h hp q), Option.bind_some, if_pos rfl, only_eq (by omega), Option.bind_some, ck_ok hb (by omega), fa_or, tn (by omega), hf _ hb, l1]
        exact ih (i + 1) (by omega) (by omega)
      · have e : i = ln σ p := by omega
        have hb2 : (Rk σ p i).testBit (it σ i p) = true := (Rk_bit σ p _ i).mpr ⟨0, by have := ln_pos σ p; omega, by rw [e, ln_ret h hp]; rfl⟩
        rw [has_t (by omega) hb2, Option.bind_some, if_neg (by decide), e]
        rfl
theorem round_eq {σ : Nat → Nat} {ft : Nat → Int32} (h : Pm σ) (hf : Mv σ ft) {p : Nat} (hp : p < 24) : F_X1_round ft (nI p) = some (nI (rnd σ p)) := round_lp h hf hp 10000 0 (Nat.zero_le _) (by omega)
theorem long_lp {σ : Nat → Nat} {fs : Nat → Int32} (h : Pm σ) (hf : Mv σ fs) {p : Nat} (hp : p < 24) : ∀ (n i : Nat), 1 ≤ i → i ≤ ln σ p → 24 - i < n → F_X5_longOf_11 fs n (nI p) (nI i) (nI (it σ i p)) = some (nI (ln σ p)) := by
  intro n
  induction n with
  | zero => intro i _ _ h; omega
  | succ n ih =>
    intro i h0 hi hn
    rw [F_X5_longOf_11]
    have hl := ln_le h hp
    have hb := it_lt h hp i
    by_cases c : it σ i p = p
    · rw [if_pos (by rw [c])]
      rcases Nat.lt_or_ge i (ln σ p) with q | q
      · exact absurd c (ln_min h0 q)
      · rw [show i = ln σ p by omega]
    · rw [if_neg (fun q => c ((nI_eq (by omega) (by omega)).mp q)), l0, ck_ok (by omega) (by omega), tn (by omega), hf _ hb, l1]
      have : i ≠ ln σ p := fun e => c (by rw [e]; exact ln_ret h hp)
      exact ih (i + 1) (by omega) (by omega) (by omega)
theorem long_eq {σ : Nat → Nat} {fs : Nat → Int32} (h : Pm σ) (hf : Mv σ fs) {p : Nat} (hp : p < 24) : F_X5_longOf fs (nI p) = some (nI (ln σ p)) := by
  unfold F_X5_longOf
  rw [l0, ck_ok (by omega) (by omega), tn (by omega), hf _ hp]
  exact long_lp h hf hp 10000 1 (by omega) (ln_pos σ p) (by omega)
theorem roundOf_lp {σ : Nat → Nat} {fs : Nat → Int32} (h : Pm σ) (hf : Mv σ fs) {p : Nat} (hp : p < 24) : ∀ (n i : Nat), 1 ≤ i → i ≤ ln σ p → 24 - i < n → F_X5_roundOf_13 fs n (nI p) (nI (Rk σ p i)) (nI (it σ i p)) = some (nI (rnd σ p)) := by
  intro n
  induction n with
  | zero => intro i _ _ h; omega
  | succ n ih =>
    intro i h0 hi hn
    rw [F_X5_roundOf_13]
    have hl := ln_le h hp
    have hb := it_lt h hp i
    by_cases c : it σ i p = p
    · rw [if_pos (by rw [c])]
      rcases Nat.lt_or_ge i (ln σ p) with q | q
      · exact absurd c (ln_min h0 q)
      · rw [show i = ln σ p by omega]; rfl
    · rw [if_neg (fun q => c ((nI_eq (by omega) (by omega)).mp q)), l0, ck_ok (by omega) (by omega), tn (by omega), hf _ hb, z_one (by omega), fa_or]
      have : i ≠ ln σ p := fun e => c (by rw [e]; exact ln_ret h hp)
      exact ih (i + 1) (by omega) (by omega) (by omega)
theorem roundOf_eq {σ : Nat → Nat} {fs : Nat → Int32} (h : Pm σ) (hf : Mv σ fs) {p : Nat} (hp : p < 24) : F_X5_roundOf fs (nI p) = some (nI (rnd σ p)) := by
  unfold F_X5_roundOf
  rw [l0, ck_ok (by omega) (by omega), tn (by omega), hf _ hp, z_one (by omega)]
  have e : Rk σ p 1 = 2 ^ p := by show 0 ||| 2 ^ p = _; rw [Nat.zero_or]
  rw [← e]
  exact roundOf_lp h hf hp 10000 1 (by omega) (ln_pos σ p) (by omega)
def lo (σ : Nat → Nat) (p : Nat) : Nat → Nat
  | 0 => p
  | i + 1 => if lo σ p i ≤ it σ i p then lo σ p i else it σ i p
theorem lo_le (σ : Nat → Nat) (p : Nat) : ∀ i j, j < i → lo σ p i ≤ it σ j p
  | 0, j, h => absurd h (Nat.not_lt_zero j)
  | i + 1, j, h => by
    show (if lo σ p i ≤ it σ i p then lo σ p i else it σ i p) ≤ it σ j p
    rcases Nat.lt_or_ge j i with q | q
    · have := lo_le σ p i j q
      by_cases c : lo σ p i ≤ it σ i p
      · rw [if_pos c]; exact this
      · rw [if_neg c]; omega
    · have e : j = i := by omega
      subst e
      by_cases c : lo σ p j ≤ it σ j p
      · rw [if_pos c]; exact c
      · rw [if_neg c]; exact Nat.le_refl _
theorem lo_in (σ : Nat → Nat) (p : Nat) : ∀ i, ∃ j, it σ j p = lo σ p i
  | 0 => ⟨0, rfl⟩
  | i + 1 => by
    show ∃ j, it σ j p = (if lo σ p i ≤ it σ i p then lo σ p i else it σ i p)
    by_cases c : lo σ p i ≤ it σ i p
    · rw [if_pos c]; exact lo_in σ p i
    · rw [if_neg c]; exact ⟨i, rfl⟩
def low (σ : Nat → Nat) (p : Nat) : Nat := lo σ p (ln σ p)
theorem low_bit {σ : Nat → Nat} (h : Pm σ) {p : Nat} (hp : p < 24) : (rnd σ p).testBit (low σ p) = true := (rnd_bit h hp _).mpr (lo_in σ p _)
theorem low_lt {σ : Nat → Nat} (h : Pm σ) {p : Nat} (hp : p < 24) : low σ p < 24 := by
  obtain ⟨j, e⟩ := lo_in σ p (ln σ p)
  unfold low
  rw [← e]
  exact it_lt h hp j
theorem low_min {σ : Nat → Nat} (h : Pm σ) {p : Nat} (hp : p < 24) {x : Nat} (hx : x < low σ p) : (rnd σ p).testBit x = false := by
  cases q : (rnd σ p).testBit x
  · rfl
  · obtain ⟨j, hj, e⟩ := (Rk_bit σ p x _).mp q
    have := lo_le σ p _ j hj
    unfold low at hx
    omega
theorem low_lp {σ : Nat → Nat} {fs : Nat → Int32} (h : Pm σ) (hf : Mv σ fs) {p : Nat} (hp : p < 24) : ∀ (n i : Nat), 1 ≤ i → i ≤ ln σ p → 24 - i < n → F_X5_lowestOf_11 fs n (nI p) (nI (lo σ p i)) (nI (it σ i p)) = some (nI (low σ p)) := by
  intro n
  induction n with
  | zero => intro i _ _ h; omega
  | succ n ih =>
    intro i h0 hi hn
    rw [F_X5_lowestOf_11]
    have hl := ln_le h hp
    have hb := it_lt h hp i
    by_cases c : it σ i p = p
    · rw [if_pos (by rw [c])]
      rcases Nat.lt_or_ge i (ln σ p) with q | q
      · exact absurd c (ln_min h0 q)
      · rw [show i = ln σ p by omega]; rfl
    · have hlo : lo σ p i < 24 := by obtain ⟨j, e⟩ := lo_in σ p i; rw [← e]; exact it_lt h hp j
      have : i ≠ ln σ p := fun e => c (by rw [e]; exact ln_ret h hp)
      rw [if_neg (fun q => c ((nI_eq (by omega) (by omega)).mp q))]
      have hr := ih (i + 1) (by omega) (by omega) (by omega)
      by_cases d : lo σ p i ≤ it σ i p
      · have e : lo σ p (i + 1) = lo σ p i := if_pos d
        rw [e] at hr
        rw [if_pos ((nI_leI (by omega) (by omega)).mpr d), l0, ck_ok (by omega) (by omega), tn (by omega), hf _ hb]
        exact hr
      · have e : lo σ p (i + 1) = it σ i p := if_neg d
        rw [e] at hr
        rw [if_neg (fun q => d ((nI_leI (by omega) (by omega)).mp q)), l0, ck_ok (by omega) (by omega), tn (by omega), hf _ hb]
        exact hr
theorem low_eq {σ : Nat → Nat} {fs : Nat → Int32} (h : Pm σ) (hf : Mv σ fs) {p : Nat} (hp : p < 24) : F_X5_lowestOf fs (nI p) = some (nI (low σ p)) := by
  unfold F_X5_lowestOf
  rw [l0, ck_ok (by omega) (by omega), tn (by omega), hf _ hp]
  have e : lo σ p 1 = p := if_pos (Nat.le_refl _)
  have := low_lp h hf hp 10000 1 (by omega) (ln_pos σ p) (by omega)
  rw [e] at this
  exact this
theorem lowest_lp {m x : Nat} (hx : x < 24) (hb : m.testBit x = true) (hm : ∀ y, y < x → m.testBit y = false) : ∀ (n j : Nat), j ≤ x → x - j < n → F_X4_lowest_2 n (nI m) (nI j) = some (nI x) := by
  intro n
  induction n with
  | zero => intro j _ h; omega
  | succ n ih =>
    intro j hj hn
    rw [F_X4_lowest_2, if_neg (fun q => by have := (le24 (by omega)).mp q; omega)]
    rcases Nat.lt_or_ge j x with q | q
    · rw [has_f (by omega) (hm j q), Option.bind_some, if_pos rfl, l1]
      exact ih (j + 1) (by omega) (by omega)
    · have e : j = x := by omega
      subst e
      rw [has_t (by omega) hb, Option.bind_some, if_neg (by decide)]
theorem lowest_eq {σ : Nat → Nat} (h : Pm σ) {p : Nat} (hp : p < 24) : F_X4_lowest (nI (rnd σ p)) = some (nI (low σ p)) := lowest_lp (low_lt h hp) (low_bit h hp) (fun _ hy => low_min h hp hy) 10000 0 (Nat.zero_le _) (by have := low_lt h hp; omega)
/-! least common multiples -/
theorem lcm_t {a d : Nat} (ha : 1 ≤ a) (hd : 1 ≤ d) : ∃ t, 1 ≤ t ∧ t ≤ d ∧ a * t = Nat.lcm a d ∧ ∀ u, 1 ≤ u → u < t → ¬ d ∣ a * u := by
  obtain ⟨t, ht⟩ := Nat.dvd_lcm_left a d
  have hp : 0 < Nat.lcm a d := Nat.lcm_pos ha hd
  have h0 : 1 ≤ t := by
    rcases Nat.eq_zero_or_pos t with q | q
    · rw [q, Nat.mul_zero] at ht; omega
    · exact q
  have hle : Nat.lcm a d ≤ a * d := Nat.le_of_dvd (Nat.mul_pos ha hd) (Nat.lcm_dvd (Nat.dvd_mul_right a d) (Nat.dvd_mul_left d a))
  refine ⟨t, h0, ?_, ht.symm, fun u h1 h2 hu => ?_⟩
  · rw [ht] at hle
    exact Nat.le_of_mul_le_mul_left hle ha
  · have h3 : Nat.lcm a d ∣ a * u := Nat.lcm_dvd (Nat.dvd_mul_right a u) hu
    have h4 := Nat.le_of_dvd (Nat.mul_pos ha h1) h3
    rw [ht] at h4
    have := Nat.le_of_mul_le_mul_left h4 ha
    omega
theorem rem0 {x d : Nat} (hx : x < 2 ^ 31) (h0 : 0 < d) (hd : d < 2 ^ 31) : (nI x - nI x / nI d * nI d = 0) ↔ d ∣ x := by
  rw [pk_rem hx h0 hd, eq0 (Nat.lt_trans (Nat.mod_lt _ h0) hd)]
  exact ⟨Nat.dvd_of_mod_eq_zero, Nat.mod_eq_zero_of_dvd⟩
theorem lcmC {a d : Nat} (ha : 1 ≤ a) (ha2 : a ≤ 6561) (hd : 1 ≤ d) (hd2 : d ≤ 24) : F_X4_leastCommonMultiple (nI a) (nI d) = some (nI (Nat.lcm a d)) := by
  obtain ⟨t, h1, h2, h3, h4⟩ := lcm_t ha hd
  have key : ∀ (n u : Nat), 1 ≤ u → u ≤ t → t - u < n → F_X4_leastCommonMultiple_9 n (nI a) (nI d) (nI u) = some (nI (Nat.lcm a d)) := by
    intro n
    induction n with
    | zero => intro u _ _ h; omega
    | succ n ih =>
      intro u hu0 hu hn
      have hb : a * u ≤ 6561 * 24 := Nat.mul_le_mul ha2 (by omega)
      rw [F_X4_leastCommonMultiple_9]
      by_cases c : d ≤ u
      · rw [if_pos ((nI_leI (by omega) (by omega)).mpr c), pk_mul, ← h3, show d = t by omega]
      · rw [if_neg (fun q => c ((nI_leI (by omega) (by omega)).mp q)), ck_nz (fun q => by have := (eq0 (by omega)).mp q; omega), pk_mul]
        by_cases e : u = t
        · rw [if_pos ((rem0 (by omega) (by omega) (by omega)).mpr (by rw [e, h3]; exact Nat.dvd_lcm_right a d)), e, h3]
        · rw [if_neg (fun q => h4 u hu0 (by omega) ((rem0 (by omega) (by omega) (by omega)).mp q)), l1]
          exact ih (u + 1) (by omega) (by omega) (by omega)
  unfold F_X4_leastCommonMultiple
  rw [if_pos ((le1 (by omega)).mpr hd)]
  exact key 10000 1 (by omega) h1 (by omega)
theorem lcmM {a d : Nat} (fs : Nat → Int32) (x2 : Int32) (ha : 1 ≤ a) (ha2 : a ≤ 6561) (hd : 1 ≤ d) (hd2 : d ≤ 24) : F_X5_order_19 fs 10000 (nI a) (nI d) (nI a) x2 = some (nI (Nat.lcm a d)) := by
  obtain ⟨t, h1, h2, h3, h4⟩ := lcm_t ha hd
  have key : ∀ (n u : Nat), 1 ≤ u → u ≤ t → t - u < n → F_X5_order_19 fs n (nI (a * u)) (nI d) (nI a) x2 = some (nI (Nat.lcm a d)) := by
    intro n
    induction n with
    | zero => intro u _ _ h; omega
    | succ n ih =>
      intro u hu0 hu hn
      have hb : a * u ≤ 6561 * 24 := Nat.mul_le_mul ha2 (by omega)
      rw [F_X5_order_19, ck_nz (fun q => by have := (eq0 (by omega)).mp q; omega)]
      by_cases e : u = t
      · rw [if_pos ((rem0 (by omega) (by omega) (by omega)).mpr (by rw [e, h3]; exact Nat.dvd_lcm_right a d)), e, h3]
      · rw [if_neg (fun q => h4 u hu0 (by omega) ((rem0 (by omega) (by omega) (by omega)).mp q)), nI_add, ← Nat.mul_succ]
        exact ih (u + 1) (by omega) (by omega) (by omega)
  have := key 10000 1 (by omega) h1 (by omega)
  rw [Nat.mul_one] at this
  exact this
