/-! the least move that leads to a set -/
def al (σ : Nat → Nat) (a b : Nat) : Nat := fa_first (fun j => decide (MV σ j a = b)) (od σ)
def alv (σ : Nat → Nat) (a b : Nat) : Int32 := if al σ a b < od σ then nI (al σ a b) else -5
theorem al_no {σ : Nat → Nat} {a b j : Nat} (h : j < al σ a b) : MV σ j a ≠ b := of_decide_eq_false (fa_first_no _ _ j h)
theorem al_yes {σ : Nat → Nat} {a b : Nat} (h : al σ a b < od σ) : MV σ (al σ a b) a = b := of_decide_eq_true (fa_first_yes (fun j => decide (MV σ j a = b)) (od σ) h)
theorem al_le (σ : Nat → Nat) (a b : Nat) : al σ a b ≤ od σ := fa_first_le _ _
theorem alv_5 {σ : Nat → Nat} (h : Pm σ) (a b : Nat) : alv σ a b = -5 ↔ ¬ al σ a b < od σ := by
  unfold alv
  have := od_le h
  by_cases c : al σ a b < od σ
  · rw [if_pos c]
    refine ⟨fun e => ?_, fun q => absurd c q⟩
    have := congrArg Int32.toInt e
    rw [nI_toInt (by omega)] at this
    have k1 : (-5 : Int32).toInt = -5 := by decide
    omega
  · rw [if_neg c]
    exact ⟨fun _ => c, fun _ => rfl⟩
theorem al_ex {σ : Nat → Nat} {a b : Nat} : al σ a b < od σ ↔ ∃ j, j < od σ ∧ MV σ j a = b := by
  refine ⟨fun h => ⟨_, h, al_yes h⟩, fun ⟨j, hj, e⟩ => ?_⟩
  rcases Nat.lt_or_ge j (al σ a b) with c | c
  · exact absurd e (al_no c)
  · omega
theorem alC_lp {σ : Nat → Nat} {ft : Nat → Int32} (h : Pm σ) (hf : Mv σ ft) {a b : Nat} (hb : b < 2 ^ 24) (x1 : Int32) : ∀ (n j : Nat), j ≤ al σ a b → od σ - j < n → F_X1_movesUntilAlike_11 ft n x1 (nI b) (nI (od σ)) (nI (MV σ j a)) (nI j) = some (alv σ a b) := by
  intro n
  induction n with
  | zero => intro p _ h; omega
  | succ n ih =>
    intro j hj hn
    have h1 := od_le h
    have h2 := al_le σ a b
    have h3 := MV_lt h j a
    rw [F_X1_movesUntilAlike_11]
    by_cases c : od σ ≤ j
    · rw [if_pos ((nI_leI (by omega) (by omega)).mpr c)]
      unfold alv
      rw [if_neg (by omega)]
    · rw [if_neg (fun q => c ((nI_leI (by omega) (by omega)).mp q))]
      by_cases d : MV σ j a = b
      · rw [if_pos (by rw [d])]
        have e : j = al σ a b := by
          rcases Nat.lt_or_ge j (al σ a b) with q | q
          · exact absurd d (al_no q)
          · omega
        unfold alv
        rw [← e, if_pos (by omega)]
      · rw [if_neg (fun q => d ((nI_eq (by omega) (by omega)).mp q)), movedC h hf, Option.bind_some, MV_one h, l1]
        refine ih (j + 1) ?_ (by omega)
        rcases Nat.lt_or_ge j (al σ a b) with q | q
        · exact q
        · exfalso
          have e : j = al σ a b := by omega
          exact d (by rw [e]; exact al_yes (by omega))
theorem alC {σ : Nat → Nat} {ft : Nat → Int32} (h : Pm σ) (hf : Mv σ ft) {a b : Nat} (ha : a < 2 ^ 24) (hb : b < 2 ^ 24) : F_X1_movesUntilAlike ft (nI a) (nI b) = some (alv σ a b) := by
  unfold F_X1_movesUntilAlike
  rw [orderC h hf, Option.bind_some]
  have h1 := od_le h
  have := alC_lp h hf (a := a) hb (nI a) 10000 0 (Nat.zero_le _) (by omega)
  rw [MV_0 ha] at this
  exact this
theorem alM_lp {σ : Nat → Nat} {fs : Nat → Int32} (h : Pm σ) (hf : Mv σ fs) {a b : Nat} (hb : b < 2 ^ 24) (x1 : Int32) : ∀ (n j : Nat), j ≤ al σ a b → od σ - j < n → F_X5_movesTo_24 fs n x1 (nI b) 0 (nI (od σ)) (nI (MV σ j a)) (nI j) = some (alv σ a b) := by
  intro n
  induction n with
  | zero => intro p _ h; omega
  | succ n ih =>
    intro j hj hn
    have h1 := od_le h
    have h2 := al_le σ a b
    have h3 := MV_lt h j a
    rw [F_X5_movesTo_24, nI_p0]
    by_cases c : od σ ≤ j
    · rw [if_pos ((nI_leI (by omega) (by omega)).mpr c)]
      unfold alv
      rw [if_neg (by omega)]
    · rw [if_neg (fun q => c ((nI_leI (by omega) (by omega)).mp q))]
      by_cases d : MV σ j a = b
      · rw [if_pos (by rw [d])]
        have e : j = al σ a b := by
          rcases Nat.lt_or_ge j (al σ a b) with q | q
          · exact absurd d (al_no q)
          · omega
        unfold alv
        rw [← e, if_pos (by omega)]
      · rw [if_neg (fun q => d ((nI_eq (by omega) (by omega)).mp q)), movedM h hf h3, Option.bind_some, MV_one h, l1]
        refine ih (j + 1) ?_ (by omega)
        rcases Nat.lt_or_ge j (al σ a b) with q | q
        · exact q
        · exfalso
          have e : j = al σ a b := by omega
          exact d (by rw [e]; exact al_yes (by omega))
theorem alM {σ : Nat → Nat} {fs : Nat → Int32} (h : Pm σ) (hf : Mv σ fs) {a b : Nat} (ha : a < 2 ^ 24) (hb : b < 2 ^ 24) : F_X5_movesTo fs (nI a) (nI b) 0 = some (alv σ a b) := by
  unfold F_X5_movesTo
  rw [orderM h hf, Option.bind_some, if_pos rfl]
  have h1 := od_le h
  have := alM_lp h hf (a := a) hb (nI a) 10000 0 (Nat.zero_le _) (by omega)
  rw [MV_0 ha] at this
  exact this
/-! the least move that leads back -/
theorem back_lt {σ : Nat → Nat} (h : Pm σ) {a : Nat} (ha : a < 2 ^ 24) : al σ (MV σ 1 a) a < od σ := by
  have h0 := od_pos σ
  refine al_ex.mpr ⟨od σ - 1, by omega, ?_⟩
  rw [MV_add h, show od σ - 1 + 1 = od σ by omega, MV_od h ha]
theorem sameC {σ : Nat → Nat} {ft : Nat → Int32} (h : Pm σ) (hf : Mv σ ft) {a : Nat} (ha : a < 2 ^ 24) : F_X1_movesUntilSame ft (nI a) = some (nI (al σ (MV σ 1 a) a + 1)) := by
  unfold F_X1_movesUntilSame
  rw [movedC h hf, Option.bind_some, show mp σ a = MV σ 1 a from rfl, alC h hf (MV_lt h 1 a) ha, Option.bind_some]
  unfold alv
  rw [if_pos (back_lt h ha), l1]
theorem sameM_lp {σ : Nat → Nat} {fs : Nat → Int32} (h : Pm σ) (hf : Mv σ fs) {a : Nat} (ha : a < 2 ^ 24) (x1 : Int32) : ∀ (n j : Nat), j ≤ al σ (MV σ 1 a) a → od σ - j < n → F_X5_movesTo_24 fs n x1 (nI a) 1 (nI (od σ)) (nI (MV σ (j + 1) a)) (nI (j + 1)) = some (nI (al σ (MV σ 1 a) a + 1)) := by
  intro n
  induction n with
  | zero => intro p _ h; omega
  | succ n ih =>
    intro j hj hn
    have h1 := od_le h
    have h2 := back_lt h ha
    have h3 := MV_lt h (j + 1) a
    rw [F_X5_movesTo_24, l1, if_neg (fun q => by have := (nI_leI (by omega) (by omega)).mp q; omega)]
    by_cases d : MV σ (j + 1) a = a
    · rw [if_pos (by rw [d])]
      have e : j = al σ (MV σ 1 a) a := by
        rcases Nat.lt_or_ge j (al σ (MV σ 1 a) a) with q | q
        · exact absurd (by rw [MV_add h]; exact d) (al_no q)
        · omega
      rw [← e]
    · rw [if_neg (fun q => d ((nI_eq (by omega) (by omega)).mp q)), movedM h hf h3, Option.bind_some, MV_one h, l1]
      refine ih (j + 1) ?_ (by omega)
      rcases Nat.lt_or_ge j (al σ (MV σ 1 a) a) with q | q
      · exact q
      · exfalso
        have e : j = al σ (MV σ 1 a) a := by omega
        have := al_yes h2
        rw [← e, MV_add h] at this
        exact d this
theorem sameM {σ : Nat → Nat} {fs : Nat → Int32} (h : Pm σ) (hf : Mv σ fs) {a : Nat} (ha : a < 2 ^ 24) : F_X5_movesTo fs (nI a) (nI a) 1 = some (nI (al σ (MV σ 1 a) a + 1)) := by
  unfold F_X5_movesTo
  have h1 := od_le h
  rw [orderM h hf, Option.bind_some, if_neg (by decide), movedM h hf ha, Option.bind_some]
  exact sameM_lp h hf ha (nI a) 10000 0 (Nat.zero_le _) (by omega)
/-! the least move that meets -/
def mtP (σ : Nat → Nat) (a b : Nat) (j : Nat) : Bool := !decide (MV σ j a &&& b = 0)
theorem ne0_bit {m : Nat} : m ≠ 0 ↔ ∃ x, m.testBit x = true := by
  constructor
  · intro h
    by_cases c : ∃ x, m.testBit x = true
    · exact c
    · exfalso
      apply h
      apply Nat.eq_of_testBit_eq
      intro x
      rw [Nat.zero_testBit]
      cases e : m.testBit x
      · rfl
      · exact absurd ⟨x, e⟩ c
  · rintro ⟨x, h⟩ e
    rw [e, Nat.zero_testBit] at h
    cases h
theorem mtP_bit (σ : Nat → Nat) (a b j : Nat) : mtP σ a b j = true ↔ ∃ q, q < 24 ∧ a.testBit q = true ∧ b.testBit (it σ j q) = true := by
  have e : mtP σ a b j = true ↔ MV σ j a &&& b ≠ 0 := by
    unfold mtP
    rw [Bool.not_eq_true', decide_eq_false_iff_not]
  rw [e, ne0_bit]
  constructor
  · rintro ⟨x, hx⟩
    rw [Nat.testBit_and, Bool.and_eq_true, MV_bit] at hx
    obtain ⟨⟨q, h1, h2, h3⟩, h4⟩ := hx
    exact ⟨q, h1, h2, by rw [h3]; exact h4⟩
  · rintro ⟨q, h1, h2, h3⟩
    refine ⟨it σ j q, ?_⟩
    rw [Nat.testBit_and, Bool.and_eq_true, MV_bit]
    exact ⟨⟨q, h1, h2, rfl⟩, h3⟩
theorem mt_in {σ : Nat → Nat} (h : Pm σ) {a b j : Nat} (e : mtP σ a b j = true) : (∃ i, i < 24 ∧ mtP σ a b i = true) ∧ ∃ i, i < od σ ∧ mtP σ a b i = true := by
  obtain ⟨q, h1, h2, h3⟩ := (mtP_bit σ a b j).mp e
  have k1 := ln_le h h1
  have k2 := ln_pos σ q
  have k3 := od_pos σ
  refine ⟨⟨j % ln σ q, ?_, (mtP_bit _ _ _ _).mpr ⟨q, h1, h2, by rw [← it_mod h h1]; exact h3⟩⟩, j % od σ, Nat.mod_lt _ k3, (mtP_bit _ _ _ _).mpr ⟨q, h1, h2, by rw [← it_od h h1]; exact h3⟩⟩
  have := Nat.mod_lt j k2
  omega
def mtv (σ : Nat → Nat) (a b L : Nat) : Int32 := if fa_first (mtP σ a b) L < L then nI (fa_first (mtP σ a b) L) else -5
theorem first_of {p : Nat → Bool} {n j : Nat} (hj : j < n) (e : p j = true) : fa_first p n < n := by
  rcases Nat.lt_or_ge j (fa_first p n) with c | c
  · rw [fa_first_no p n j c] at e; cases e
  · omega
theorem mtv_same {σ : Nat → Nat} (h : Pm σ) (a b : Nat) : mtv σ a b 24 = mtv σ a b (od σ) := by
  unfold mtv
  by_cases c : fa_first (mtP σ a b) 24 < 24
  · have e1 := fa_first_yes (mtP σ a b) 24 c
    obtain ⟨_, i, hi, e2⟩ := mt_in h e1
    have d := first_of hi e2
    have e3 := fa_first_yes (mtP σ a b) (od σ) d
    rw [if_pos c, if_pos d]
    have e4 : fa_first (mtP σ a b) 24 = fa_first (mtP σ a b) (od σ) := fb_first_one (p := fun k => mtP σ a b k = true) e1 (fun k hk => by rw [fa_first_no (mtP σ a b) 24 k hk]; decide) e3 (fun k hk => by rw [fa_first_no (mtP σ a b) (od σ) k hk]; decide)
    rw [e4]
  · rw [if_neg c, if_neg (fun d => ?_)]
    have e3 := fa_first_yes (mtP σ a b) (od σ) d
    obtain ⟨⟨i, hi, e2⟩, _⟩ := mt_in h e3
    exact c (first_of hi e2)
theorem mtP_0 {σ : Nat → Nat} (h : Pm σ) {a b j : Nat} : (nI (MV σ j a) &&& nI b = 0) ↔ mtP σ a b j = false := by
  have h3 := MV_lt h j a
  have h4 : MV σ j a &&& b ≤ MV σ j a := Nat.and_le_left
  rw [fa_and, eq0 (by omega)]
  unfold mtP
  rw [Bool.not_eq_false', decide_eq_true_eq]
theorem mtC_lp {σ : Nat → Nat} {ft : Nat → Int32} (h : Pm σ) (hf : Mv σ ft) {a b : Nat} (x1 : Int32) : ∀ (n j : Nat), j ≤ fa_first (mtP σ a b) 24 → 24 - j < n → F_X1_movesUntilMeeting_5 ft n x1 (nI b) (nI (MV σ j a)) (nI j) = some (mtv σ a b 24) := by
  intro n
  induction n with
  | zero => intro p _ h; omega
  | succ n ih =>
    intro j hj hn
    have h2 := fa_first_le (mtP σ a b) 24
    rw [F_X1_movesUntilMeeting_5]
    by_cases c : 24 ≤ j
    · rw [if_pos ((le24 (by omega)).mpr c)]
      unfold mtv
      rw [if_neg (by omega)]
    · rw [if_neg (fun q => c ((le24 (by omega)).mp q))]
      cases d : mtP σ a b j
      · rw [if_pos ((mtP_0 h).mpr d), movedC h hf, Option.bind_some, MV_one h, l1]
        refine ih (j + 1) ?_ (by omega)
        rcases Nat.lt_or_ge j (fa_first (mtP σ a b) 24) with q | q
        · exact q
        · exfalso
          have e : j = fa_first (mtP σ a b) 24 := by omega
          have := fa_first_yes (mtP σ a b) 24 (by omega)
          rw [← e, d] at this
          cases this
      · rw [if_neg (fun q => by rw [(mtP_0 h).mp q] at d; cases d)]
        have e : j = fa_first (mtP σ a b) 24 := by
          rcases Nat.lt_or_ge j (fa_first (mtP σ a b) 24) with q | q
          · rw [fa_first_no (mtP σ a b) 24 j q] at d; cases d
          · omega
        unfold mtv
        rw [← e, if_pos (by omega)]
theorem mtC {σ : Nat → Nat} {ft : Nat → Int32} (h : Pm σ) (hf : Mv σ ft) {a b : Nat} (ha : a < 2 ^ 24) : F_X1_movesUntilMeeting ft (nI a) (nI b) = some (mtv σ a b (od σ)) := by
  rw [← mtv_same h]
  have := mtC_lp h hf (a := a) (b := b) (nI a) 10000 0 (Nat.zero_le _) (by omega)
  rw [MV_0 ha] at this
  exact this
theorem mtM_lp {σ : Nat → Nat} {fs : Nat → Int32} (h : Pm σ) (hf : Mv σ fs) {a b t : Nat} (ht : t < 12) (hb : fs (25 + t) = nI b) (x1 : Int32) : ∀ (n j : Nat), j ≤ fa_first (mtP σ a b) (od σ) → od σ - j < n → F_X5_meetsIn_37 fs n x1 (nI t) (nI (od σ)) (nI (MV σ j a)) (nI j) = some (mtv σ a b (od σ)) := by
  intro n
  induction n with
  | zero => intro p _ h; omega
  | succ n ih =>
    intro j hj hn
    have h1 := od_le h
    have h2 := fa_first_le (mtP σ a b) (od σ)
    rw [F_X5_meetsIn_37]
    by_cases c : od σ ≤ j
    · rw [if_pos ((nI_leI (by omega) (by omega)).mpr c)]
      unfold mtv
      rw [if_neg (by omega)]
    · rw [if_neg (fun q => c ((nI_leI (by omega) (by omega)).mp q)), l25, ck_ok (by omega) (by omega), tn (by omega), hb]
      cases d : mtP σ a b j
      · rw [if_pos ((mtP_0 h).mpr d), movedM h hf (MV_lt h j a), Option.bind_some, MV_one h, l1]
        refine ih (j + 1) ?_ (by omega)
        rcases Nat.lt_or_ge j (fa_first (mtP σ a b) (od σ)) with q | q
        · exact q
        · exfalso
          have e : j = fa_first (mtP σ a b) (od σ) := by omega
          have := fa_first_yes (mtP σ a b) (od σ) (by omega)
          rw [← e, d] at this
          cases this
      · rw [if_neg (fun q => by rw [(mtP_0 h).mp q] at d; cases d)]
        have e : j = fa_first (mtP σ a b) (od σ) := by
          rcases Nat.lt_or_ge j (fa_first (mtP σ a b) (od σ)) with q | q
          · rw [fa_first_no (mtP σ a b) (od σ) j q] at d; cases d
          · omega
        unfold mtv
        rw [← e, if_pos (by omega)]
theorem mtM {σ : Nat → Nat} {fs : Nat → Int32} (h : Pm σ) (hf : Mv σ fs) {a b t : Nat} (ht : t < 12) (ha : a < 2 ^ 24) (hb : fs (25 + t) = nI b) (x1 : Int32) : F_X5_meetsIn_37 fs 10000 x1 (nI t) (nI (od σ)) (nI a) 0 = some (mtv σ a b (od σ)) := by
  have h1 := od_le h
  have := mtM_lp h hf (a := a) ht hb x1 10000 0 (Nat.zero_le _) (by omega)
  rw [MV_0 ha] at this
  exact this
/-! like numbers in the rounds -/
def lkP (σ : Nat → Nat) (a b p : Nat) : Prop := ∀ q, q < p → pc (a &&& rnd σ q) = pc (b &&& rnd σ q)
theorem and_lt24 {a : Nat} (h : a < 2 ^ 24) (m : Nat) : a &&& m < 2 ^ 24 := Nat.lt_of_le_of_lt Nat.and_le_left h
theorem lkC_t {σ : Nat → Nat} {ft : Nat → Int32} (h : Pm σ) (hf : Mv σ ft) {a b : Nat} (ha : a < 2 ^ 24) (hb : b < 2 ^ 24) (hl : lkP σ a b 24) : ∀ (n p : Nat), p ≤ 24 → 24 - p < n → F_X1_hasLikeNumbersInRounds_2 ft n (nI a) (nI b) (nI p) = some 1 := by
  intro n
  induction n with
  | zero => intro p _ h; omega
  | succ n ih =>
    intro p hp hn
    rw [F_X1_hasLikeNumbersInRounds_2]
    by_cases c : 24 ≤ p
    · rw [if_pos ((le24 (by omega)).mpr c)]
    · have hp2 : p < 24 := by omega
      rw [if_neg (fun q => c ((le24 (by omega)).mp q)), round_eq h hf hp2, Option.bind_some, fa_and, fa_and, bc_eq (and_lt24 ha _), Option.bind_some, bc_eq (and_lt24 hb _), Option.bind_some, if_pos (by rw [hl p hp2]), l1]
      exact ih (p + 1) (by omega) (by omega)
theorem lkC_f {σ : Nat → Nat} {ft : Nat → Int32} (h : Pm σ) (hf : Mv σ ft) {a b : Nat} (ha : a < 2 ^ 24) (hb : b < 2 ^ 24) (hl : ¬ lkP σ a b 24) : ∀ (n p : Nat), lkP σ a b p → p ≤ 24 → 24 - p < n → F_X1_hasLikeNumbersInRounds_2 ft n (nI a) (nI b) (nI p) = some 0 := by
  intro n
  induction n with
  | zero => intro p _ _ h; omega
  | succ n ih =>
    intro p hlp hp hn
    rw [F_X1_hasLikeNumbersInRounds_2]
    have hp2 : p < 24 := by
      rcases Nat.lt_or_ge p 24 with c | c
      · exact c
      · exact absurd (show lkP σ a b 24 by rw [show 24 = p by omega]; exact hlp) hl
    rw [if_neg (fun q => by have := (le24 (by omega)).mp q; omega), round_eq h hf hp2, Option.bind_some, fa_and, fa_and, bc_eq (and_lt24 ha _), Option.bind_some, bc_eq (and_lt24 hb _), Option.bind_some, l1]
    by_cases c : pc (a &&& rnd σ p) = pc (b &&& rnd σ p)
    · rw [if_pos (by rw [c])]
      refine ih (p + 1) (fun q hq => ?_) (by omega) (by omega)
      rcases Nat.lt_or_ge q p with k | k
      · exact hlp q k
      · rw [show q = p by omega]; exact c
    · have h1 := pc_le (a &&& rnd σ p)
      have h2 := pc_le (b &&& rnd σ p)
      rw [if_neg (fun q => c ((nI_eq (by omega) (by omega)).mp q))]
theorem lkM_end {σ : Nat → Nat} {fs : Nat → Int32} (h : Pm σ) (hf : Mv σ fs) (a b : Nat) (x1 x2 : Int32) : ∀ (n p : Nat), p ≤ 24 → 24 - p < n → F_X5_reason_59 fs n x1 x2 (nI a) (nI b) 0 (nI p) = some 2 := by
  intro n
  induction n with
  | zero => intro p _ h; omega
  | succ n ih =>
    intro p hp hn
    rw [F_X5_reason_59]
    by_cases c : 24 ≤ p
    · rw [if_pos ((le24 (by omega)).mpr c), if_pos rfl]
    · rw [if_neg (fun q => c ((le24 (by omega)).mp q)), if_pos rfl, l1]
      exact ih (p + 1) (by omega) (by omega)
theorem lkM_t {σ : Nat → Nat} {fs : Nat → Int32} (h : Pm σ) (hf : Mv σ fs) {a b : Nat} (ha : a < 2 ^ 24) (hb : b < 2 ^ 24) (x1 x2 : Int32) (hl : lkP σ a b 24) : ∀ (n p : Nat), p ≤ 24 → 24 - p < n → F_X5_reason_59 fs n x1 x2 (nI a) (nI b) 1 (nI p) = some (if alv σ a b = -5 then 3 else 0) := by
  intro n
  induction n with
  | zero => intro p _ h; omega
  | succ n ih =>
    intro p hp hn
    rw [F_X5_reason_59]
    by_cases c : 24 ≤ p
    · rw [if_pos ((le24 (by omega)).mpr c), if_neg (by decide), alM h hf ha hb, Option.bind_some]
      by_cases d : alv σ a b = -5
      · rw [if_pos d, if_pos d]
      · rw [if_neg d, if_neg d]
    · have hp2 : p < 24 := by omega
      have h1 := and_lt24 ha (rnd σ p)
      have h2 := and_lt24 hb (rnd σ p)
      rw [if_neg (fun q => c ((le24 (by omega)).mp q)), if_neg (by decide), roundOf_eq h hf hp2, Option.bind_some, fa_and, ones_eq (by omega), Option.bind_some, Option.bind_some, fa_and, ones_eq (by omega), Option.bind_some, if_pos (by rw [hl p hp2]), l1]
      exact ih (p + 1) (by omega) (by omega)
theorem lkM_f {σ : Nat → Nat} {fs : Nat → Int32} (h : Pm σ) (hf : Mv σ fs) {a b : Nat} (ha : a < 2 ^ 24) (hb : b < 2 ^ 24) (x1 x2 : Int32) (hl : ¬ lkP σ a b 24) : ∀ (n p : Nat), lkP σ a b p → p ≤ 24 → 24 - p < n → F_X5_reason_59 fs n x1 x2 (nI a) (nI b) 1 (nI p) = some 2 := by
  intro n
  induction n with
  | zero => intro p _ _ h; omega
  | succ n ih =>
    intro p hlp hp hn
    rw [F_X5_reason_59]
    have hp2 : p < 24 := by
      rcases Nat.lt_or_ge p 24 with c | c
      · exact c
      · exact absurd (show lkP σ a b 24 by rw [show 24 = p by omega]; exact hlp) hl
    have h3 := and_lt24 ha (rnd σ p)
    have h4 := and_lt24 hb (rnd σ p)
    rw [if_neg (fun q => by have := (le24 (by omega)).mp q; omega), if_neg (by decide), roundOf_eq h hf hp2, Option.bind_some, fa_and, ones_eq (by omega), Option.bind_some, Option.bind_some, fa_and, ones_eq (by omega), Option.bind_some, l1]
    by_cases c : pc (a &&& rnd σ p) = pc (b &&& rnd σ p)
    · rw [if_pos (by rw [c])]
      refine ih (p + 1) (fun q hq => ?_) (by omega) (by omega)
      rcases Nat.lt_or_ge q p with k | k
      · exact hlp q k
      · rw [show q = p by omega]; exact c
    · have h1 := pc_le (a &&& rnd σ p)
      have h2 := pc_le (b &&& rnd σ p)
      rw [if_neg (fun q => c ((nI_eq (by omega) (by omega)).mp q))]
      exact lkM_end h hf a b x1 x2 n (p + 1) (by omega) (by omega)
/-! kin -/
def twF (H : Nat → Nat) (m : Nat) : Nat → Nat
  | 0 => 0
  | t + 1 => if H t = m then twF H m t ||| 2 ^ t else twF H m t
theorem twF_bit (H : Nat → Nat) (m x : Nat) : ∀ t, (twF H m t).testBit x = true ↔ x < t ∧ H x = m
  | 0 => by
    show (0 : Nat).testBit x = true ↔ _
    rw [Nat.zero_testBit]
    exact ⟨fun h => (by cases h), fun h => absurd h.1 (Nat.not_lt_zero _)⟩
  | t + 1 => by
    have ih := twF_bit H m x t
    show (if H t = m then twF H m t ||| 2 ^ t else twF H m t).testBit x = true ↔ _
    by_cases c : H t = m
    · rw [if_pos c, fb_bit_set, Bool.or_eq_true, decide_eq_true_eq, ih]
      constructor
      · rintro (⟨h1, h2⟩ | h2)
        · exact ⟨by omega, h2⟩
        · exact ⟨by omega, by rw [h2]; exact c⟩
      · rintro ⟨h1, h2⟩
        rcases Nat.lt_or_ge x t with k | k
        · exact Or.inl ⟨k, h2⟩
        · exact Or.inr (by omega)
    · rw [if_neg c, ih]
      constructor
      · rintro ⟨h1, h2⟩; exact ⟨by omega, h2⟩
      · rintro ⟨h1, h2⟩
        refine ⟨?_, h2⟩
        rcases Nat.lt_or_ge x t with k | k
        · exact k
        · exact absurd (show H t = m by rw [← h2, show x = t by omega]) c
theorem twC_end {k : Nat} {fh : Nat → Int32} (hk : k ≤ 12) (x1 x : Int32) : ∀ (n t : Nat), k ≤ t → t ≤ 12 → 12 - t < n → F_X3_ticketsWithHoles_4 (nI k) fh n x1 x (nI t) = some x := by
  intro n
  induction n with
  | zero => intro t _ _ h; omega
  | succ n ih =>
    intro t h1 h2 hn
    rw [F_X3_ticketsWithHoles_4]
    by_cases c : 12 ≤ t
    · rw [if_pos ((le12 (by omega)).mpr c)]
    · rw [if_neg (fun q => c ((le12 (by omega)).mp q)), tk0 hk h1 (by omega), Option.bind_some, if_pos rfl, l1]
      exact ih (t + 1) (by omega) (by omega) (by omega)
theorem twC_lp {k m : Nat} {H : Nat → Nat} {fh : Nat → Int32} (hk : k ≤ 12) (hm : m < 2 ^ 24) (hH : ∀ t, t < 12 → H t < 2 ^ 24 ∧ fh t = nI (H t)) : ∀ (n t : Nat), t ≤ k → 12 - t < n → F_X3_ticketsWithHoles_4 (nI k) fh n (nI m) (nI (twF H m t)) (nI t) = some (nI (twF H m k)) := by
  intro n
  induction n with
  | zero => intro t _ h; omega
  | succ n ih =>
    intro t h1 hn
    rcases Nat.lt_or_ge t k with d | d
    · have hr := ih (t + 1) (by omega) (by omega)
      have hb := (hH t (by omega)).1
      rw [F_X3_ticketsWithHoles_4, if_neg (fun q => by have := (le12 (by omega)).mp q; omega), tk1 hk d, Option.bind_some, if_neg (by decide), ck_ok (by omega) (by omega), tn (by omega), (hH t (by omega)).2]
      by_cases e : H t = m
      · rw [if_pos (by rw [e]), only_eq (by omega), Option.bind_some, fa_or, l1]
        rw [show twF H m (t + 1) = twF H m t ||| 2 ^ t from if_pos e] at hr
        exact hr
      · rw [if_neg (fun q => e ((nI_eq (by omega) (by omega)).mp q)), l1]
        rw [show twF H m (t + 1) = twF H m t from if_neg e] at hr
        exact hr
    · have e : t = k := by omega
      subst e
      exact twC_end hk _ _ (n + 1) t (Nat.le_refl _) hk (by omega)
theorem twC {k m : Nat} {H : Nat → Nat} {fh : Nat → Int32} (hk : k ≤ 12) (hm : m < 2 ^ 24) (hH : ∀ t, t < 12 → H t < 2 ^ 24 ∧ fh t = nI (H t)) : F_X3_ticketsWithHoles (nI k) fh (nI m) = some (nI (twF H m k)) := twC_lp hk hm hH 10000 0 (Nat.zero_le _) (by omega)
def knF (σ : Nat → Nat) (H : Nat → Nat) (k t : Nat) : Nat → Nat
  | 0 => 0
  | j + 1 => knF σ H k t j ||| twF H (MV σ j (H t)) k
theorem knF_bit (σ : Nat → Nat) (H : Nat → Nat) (k t x : Nat) : ∀ n, (knF σ H k t n).testBit x = true ↔ x < k ∧ ∃ j, j < n ∧ MV σ j (H t) = H x
  | 0 => by
    show (0 : Nat).testBit x = true ↔ _
    rw [Nat.zero_testBit]
    exact ⟨fun h => (by cases h), fun ⟨_, j, hj, _⟩ => absurd hj (Nat.not_lt_zero _)⟩
  | n + 1 => by
    have ih := knF_bit σ H k t x n
    show (knF σ H k t n ||| twF H (MV σ n (H t)) k).testBit x = true ↔ _
    rw [Nat.testBit_or, Bool.or_eq_true, ih, twF_bit]
    constructor
    · rintro (⟨h1, j, h2, h3⟩ | ⟨h1, h2⟩)
      · exact ⟨h1, j, by omega, h3⟩
      · exact ⟨h1, n, by omega, h2.symm⟩
    · rintro ⟨h1, j, h2, h3⟩
      rcases Nat.lt_or_ge j n with q | q
      · exact Or.inl ⟨h1, j, q, h3⟩
      · exact Or.inr ⟨h1, by rw [← h3, show j = n by omega]⟩
theorem knC_lp {σ : Nat → Nat} {k t : Nat} {H : Nat → Nat} {ft fh : Nat → Int32} (h : Pm σ) (hf : Mv σ ft) (hk : k ≤ 12) (hH : ∀ t, t < 12 → H t < 2 ^ 24 ∧ fh t = nI (H t)) (x1 : Int32) : ∀ (n j : Nat), j ≤ od σ → od σ - j < n → F_X3_kinOf_20 (nI k) ft fh n x1 (nI (knF σ H k t j)) (nI (MV σ j (H t))) (nI (od σ)) (nI j) = some (nI (knF σ H k t (od σ))) := by
  intro n
  induction n with
  | zero => intro p _ h; omega
  | succ n ih =>
    intro j hj hn
    have h1 := od_le h
    rw [F_X3_kinOf_20]
    by_cases c : od σ ≤ j
    · rw [if_pos ((nI_leI (by omega) (by omega)).mpr c), show j = od σ by omega]
    · rw [if_neg (fun q => c ((nI_leI (by omega) (by omega)).mp q)), twC hk (MV_lt h j (H t)) hH, Option.bind_some, movedC h hf, Option.bind_some, MV_one h, fa_or, l1]
      exact ih (j + 1) (by omega) (by omega)
def kmF (σ : Nat → Nat) (H : Nat → Nat) (t : Nat) : Nat → Nat
  | 0 => 0
  | s + 1 => if al σ (H s) (H t) < od σ then kmF σ H t s ||| 2 ^ s else kmF σ H t s
theorem kmF_bit (σ : Nat → Nat) (H : Nat → Nat) (t x : Nat) : ∀ s, (kmF σ H t s).testBit x = true ↔ x < s ∧ al σ (H x) (H t) < od σ
  | 0 => by
    show (0 : Nat).testBit x = true ↔ _
    rw [Nat.zero_testBit]
    exact ⟨fun h => (by cases h), fun h => absurd h.1 (Nat.not_lt_zero _)⟩
  | s + 1 => by
    have ih := kmF_bit σ H t x s
    show (if al σ (H s) (H t) < od σ then kmF σ H t s ||| 2 ^ s else kmF σ H t s).testBit x = true ↔ _
    by_cases c : al σ (H s) (H t) < od σ
    · rw [if_pos c, fb_bit_set, Bool.or_eq_true, decide_eq_true_eq, ih]
      constructor
      · rintro (⟨h1, h2⟩ | h2)
        · exact ⟨by omega, h2⟩
        · exact ⟨by omega, by rw [h2]; exact c⟩
      · rintro ⟨h1, h2⟩
        rcases Nat.lt_or_ge x s with k | k
        · exact Or.inl ⟨k, h2⟩
        · exact Or.inr (by omega)
    · rw [if_neg c, ih]
      constructor
      · rintro ⟨h1, h2⟩; exact ⟨by omega, h2⟩
      · rintro ⟨h1, h2⟩
        refine ⟨?_, h2⟩
        rcases Nat.lt_or_ge x s with k | k
        · exact k
        · exact absurd (show al σ (H s) (H t) < od σ by rw [show s = x by omega]; exact h2) c
theorem knM_lp {σ : Nat → Nat} {k t : Nat} {H : Nat → Nat} {fs : Nat → Int32} (h : Pm σ) (hf : Mv σ fs) (hk : k ≤ 12) (ht : t < k) (h24 : fs 24 = nI k) (hH : ∀ t, t < 12 → H t < 2 ^ 24 ∧ fs (25 + t) = nI (H t)) : ∀ (n s : Nat), s ≤ k → 12 - s < n → F_X5_kin_14 fs n (nI t) (nI (kmF σ H t s)) (nI s) = some (nI (kmF σ H t k)) := by
  intro n
  induction n with
  | zero => intro t _ h; omega
  | succ n ih =>
    intro s h1 hn
    rw [F_X5_kin_14, k24, t24, h24]
    rcases Nat.lt_or_ge s k with d | d
    · have hr := ih (s + 1) (by omega) (by omega)
      rw [if_neg (fun q => by have := (nI_leI (by omega) (by omega)).mp q; omega), l25, l25, ck_ok (by omega) (by omega), ck_ok (by omega) (by omega), tn (by omega), tn (by omega), (hH s (by omega)).2, (hH t (by omega)).2, alM h hf (hH s (by omega)).1 (hH t (by omega)).1, Option.bind_some]
      by_cases e : al σ (H s) (H t) < od σ
      · rw [if_neg (fun q => (alv_5 h _ _).mp q e), z_one (by omega), fa_or, l1]
        rw [show kmF σ H t (s + 1) = kmF σ H t s ||| 2 ^ s from if_pos e] at hr
        exact hr
      · rw [if_pos ((alv_5 h _ _).mpr e), show (0 : Int32) = nI 0 from rfl, fa_or, Nat.or_zero, l1]
        rw [show kmF σ H t (s + 1) = kmF σ H t s from if_neg e] at hr
        exact hr
    · rw [if_pos ((nI_leI (by omega) (by omega)).mpr d), show s = k by omega]
theorem MV_inv {σ : Nat → Nat} (h : Pm σ) {a b j : Nat} (ha : a < 2 ^ 24) (e : MV σ j a = b) : ∃ i, i < od σ ∧ MV σ i b = a := by
  have h0 := od_pos σ
  have h1 := Nat.mod_lt j h0
  refine ⟨(od σ - j % od σ) % od σ, Nat.mod_lt _ h0, ?_⟩
  rw [← MV_mod h, ← e, MV_mod h j, MV_add h, show od σ - j % od σ + j % od σ = od σ by omega, MV_od h ha]
theorem kn_same {σ : Nat → Nat} {k t : Nat} {H : Nat → Nat} (h : Pm σ) (ht : H t < 2 ^ 24) (hH : ∀ s, s < k → H s < 2 ^ 24) : knF σ H k t (od σ) = kmF σ H t k := by
  apply Nat.eq_of_testBit_eq
  intro x
  refine Bool.eq_iff_iff.mpr ?_
  rw [knF_bit, kmF_bit, al_ex]
  constructor
  · rintro ⟨h1, j, _, h3⟩; exact ⟨h1, MV_inv h ht h3⟩
  · rintro ⟨h1, j, _, h3⟩; exact ⟨h1, MV_inv h (hH x h1) h3⟩
/-! the best power -/
def bi (f : Nat → Nat) : Nat → Nat
  | 0 => 0
  | n + 1 => if f n ≤ f (bi f n) then bi f n else n
theorem bi_lt (f : Nat → Nat) : ∀ n, bi f (n + 1) < n + 1
  | 0 => by
    show (if f 0 ≤ f (bi f 0) then bi f 0 else 0) < 1
    split
    · exact Nat.zero_lt_one
    · exact Nat.zero_lt_one
  | n + 1 => by
    have := bi_lt f n
    show (if f (n + 1) ≤ f (bi f (n + 1)) then bi f (n + 1) else n + 1) < n + 1 + 1
    split
    · omega
    · omega
theorem bi_1 (f : Nat → Nat) : bi f 1 = 0 := by
  have : bi f 1 < 1 := bi_lt f 0
  omega
def lgt (σ : Nat → Nat) (a c j : Nat) : Nat := pc (MV σ j a &&& c)
theorem bpC_lp {σ : Nat → Nat} {ft fh : Nat → Int32} {a c : Nat} (h : Pm σ) (hf : Mv σ ft) (sold stk x1 : Int32) : ∀ (n j : Nat), 1 ≤ j → j ≤ od σ → od σ - j < n → F_X3_bestPower_45 sold stk ft fh n x1 (nI c) (nI (MV σ (j - 1) a)) (nI (od σ)) (nI (bi (lgt σ a c) j)) (nI (lgt σ a c (bi (lgt σ a c) j))) (nI j) = some (nI (bi (lgt σ a c) (od σ))) := by
  intro n
  induction n with
  | zero => intro p _ _ h; omega
  | succ n ih =>
    intro j h0 hj hn
    have h1 := od_le h
    rw [F_X3_bestPower_45]
    by_cases d : od σ ≤ j
    · rw [if_pos ((nI_leI (by omega) (by omega)).mpr d), show j = od σ by omega]
    · have hr := ih (j + 1) (by omega) (by omega) (by omega)
      have h2 : lgt σ a c j ≤ 24 := pc_le _
      have h3 : lgt σ a c (bi (lgt σ a c) j) ≤ 24 := pc_le _
      rw [if_neg (fun q => d ((nI_leI (by omega) (by omega)).mp q)), movedC h hf, Option.bind_some, MV_one h, show j - 1 + 1 = j by omega, fa_and, bc_eq (and_lt24 (MV_lt h j a) c), Option.bind_some, l1, show pc (MV σ j a &&& c) = lgt σ a c j from rfl]
      rw [show j + 1 - 1 = j by omega] at hr
      by_cases e : lgt σ a c j ≤ lgt σ a c (bi (lgt σ a c) j)
      · rw [if_pos ((nI_leI (by omega) (by omega)).mpr e)]
        rw [show bi (lgt σ a c) (j + 1) = bi (lgt σ a c) j from if_pos e] at hr
        exact hr
      · rw [if_neg (fun q => e ((nI_leI (by omega) (by omega)).mp q))]
        rw [show bi (lgt σ a c) (j + 1) = j from if_neg e] at hr
        exact hr
theorem btM_lp {σ : Nat → Nat} {fs : Nat → Int32} {a c : Nat} (h : Pm σ) (hf : Mv σ fs) (x1 x2 : Int32) : ∀ (n j : Nat), 1 ≤ j → j ≤ od σ → od σ - j < n → F_X5_bestTurn_65 fs n x1 x2 (nI c) (nI (od σ)) (nI (MV σ j a)) (nI (bi (lgt σ a c) j)) (nI (lgt σ a c (bi (lgt σ a c) j))) (nI j) = some (if x2 = 0 then nI (bi (lgt σ a c) (od σ)) else nI (lgt σ a c (bi (lgt σ a c) (od σ)))) := by
  intro n
  induction n with
  | zero => intro p _ _ h; omega
  | succ n ih =>
    intro j h0 hj hn
    have h1 := od_le h
    rw [F_X5_bestTurn_65]
    by_cases d : od σ ≤ j
    · rw [if_pos ((nI_leI (by omega) (by omega)).mpr d), show j = od σ by omega]
      by_cases e : x2 = 0
      · rw [if_pos e, if_pos e]
      · rw [if_neg e, if_neg e]
    · have hr := ih (j + 1) (by omega) (by omega) (by omega)
      have h2 : lgt σ a c j ≤ 24 := pc_le _
      have h3 : lgt σ a c (bi (lgt σ a c) j) ≤ 24 := pc_le _
      have h4 := and_lt24 (MV_lt h j a) c
      rw [if_neg (fun q => d ((nI_leI (by omega) (by omega)).mp q)), fa_and, ones_eq (by omega), Option.bind_some, show pc (MV σ j a &&& c) = lgt σ a c j from rfl]
      by_cases e : lgt σ a c j ≤ lgt σ a c (bi (lgt σ a c) j)
      · rw [if_pos ((nI_leI (by omega) (by omega)).mpr e), if_pos ((nI_leI (by omega) (by omega)).mpr e), movedM h hf (MV_lt h j a), Option.bind_some, MV_one h, l1]
        rw [show bi (lgt σ a c) (j + 1) = bi (lgt σ a c) j from if_pos e] at hr
        exact hr
      · rw [if_neg (fun q => e ((nI_leI (by omega) (by omega)).mp q)), if_neg (fun q => e ((nI_leI (by omega) (by omega)).mp q)), movedM h hf (MV_lt h j a), Option.bind_some, MV_one h, l1]
        rw [show bi (lgt σ a c) (j + 1) = j from if_neg e] at hr
        exact hr
theorem btM_0 {σ : Nat → Nat} {fs : Nat → Int32} {a c : Nat} (h : Pm σ) (hf : Mv σ fs) (ha : a < 2 ^ 24) (x1 x2 : Int32) : F_X5_bestTurn_65 fs 10000 x1 x2 (nI c) (nI (od σ)) (nI a) 0 (-1) 0 = some (if x2 = 0 then nI (bi (lgt σ a c) (od σ)) else nI (lgt σ a c (bi (lgt σ a c) (od σ)))) := by
  have h0 := od_pos σ
  have h1 := od_le h
  have h4 := and_lt24 ha c
  have h5 := pc_le (a &&& c)
  have hr := btM_lp (fs := fs) (a := a) (c := c) h hf x1 x2 9999 1 (by omega) h0 (by omega)
  rw [bi_1, show lgt σ a c 0 = pc (a &&& c) by unfold lgt; rw [MV_0 ha]] at hr
  rw [F_X5_bestTurn_65, if_neg (fun q => by have := (leN0 (by omega)).mp q; omega), fa_and, ones_eq (by omega), Option.bind_some]
  have k1 : (-1 : Int32).toInt = -1 := by decide
  have d : ¬ nI (pc (a &&& c)) ≤ -1 := fun q => by rw [fa_le, nI_toInt (by omega)] at q; omega
  rw [if_neg d, if_neg d, movedM h hf ha, Option.bind_some, show mp σ a = MV σ 1 a from rfl]
  exact hr
