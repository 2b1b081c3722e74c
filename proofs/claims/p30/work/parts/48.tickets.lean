/-! places, tickets -/
theorem k24 {α : Type} (x : Option α) : ck (ok (24 : Int32) 65) x = x := ck_ok (j := 24) (by omega) (by omega)
theorem k49 {α : Type} (x : Option α) : ck (ok (49 : Int32) 65) x = x := ck_ok (j := 49) (by omega) (by omega)
theorem k62 {α : Type} (x : Option α) : ck (ok (62 : Int32) 65) x = x := ck_ok (j := 62) (by omega) (by omega)
theorem k63 {α : Type} (x : Option α) : ck (ok (63 : Int32) 65) x = x := ck_ok (j := 63) (by omega) (by omega)
theorem k64 {α : Type} (x : Option α) : ck (ok (64 : Int32) 65) x = x := ck_ok (j := 64) (by omega) (by omega)
theorem t24 : Int32.toNatClampNeg (24 : Int32) = 24 := tn (j := 24) (by omega)
theorem t49 : Int32.toNatClampNeg (49 : Int32) = 49 := tn (j := 49) (by omega)
theorem t62 : Int32.toNatClampNeg (62 : Int32) = 62 := tn (j := 62) (by omega)
theorem t63 : Int32.toNatClampNeg (63 : Int32) = 63 := tn (j := 63) (by omega)
theorem t64 : Int32.toNatClampNeg (64 : Int32) = 64 := tn (j := 64) (by omega)
theorem nI_back {a : Int32} (h : 0 ≤ a.toInt) : a = nI a.toInt.toNat := by
  have := (fb_rng a).2
  apply Int32.toInt_inj.mp
  rw [nI_toInt (by omega)]
  omega
theorem isPl (a : Int32) : (∃ p, p < 24 ∧ a = nI p ∧ F_X4_isPlace a = some 1 ∧ F_X5_isPlace a = some 1) ∨ (F_X4_isPlace a = some 0 ∧ F_X5_isPlace a = some 0) := by
  unfold F_X5_isPlace F_X5_in F_X4_isPlace
  have k1 : (24 : Int32).toInt = 24 := by decide
  have k2 : (23 : Int32).toInt = 23 := by decide
  by_cases c : a < 0
  · rw [if_pos c, if_pos c]; exact Or.inr ⟨rfl, rfl⟩
  · rw [if_neg c, if_neg c]
    rw [fa_lt, Int32.toInt_zero] at c
    by_cases d : 24 ≤ a
    · rw [if_pos d, if_pos (by rw [fa_le] at d; rw [fa_lt]; omega)]; exact Or.inr ⟨rfl, rfl⟩
    · rw [if_neg d, if_neg (by rw [fa_le] at d; rw [fa_lt]; omega)]
      rw [fa_le] at d
      exact Or.inl ⟨a.toInt.toNat, by omega, nI_back (by omega), rfl, rfl⟩
theorem tk1 {k t : Nat} (hk : k ≤ 12) (ht : t < k) : F_X3_isTicket (nI k) (nI t) = some 1 := by
  unfold F_X3_isTicket
  rw [if_neg (fun q => (lt0 (by omega)).mp q), if_neg (fun q => by have := (nI_leI (by omega) (by omega)).mp q; omega), if_neg (fun q => by have := (le12 (by omega)).mp q; omega)]
theorem tk0 {k t : Nat} (hk : k ≤ 12) (ht : k ≤ t) (h2 : t < 2 ^ 31) : F_X3_isTicket (nI k) (nI t) = some 0 := by
  unfold F_X3_isTicket
  rw [if_neg (fun q => (lt0 (by omega)).mp q), if_pos ((nI_leI (by omega) (by omega)).mpr ht)]
theorem mk1 {k t : Nat} {fs : Nat → Int32} (hk : k ≤ 12) (h24 : fs 24 = nI k) (ht : t < k) : F_X5_isTicket fs (nI t) = some 1 := by
  unfold F_X5_isTicket F_X5_in
  rw [k24, t24, h24]
  have e : (nI k - 1).toInt = (k : Int) - 1 := pk_sub_toInt (a := k) (b := 1) (by omega) (by omega)
  rw [if_neg (fun q => (lt0 (by omega)).mp q), if_neg (fun q => by rw [fa_lt, e, nI_toInt (by omega)] at q; omega)]
  rfl
theorem isT {k : Nat} {fs : Nat → Int32} (hk : k ≤ 12) (h24 : fs 24 = nI k) (a : Int32) : (∃ t, t < k ∧ a = nI t ∧ F_X3_isTicket (nI k) a = some 1 ∧ F_X5_isTicket fs a = some 1) ∨ (F_X3_isTicket (nI k) a = some 0 ∧ F_X5_isTicket fs a = some 0) := by
  by_cases c : a < 0
  · refine Or.inr ⟨?_, ?_⟩
    · unfold F_X3_isTicket; rw [if_pos c]
    · unfold F_X5_isTicket F_X5_in
      rw [k24, if_pos c]; rfl
  · have c2 := c
    rw [fa_lt, Int32.toInt_zero] at c2
    have e := nI_back (a := a) (by omega)
    have hr := (fb_rng a).2
    rcases Nat.lt_or_ge a.toInt.toNat k with d | d
    · exact Or.inl ⟨a.toInt.toNat, d, e, by rw [e]; exact tk1 hk d, by rw [e]; exact mk1 hk h24 d⟩
    · refine Or.inr ⟨by rw [e]; exact tk0 hk d (by omega), ?_⟩
      unfold F_X5_isTicket F_X5_in
      have e2 : (nI k - 1).toInt = (k : Int) - 1 := pk_sub_toInt (a := k) (b := 1) (by omega) (by omega)
      rw [k24, t24, h24, if_neg c, if_pos (by rw [fa_lt, e2]; omega)]
      rfl
/-- what the readers need of the two states -/
def Rd (σ : Nat → Nat) (k : Nat) (H D : Nat → Nat) (ms : Nat) (fs ft fh fd : Nat → Int32) (sold stk : Int32) : Prop := Pm σ ∧ Mv σ fs ∧ Mv σ ft ∧ (k ≤ 12 ∧ fs 24 = nI k ∧ sold = nI k) ∧ (∀ t, t < 12 → H t < 2 ^ 24 ∧ fs (25 + t) = nI (H t) ∧ fh t = nI (H t)) ∧ (∀ t, t < 12 → D t < 2 ^ 24 ∧ fs (37 + t) = nI (D t) ∧ fd t = nI (D t)) ∧ (ms < 2 ^ k ∧ fs 49 = nI ms ∧ stk = nI ms)
theorem Rd_of {fs ft fu fh fd fb : Nat → Int32} {sold stk pun fra tur : Int32} (h : St fs sold stk pun fra tur ft fu fh fd fb) : ∃ σ k H D ms, Rd σ k H D ms fs ft fh fd sold stk := by
  obtain ⟨⟨σ, k, hP, hA, hk, h24, hh, hd, ⟨ms, hms, h49⟩, _⟩, h1, _, h3, h4, _, h6, h7, _⟩ := h
  have e : ∀ (o t : Nat), (∃ m, m < 2 ^ 24 ∧ fs (o + t) = nI m) → Int32.toNatClampNeg (fs (o + t)) < 2 ^ 24 ∧ fs (o + t) = nI (Int32.toNatClampNeg (fs (o + t))) := fun o t ⟨m, hm, e⟩ => by rw [e, tn (by omega)]; exact ⟨hm, rfl⟩
  refine ⟨σ, k, fun t => Int32.toNatClampNeg (fs (25 + t)), fun t => Int32.toNatClampNeg (fs (37 + t)), ms, hP, hA, fun j hj => by rw [h1 j hj, hA j hj], ⟨hk, h24, by rw [h6, h24]⟩, fun t ht => ?_, fun t ht => ?_, ⟨hms, h49, by rw [h7, h49]⟩⟩
  · have := e 25 t (hh t ht); exact ⟨this.1, this.2, by rw [h3 t ht]; exact this.2⟩
  · have := e 37 t (hd t ht); exact ⟨this.1, this.2, by rw [h4 t ht]; exact this.2⟩
theorem two12 {k ms : Nat} (hk : k ≤ 12) (h : ms < 2 ^ k) : ms < 4096 := Nat.lt_of_lt_of_le h (Nat.pow_le_pow_right (by decide) hk)
theorem holT {k t : Nat} {fh : Nat → Int32} (hk : k ≤ 12) (ht : t < k) : F_X3_holes (nI k) fh (nI t) = some (fh t) := by
  unfold F_X3_holes
  rw [tk1 hk ht, Option.bind_some, if_neg (by decide), ck_ok (by omega) (by omega), tn (by omega)]
theorem holF {k t : Nat} {fh : Nat → Int32} (hk : k ≤ 12) (ht : k ≤ t) (h2 : t < 2 ^ 31) : F_X3_holes (nI k) fh (nI t) = some 0 := by
  unfold F_X3_holes
  rw [tk0 hk ht h2, Option.bind_some, if_pos rfl]
theorem dueT {k t : Nat} {fh : Nat → Int32} (hk : k ≤ 12) (ht : t < k) : F_X3_due (nI k) fh (nI t) = some (fh t) := holT hk ht
theorem dueF {k t : Nat} {fh : Nat → Int32} (hk : k ≤ 12) (ht : k ≤ t) (h2 : t < 2 ^ 31) : F_X3_due (nI k) fh (nI t) = some 0 := holF hk ht h2
theorem turT {k t : Nat} {fh : Nat → Int32} (hk : k ≤ 12) (ht : t < k) : F_X3_turnedBy (nI k) fh (nI t) = some (fh t) := holT hk ht
/-! tickets with a hole at a place -/
def whF (H : Nat → Nat) (p : Nat) : Nat → Nat
  | 0 => 0
  | t + 1 => if (H t).testBit p = true then whF H p t ||| 2 ^ t else whF H p t
theorem whC_end {k : Nat} {fh : Nat → Int32} (hk : k ≤ 12) {p : Nat} (hp : p < 24) (x : Int32) : ∀ (n t : Nat), k ≤ t → t ≤ 12 → 12 - t < n → F_X3_ticketsWithHole_4 (nI k) fh n (nI p) x (nI t) = some x := by
  intro n
  induction n with
  | zero => intro t _ _ h; omega
  | succ n ih =>
    intro t h1 h2 hn
    rw [F_X3_ticketsWithHole_4]
    by_cases c : 12 ≤ t
    · rw [if_pos ((le12 (by omega)).mpr c)]
    · rw [if_neg (fun q => c ((le12 (by omega)).mp q)), holF hk h1 (by omega), Option.bind_some, show F_X4_has 0 (nI p) = some 0 from has_f (m := 0) (by omega) (Nat.zero_testBit p), Option.bind_some, if_pos rfl, l1]
      exact ih (t + 1) (by omega) (by omega) (by omega)
theorem whC_lp {k : Nat} {H : Nat → Nat} {fh : Nat → Int32} (hk : k ≤ 12) (hH : ∀ t, t < 12 → H t < 2 ^ 24 ∧ fh t = nI (H t)) {p : Nat} (hp : p < 24) : ∀ (n t : Nat), t ≤ k → 12 - t < n → F_X3_ticketsWithHole_4 (nI k) fh n (nI p) (nI (whF H p t)) (nI t) = some (nI (whF H p k)) := by
  intro n
  induction n with
  | zero => intro t _ h; omega
  | succ n ih =>
    intro t h1 hn
    rcases Nat.lt_or_ge t k with d | d
    · have hr := ih (t + 1) (by omega) (by omega)
      rw [F_X3_ticketsWithHole_4, if_neg (fun q => by have := (le12 (by omega)).mp q; omega), holT hk d, Option.bind_some, (hH t (by omega)).2]
      cases e : (H t).testBit p
      · rw [has_f (by omega) e, Option.bind_some, if_pos rfl, l1]
        rw [show whF H p (t + 1) = whF H p t from if_neg (by rw [e]; decide)] at hr
        exact hr
      · rw [has_t (by omega) e, Option.bind_some, if_neg (by decide), only_eq (by omega), Option.bind_some, fa_or, l1]
        rw [show whF H p (t + 1) = whF H p t ||| 2 ^ t from if_pos e] at hr
        exact hr
    · have e : t = k := by omega
      subst e
      exact whC_end hk hp _ (n + 1) t (Nat.le_refl _) hk (by omega)
theorem whC {k : Nat} {H : Nat → Nat} {fh : Nat → Int32} (hk : k ≤ 12) (hH : ∀ t, t < 12 → H t < 2 ^ 24 ∧ fh t = nI (H t)) {p : Nat} (hp : p < 24) : F_X3_ticketsWithHole (nI k) fh (nI p) = some (nI (whF H p k)) := whC_lp hk hH hp 10000 0 (Nat.zero_le _) (by omega)
theorem whM_lp {k : Nat} {H : Nat → Nat} {fs : Nat → Int32} (hk : k ≤ 12) (h24 : fs 24 = nI k) (hH : ∀ t, t < 12 → H t < 2 ^ 24 ∧ fs (25 + t) = nI (H t)) {p : Nat} (hp : p < 24) : ∀ (n t : Nat), t ≤ k → 12 - t < n → F_X5_withHole_4 fs n (nI p) (nI (whF H p t)) (nI t) = some (nI (whF H p k)) := by
  intro n
  induction n with
  | zero => intro t _ h; omega
  | succ n ih =>
    intro t h1 hn
    rw [F_X5_withHole_4, k24, t24, h24]
    rcases Nat.lt_or_ge t k with d | d
    · have hr := ih (t + 1) (by omega) (by omega)
      have hb := (hH t (by omega)).1
      rw [if_neg (fun q => by have := (nI_leI (by omega) (by omega)).mp q; omega), l25, ck_ok (by omega) (by omega)]
      unfold nmd
      dsimp only
      rw [tn (by omega), (hH t (by omega)).2, z_shr (by omega) (by omega), z_and1, z_shl _ (by omega), fa_or, l1, bitv]
      cases e : (H t).testBit p
      · rw [if_neg (by decide), Nat.zero_mul, Nat.or_zero]
        rw [show whF H p (t + 1) = whF H p t from if_neg (by rw [e]; decide)] at hr
        exact hr
      · rw [if_pos rfl, Nat.one_mul]
        rw [show whF H p (t + 1) = whF H p t ||| 2 ^ t from if_pos e] at hr
        exact hr
    · rw [if_pos ((nI_leI (by omega) (by omega)).mpr d), show t = k by omega]
theorem whM {k : Nat} {H : Nat → Nat} {fs : Nat → Int32} (hk : k ≤ 12) (h24 : fs 24 = nI k) (hH : ∀ t, t < 12 → H t < 2 ^ 24 ∧ fs (25 + t) = nI (H t)) {p : Nat} (hp : p < 24) : F_X5_withHole fs (nI p) = some (nI (whF H p k)) := whM_lp hk h24 hH hp 10000 0 (Nat.zero_le _) (by omega)
/-! false tickets -/
def flF (H D : Nat → Nat) : Nat → Nat
  | 0 => 0
  | t + 1 => if H t = D t then flF H D t else flF H D t + 1
theorem isFa {k t : Nat} {H D : Nat → Nat} {fs fh fd : Nat → Int32} (hk : k ≤ 12) (ht : t < k) (hH : ∀ t, t < 12 → H t < 2 ^ 24 ∧ fs (25 + t) = nI (H t) ∧ fh t = nI (H t)) (hD : ∀ t, t < 12 → D t < 2 ^ 24 ∧ fs (37 + t) = nI (D t) ∧ fd t = nI (D t)) : F_X3_isFalse (nI k) fh fd (nI t) = some (if H t = D t then 0 else 1) ∧ F_X5_isFalse fs (nI t) = some (if H t = D t then 0 else 1) := by
  obtain ⟨a1, a2, a3⟩ := hH t (by omega)
  obtain ⟨b1, b2, b3⟩ := hD t (by omega)
  unfold F_X3_isFalse F_X5_isFalse
  rw [holT hk ht, Option.bind_some, dueT hk ht, Option.bind_some, l25, l37, ck_ok (by omega) (by omega), ck_ok (by omega) (by omega), tn (by omega), tn (by omega), a2, a3, b2, b3]
  by_cases c : H t = D t
  · rw [if_pos c, if_pos (by rw [c])]; exact ⟨rfl, rfl⟩
  · have c2 : ¬ nI (H t) = nI (D t) := fun q => c ((nI_eq (by omega) (by omega)).mp q)
    rw [if_neg c, if_neg c2]; exact ⟨rfl, rfl⟩
theorem flC_end {k : Nat} {fh fd : Nat → Int32} (hk : k ≤ 12) (x : Int32) : ∀ (n t : Nat), k ≤ t → t ≤ 12 → 12 - t < n → F_X3_falseTickets_4 (nI k) fh fd n x (nI t) = some x := by
  intro n
  induction n with
  | zero => intro t _ _ h; omega
  | succ n ih =>
    intro t h1 h2 hn
    rw [F_X3_falseTickets_4]
    by_cases c : 12 ≤ t
    · rw [if_pos ((le12 (by omega)).mpr c)]
    · rw [if_neg (fun q => c ((le12 (by omega)).mp q))]
      unfold F_X3_isFalse
      rw [holF hk h1 (by omega), Option.bind_some, dueF hk h1 (by omega), Option.bind_some, if_pos rfl, Option.bind_some, if_pos rfl, l1]
      exact ih (t + 1) (by omega) (by omega) (by omega)
theorem flC_lp {k : Nat} {H D : Nat → Nat} {fs fh fd : Nat → Int32} (hk : k ≤ 12) (hH : ∀ t, t < 12 → H t < 2 ^ 24 ∧ fs (25 + t) = nI (H t) ∧ fh t = nI (H t)) (hD : ∀ t, t < 12 → D t < 2 ^ 24 ∧ fs (37 + t) = nI (D t) ∧ fd t = nI (D t)) : ∀ (n t : Nat), t ≤ k → 12 - t < n → F_X3_falseTickets_4 (nI k) fh fd n (nI (flF H D t)) (nI t) = some (nI (flF H D k)) := by
  intro n
  induction n with
  | zero => intro t _ h; omega
  | succ n ih =>
    intro t h1 hn
    rcases Nat.lt_or_ge t k with d | d
    · have hr := ih (t + 1) (by omega) (by omega)
      rw [F_X3_falseTickets_4, if_neg (fun q => by have := (le12 (by omega)).mp q; omega), (isFa hk d hH hD).1, Option.bind_some]
      by_cases e : H t = D t
      · rw [if_pos e, if_pos rfl, l1]
        rw [show flF H D (t + 1) = flF H D t from if_pos e] at hr
        exact hr
      · rw [if_neg e, if_neg (by decide), l1, l1]
        rw [show flF H D (t + 1) = flF H D t + 1 from if_neg e] at hr
        exact hr
    · have e : t = k := by omega
      subst e
      exact flC_end hk _ (n + 1) t (Nat.le_refl _) hk (by omega)
theorem flM_lp {k : Nat} {H D : Nat → Nat} {fs fh fd : Nat → Int32} (hk : k ≤ 12) (h24 : fs 24 = nI k) (hH : ∀ t, t < 12 → H t < 2 ^ 24 ∧ fs (25 + t) = nI (H t) ∧ fh t = nI (H t)) (hD : ∀ t, t < 12 → D t < 2 ^ 24 ∧ fs (37 + t) = nI (D t) ∧ fd t = nI (D t)) : ∀ (n t : Nat), t ≤ k → 12 - t < n → F_X5_falseOnes_4 fs n (nI (flF H D t)) (nI t) = some (nI (flF H D k)) := by
  intro n
  induction n with
  | zero => intro t _ h; omega
  | succ n ih =>
    intro t h1 hn
    rw [F_X5_falseOnes_4, k24, t24, h24]
    rcases Nat.lt_or_ge t k with d | d
    · have hr := ih (t + 1) (by omega) (by omega)
      rw [if_neg (fun q => by have := (nI_leI (by omega) (by omega)).mp q; omega), (isFa hk d hH hD).2, Option.bind_some]
      by_cases e : H t = D t
      · rw [if_pos e, if_pos rfl, nI_p0, l1]
        rw [show flF H D (t + 1) = flF H D t from if_pos e] at hr
        exact hr
      · rw [if_neg e, if_neg (by decide), l1, l1]
        rw [show flF H D (t + 1) = flF H D t + 1 from if_neg e] at hr
        exact hr
    · rw [if_pos ((nI_leI (by omega) (by omega)).mpr d), show t = k by omega]
/-! all holes -/
theorem ahC_end {k : Nat} {fh : Nat → Int32} (hk : k ≤ 12) (x : Nat) : ∀ (n t : Nat), k ≤ t → t ≤ 12 → 12 - t < n → F_X3_allHoles_4 (nI k) fh n (nI x) (nI t) = some (nI x) := by
  intro n
  induction n with
  | zero => intro t _ _ h; omega
  | succ n ih =>
    intro t h1 h2 hn
    rw [F_X3_allHoles_4]
    by_cases c : 12 ≤ t
    · rw [if_pos ((le12 (by omega)).mpr c)]
    · rw [if_neg (fun q => c ((le12 (by omega)).mp q)), holF hk h1 (by omega), Option.bind_some, show F_J6_bitCount_0f7a4 0 = some (nI (pc 0)) from bc_eq (m := 0) (by decide), Option.bind_some, pc_0, nI_add, Nat.add_zero, l1]
      exact ih (t + 1) (by omega) (by omega) (by omega)
theorem ahC_lp {k : Nat} {H : Nat → Nat} {fh : Nat → Int32} (hk : k ≤ 12) (hH : ∀ t, t < 12 → H t < 2 ^ 24 ∧ fh t = nI (H t)) : ∀ (n t : Nat), t ≤ k → 12 - t < n → F_X3_allHoles_4 (nI k) fh n (nI (fb_sm (fun t => pc (H t)) t)) (nI t) = some (nI (fb_sm (fun t => pc (H t)) k)) := by
  intro n
  induction n with
  | zero => intro t _ h; omega
  | succ n ih =>
    intro t h1 hn
    rcases Nat.lt_or_ge t k with d | d
    · rw [F_X3_allHoles_4, if_neg (fun q => by have := (le12 (by omega)).mp q; omega), holT hk d, Option.bind_some, (hH t (by omega)).2, bc_eq (hH t (by omega)).1, Option.bind_some, nI_add, l1]
      exact ih (t + 1) (by omega) (by omega)
    · have e : t = k := by omega
      subst e
      exact ahC_end hk _ (n + 1) t (Nat.le_refl _) hk (by omega)
theorem adC_same (sold : Int32) (fh : Nat → Int32) : ∀ (n : Nat) (x y : Int32), F_X3_allDue_4 sold fh n x y = F_X3_allHoles_4 sold fh n x y := by
  intro n
  induction n with
  | zero => intro x y; rfl
  | succ n ih =>
    intro x y
    rw [F_X3_allDue_4, F_X3_allHoles_4, show F_X3_due sold fh y = F_X3_holes sold fh y from rfl]
    by_cases c : 12 ≤ y
    · rw [if_pos c, if_pos c]
    · rw [if_neg c, if_neg c]
      congr 1
      funext r2
      congr 1
      funext r3
      exact ih _ _
theorem aoM_lp {k : Nat} {H : Nat → Nat} {fs : Nat → Int32} {o : Nat} (ho : o ≤ 37) (hk : k ≤ 12) (h24 : fs 24 = nI k) (hH : ∀ t, t < 12 → H t < 2 ^ 24 ∧ fs (o + t) = nI (H t)) : ∀ (n t : Nat), t ≤ k → 12 - t < n → F_X5_allOf_4 fs n (nI o) (nI (fb_sm (fun t => pc (H t)) t)) (nI t) = some (nI (fb_sm (fun t => pc (H t)) k)) := by
  intro n
  induction n with
  | zero => intro t _ h; omega
  | succ n ih =>
    intro t h1 hn
    rw [F_X5_allOf_4, k24, t24, h24]
    rcases Nat.lt_or_ge t k with d | d
    · have hb := (hH t (by omega)).1
      rw [if_neg (fun q => by have := (nI_leI (by omega) (by omega)).mp q; omega), nI_add, ck_ok (by omega) (by omega), tn (by omega), (hH t (by omega)).2, ones_eq (by omega), Option.bind_some, nI_add, l1]
      exact ih (t + 1) (by omega) (by omega)
    · rw [if_pos ((nI_leI (by omega) (by omega)).mpr d), show t = k by omega]
/-! light -/
def lbF (H : Nat → Nat) (m : Nat) : Nat → Nat
  | 0 => 16777215
  | t + 1 => if m.testBit t = true then lbF H m t &&& H t else lbF H m t
theorem lbF_lt (H : Nat → Nat) (m : Nat) : ∀ t, lbF H m t < 2 ^ 24
  | 0 => by show 16777215 < 2 ^ 24; decide
  | t + 1 => by
    show (if m.testBit t = true then lbF H m t &&& H t else lbF H m t) < 2 ^ 24
    split
    · exact Nat.lt_of_le_of_lt Nat.and_le_left (lbF_lt H m t)
    · exact lbF_lt H m t
theorem chC_end {k m : Nat} {fh : Nat → Int32} (hm : m < 2 ^ k) (x : Int32) : ∀ (n t : Nat), k ≤ t → t ≤ 12 → 12 - t < n → F_X3_commonHoles_5 (nI k) fh n (nI m) x (nI t) = some x := by
  intro n
  induction n with
  | zero => intro t _ _ h; omega
  | succ n ih =>
    intro t h1 h2 hn
    rw [F_X3_commonHoles_5]
    by_cases c : 12 ≤ t
    · rw [if_pos ((le12 (by omega)).mpr c)]
    · rw [if_neg (fun q => c ((le12 (by omega)).mp q)), has_f (by omega) (Nat.testBit_lt_two_pow (Nat.lt_of_lt_of_le hm (Nat.pow_le_pow_right (by decide) h1))), Option.bind_some, if_pos rfl, l1]
      exact ih (t + 1) (by omega) (by omega) (by omega)
theorem chC_lp {k m : Nat} {H : Nat → Nat} {fh : Nat → Int32} (hk : k ≤ 12) (hm : m < 2 ^ k) (hH : ∀ t, t < 12 → H t < 2 ^ 24 ∧ fh t = nI (H t)) : ∀ (n t : Nat), t ≤ k → 12 - t < n → F_X3_commonHoles_5 (nI k) fh n (nI m) (nI (lbF H m t)) (nI t) = some (nI (lbF H m k)) := by
  intro n
  induction n with
  | zero => intro t _ h; omega
  | succ n ih =>
    intro t h1 hn
    rcases Nat.lt_or_ge t k with d | d
    · have hr := ih (t + 1) (by omega) (by omega)
      rw [F_X3_commonHoles_5, if_neg (fun q => by have := (le12 (by omega)).mp q; omega)]
      cases e : m.testBit t
      · rw [has_f (by omega) e, Option.bind_some, if_pos rfl, l1]
        rw [show lbF H m (t + 1) = lbF H m t from if_neg (by rw [e]; decide)] at hr
        exact hr
      · rw [has_t (by omega) e, Option.bind_some, if_neg (by decide), holT hk d, Option.bind_some, (hH t (by omega)).2, fa_and, l1]
        rw [show lbF H m (t + 1) = lbF H m t &&& H t from if_pos e] at hr
        exact hr
    · have e : t = k := by omega
      subst e
      exact chC_end hm _ (n + 1) t (Nat.le_refl _) hk (by omega)
theorem chC {k m : Nat} {H : Nat → Nat} {fh : Nat → Int32} (hk : k ≤ 12) (hm : m < 2 ^ k) (hH : ∀ t, t < 12 → H t < 2 ^ 24 ∧ fh t = nI (H t)) : F_X3_commonHoles (nI k) fh (nI m) = some (nI (lbF H m k)) := chC_lp hk hm hH 10000 0 (Nat.zero_le _) (by omega)
theorem onM {fs : Nat → Int32} {ms t : Nat} (hm : ms < 4096) (h49 : fs 49 = nI ms) (ht : t < 12) : F_X5_isOn fs (nI t) = some (if ms.testBit t = true then 1 else 0) := by
  unfold F_X5_isOn
  rw [k49, t49, h49, z_shr (by omega) (by omega), z_and1, bitv]
  cases e : ms.testBit t
  · rw [if_neg (by decide), if_neg (by decide)]
  · rw [if_pos rfl, if_pos (show nI 1 = 1 from rfl)]
    rfl
theorem onT {fs : Nat → Int32} {ms t : Nat} (hm : ms < 4096) (h49 : fs 49 = nI ms) (ht : t < 12) (e : ms.testBit t = true) : F_X5_isOn fs (nI t) = some 1 := by rw [onM hm h49 ht, if_pos e]
theorem onF {fs : Nat → Int32} {ms t : Nat} (hm : ms < 4096) (h49 : fs 49 = nI ms) (ht : t < 12) (e : ms.testBit t = false) : F_X5_isOn fs (nI t) = some 0 := by rw [onM hm h49 ht, if_neg (by rw [e]; decide)]
theorem and24 {a : Nat} (h : a < 2 ^ 24) : nI a &&& 16777215 = nI a := by
  rw [show (16777215 : Int32) = nI (2 ^ 24 - 1) from rfl, fa_mask, Nat.mod_eq_of_lt h]
theorem lbM_lp {k ms m : Nat} {H : Nat → Nat} {fs : Nat → Int32} {x1 : Int32} (hk : k ≤ 12) (h24 : fs 24 = nI k) (hm : ms < 4096) (h49 : fs 49 = nI ms) (hH : ∀ t, t < 12 → H t < 2 ^ 24 ∧ fs (25 + t) = nI (H t)) (hx : ∀ t, t < 12 → (m.testBit t = true ↔ ms.testBit t = true ∧ ¬ nI t = x1)) : ∀ (n t : Nat), t ≤ k → 12 - t < n → F_X5_lightBut_5 fs n x1 (nI (lbF H m t)) (nI t) = some (nI (lbF H m k)) := by
  intro n
  induction n with
  | zero => intro t _ h; omega
  | succ n ih =>
    intro t h1 hn
    rw [F_X5_lightBut_5, k24, t24, h24]
    rcases Nat.lt_or_ge t k with d | d
    · have hr := ih (t + 1) (by omega) (by omega)
      have hxt := hx t (by omega)
      rw [if_neg (fun q => by have := (nI_leI (by omega) (by omega)).mp q; omega)]
      cases e : ms.testBit t
      · rw [onF hm h49 (by omega) e, Option.bind_some, if_pos rfl, and24 (lbF_lt H m t), l1]
        rw [show lbF H m (t + 1) = lbF H m t from if_neg (fun q => by have := (hxt.mp q).1; rw [e] at this; cases this)] at hr
        exact hr
      · rw [onT hm h49 (by omega) e, Option.bind_some, if_neg (by decide)]
        by_cases f : nI t = x1
        · rw [if_pos f, and24 (lbF_lt H m t), l1]
          rw [show lbF H m (t + 1) = lbF H m t from if_neg (fun q => (hxt.mp q).2 f)] at hr
          exact hr
        · rw [if_neg f, l25, ck_ok (by omega) (by omega), tn (by omega), (hH t (by omega)).2, fa_and, l1]
          rw [show lbF H m (t + 1) = lbF H m t &&& H t from if_pos (hxt.mpr ⟨e, f⟩)] at hr
          exact hr
    · rw [if_pos ((nI_leI (by omega) (by omega)).mpr d), show t = k by omega]
theorem lbM {k ms m : Nat} {H : Nat → Nat} {fs : Nat → Int32} {x1 : Int32} (hk : k ≤ 12) (h24 : fs 24 = nI k) (hm : ms < 4096) (h49 : fs 49 = nI ms) (hH : ∀ t, t < 12 → H t < 2 ^ 24 ∧ fs (25 + t) = nI (H t)) (hx : ∀ t, t < 12 → (m.testBit t = true ↔ ms.testBit t = true ∧ ¬ nI t = x1)) : F_X5_lightBut fs x1 = some (nI (lbF H m k)) := lbM_lp hk h24 hm h49 hH hx 10000 0 (Nat.zero_le _) (by omega)
theorem light_both {k ms : Nat} {H : Nat → Nat} {fs fh : Nat → Int32} (hk : k ≤ 12) (h24 : fs 24 = nI k) (hm : ms < 2 ^ k) (h49 : fs 49 = nI ms) (hH : ∀ t, t < 12 → H t < 2 ^ 24 ∧ fs (25 + t) = nI (H t) ∧ fh t = nI (H t)) : ∃ r, r < 2 ^ 24 ∧ F_X3_lightPlaces (nI k) (nI ms) fh = some (nI r) ∧ F_X5_lit fs = some (nI r) := by
  unfold F_X3_lightPlaces F_X5_lit
  have hm2 := two12 hk hm
  rw [k49, t49, h49]
  by_cases c : ms = 0
  · rw [if_pos (by rw [c]; rfl), if_pos (by rw [c]; rfl)]
    exact ⟨0, by decide, rfl, rfl⟩
  · have c2 : ¬ nI ms = 0 := fun q => c ((eq0 (by omega)).mp q)
    refine ⟨lbF H ms k, lbF_lt H ms k, ?_, ?_⟩
    · rw [if_neg c2, chC hk hm (fun t ht => ⟨(hH t ht).1, (hH t ht).2.2⟩), Option.bind_some]
    · rw [if_neg c2, lbM (m := ms) hk h24 hm2 h49 (fun t ht => ⟨(hH t ht).1, (hH t ht).2.1⟩) (fun t ht => ⟨fun q => ⟨q, fun e => ?_⟩, fun q => q.1⟩), Option.bind_some]
      have := congrArg Int32.toInt e
      rw [nI_toInt (by omega)] at this
      have k1 : (-1 : Int32).toInt = -1 := by decide
      omega
