/-! sets that are moved; powers -/
def mpF (τ : Nat → Nat) (m : Nat) : Nat → Nat
  | 0 => 0
  | p + 1 => if m.testBit p = true then mpF τ m p ||| 2 ^ τ p else mpF τ m p
def mp (τ : Nat → Nat) (m : Nat) : Nat := mpF τ m 24
theorem mpF_bit (τ : Nat → Nat) (m x : Nat) : ∀ p, (mpF τ m p).testBit x = true ↔ ∃ q, q < p ∧ m.testBit q = true ∧ τ q = x
  | 0 => by
    show (0 : Nat).testBit x = true ↔ _
    rw [Nat.zero_testBit]
    exact ⟨fun h => (by cases h), fun ⟨j, hj, _⟩ => absurd hj (Nat.not_lt_zero j)⟩
  | p + 1 => by
    have ih := mpF_bit τ m x p
    show (if m.testBit p = true then mpF τ m p ||| 2 ^ τ p else mpF τ m p).testBit x = true ↔ _
    by_cases c : m.testBit p = true
    · rw [if_pos c, fb_bit_set, Bool.or_eq_true, decide_eq_true_eq, ih]
      constructor
      · rintro (⟨q, h1, h2⟩ | h2)
        · exact ⟨q, by omega, h2⟩
        · exact ⟨p, by omega, c, h2.symm⟩
      · rintro ⟨q, h1, h2, h3⟩
        rcases Nat.lt_or_ge q p with k | k
        · exact Or.inl ⟨q, k, h2, h3⟩
        · have e : q = p := by omega
          subst e
          exact Or.inr h3.symm
    · rw [if_neg c, ih]
      constructor
      · rintro ⟨q, h1, h2⟩; exact ⟨q, by omega, h2⟩
      · rintro ⟨q, h1, h2, h3⟩
        rcases Nat.lt_or_ge q p with k | k
        · exact ⟨q, k, h2, h3⟩
        · have e : q = p := by omega
          subst e
          exact absurd h2 c
theorem mp_bit (τ : Nat → Nat) (m x : Nat) : (mp τ m).testBit x = true ↔ ∃ q, q < 24 ∧ m.testBit q = true ∧ τ q = x := mpF_bit τ m x 24
theorem mpF_lt {τ : Nat → Nat} (h : ∀ j, j < 24 → τ j < 24) (m : Nat) {p : Nat} (hp : p ≤ 24) : mpF τ m p < 2 ^ 24 := lt24 (fun x hx => by
  cases q : (mpF τ m p).testBit x
  · rfl
  · obtain ⟨r, h1, _, h3⟩ := (mpF_bit τ m x p).mp q
    have := h r (by omega)
    omega)
theorem mp_lt {τ : Nat → Nat} (h : ∀ j, j < 24 → τ j < 24) (m : Nat) : mp τ m < 2 ^ 24 := mpF_lt h m (Nat.le_refl 24)
theorem mp_cong {τ υ : Nat → Nat} (m : Nat) (h : ∀ j, j < 24 → τ j = υ j) : mp τ m = mp υ m := by
  apply Nat.eq_of_testBit_eq
  intro x
  refine Bool.eq_iff_iff.mpr ?_
  rw [mp_bit, mp_bit]
  exact ⟨fun ⟨q, h1, h2, h3⟩ => ⟨q, h1, h2, by rw [← h q h1]; exact h3⟩, fun ⟨q, h1, h2, h3⟩ => ⟨q, h1, h2, by rw [h q h1]; exact h3⟩⟩
theorem mp_id {m : Nat} (hm : m < 2 ^ 24) {τ : Nat → Nat} (h : ∀ j, j < 24 → τ j = j) : mp τ m = m := by
  apply Nat.eq_of_testBit_eq
  intro x
  refine Bool.eq_iff_iff.mpr ?_
  rw [mp_bit]
  constructor
  · rintro ⟨q, h1, h2, h3⟩; rw [h q h1] at h3; rw [← h3]; exact h2
  · intro q; have := bit24' hm q; exact ⟨x, this, q, h x this⟩
theorem mp_mp {τ υ : Nat → Nat} (h : ∀ j, j < 24 → τ j < 24) (m : Nat) : mp υ (mp τ m) = mp (fun p => υ (τ p)) m := by
  apply Nat.eq_of_testBit_eq
  intro x
  refine Bool.eq_iff_iff.mpr ?_
  rw [mp_bit, mp_bit]
  constructor
  · rintro ⟨q, h1, h2, h3⟩
    obtain ⟨r, h4, h5, h6⟩ := (mp_bit τ m q).mp h2
    exact ⟨r, h4, h5, by rw [h6]; exact h3⟩
  · rintro ⟨r, h4, h5, h6⟩
    exact ⟨τ r, h r h4, (mp_bit τ m _).mpr ⟨r, h4, h5, rfl⟩, h6⟩
/-- a set behind k moves -/
def MV (σ : Nat → Nat) (k m : Nat) : Nat := mp (it σ k) m
theorem MV_lt {σ : Nat → Nat} (h : Pm σ) (k m : Nat) : MV σ k m < 2 ^ 24 := mp_lt (fun _ hj => it_lt h hj k) m
theorem MV_0 {σ : Nat → Nat} {m : Nat} (hm : m < 2 ^ 24) : MV σ 0 m = m := mp_id hm (fun _ _ => rfl)
theorem MV_add {σ : Nat → Nat} (h : Pm σ) (a b m : Nat) : MV σ a (MV σ b m) = MV σ (a + b) m := by
  unfold MV
  rw [mp_mp (fun _ hj => it_lt h hj b)]
  exact mp_cong m (fun j _ => (it_add σ j a b).symm)
theorem MV_one {σ : Nat → Nat} (h : Pm σ) (k m : Nat) : mp σ (MV σ k m) = MV σ (k + 1) m := by
  unfold MV
  rw [mp_mp (fun _ hj => it_lt h hj k)]
  rfl
theorem it_od {σ : Nat → Nat} (h : Pm σ) {p : Nat} (hp : p < 24) (k : Nat) : it σ k p = it σ (k % od σ) p := by
  rw [it_mod h hp k, it_mod h hp (k % od σ), Nat.mod_mod_of_dvd _ (od_dvd σ hp)]
theorem MV_mod {σ : Nat → Nat} (h : Pm σ) (k m : Nat) : MV σ k m = MV σ (k % od σ) m := mp_cong m (fun _ hj => it_od h hj k)
theorem MV_od {σ : Nat → Nat} (h : Pm σ) {m : Nat} (hm : m < 2 ^ 24) : MV σ (od σ) m = m := by rw [MV_mod h, Nat.mod_self, MV_0 hm]
theorem MV_bit {σ : Nat → Nat} (k m x : Nat) : (MV σ k m).testBit x = true ↔ ∃ q, q < 24 ∧ m.testBit q = true ∧ it σ k q = x := mp_bit (it σ k) m x
theorem movedC_lp {σ : Nat → Nat} {ft : Nat → Int32} (h : Pm σ) (hf : Mv σ ft) (m : Nat) : ∀ (n p : Nat), p ≤ 24 → 24 - p < n → F_X1_moved_4 ft n (nI m) (nI (mpF σ m p)) (nI p) = some (nI (mp σ m)) := by
  intro n
  induction n with
  | zero => intro p _ h; omega
  | succ n ih =>
    intro p hp hn
    rw [F_X1_moved_4]
    by_cases c : 24 ≤ p
    · rw [if_pos ((le24 (by omega)).mpr c), show p = 24 by omega]
      rfl
    · have hp2 : p < 24 := by omega
      have hr := ih (p + 1) (by omega) (by omega)
      have hs := h.1 p hp2
      rw [if_neg (fun q => c ((le24 (by omega)).mp q))]
      cases d : m.testBit p
      · rw [has_f (by omega) d, Option.bind_some, if_pos rfl, l1]
        rw [show mpF σ m (p + 1) = mpF σ m p from if_neg (by rw [d]; decide)] at hr
        exact hr
      · rw [has_t (by omega) d, Option.bind_some, if_neg (by decide), ck_ok hp2 (by omega), tn (by omega), hf p hp2, only_eq (by omega), Option.bind_some, fa_or, l1]
        rw [show mpF σ m (p + 1) = mpF σ m p ||| 2 ^ σ p from if_pos d] at hr
        exact hr
theorem movedC {σ : Nat → Nat} {ft : Nat → Int32} (h : Pm σ) (hf : Mv σ ft) (m : Nat) : F_X1_moved ft (nI m) = some (nI (mp σ m)) := movedC_lp h hf m 10000 0 (Nat.zero_le _) (by omega)
theorem movedM_lp {σ : Nat → Nat} {fs : Nat → Int32} (h : Pm σ) (hf : Mv σ fs) {m : Nat} (hm : m < 2 ^ 24) : ∀ (n p : Nat), p ≤ 24 → 24 - p < n → F_X5_moved_4 fs n (nI m) (nI (mpF σ m p)) (nI p) = some (nI (mp σ m)) := by
  intro n
  induction n with
  | zero => intro p _ h; omega
  | succ n ih =>
    intro p hp hn
    rw [F_X5_moved_4]
    by_cases c : 24 ≤ p
    · rw [if_pos ((le24 (by omega)).mpr c), show p = 24 by omega]
      rfl
    · have hp2 : p < 24 := by omega
      have hr := ih (p + 1) (by omega) (by omega)
      have hs := h.1 p hp2
      rw [if_neg (fun q => c ((le24 (by omega)).mp q)), l0, ck_ok (by omega) (by omega)]
      unfold nmd
      dsimp only
      rw [tn (by omega), hf p hp2, z_shr (by omega) (by omega), z_and1, z_shl _ (by omega), fa_or, l1, bitv]
      cases d : m.testBit p
      · rw [if_neg (by decide), Nat.zero_mul, Nat.or_zero]
        rw [show mpF σ m (p + 1) = mpF σ m p from if_neg (by rw [d]; decide)] at hr
        exact hr
      · rw [if_pos rfl, Nat.one_mul]
        rw [show mpF σ m (p + 1) = mpF σ m p ||| 2 ^ σ p from if_pos d] at hr
        exact hr
theorem movedM {σ : Nat → Nat} {fs : Nat → Int32} (h : Pm σ) (hf : Mv σ fs) {m : Nat} (hm : m < 2 ^ 24) : F_X5_moved fs (nI m) = some (nI (mp σ m)) := movedM_lp h hf hm 10000 0 (Nat.zero_le _) (by omega)
theorem turned_lp {σ : Nat → Nat} {fs : Nat → Int32} (h : Pm σ) (hf : Mv σ fs) (m : Nat) {K : Nat} (hK : K ≤ 6561) (x1 : Int32) : ∀ (n k : Nat), k ≤ K → K - k < n → F_X5_turned_5 fs n x1 (nI K) (nI (MV σ k m)) (nI k) = some (nI (MV σ K m)) := by
  intro n
  induction n with
  | zero => intro p _ h; omega
  | succ n ih =>
    intro k hk hn
    rw [F_X5_turned_5]
    by_cases c : K ≤ k
    · rw [if_pos ((nI_leI (by omega) (by omega)).mpr c), show k = K by omega]
    · rw [if_neg (fun q => c ((nI_leI (by omega) (by omega)).mp q)), movedM h hf (MV_lt h k m), Option.bind_some, MV_one h, l1]
      exact ih (k + 1) (by omega) (by omega)
theorem turned_eq {σ : Nat → Nat} {fs : Nat → Int32} (h : Pm σ) (hf : Mv σ fs) {m : Nat} (hm : m < 2 ^ 24) {K : Nat} (hK : K ≤ 6561) : F_X5_turned fs (nI m) (nI K) = some (nI (MV σ K m)) := by
  have := turned_lp h hf m hK (nI m) 10000 0 (Nat.zero_le _) (by omega)
  rw [MV_0 hm] at this
  exact this
/-! powers that may be below 0 -/
theorem xor_sign {a : Int32} {d : Nat} (hd : d < 2 ^ 31) : 0 ≤ (a ^^^ nI d) ↔ 0 ≤ a.toInt := by
  have e1 : ∀ x : Int32, 0 ≤ x.toInt ↔ x.toBitVec.msb = false := fun x => by
    rw [BitVec.msb_eq_toInt, decide_eq_false_iff_not]
    show 0 ≤ x.toInt ↔ ¬ x.toInt < 0
    omega
  have e2 : (nI d).toBitVec.msb = false := (e1 _).mp (by rw [nI_toInt hd]; omega)
  rw [Int32.le_iff_toInt_le, Int32.toInt_zero, e1, Int32.toBitVec_xor, BitVec.msb_xor, e2, Bool.xor_false, ← e1]
theorem remI {a : Int32} {d : Nat} (h1 : -9999 ≤ a.toInt) (h2 : a.toInt ≤ 9999) (h0 : 1 ≤ d) (hd : d ≤ 6561) : (a - a / nI d * nI d).toInt = a.toInt.tmod d := by
  have hdI : (nI d).toInt = (d : Int) := nI_toInt (by omega)
  have e1 : (a / nI d).toInt = a.toInt.tdiv d := by
    rw [Int32.toInt_div_of_ne_right _ _ (fun q => by
      have e := congrArg Int32.toInt q
      rw [hdI] at e
      have : (-1 : Int32).toInt = -1 := by decide
      omega), hdI]
  have e2 := Int.mul_tdiv_self a.toInt d
  have e3 : a.toInt.tdiv d * d = a.toInt - a.toInt.tmod d := by rw [Int.mul_comm]; exact e2
  have e5 : -9999 ≤ a.toInt.tmod d ∧ a.toInt.tmod d ≤ 9999 := by
    rw [Int.tmod_eq_emod]
    have h3 := Int.emod_nonneg a.toInt (show (d : Int) ≠ 0 by omega)
    have h4 := Int.emod_lt_of_pos a.toInt (show (0 : Int) < d by omega)
    split
    · omega
    · have : ((d : Int).natAbs : Int) = d := by omega
      rw [this]
      omega
  rw [fb_subI, fb_mulI, e1, hdI, e3]
  · omega
  · rw [e1, hdI, e3]; omega
  · rw [e1, hdI, e3]; omega
  · rw [fb_mulI, e1, hdI, e3]
    · omega
    · rw [e1, hdI, e3]; omega
    · rw [e1, hdI, e3]; omega
  · rw [fb_mulI, e1, hdI, e3]
    · omega
    · rw [e1, hdI, e3]; omega
    · rw [e1, hdI, e3]; omega
/-- a power, forward -/
def fm (a : Int32) (d : Nat) : Nat := (a.toInt % (d : Int)).toNat
theorem fm_lt {a : Int32} {d : Nat} (h0 : 1 ≤ d) : fm a d < d := by
  have h3 := Int.emod_nonneg a.toInt (show (d : Int) ≠ 0 by omega)
  have h4 := Int.emod_lt_of_pos a.toInt (show (0 : Int) < d by omega)
  unfold fm
  omega
theorem fm_int {a : Int32} {d : Nat} (h0 : 1 ≤ d) : ((fm a d : Nat) : Int) = a.toInt % (d : Int) := by
  have h3 := Int.emod_nonneg a.toInt (show (d : Int) ≠ 0 by omega)
  unfold fm
  omega
theorem fm_dvd {a : Int32} {d e : Nat} (h0 : 1 ≤ d) (he : 1 ≤ e) (h : d ∣ e) : fm a d = fm a e % d := by
  have h1 := fm_int (a := a) h0
  have h2 := fm_int (a := a) he
  have h3 : a.toInt % (e : Int) % (d : Int) = a.toInt % (d : Int) := Int.emod_emod_of_dvd _ (Int.natCast_dvd_natCast.mpr h)
  have h4 : ((fm a e % d : Nat) : Int) = (fm a e : Int) % (d : Int) := Int.natCast_emod _ _
  exact Int.ofNat_inj.mp (by rw [h1, h4, h2, h3])
/-- what the remainder is, by its sign -/
theorem rem_cases {a : Int32} {d : Nat} (h1 : -9999 ≤ a.toInt) (h2 : a.toInt ≤ 9999) (h0 : 1 ≤ d) (hd : d ≤ 6561) :
    (0 ≤ a.toInt ∧ a - a / nI d * nI d = nI (fm a d)) ∨ (a.toInt < 0 ∧ a - a / nI d * nI d = 0 ∧ fm a d = 0) ∨ (a.toInt < 0 ∧ (a - a / nI d * nI d).toInt < 0 ∧ a - a / nI d * nI d + nI d = nI (fm a d) ∧ fm a d ≠ 0) := by
  have e := remI h1 h2 h0 hd
  rw [Int.tmod_eq_emod, ← fm_int h0] at e
  have hl := fm_lt (a := a) h0
  by_cases c : 0 ≤ a.toInt
  · refine Or.inl ⟨c, Int32.toInt_inj.mp ?_⟩
    rw [e, if_pos (Or.inl c), nI_toInt (by omega)]
    omega
  · by_cases q : (d : Int) ∣ a.toInt
    · refine Or.inr (Or.inl ⟨by omega, ?_, ?_⟩)
      · have h3 : fm a d = 0 := by
          have := Int.emod_eq_zero_of_dvd q
          have := fm_int (a := a) h0
          omega
        apply Int32.toInt_inj.mp
        rw [e, if_pos (Or.inr q), Int32.toInt_zero, h3]
        rfl
      · have := Int.emod_eq_zero_of_dvd q
        have := fm_int (a := a) h0
        omega
    · have hn : ((d : Int).natAbs : Int) = d := by omega
      rw [if_neg (fun z => z.elim c q), hn] at e
      refine Or.inr (Or.inr ⟨by omega, by omega, ?_, fun h3 => q ?_⟩)
      · apply Int32.toInt_inj.mp
        rw [fb_addI, e, nI_toInt (by omega), nI_toInt (by omega)]
        · omega
        · rw [e, nI_toInt (by omega)]; omega
        · rw [e, nI_toInt (by omega)]; omega
      · have h4 := fm_int (a := a) h0
        exact Int.dvd_of_emod_eq_zero (by omega)
theorem floorMod_eq {a : Int32} {d : Nat} (h1 : -9999 ≤ a.toInt) (h2 : a.toInt ≤ 9999) (h0 : 1 ≤ d) (hd : d ≤ 6561) : F_J9_floorMod_7cf53 a (nI d) = some (nI (fm a d)) := by
  unfold F_J9_floorMod_7cf53
  rw [ck_nz (fun q => by have := (eq0 (by omega)).mp q; omega)]
  rcases rem_cases h1 h2 h0 hd with ⟨c, e⟩ | ⟨c, e, e2⟩ | ⟨c, e, e2, _⟩
  · rw [if_pos ((xor_sign (by omega)).mpr c), e]
  · rw [if_neg (fun q => by have := (xor_sign (by omega)).mp q; omega), if_pos e, e, e2]
    rfl
  · rw [if_neg (fun q => by have := (xor_sign (by omega)).mp q; omega), if_neg (fun q => by rw [q, Int32.toInt_zero] at e; omega), e2]
theorem forward_eq {σ : Nat → Nat} {fs : Nat → Int32} (h : Pm σ) (hf : Mv σ fs) {a : Int32} (h1 : -9999 ≤ a.toInt) (h2 : a.toInt ≤ 9999) : F_X5_forward fs a = some (nI (fm a (od σ))) := by
  unfold F_X5_forward
  have h0 := od_pos σ
  have hd := od_le h
  rw [orderM h hf, Option.bind_some, ck_nz (fun q => by have := (eq0 (by omega)).mp q; omega)]
  rcases rem_cases h1 h2 h0 hd with ⟨c, e⟩ | ⟨c, e, e2⟩ | ⟨c, e, e2, _⟩
  · rw [e, if_pos (nI_pos' (by have := fm_lt (a := a) h0; omega))]
  · rw [e, if_pos (by decide), e2]
    rfl
  · rw [if_neg (fun q => by rw [Int32.le_iff_toInt_le, Int32.toInt_zero] at q; omega), e2]
theorem leaves_t {σ : Nat → Nat} {ft : Nat → Int32} (h : Pm σ) (hf : Mv σ ft) {a : Int32} (h1 : -9999 ≤ a.toInt) (h2 : a.toInt ≤ 9999) (c : fm a (od σ) = 0) : F_X1_leavesAll ft a = some 1 := by
  unfold F_X1_leavesAll
  have h0 := od_pos σ
  have hd := od_le h
  rw [orderC h hf, Option.bind_some, if_neg (fun q => by have := (leN0 (by omega)).mp q; omega), ck_nz (fun q => by have := (eq0 (by omega)).mp q; omega)]
  rcases rem_cases h1 h2 h0 hd with ⟨_, e⟩ | ⟨_, e, e2⟩ | ⟨_, e, e2, e3⟩
  · rw [if_pos (by rw [e, c]; rfl)]
  · rw [if_pos e]
  · exact absurd c e3
theorem leaves_f {σ : Nat → Nat} {ft : Nat → Int32} (h : Pm σ) (hf : Mv σ ft) {a : Int32} (h1 : -9999 ≤ a.toInt) (h2 : a.toInt ≤ 9999) (c : fm a (od σ) ≠ 0) : F_X1_leavesAll ft a = some 0 := by
  unfold F_X1_leavesAll
  have h0 := od_pos σ
  have hd := od_le h
  rw [orderC h hf, Option.bind_some, if_neg (fun q => by have := (leN0 (by omega)).mp q; omega), ck_nz (fun q => by have := (eq0 (by omega)).mp q; omega)]
  rcases rem_cases h1 h2 h0 hd with ⟨_, e⟩ | ⟨_, e, e2⟩ | ⟨_, e, e2, e3⟩
  · rw [if_neg (fun q => by rw [e] at q; have := (eq0 (by have := fm_lt (a := a) h0; omega)).mp q; omega)]
  · exact absurd e2 c
  · rw [if_neg (fun q => by rw [q, Int32.toInt_zero] at e; omega)]
theorem isPow (a : Int32) : (F_X4_isPower a = some 1 ∧ F_X5_isPower a = some 1 ∧ -9999 ≤ a.toInt ∧ a.toInt ≤ 9999) ∨ (F_X4_isPower a = some 0 ∧ F_X5_isPower a = some 0) := by
  have e : F_X5_isPower a = F_X4_isPower a := by
    unfold F_X5_isPower F_X5_in F_X4_isPower
    split
    · rfl
    · split
      · rfl
      · rfl
  rw [e]
  unfold F_X4_isPower
  have k1 : (-9999 : Int32).toInt = -9999 := by decide
  have k2 : (9999 : Int32).toInt = 9999 := by decide
  by_cases c : a < (-9999)
  · rw [if_pos c]; exact Or.inr ⟨rfl, rfl⟩
  · rw [if_neg c]
    by_cases d : 9999 < a
    · rw [if_pos d]; exact Or.inr ⟨rfl, rfl⟩
    · rw [if_neg d]
      rw [Int32.lt_iff_toInt_lt] at c d
      exact Or.inl ⟨rfl, rfl, by omega, by omega⟩
theorem behind_lp {σ : Nat → Nat} {ft : Nat → Int32} (h : Pm σ) (hf : Mv σ ft) {p : Nat} (hp : p < 24) {K : Nat} (hK : K ≤ 24) (x1 x2 x3 : Int32) : ∀ (n k : Nat), k ≤ K → K - k < n → F_X1_targetBehind_29 ft n x1 x2 x3 (nI K) (nI (it σ k p)) (nI k) = some (nI (it σ K p)) := by
  intro n
  induction n with
  | zero => intro k _ h; omega
  | succ n ih =>
    intro k hk hn
    have hb := it_lt h hp k
    rw [F_X1_targetBehind_29]
    by_cases c : K ≤ k
    · rw [if_pos ((nI_leI (by omega) (by omega)).mpr c), show k = K by omega]
    · rw [if_neg (fun q => c ((nI_leI (by omega) (by omega)).mp q)), isP hb, Option.bind_some, if_neg (by decide), ck_ok hb (by omega), tn (by omega), hf _ hb, l1]
      exact ih (k + 1) (by omega) (by omega)
theorem behind_eq {σ : Nat → Nat} {ft : Nat → Int32} (h : Pm σ) (hf : Mv σ ft) {p : Nat} (hp : p < 24) {a : Int32} (h1 : -9999 ≤ a.toInt) (h2 : a.toInt ≤ 9999) : F_X1_targetBehind ft (nI p) a = some (nI (it σ (fm a (od σ)) p)) := by
  unfold F_X1_targetBehind
  have hl := ln_le h hp
  have hl0 := ln_pos σ p
  rw [round_eq h hf hp, Option.bind_some, bc_eq (rnd_lt h hp), Option.bind_some, pc_rnd h hp, if_pos ((le1 (by omega)).mpr hl0), floorMod_eq h1 h2 hl0 (by omega), Option.bind_some]
  have := behind_lp h hf hp (K := fm a (ln σ p)) (by have := fm_lt (a := a) hl0; omega) (nI p) a (nI (ln σ p)) 10000 0 (Nat.zero_le _) (by have := fm_lt (a := a) hl0; omega)
  rw [show it σ (fm a (ln σ p)) p = it σ (fm a (od σ)) p by rw [fm_dvd hl0 (od_pos σ) (od_dvd σ hp), ← it_mod h hp]] at this
  exact this
theorem movedBy_lp {σ : Nat → Nat} {ft : Nat → Int32} (h : Pm σ) (hf : Mv σ ft) {a : Int32} (h1 : -9999 ≤ a.toInt) (h2 : a.toInt ≤ 9999) (m : Nat) : ∀ (n p : Nat), p ≤ 24 → 24 - p < n → F_X1_movedBy_5 ft n (nI m) a (nI (mpF (it σ (fm a (od σ))) m p)) (nI p) = some (nI (MV σ (fm a (od σ)) m)) := by
  intro n
  induction n with
  | zero => intro p _ h; omega
  | succ n ih =>
    intro p hp hn
    rw [F_X1_movedBy_5]
    by_cases c : 24 ≤ p
    · rw [if_pos ((le24 (by omega)).mpr c), show p = 24 by omega]
      rfl
    · have hp2 : p < 24 := by omega
      have hr := ih (p + 1) (by omega) (by omega)
      have hs := it_lt h hp2 (fm a (od σ))
      rw [if_neg (fun q => c ((le24 (by omega)).mp q))]
      cases d : m.testBit p
      · rw [has_f (by omega) d, Option.bind_some, if_pos rfl, l1]
        rw [show mpF (it σ (fm a (od σ))) m (p + 1) = mpF (it σ (fm a (od σ))) m p from if_neg (by rw [d]; decide)] at hr
        exact hr
      · rw [has_t (by omega) d, Option.bind_some, if_neg (by decide), behind_eq h hf hp2 h1 h2, Option.bind_some, only_eq (by omega), Option.bind_some, fa_or, l1]
        rw [show mpF (it σ (fm a (od σ))) m (p + 1) = mpF (it σ (fm a (od σ))) m p ||| 2 ^ it σ (fm a (od σ)) p from if_pos d] at hr
        exact hr
theorem movedBy_eq {σ : Nat → Nat} {ft : Nat → Int32} (h : Pm σ) (hf : Mv σ ft) {a : Int32} (h1 : -9999 ≤ a.toInt) (h2 : a.toInt ≤ 9999) (m : Nat) : F_X1_movedBy ft (nI m) a = some (nI (MV σ (fm a (od σ)) m)) := movedBy_lp h hf h1 h2 m 10000 0 (Nat.zero_le _) (by omega)
theorem power_lp {σ : Nat → Nat} {fs : Nat → Int32} (h : Pm σ) (hf : Mv σ fs) {p : Nat} (hp : p < 24) {K : Nat} (hK : K ≤ 6561) (x1 x2 : Int32) : ∀ (n k : Nat), k ≤ K → K - k < n → F_X5_power_28 fs n x1 x2 (nI (it σ k p)) (nI (K - k)) = some (nI (it σ K p)) := by
  intro n
  induction n with
  | zero => intro k _ h; omega
  | succ n ih =>
    intro k hk hn
    have hb := it_lt h hp k
    rw [F_X5_power_28]
    by_cases c : K ≤ k
    · rw [if_pos ((leN0 (by omega)).mpr (by omega)), show k = K by omega]
    · rw [if_neg (fun q => by have := (leN0 (by omega)).mp q; omega), l0, ck_ok (by omega) (by omega), tn (by omega), hf _ hb]
      have e : nI (K - k) + (-1) = nI (K - (k + 1)) := by
        rw [show K - k = (K - (k + 1)) + 1 by omega]
        exact pk_m1 _
      rw [e]
      exact ih (k + 1) (by omega) (by omega)
