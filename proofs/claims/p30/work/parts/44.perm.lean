/-! a move, its powers, its rounds -/
def it (σ : Nat → Nat) : Nat → Nat → Nat
  | 0, p => p
  | k + 1, p => σ (it σ k p)
theorem it_lt {σ : Nat → Nat} (h : Pm σ) {p : Nat} (hp : p < 24) : ∀ k, it σ k p < 24
  | 0 => hp
  | k + 1 => h.1 _ (it_lt h hp k)
theorem it_add (σ : Nat → Nat) (p : Nat) : ∀ a b, it σ (a + b) p = it σ a (it σ b p)
  | 0, b => by rw [Nat.zero_add]; rfl
  | a + 1, b => by
    rw [show a + 1 + b = (a + b) + 1 by omega]
    show σ (it σ (a + b) p) = σ (it σ a (it σ b p))
    rw [it_add σ p a b]
theorem it_one (σ : Nat → Nat) (k p : Nat) : it σ (k + 1) p = it σ k (σ p) := it_add σ p k 1
theorem it_inj {σ : Nat → Nat} (h : Pm σ) {p q : Nat} (hp : p < 24) (hq : q < 24) : ∀ k, it σ k p = it σ k q → p = q
  | 0, e => e
  | k + 1, e => it_inj h hp hq k (h.2 _ _ (it_lt h hp k) (it_lt h hq k) e)
theorem it_ret {σ : Nat → Nat} (h : Pm σ) {p : Nat} (hp : p < 24) : ∃ k, k < 24 ∧ it σ (k + 1) p = p := by
  obtain ⟨i, j, hij, hj, e⟩ := fb_twice (m := 24) (n := 25) (f := fun i => it σ i p) (fun i _ => it_lt h hp i) (by omega)
  have e : it σ i p = it σ j p := e
  rw [show j = i + (j - i) by omega, it_add] at e
  have e2 := it_inj h hp (it_lt h hp _) i e
  exact ⟨j - i - 1, by omega, by rw [show j - i - 1 + 1 = j - i by omega]; exact e2.symm⟩
def ln (σ : Nat → Nat) (p : Nat) : Nat := fa_first (fun k => decide (it σ (k + 1) p = p)) 24 + 1
theorem ln_lt {σ : Nat → Nat} (h : Pm σ) {p : Nat} (hp : p < 24) : fa_first (fun k => decide (it σ (k + 1) p = p)) 24 < 24 := by
  obtain ⟨k, hk, e⟩ := it_ret h hp
  rcases Nat.lt_or_ge k (fa_first (fun k => decide (it σ (k + 1) p = p)) 24) with q | q
  · have := fa_first_no (fun k => decide (it σ (k + 1) p = p)) 24 k q
    exact absurd e (of_decide_eq_false this)
  · omega
theorem ln_le {σ : Nat → Nat} (h : Pm σ) {p : Nat} (hp : p < 24) : ln σ p ≤ 24 := by have := ln_lt h hp; unfold ln; omega
theorem ln_pos (σ : Nat → Nat) (p : Nat) : 1 ≤ ln σ p := by unfold ln; omega
theorem ln_ret {σ : Nat → Nat} (h : Pm σ) {p : Nat} (hp : p < 24) : it σ (ln σ p) p = p := of_decide_eq_true (fa_first_yes (fun k => decide (it σ (k + 1) p = p)) 24 (ln_lt h hp))
theorem ln_min {σ : Nat → Nat} {p k : Nat} (h0 : 0 < k) (hk : k < ln σ p) : it σ k p ≠ p := by
  have := fa_first_no (fun k => decide (it σ (k + 1) p = p)) 24 (k - 1) (by unfold ln at hk; omega)
  have e := of_decide_eq_false this
  rw [show k - 1 + 1 = k by omega] at e
  exact e
theorem it_mul {σ : Nat → Nat} (h : Pm σ) {p : Nat} (hp : p < 24) : ∀ c, it σ (ln σ p * c) p = p
  | 0 => rfl
  | c + 1 => by rw [Nat.mul_succ, it_add, ln_ret h hp, it_mul h hp c]
theorem it_mod {σ : Nat → Nat} (h : Pm σ) {p : Nat} (hp : p < 24) (k : Nat) : it σ k p = it σ (k % ln σ p) p := by
  have e := Nat.mod_add_div k (ln σ p)
  rw [← e, it_add, it_mul h hp, Nat.add_mul_mod_self_left, Nat.mod_mod]
theorem it_ne {σ : Nat → Nat} (h : Pm σ) {p i j : Nat} (hp : p < 24) (hij : i < j) (hj : j < ln σ p) : it σ i p ≠ it σ j p := by
  intro e
  rw [show j = i + (j - i) by omega, it_add] at e
  exact ln_min (by omega) (by omega) (it_inj h hp (it_lt h hp _) i e).symm
theorem it_dvd {σ : Nat → Nat} (h : Pm σ) {p : Nat} (hp : p < 24) (k : Nat) : it σ k p = p ↔ ln σ p ∣ k := by
  constructor
  · intro e
    rw [it_mod h hp] at e
    rcases Nat.eq_zero_or_pos (k % ln σ p) with q | q
    · exact Nat.dvd_of_mod_eq_zero q
    · exact absurd e (ln_min q (Nat.mod_lt _ (ln_pos σ p)))
  · rintro ⟨c, rfl⟩
    exact it_mul h hp c
/-- way back: from where k moves lead to p -/
theorem it_back {σ : Nat → Nat} (h : Pm σ) {p q k : Nat} (hp : p < 24) (e : it σ k p = q) : ∃ j, j < ln σ p ∧ it σ j q = p := by
  subst e
  refine ⟨(ln σ p - k % ln σ p) % ln σ p, Nat.mod_lt _ (ln_pos σ p), ?_⟩
  have hl := ln_pos σ p
  have hm := Nat.mod_lt k hl
  rw [← it_add, it_dvd h hp]
  have e2 := Nat.mod_add_div k (ln σ p)
  rcases Nat.eq_zero_or_pos (k % ln σ p) with q | q
  · rw [q, Nat.sub_zero, Nat.mod_self, Nat.zero_add]; exact Nat.dvd_of_mod_eq_zero q
  · rw [Nat.mod_eq_of_lt (show ln σ p - k % ln σ p < ln σ p by omega)]
    refine ⟨k / ln σ p + 1, ?_⟩
    rw [Nat.mul_add, Nat.mul_one]
    omega
/-! sets of places -/
theorem bitv (m x : Nat) : m / 2 ^ x % 2 = if m.testBit x = true then 1 else 0 := by
  rw [Nat.testBit_eq_decide_div_mod_eq]
  by_cases h : m / 2 ^ x % 2 = 1
  · rw [decide_eq_true h, if_pos rfl, h]
  · rw [decide_eq_false h, if_neg (by decide)]; omega
theorem pc_ext {a b : Nat} (h : ∀ x, x < 24 → a.testBit x = b.testBit x) : pc a = pc b := fb_sm_cong (fun k hk => by rw [bitv, bitv, h k hk])
theorem pc_bit {m x : Nat} (hx : x < 24) (h : m.testBit x = false) : pc (m ||| 2 ^ x) = pc m + 1 := by
  have e1 : pc (m ||| 2 ^ x) = fb_sm (fun k => if k = x then 1 else m / 2 ^ k % 2) 24 := fb_sm_cong (fun k _ => by
    rw [bitv, bitv, fb_bit_set]
    by_cases hk : k = x
    · simp [hk]
    · simp [hk])
  have e2 := fb_sm_upd (fun k => m / 2 ^ k % 2) 1 hx
  have e3 : m / 2 ^ x % 2 = 0 := by rw [bitv, h]; rfl
  rw [e1]
  unfold pc
  have e2 : fb_sm (fun k => if k = x then 1 else m / 2 ^ k % 2) 24 + m / 2 ^ x % 2 = fb_sm (fun k => m / 2 ^ k % 2) 24 + 1 := e2
  omega
theorem pc_or {a b : Nat} (h : ∀ x, x < 24 → ¬ (a.testBit x = true ∧ b.testBit x = true)) : pc (a ||| b) = pc a + pc b := by
  unfold pc
  rw [← fb_sm_add]
  refine fb_sm_cong (fun k hk => ?_)
  rw [bitv, bitv, bitv, Nat.testBit_or]
  have := h k hk
  cases ha : a.testBit k <;> cases hb : b.testBit k <;> simp_all
theorem pc_le (m : Nat) : pc m ≤ 24 := by
  have := fb_sm_bound (f := fun x => m / 2 ^ x % 2) (c := 1) (n := 24) (fun k _ => by omega)
  unfold pc
  omega
theorem pc_0 : pc 0 = 0 := by decide +kernel
theorem lt24 {m : Nat} (h : ∀ x, 24 ≤ x → m.testBit x = false) : m < 2 ^ 24 := Nat.lt_pow_two_of_testBit m h
theorem bit24 {m x : Nat} (h : m < 2 ^ 24) (hx : 24 ≤ x) : m.testBit x = false := Nat.testBit_lt_two_pow (Nat.lt_of_lt_of_le h (Nat.pow_le_pow_right (by decide) hx))
theorem bit24' {m x : Nat} (h : m < 2 ^ 24) (hx : m.testBit x = true) : x < 24 := by
  rcases Nat.lt_or_ge x 24 with q | q
  · exact q
  · rw [bit24 h q] at hx; cases hx
def Rk (σ : Nat → Nat) (p : Nat) : Nat → Nat
  | 0 => 0
  | i + 1 => Rk σ p i ||| 2 ^ it σ i p
theorem Rk_bit (σ : Nat → Nat) (p x : Nat) : ∀ i, (Rk σ p i).testBit x = true ↔ ∃ j, j < i ∧ it σ j p = x
  | 0 => by
    show (0 : Nat).testBit x = true ↔ _
    rw [Nat.zero_testBit]
    exact ⟨fun h => (by cases h), fun ⟨j, hj, _⟩ => absurd hj (Nat.not_lt_zero j)⟩
  | i + 1 => by
    show (Rk σ p i ||| 2 ^ it σ i p).testBit x = true ↔ _
    rw [fb_bit_set, Bool.or_eq_true, decide_eq_true_eq, Rk_bit σ p x i]
    constructor
    · rintro (⟨j, h1, h2⟩ | h)
      · exact ⟨j, by omega, h2⟩
      · exact ⟨i, by omega, h.symm⟩
    · rintro ⟨j, h1, h2⟩
      rcases Nat.lt_or_ge j i with q | q
      · exact Or.inl ⟨j, q, h2⟩
      · have : j = i := by omega
        subst this
        exact Or.inr h2.symm
theorem Rk_lt {σ : Nat → Nat} (h : Pm σ) {p : Nat} (hp : p < 24) (i : Nat) : Rk σ p i < 2 ^ 24 := lt24 (fun x hx => by
  cases q : (Rk σ p i).testBit x
  · rfl
  · obtain ⟨j, _, e⟩ := (Rk_bit σ p x i).mp q
    have := it_lt h hp j
    omega)
def rnd (σ : Nat → Nat) (p : Nat) : Nat := Rk σ p (ln σ p)
theorem rnd_bit {σ : Nat → Nat} (h : Pm σ) {p : Nat} (hp : p < 24) (x : Nat) : (rnd σ p).testBit x = true ↔ ∃ j, it σ j p = x := by
  unfold rnd
  rw [Rk_bit]
  constructor
  · rintro ⟨j, _, e⟩; exact ⟨j, e⟩
  · rintro ⟨j, e⟩; exact ⟨j % ln σ p, Nat.mod_lt _ (ln_pos σ p), by rw [← it_mod h hp]; exact e⟩
theorem rnd_lt {σ : Nat → Nat} (h : Pm σ) {p : Nat} (hp : p < 24) : rnd σ p < 2 ^ 24 := Rk_lt h hp _
theorem Rk_new {σ : Nat → Nat} (h : Pm σ) {p i : Nat} (hp : p < 24) (hi : i < ln σ p) : (Rk σ p i).testBit (it σ i p) = false := by
  cases q : (Rk σ p i).testBit (it σ i p)
  · rfl
  · obtain ⟨j, hj, e⟩ := (Rk_bit σ p _ i).mp q
    exact absurd e (it_ne h hp hj hi)
theorem pc_Rk {σ : Nat → Nat} (h : Pm σ) {p : Nat} (hp : p < 24) : ∀ i, i ≤ ln σ p → pc (Rk σ p i) = i
  | 0, _ => pc_0
  | i + 1, hi => by
    show pc (Rk σ p i ||| 2 ^ it σ i p) = i + 1
    rw [pc_bit (it_lt h hp i) (Rk_new h hp (by omega)), pc_Rk h hp i (by omega)]
theorem pc_rnd {σ : Nat → Nat} (h : Pm σ) {p : Nat} (hp : p < 24) : pc (rnd σ p) = ln σ p := pc_Rk h hp _ (Nat.le_refl _)
/-- the same round -/
theorem rnd_sym {σ : Nat → Nat} (h : Pm σ) {p q : Nat} (hp : p < 24) (hq : q < 24) : (rnd σ p).testBit q = true ↔ (rnd σ q).testBit p = true := by
  rw [rnd_bit h hp, rnd_bit h hq]
  constructor
  · rintro ⟨j, e⟩; obtain ⟨i, _, e2⟩ := it_back h hp e; exact ⟨i, e2⟩
  · rintro ⟨j, e⟩; obtain ⟨i, _, e2⟩ := it_back h hq e; exact ⟨i, e2⟩
theorem rnd_eq {σ : Nat → Nat} (h : Pm σ) {p q : Nat} (hp : p < 24) (hq : q < 24) (hb : (rnd σ p).testBit q = true) : rnd σ p = rnd σ q := by
  apply Nat.eq_of_testBit_eq
  intro x
  have key : (rnd σ p).testBit x = true ↔ (rnd σ q).testBit x = true := by
    rw [rnd_bit h hp, rnd_bit h hq]
    constructor
    · rintro ⟨j, e⟩
      obtain ⟨i, e2⟩ := (rnd_bit h hq p).mp ((rnd_sym h hp hq).mp hb)
      exact ⟨j + i, by rw [it_add, e2, e]⟩
    · rintro ⟨j, e⟩
      obtain ⟨i, e2⟩ := (rnd_bit h hp q).mp hb
      exact ⟨j + i, by rw [it_add, e2, e]⟩
  exact Bool.eq_iff_iff.mpr key
