/-! each call keeps it: no fewer holes were punched by right than are due -/
theorem PA_mono {k k' : Nat} {A : Nat → Int32} (h : k ≤ k') (hA : PA k A) : PA k' A := by
  obtain ⟨n, x, D, h1, h2, h3, h4, h5, h6⟩ := hA
  exact ⟨n, x, D, h1, h2, h3, by omega, h5, h6⟩
theorem PA_same {k : Nat} {A B : Nat → Int32} (hA : PA k A) (e : ∀ j, (j = 24 ∨ j = 62 ∨ (37 ≤ j ∧ j < 49)) → B j = A j) : PA (k + 1) B := by
  obtain ⟨n, x, D, h1, h2, h3, h4, h5, h6⟩ := hA
  exact ⟨n, x, D, h1, by rw [e 24 (by omega), h2], by rw [e 62 (by omega), h3], by omega, fun t ht => ⟨(h5 t ht).1, by rw [e (37 + t) (by omega), (h5 t ht).2]⟩, h6⟩
theorem PA_ext {k : Nat} {A B : Nat → Int32} (e : ∀ j, j < 65 → A j = B j) (hA : PA k A) : PA k B := by
  obtain ⟨n, x, D, h1, h2, h3, h4, h5, h6⟩ := hA
  exact ⟨n, x, D, h1, by rw [← e 24 (by omega), h2], by rw [← e 62 (by omega), h3], h4, fun t ht => ⟨(h5 t ht).1, by rw [← e (37 + t) (by omega), (h5 t ht).2]⟩, h6⟩
theorem rec_PI {k n : Nat} {pas : Int32} {fs fp : Nat → Int32} {r : Int32 × (Nat → Int32)} (hn : n ≤ 4) (hp : pas = nI n) (h : F_X5_records pas fs fp = some r) (hf : PA k fs) (hh : ∀ n, n ≤ 4 → pas = nI n → ∀ j, j < n → PA k (ps fp j)) : ∀ n', n' ≤ 4 → r.1 = nI n' → ∀ j, j < n' → PA k (ps r.2 j) := by
  intro n' h4 hr j hj
  obtain ⟨m, fp', e1, e2, e3, e4⟩ := recM fs fp hn
  rw [hp, e1] at h
  cases h
  have hm : m = n' := (nI_eq (by omega) (by omega)).mp hr
  subst hm
  by_cases c : j = m - 1
  · subst c
    exact PA_ext (fun i hi => (e3 i hi).symm) hf
  · have h2 := e4 (m - j) (by omega) (by omega)
    rw [show m - (m - j) = j by omega] at h2
    exact PA_ext (fun i hi => (h2 i hi).symm) (hh n hn hp _ (by omega))
theorem pi_non {k : Nat} {M : MT} (hI : PI k M) (a b c d e f g : Int32) (x y : Nat → Int32) : PI (k + 1) (M.1, M.2.1, a, b, c, d, e, f, g, M.2.2.2.2.2.2.2.2.2.1, M.2.2.2.2.2.2.2.2.2.2.1, M.2.2.2.2.2.2.2.2.2.2.2.1, x, y) :=
  ⟨PA_mono (Nat.le_succ k) hI.1, fun h => PA_mono (Nat.le_succ k) (hI.2.1 h), fun n h1 h2 j hj => PA_mono (Nat.le_succ k) (hI.2.2 n h1 h2 j hj)⟩
theorem pi_act {k : Nat} {M : MT} (hI : PI k M) {pas : Int32} {fs fp : Nat → Int32} (a b c d e f g : Int32) (x y : Nat → Int32) (h1 : PA (k + 1) fs) (h2 : ∀ n, n ≤ 4 → pas = nI n → ∀ j, j < n → PA k (ps fp j)) : PI (k + 1) (pas, M.2.1, a, b, c, d, e, f, g, fs, fp, M.2.2.2.2.2.2.2.2.2.2.2.1, x, y) :=
  ⟨h1, fun h => PA_mono (Nat.le_succ k) (hI.2.1 h), fun n h3 h4 j hj => PA_mono (Nat.le_succ k) (h2 n h3 h4 j hj)⟩
theorem plM {a r : Int32} (h : F_X5_isPlace a = some r) (c : ¬ r = 0) : ∃ p, p < 24 ∧ a = nI p := by
  rcases isPl a with ⟨p, hp, e, -, -⟩ | ⟨-, e2⟩
  · exact ⟨p, hp, e⟩
  · rw [e2] at h; exact absurd (Option.some.inj h).symm c
theorem tkM {k : Nat} {fs : Nat → Int32} {a r : Int32} (hk : k ≤ 12) (h24 : fs 24 = nI k) (h : F_X5_isTicket fs a = some r) (c : ¬ r = 0) : ∃ t, t < k ∧ a = nI t := by
  rcases isT hk h24 a with ⟨t, ht, e, -, -⟩ | ⟨-, e2⟩
  · exact ⟨t, ht, e⟩
  · rw [e2] at h; exact absurd (Option.some.inj h).symm c
theorem Hs_n {rqa r1qa r2qa r3qa : Nat} {hnx hsz pas : Int32} {fr : Nat → Option Nat} {P0 P1 P2 P3 : (Nat → Int32) → Prop} {fp : Nat → Int32} (h : Hs rqa r1qa r2qa r3qa hnx hsz pas fr P0 P1 P2 P3 fp) : ∃ n, n ≤ 4 ∧ pas = nI n := by
  obtain ⟨n, x, h1, -, -, h2, -⟩ := h
  exact ⟨n, h1, h2⟩
theorem pc_set (m p : Nat) (hp : p < 24) : pc (m ||| 2 ^ p) ≤ pc m + 1 := by
  cases c : m.testBit p
  · rw [pc_bit hp c]; omega
  · have : m ||| 2 ^ p = m := by
      apply Nat.eq_of_testBit_eq
      intro i
      rw [Nat.testBit_or, Nat.testBit_two_pow]
      by_cases e : p = i
      · subst e; rw [c]; rfl
      · rw [decide_eq_false e, Bool.or_false]
    rw [this]; omega
theorem MV_pc {σ : Nat → Nat} (h : Pm σ) (j : Nat) {m : Nat} (hm : m < 2 ^ 24) : pc (MV σ j m) = pc m := by
  have key : ∀ n, n ≤ 24 → pc (mpF (it σ j) m n) = fb_sm (fun x => m / 2 ^ x % 2) n := by
    intro n
    induction n with
    | zero => intro _; exact pc_0
    | succ n ih =>
      intro hn
      have := ih (by omega)
      rw [fb_sm_succ, bitv]
      show pc (if m.testBit n = true then mpF (it σ j) m n ||| 2 ^ (it σ j n) else mpF (it σ j) m n) = _
      by_cases c : m.testBit n = true
      · rw [if_pos c, if_pos c, pc_bit (it_lt h (by omega) j), this]
        cases d : (mpF (it σ j) m n).testBit (it σ j n)
        · rfl
        · obtain ⟨q, h1, h2, h3⟩ := (mpF_bit (it σ j) m (it σ j n) n).mp d
          have := it_inj h (by omega) (by omega) j h3
          omega
      · rw [if_neg c, if_neg c, this]; omega
  exact key 24 (Nat.le_refl 24)
theorem fb_sm_one {f g : Nat → Nat} {t n c : Nat} (ht : t < n) (h : ∀ k, k ≠ t → f k = g k) (h1 : f t ≤ g t + c) : fb_sm f n ≤ fb_sm g n + c := by
  have e1 := fb_sm_upd g (f t) ht
  have e2 : fb_sm (fun k => if k = t then f t else g k) n = fb_sm f n := fb_sm_cong (fun k _ => by
    by_cases e : k = t
    · rw [if_pos e, e]
    · rw [if_neg e, h k e])
  omega
/-- the due holes of one ticket change -/
theorem PA_due {k c : Nat} {A B : Nat → Int32} {t m v : Nat} (hA : PA k A) {k0 : Nat} (hk0 : k0 ≤ 12) (h24 : A 24 = nI k0) (ht : t < k0) (hm : m < 2 ^ 24) (hv : v < 2 ^ 24) (hAt : A (37 + t) = nI v) (hc : pc m ≤ pc v + c) (hc2 : c ≤ 24) {x : Nat} (hx : A 62 = nI x) (hx2 : x < 2 ^ 31) (hk : k < 10000000) {k' : Nat} (hk' : 24 * k + c ≤ 24 * k')
    (e1 : B 24 = A 24) (e2 : B 62 = nI (x + c)) (e3 : B (37 + t) = nI m) (e4 : ∀ u, u < 12 → u ≠ t → B (37 + u) = A (37 + u)) : PA k' B := by
  obtain ⟨n, y, D, h1, h2, h3, h4, h5, h6⟩ := hA
  have hn : n = k0 := (nI_eq (by omega) (by omega)).mp (h2.symm.trans h24)
  have hy : y = x := (nI_eq (by omega) hx2).mp (h3.symm.trans hx)
  subst hn hy
  have hD : D t = v := (nI_eq (by have := (h5 t (by omega)).1; omega) (by omega)).mp ((h5 t (by omega)).2.symm.trans hAt)
  refine ⟨n, y + c, fun u => if u = t then m else D u, h1, by rw [e1, h2], e2, by omega, fun u hu => ?_, ?_⟩
  · show (if u = t then m else D u) < 2 ^ 24 ∧ B (37 + u) = nI (if u = t then m else D u)
    by_cases e : u = t
    · rw [if_pos e, e]; exact ⟨hm, e3⟩
    · rw [if_neg e]; exact ⟨(h5 u hu).1, by rw [e4 u hu e, (h5 u hu).2]⟩
  · refine Nat.le_trans (fb_sm_one (g := fun t => pc (D t)) ht (fun u hu => by show pc (if u = t then m else D u) = pc (D u); rw [if_neg hu]) ?_) (Nat.add_le_add_right h6 c)
    show pc (if t = t then m else D t) ≤ pc (D t) + c
    rw [if_pos rfl, hD]; exact hc
theorem PA_x {k : Nat} {A : Nat → Int32} (hA : PA k A) (hk : k < 10000000) : ∃ x, A 62 = nI x ∧ x < 2 ^ 28 := by
  obtain ⟨n, y, D, h1, h2, h3, h4, h5, h6⟩ := hA
  exact ⟨y, h3, by omega⟩
theorem turnsM {σ : Nat → Nat} {A : Nat → Int32} {t x y : Nat} {a : Int32} (hP : Pm σ) (hA : Mv σ A) (ht : t < 12) (hx : x < 2 ^ 24) (hy : y < 2 ^ 24) (ex : A (25 + t) = nI x) (ey : A (37 + t) = nI y) (b1 : -9999 ≤ a.toInt) (b2 : a.toInt ≤ 9999) : F_X5_turns A (nI t) a = some (upd (upd (upd (upd A (25 + t) (nI (MV σ (fm a (od σ)) x))) (37 + t) (nI (MV σ (fm a (od σ)) y))) (50 + t) (A (50 + t) + a)) 64 (A 64 + 1)) := by
  have hK : fm a (od σ) ≤ 6561 := by have := fm_lt (a := a) (od_pos σ); have := od_le hP; omega
  unfold F_X5_turns
  have c25 : ∀ {α : Type} (x : Option α), ck (ok (nI (25 + t)) 65) x = x := fun x => ck_ok (by omega) (by omega)
  have c37 : ∀ {α : Type} (x : Option α), ck (ok (nI (37 + t)) 65) x = x := fun x => ck_ok (by omega) (by omega)
  have c50 : ∀ {α : Type} (x : Option α), ck (ok (nI (50 + t)) 65) x = x := fun x => ck_ok (by omega) (by omega)
  have u25 : Int32.toNatClampNeg (nI (25 + t)) = 25 + t := tn (by omega)
  have u37 : Int32.toNatClampNeg (nI (37 + t)) = 37 + t := tn (by omega)
  have u50 : Int32.toNatClampNeg (nI (50 + t)) = 50 + t := tn (by omega)
  have g1 : ∀ v : Int32, Mv σ (upd A (25 + t) v) := fun v j hj => by rw [pk_un (by omega)]; exact hA j hj
  have w1 : upd A (25 + t) (nI (MV σ (fm a (od σ)) x)) (37 + t) = nI y := by rw [pk_un (by omega), ey]
  have w2 : upd (upd A (25 + t) (nI (MV σ (fm a (od σ)) x))) (37 + t) (nI (MV σ (fm a (od σ)) y)) (50 + t) = A (50 + t) := by rw [pk_un (by omega), pk_un (by omega)]
  have w3 : ∀ v : Int32, upd (upd (upd A (25 + t) (nI (MV σ (fm a (od σ)) x))) (37 + t) (nI (MV σ (fm a (od σ)) y))) (50 + t) v 64 = A 64 := fun v => by rw [pk_un (by omega), pk_un (by omega), pk_un (by omega)]
  simp only [nmd, l25, l37, l50, c25, c37, c50, u25, u37, u50, k64, t64, forward_eq hP hA b1 b2, Option.bind_some, ex, turned_eq hP hA hx hK, w1, turned_eq hP (g1 _) hy hK, w2, w3]
theorem turns_PA {σ : Nat → Nat} {k k0 t x y : Nat} {A B : Nat → Int32} {a : Int32} (hI : PA k A) (hk : k < 10000000) (hP : Pm σ) (hA : Mv σ A) (hk0 : k0 ≤ 12) (h24 : A 24 = nI k0) (ht : t < k0) (hx : x < 2 ^ 24) (hy : y < 2 ^ 24) (ex : A (25 + t) = nI x) (ey : A (37 + t) = nI y) (b1 : -9999 ≤ a.toInt) (b2 : a.toInt ≤ 9999) (h : F_X5_turns A (nI t) a = some B) : PA k B := by
  rw [turnsM hP hA (by omega) hx hy ex ey b1 b2] at h
  cases h
  obtain ⟨z, e, hz⟩ := PA_x hI hk
  refine PA_due (c := 0) (x := z) hI hk0 h24 ht (MV_lt hP (fm a (od σ)) y) hy ey (by rw [MV_pc hP _ hy]; omega) (by omega) e (by omega) hk (by omega) ?_ ?_ ?_ ?_
  · rw [pk_un (by omega), pk_un (by omega), pk_un (by omega), pk_un (by omega)]
  · rw [pk_un (by omega), pk_un (by omega), pk_un (by omega), pk_un (by omega), e]; rfl
  · rw [pk_un (by omega), pk_un (by omega), pk_us]
  · intro u hu hne
    rw [pk_un (by omega), pk_un (by omega), pk_un (by omega), pk_un (by omega)]
/-- the bits from t on, below k -/
def tq (ms k t u : Nat) : Bool := decide (t ≤ u) && decide (u < k) && ms.testBit u
theorem tq_step {ms k t u : Nat} (h : u ≠ t) : tq ms k (t + 1) u = tq ms k t u := by
  unfold tq
  by_cases c : t ≤ u
  · rw [decide_eq_true c, decide_eq_true (show t + 1 ≤ u by omega)]
  · rw [decide_eq_false c, decide_eq_false (show ¬ t + 1 ≤ u by omega)]
theorem tq_at {ms k t : Nat} : tq ms k (t + 1) t = false := by
  unfold tq
  rw [decide_eq_false (show ¬ t + 1 ≤ t by omega)]; rfl
theorem tq_now {ms k t : Nat} (h : t < k) : tq ms k t t = ms.testBit t := by
  unfold tq
  rw [decide_eq_true (Nat.le_refl t), decide_eq_true h]; rfl
theorem tq_end {ms k u : Nat} : tq ms k k u = false := by
  unfold tq
  by_cases c : k ≤ u
  · rw [decide_eq_false (show ¬ u < k by omega)]; simp
  · rw [decide_eq_false c]; rfl
def tc (ms k t : Nat) : Nat := fb_sm (fun u => ms / 2 ^ (t + u) % 2) (k - t)
theorem tc_step {ms k t : Nat} (h : t < k) : tc ms k t = ms / 2 ^ t % 2 + tc ms k (t + 1) := by
  unfold tc
  rw [show k - t = 1 + (k - (t + 1)) by omega, fb_sm_split]
  congr 1
  · show 0 + ms / 2 ^ (t + 0) % 2 = _
    rw [Nat.zero_add, Nat.add_zero]
  · exact fb_sm_cong (fun u _ => by rw [show t + (1 + u) = t + 1 + u by omega])
theorem nI_asc (x : Int32) (a b : Nat) : x + nI a + nI b = x + nI (a + b) := by rw [Int32.add_assoc, nI_add]
theorem tsM_lp {σ : Nat → Nat} {k ms : Nat} {pas a : Int32} {fp : Nat → Int32} (hP : Pm σ) (hk : k ≤ 12) (hm : ms < 2 ^ k) (b1 : -9999 ≤ a.toInt) (b2 : a.toInt ≤ 9999) : ∀ (n t : Nat) (A : Nat → Int32) (H D : Nat → Nat), t ≤ k → 12 - t < n → Mv σ A → A 24 = nI k → A 49 = nI ms → (∀ u, u < 12 → H u < 2 ^ 24 ∧ A (25 + u) = nI (H u)) → (∀ u, u < 12 → D u < 2 ^ 24 ∧ A (37 + u) = nI (D u)) → ∃ A', F_X5_turnStack_37 n a (nI t) pas A fp = some (nI (pc ms), pas, A', fp) ∧ (∀ j, j < 25 → A' j = A j) ∧ A' 49 = A 49 ∧ A' 62 = A 62 ∧ A' 63 = A 63 ∧ (∀ u, u < 12 → A' (25 + u) = nI (if tq ms k t u = true then MV σ (fm a (od σ)) (H u) else H u)) ∧ (∀ u, u < 12 → A' (37 + u) = nI (if tq ms k t u = true then MV σ (fm a (od σ)) (D u) else D u)) ∧ (∀ u, u < 12 → A' (50 + u) = if tq ms k t u = true then A (50 + u) + a else A (50 + u)) ∧ A' 64 = A 64 + nI (tc ms k t) := by
  have hm2 := two12 hk hm
  intro n
  induction n with
  | zero => intro t _ _ _ _ h; omega
  | succ n ih =>
    intro t A H D ht hn hA h24 h49 hH hD
    rw [F_X5_turnStack_37, k24, t24, h24]
    by_cases c : t = k
    · subst c
      rw [if_pos ((nI_leI (by omega) (by omega)).mpr (Nat.le_refl t)), k49, t49, h49, ones_eq (by omega), Option.bind_some]
      refine ⟨A, rfl, fun _ _ => rfl, h49.symm ▸ rfl, rfl, rfl, fun u hu => ?_, fun u hu => ?_, fun u hu => ?_, ?_⟩
      · rw [tq_end, if_neg (by decide)]; exact (hH u hu).2
      · rw [tq_end, if_neg (by decide)]; exact (hD u hu).2
      · rw [tq_end, if_neg (by decide)]
      · unfold tc; rw [Nat.sub_self]; exact (Int32.add_zero (A 64)).symm
    · have htk : t < k := by omega
      rw [if_neg (fun q => by have := (nI_leI (a := k) (b := t) (by omega) (by omega)).mp q; omega), onM hm2 h49 (by omega), Option.bind_some]
      cases d : ms.testBit t
      · rw [if_neg (show ¬ false = true by decide), if_pos rfl, l1]
        obtain ⟨A', e0, e1, e2, e3, e4, e5, e6, e7, e8⟩ := ih (t + 1) A H D (by omega) (by omega) hA h24 h49 hH hD
        have ht0 : ∀ u, tq ms k (t + 1) u = tq ms k t u := fun u => by
          by_cases e : u = t
          · rw [e, tq_at, tq_now htk, d]
          · exact tq_step e
        refine ⟨A', e0, e1, e2, e3, e4, fun u hu => by rw [e5 u hu, ht0], fun u hu => by rw [e6 u hu, ht0], fun u hu => by rw [e7 u hu, ht0], ?_⟩
        rw [e8, tc_step htk, bitv, if_neg (by rw [d]; decide), Nat.zero_add]
      · rw [if_pos rfl, if_neg n10, turnsM hP hA (show t < 12 by omega) (hH t (by omega)).1 (hD t (by omega)).1 (hH t (by omega)).2 (hD t (by omega)).2 b1 b2, Option.bind_some, l1]
        obtain ⟨A', e0, e1, e2, e3, e4, e5, e6, e7, e8⟩ := ih (t + 1) (upd (upd (upd (upd A (25 + t) (nI (MV σ (fm a (od σ)) (H t)))) (37 + t) (nI (MV σ (fm a (od σ)) (D t)))) (50 + t) (A (50 + t) + a)) 64 (A 64 + 1)) (fun u => if u = t then MV σ (fm a (od σ)) (H t) else H u) (fun u => if u = t then MV σ (fm a (od σ)) (D t) else D u) (by omega) (by omega)
          (fun j hj => by rw [pk_un (by omega), pk_un (by omega), pk_un (by omega), pk_un (by omega)]; exact hA j hj)
          (by rw [pk_un (by omega), pk_un (by omega), pk_un (by omega), pk_un (by omega)]; exact h24)
          (by rw [pk_un (by omega), pk_un (by omega), pk_un (by omega), pk_un (by omega)]; exact h49)
          (fun u hu => by
            rw [pk_un (by omega), pk_un (by omega), pk_un (by omega)]
            by_cases e : u = t
            · rw [if_pos e, e, pk_us]; exact ⟨MV_lt hP _ _, rfl⟩
            · rw [if_neg e, pk_un (by omega)]; exact hH u hu)
          (fun u hu => by
            rw [pk_un (by omega), pk_un (by omega)]
            by_cases e : u = t
            · rw [if_pos e, e, pk_us]; exact ⟨MV_lt hP _ _, rfl⟩
            · rw [if_neg e, pk_un (by omega), pk_un (by omega)]; exact hD u hu)
        refine ⟨A', e0, fun j hj => ?_, ?_, ?_, ?_, fun u hu => ?_, fun u hu => ?_, fun u hu => ?_, ?_⟩
        · rw [e1 j hj, pk_un (by omega), pk_un (by omega), pk_un (by omega), pk_un (by omega)]
        · rw [e2, pk_un (by omega), pk_un (by omega), pk_un (by omega), pk_un (by omega)]
        · rw [e3, pk_un (by omega), pk_un (by omega), pk_un (by omega), pk_un (by omega)]
        · rw [e4, pk_un (by omega), pk_un (by omega), pk_un (by omega), pk_un (by omega)]
        · rw [e5 u hu]
          by_cases e : u = t
          · rw [e, tq_at, tq_now htk, d, if_neg (by decide), if_pos rfl, if_pos rfl]
          · rw [tq_step e, if_neg e]
        · rw [e6 u hu]
          by_cases e : u = t
          · rw [e, tq_at, tq_now htk, d, if_neg (by decide), if_pos rfl, if_pos rfl]
          · rw [tq_step e, if_neg e]
        · rw [e7 u hu, pk_un (by omega)]
          by_cases e : u = t
          · rw [e, tq_at, tq_now htk, d, if_neg (by decide), if_pos rfl, pk_us]
          · rw [tq_step e, pk_un (by omega), pk_un (by omega), pk_un (by omega)]
        · rw [e8, pk_us, tc_step htk, bitv, if_pos d]
          exact nI_asc (A 64) 1 _
theorem tc_all {ms k : Nat} (hk : k ≤ 12) (hm : ms < 2 ^ k) : tc ms k 0 = pc ms := by
  have e : pc ms = fb_sm (fun x => ms / 2 ^ x % 2) (k + (24 - k)) := by rw [show k + (24 - k) = 24 by omega]; rfl
  rw [e, fb_sm_split]
  have z : fb_sm (fun x => ms / 2 ^ (k + x) % 2) (24 - k) = 0 := by
    have : ∀ n, fb_sm (fun x => ms / 2 ^ (k + x) % 2) n = 0 := by
      intro n
      induction n with
      | zero => rfl
      | succ n ih =>
        rw [fb_sm_succ, ih, Nat.div_eq_of_lt (Nat.lt_of_lt_of_le hm (Nat.pow_le_pow_right (by decide) (by omega)))]
    exact this _
  rw [z, Nat.add_zero]
  unfold tc
  rw [Nat.sub_zero]
  exact fb_sm_cong (fun u _ => by rw [Nat.zero_add])
theorem ts_PA {k k0 : Nat} {A B : Nat → Int32} {σ : Nat → Nat} {K ms : Nat} (hP : Pm σ) (hA : PA k A) (hk0 : k0 ≤ 12) (h24 : A 24 = nI k0) {D : Nat → Nat} (hD : ∀ u, u < 12 → D u < 2 ^ 24 ∧ A (37 + u) = nI (D u)) (e1 : B 24 = A 24) (e2 : B 62 = A 62) (e3 : ∀ u, u < 12 → B (37 + u) = nI (if tq ms k0 0 u = true then MV σ K (D u) else D u)) : PA k B := by
  obtain ⟨n, y, D2, h1, h2, h3, h4, h5, h6⟩ := hA
  have hDD : ∀ u, u < 12 → D2 u = D u := fun u hu => (nI_eq (by have := (h5 u hu).1; omega) (by have := (hD u hu).1; omega)).mp ((h5 u hu).2.symm.trans (hD u hu).2)
  refine ⟨n, y, fun u => if tq ms k0 0 u = true then MV σ K (D u) else D u, h1, by rw [e1, h2], by rw [e2, h3], h4, fun u hu => ⟨?_, e3 u hu⟩, ?_⟩
  · show (if tq ms k0 0 u = true then MV σ K (D u) else D u) < _
    split
    · exact MV_lt hP _ _
    · exact (hD u hu).1
  · refine Nat.le_trans (Nat.le_of_eq (fb_sm_cong (fun u hu => ?_))) h6
    show pc (if tq ms k0 0 u = true then MV σ K (D u) else D u) = pc (D2 u)
    rw [hDD u (by omega)]
    split
    · exact MV_pc hP K (hD u (by omega)).1
    · rfl
theorem inM {a r : Int32} (h : F_X5_in a 0 16777215 = some r) (c : ¬ r = 0) : ∃ v, v < 2 ^ 24 ∧ a = nI v := by
  unfold F_X5_in at h
  by_cases c1 : a < 0
  · rw [if_pos c1] at h; cases h; exact absurd rfl c
  · rw [if_neg c1] at h
    have g : 0 ≤ a.toInt := by
      rw [fa_lt] at c1
      have : (0 : Int32).toInt = 0 := rfl
      omega
    have g2 := nI_back g
    by_cases c2 : (16777215 : Int32) < a
    · rw [if_pos c2] at h; cases h; exact absurd rfl c
    · rw [fa_lt] at c2
      have : (16777215 : Int32).toInt = 16777215 := rfl
      exact ⟨a.toInt.toNat, by omega, g2⟩
theorem pwM {a r : Int32} (h : F_X5_isPower a = some r) (c : ¬ r = 0) : -9999 ≤ a.toInt ∧ a.toInt ≤ 9999 := by
  rcases isPow a with ⟨-, -, h1, h2⟩ | ⟨-, e⟩
  · exact ⟨h1, h2⟩
  · rw [e] at h; exact absurd (Option.some.inj h).symm c
theorem rv_or {σ : Nat → Nat} {fs : Nat → Int32} (h : Pm σ) (hf : Mv σ fs) (pas : Int32) (fp g : Nat → Int32) : (∃ g', F_X5_reverse_4 10000 1 0 pas fs fp g = some (-5, pas, fs, fp, g')) ∨ ∃ g', F_X5_reverse_4 10000 1 0 pas fs fp g = rvR pas fs fp g' := by
  have e : rvM σ g 0 = g := fb_put_0 g _ 0
  by_cases c : ∀ j, j < 24 → iv σ j = σ j
  · have := rv_t h hf pas fp g c 10000 0 (Nat.zero_le _) (by omega)
    rw [e] at this
    exact Or.inl ⟨_, this⟩
  · have := rv_f h hf pas fp g c 10000 0 (fun j hj => absurd hj (Nat.not_lt_zero j)) (Nat.zero_le _) (by omega)
    rw [e] at this
    exact Or.inr ⟨_, this⟩
theorem pi_exchange {rqa r1qa r2qa r3qa : Nat} {ft fu fh fd fb kft kfu kfh kfd kfb xfc xft rft rfu rfh rfd rfb r1ft r1fu r1fh r1fd r1fb r2ft r2fu r2fh r2fd r2fb r3ft r3fu r3fh r3fd r3fb : Nat → Int32} {isk sold stk pun fra tur ksold kstk kpun kfra ktur hnx hsz xlen xidx xknd xawt xnum xcam xfst xlst rsold rstk rpun rfra rtur r1sold r1stk r1pun r1fra r1tur r2sold r2stk r2pun r2fra r2tur r3sold r3stk r3pun r3fra r3tur : Int32} {fr : Nat → Option Nat} {k : Nat} {M M' : MT} {r : Int32} {a1 : Int32} {a2 : Int32} (hR : RR rqa r1qa r2qa r3qa isk sold stk pun fra tur ft fu fh fd fb ksold kstk kpun kfra ktur kft kfu kfh kfd kfb hnx hsz fr xlen xidx xknd xawt xnum xcam xfst xlst xfc xft rsold rstk rpun rfra rtur rft rfu rfh rfd rfb r1sold r1stk r1pun r1fra r1tur r1ft r1fu r1fh r1fd r1fb r2sold r2stk r2pun r2fra r2tur r2ft r2fu r2fh r2fd r2fb r3sold r3stk r3pun r3fra r3tur r3ft r3fu r3fh r3fd r3fb M.1 M.2.1 M.2.2.1 M.2.2.2.1 M.2.2.2.2.1 M.2.2.2.2.2.1 M.2.2.2.2.2.2.1 M.2.2.2.2.2.2.2.1 M.2.2.2.2.2.2.2.2.1 M.2.2.2.2.2.2.2.2.2.1 M.2.2.2.2.2.2.2.2.2.2.1 M.2.2.2.2.2.2.2.2.2.2.2.1 M.2.2.2.2.2.2.2.2.2.2.2.2.1 M.2.2.2.2.2.2.2.2.2.2.2.2.2) (hI : PI k M) (hb : k < 10000000) (h : k_exchange a1 a2 M = some (r, M')) : PI (k + 1) M' := by
  obtain ⟨hS, -, hH, -⟩ := hR
  obtain ⟨n, hn, hpas⟩ := Hs_n hH
  obtain ⟨σ, k0, H, D, ms, hP, hf, -, ⟨hk, h24, -⟩, hh, hd, hm, h49, -⟩ := Rd_of hS
  rw [k_exchange, Option.map_eq_some_iff] at h
  obtain ⟨q, hq, he⟩ := h
  cases he
  unfold F_X5_exchange at hq
  obtain ⟨r1, h1, hq⟩ := bd_t hq
  by_cases c1 : r1 = 0
  · rw [if_pos c1] at hq; obtain rfl := Option.some.inj hq; exact pi_non hI _ _ _ _ _ _ _ _ _
  rw [if_neg c1] at hq
  obtain ⟨r2, h2, hq⟩ := bd_t hq
  by_cases c2 : r2 = 0
  · rw [if_pos c2] at hq; obtain rfl := Option.some.inj hq; exact pi_non hI _ _ _ _ _ _ _ _ _
  rw [if_neg c2] at hq
  by_cases c3 : a1 = a2
  · rw [if_pos c3] at hq; obtain rfl := Option.some.inj hq; exact pi_non hI _ _ _ _ _ _ _ _ _
  rw [if_neg c3] at hq
  obtain ⟨p, hp, rfl⟩ := plM h1 c1
  obtain ⟨p', hp', rfl⟩ := plM h2 c2
  obtain ⟨r6, h6, hq⟩ := bd_t hq
  obtain ⟨-, hq⟩ := ck_t hq
  obtain ⟨-, hq⟩ := ck_t hq
  obtain ⟨-, hq⟩ := ck_t hq
  obtain ⟨-, hq⟩ := ck_t hq
  obtain ⟨r11, h11, hq⟩ := bd_t hq
  obtain rfl := Option.some.inj hq
  refine pi_act hI _ _ _ _ _ _ _ _ _ (PA_same hI.1 (fun j hj => ?_)) (rec_PI hn hpas h6 hI.1 hI.2.2)
  dsimp only
  rw [l0, l0, tn (by omega), tn (by omega), pk_un (by omega), pk_un (by omega)]
theorem pi_reverse {rqa r1qa r2qa r3qa : Nat} {ft fu fh fd fb kft kfu kfh kfd kfb xfc xft rft rfu rfh rfd rfb r1ft r1fu r1fh r1fd r1fb r2ft r2fu r2fh r2fd r2fb r3ft r3fu r3fh r3fd r3fb : Nat → Int32} {isk sold stk pun fra tur ksold kstk kpun kfra ktur hnx hsz xlen xidx xknd xawt xnum xcam xfst xlst rsold rstk rpun rfra rtur r1sold r1stk r1pun r1fra r1tur r2sold r2stk r2pun r2fra r2tur r3sold r3stk r3pun r3fra r3tur : Int32} {fr : Nat → Option Nat} {k : Nat} {M M' : MT} {r : Int32} (hR : RR rqa r1qa r2qa r3qa isk sold stk pun fra tur ft fu fh fd fb ksold kstk kpun kfra ktur kft kfu kfh kfd kfb hnx hsz fr xlen xidx xknd xawt xnum xcam xfst xlst xfc xft rsold rstk rpun rfra rtur rft rfu rfh rfd rfb r1sold r1stk r1pun r1fra r1tur r1ft r1fu r1fh r1fd r1fb r2sold r2stk r2pun r2fra r2tur r2ft r2fu r2fh r2fd r2fb r3sold r3stk r3pun r3fra r3tur r3ft r3fu r3fh r3fd r3fb M.1 M.2.1 M.2.2.1 M.2.2.2.1 M.2.2.2.2.1 M.2.2.2.2.2.1 M.2.2.2.2.2.2.1 M.2.2.2.2.2.2.2.1 M.2.2.2.2.2.2.2.2.1 M.2.2.2.2.2.2.2.2.2.1 M.2.2.2.2.2.2.2.2.2.2.1 M.2.2.2.2.2.2.2.2.2.2.2.1 M.2.2.2.2.2.2.2.2.2.2.2.2.1 M.2.2.2.2.2.2.2.2.2.2.2.2.2) (hI : PI k M) (hb : k < 10000000) (h : k_reverse M = some (r, M')) : PI (k + 1) M' := by
  obtain ⟨hS, -, hH, -⟩ := hR
  obtain ⟨n, hn, hpas⟩ := Hs_n hH
  obtain ⟨σ, k0, H, D, ms, hP, hf, -, ⟨hk, h24, -⟩, hh, hd, hm, h49, -⟩ := Rd_of hS
  rw [k_reverse, Option.map_eq_some_iff] at h
  obtain ⟨q, hq, he⟩ := h
  cases he
  unfold F_X5_reverse at hq
  have hz := rv_or hP hf M.1 M.2.2.2.2.2.2.2.2.2.2.1 M.2.2.2.2.2.2.2.2.2.2.2.2.2
  rcases hz with hz | ⟨g, hz⟩
  · obtain ⟨g, hz⟩ := hz
    have hq2 := hz.symm.trans hq
    cases hq2
    exact pi_non hI _ _ _ _ _ _ _ _ _
  · rw [hz] at hq
    unfold rvR at hq
    obtain ⟨r3, h3, hq⟩ := bd_t hq
    obtain ⟨r4, h4, hq⟩ := bd_t hq
    obtain rfl := Option.some.inj hq
    unfold F_X5_takes at h3
    obtain ⟨r8, h8, h3⟩ := bd_t h3
    have e := takes_lp g r8.1 M.2.2.2.2.2.2.2.2.2.1 r8.2 10000 0 (Nat.zero_le _) (by omega)
    rw [fb_put_0] at e
    have h32 := e.symm.trans h3
    cases h32
    refine pi_act hI _ _ _ _ _ _ _ _ _ (PA_same hI.1 (fun j hj => ?_)) (rec_PI hn hpas h8 hI.1 hI.2.2)
    dsimp only
    rw [fb_put_out (by omega)]
theorem pi_readMove {rqa r1qa r2qa r3qa : Nat} {ft fu fh fd fb kft kfu kfh kfd kfb xfc xft rft rfu rfh rfd rfb r1ft r1fu r1fh r1fd r1fb r2ft r2fu r2fh r2fd r2fb r3ft r3fu r3fh r3fd r3fb : Nat → Int32} {isk sold stk pun fra tur ksold kstk kpun kfra ktur hnx hsz xlen xidx xknd xawt xnum xcam xfst xlst rsold rstk rpun rfra rtur r1sold r1stk r1pun r1fra r1tur r2sold r2stk r2pun r2fra r2tur r3sold r3stk r3pun r3fra r3tur : Int32} {fr : Nat → Option Nat} {k : Nat} {M M' : MT} {r : Int32} (hR : RR rqa r1qa r2qa r3qa isk sold stk pun fra tur ft fu fh fd fb ksold kstk kpun kfra ktur kft kfu kfh kfd kfb hnx hsz fr xlen xidx xknd xawt xnum xcam xfst xlst xfc xft rsold rstk rpun rfra rtur rft rfu rfh rfd rfb r1sold r1stk r1pun r1fra r1tur r1ft r1fu r1fh r1fd r1fb r2sold r2stk r2pun r2fra r2tur r2ft r2fu r2fh r2fd r2fb r3sold r3stk r3pun r3fra r3tur r3ft r3fu r3fh r3fd r3fb M.1 M.2.1 M.2.2.1 M.2.2.2.1 M.2.2.2.2.1 M.2.2.2.2.2.1 M.2.2.2.2.2.2.1 M.2.2.2.2.2.2.2.1 M.2.2.2.2.2.2.2.2.1 M.2.2.2.2.2.2.2.2.2.1 M.2.2.2.2.2.2.2.2.2.2.1 M.2.2.2.2.2.2.2.2.2.2.2.1 M.2.2.2.2.2.2.2.2.2.2.2.2.1 M.2.2.2.2.2.2.2.2.2.2.2.2.2) (hI : PI k M) (hb : k < 10000000) (h : k_readMove M = some (r, M')) : PI (k + 1) M' := by
  obtain ⟨hS, -, hH, -⟩ := hR
  obtain ⟨n, hn, hpas⟩ := Hs_n hH
  obtain ⟨σ, k0, H, D, ms, hP, hf, -, ⟨hk, h24, -⟩, hh, hd, hm, h49, -⟩ := Rd_of hS
  rw [k_readMove, Option.map_eq_some_iff] at h
  obtain ⟨q, hq, he⟩ := h
  cases he
  unfold F_X5_readMove at hq
  obtain ⟨r1, h1, hq⟩ := bd_t hq
  by_cases c1 : r1.1 = 0
  · rw [if_pos c1] at hq; obtain rfl := Option.some.inj hq; exact pi_non hI _ _ _ _ _ _ _ _ _
  · rw [if_neg c1] at hq
    obtain ⟨r3, h3, hq⟩ := bd_t hq
    obtain ⟨r4, h4, hq⟩ := bd_t hq
    obtain rfl := Option.some.inj hq
    unfold F_X5_takes at h3
    obtain ⟨r8, h8, h3⟩ := bd_t h3
    have e := takes_lp r1.2.2.2.2.2.2.2 r8.1 M.2.2.2.2.2.2.2.2.2.1 r8.2 10000 0 (Nat.zero_le _) (by omega)
    rw [fb_put_0] at e
    have h32 := e.symm.trans h3
    cases h32
    refine pi_act hI _ _ _ _ _ _ _ _ _ (PA_same hI.1 (fun j hj => ?_)) (rec_PI hn hpas h8 hI.1 hI.2.2)
    dsimp only
    rw [fb_put_out (by omega)]
theorem pi_sell {rqa r1qa r2qa r3qa : Nat} {ft fu fh fd fb kft kfu kfh kfd kfb xfc xft rft rfu rfh rfd rfb r1ft r1fu r1fh r1fd r1fb r2ft r2fu r2fh r2fd r2fb r3ft r3fu r3fh r3fd r3fb : Nat → Int32} {isk sold stk pun fra tur ksold kstk kpun kfra ktur hnx hsz xlen xidx xknd xawt xnum xcam xfst xlst rsold rstk rpun rfra rtur r1sold r1stk r1pun r1fra r1tur r2sold r2stk r2pun r2fra r2tur r3sold r3stk r3pun r3fra r3tur : Int32} {fr : Nat → Option Nat} {k : Nat} {M M' : MT} {r : Int32} {a1 : Int32} (hR : RR rqa r1qa r2qa r3qa isk sold stk pun fra tur ft fu fh fd fb ksold kstk kpun kfra ktur kft kfu kfh kfd kfb hnx hsz fr xlen xidx xknd xawt xnum xcam xfst xlst xfc xft rsold rstk rpun rfra rtur rft rfu rfh rfd rfb r1sold r1stk r1pun r1fra r1tur r1ft r1fu r1fh r1fd r1fb r2sold r2stk r2pun r2fra r2tur r2ft r2fu r2fh r2fd r2fb r3sold r3stk r3pun r3fra r3tur r3ft r3fu r3fh r3fd r3fb M.1 M.2.1 M.2.2.1 M.2.2.2.1 M.2.2.2.2.1 M.2.2.2.2.2.1 M.2.2.2.2.2.2.1 M.2.2.2.2.2.2.2.1 M.2.2.2.2.2.2.2.2.1 M.2.2.2.2.2.2.2.2.2.1 M.2.2.2.2.2.2.2.2.2.2.1 M.2.2.2.2.2.2.2.2.2.2.2.1 M.2.2.2.2.2.2.2.2.2.2.2.2.1 M.2.2.2.2.2.2.2.2.2.2.2.2.2) (hI : PI k M) (hb : k < 10000000) (h : k_sell a1 M = some (r, M')) : PI (k + 1) M' := by
  obtain ⟨hS, -, hH, -⟩ := hR
  obtain ⟨n, hn, hpas⟩ := Hs_n hH
  obtain ⟨σ, k0, H, D, ms, hP, hf, -, ⟨hk, h24, -⟩, hh, hd, hm, h49, -⟩ := Rd_of hS
  rw [k_sell, Option.map_eq_some_iff] at h
  obtain ⟨q, hq, he⟩ := h
  cases he
  unfold F_X5_sell at hq
  obtain ⟨r1, h1, hq⟩ := bd_t hq
  by_cases c1 : r1 = 0
  · rw [if_pos c1] at hq; obtain rfl := Option.some.inj hq; exact pi_non hI _ _ _ _ _ _ _ _ _
  rw [if_neg c1] at hq
  obtain ⟨-, hq⟩ := ck_t hq
  rw [t24, h24] at hq
  by_cases c3 : nI k0 = 12
  · rw [if_pos c3] at hq; obtain rfl := Option.some.inj hq; exact pi_non hI _ _ _ _ _ _ _ _ _
  rw [if_neg c3] at hq
  have hk2 : k0 < 12 := by
    rcases Nat.lt_or_ge k0 12 with g | g
    · exact g
    · exact absurd (show nI k0 = 12 by rw [show k0 = 12 by omega]; rfl) c3
  obtain ⟨v, hv, rfl⟩ := inM h1 c1
  rw [l25, l37] at hq
  obtain ⟨r5, h5, hq⟩ := bd_t hq
  obtain ⟨-, hq⟩ := ck_t hq
  obtain ⟨-, hq⟩ := ck_t hq
  obtain ⟨-, hq⟩ := ck_t hq
  obtain ⟨-, hq⟩ := ck_t hq
  dsimp only [nmd] at hq
  rw [ones_eq (by omega), Option.bind_some, t62] at hq
  obtain ⟨-, hq⟩ := ck_t hq
  obtain ⟨-, hq⟩ := ck_t hq
  obtain ⟨-, hq⟩ := ck_t hq
  obtain rfl := Option.some.inj hq
  refine pi_act hI _ _ _ _ _ _ _ _ _ ?_ (rec_PI hn hpas h5 hI.1 hI.2.2)
  dsimp only
  rw [tn (by omega), tn (by omega)]
  obtain ⟨n2, y, D2, g1, g2, g3, g4, g5, g6⟩ := hI.1
  have e0 : n2 = k0 := (nI_eq (by omega) (by omega)).mp (g2.symm.trans h24)
  subst e0
  have hpv := pc_le v
  refine ⟨n2 + 1, y + pc v, fun u => if u = n2 then v else D2 u, by omega, ?_, ?_, by omega, fun u hu => ?_, ?_⟩
  · rw [pk_us, pk_un (by omega), pk_un (by omega), pk_un (by omega), g2]; exact nI_add n2 1
  · rw [pk_un (by omega), pk_us, pk_un (by omega), pk_un (by omega), g3]; exact nI_add y (pc v)
  · show (if u = n2 then v else D2 u) < 2 ^ 24 ∧ _ = nI (if u = n2 then v else D2 u)
    rw [pk_un (by omega), pk_un (by omega)]
    by_cases e : u = n2
    · rw [if_pos e, e, pk_us]; exact ⟨hv, rfl⟩
    · rw [if_neg e, pk_un (by omega), pk_un (by omega)]; exact g5 u hu
  · rw [fb_sm_succ]
    show _ + pc (if n2 = n2 then v else D2 n2) ≤ _
    rw [if_pos rfl]
    refine Nat.add_le_add_right (Nat.le_trans (Nat.le_of_eq (fb_sm_cong (fun u hu => ?_))) g6) _
    show pc (if u = n2 then v else D2 u) = _
    rw [if_neg (by omega)]
theorem pi_punch {rqa r1qa r2qa r3qa : Nat} {ft fu fh fd fb kft kfu kfh kfd kfb xfc xft rft rfu rfh rfd rfb r1ft r1fu r1fh r1fd r1fb r2ft r2fu r2fh r2fd r2fb r3ft r3fu r3fh r3fd r3fb : Nat → Int32} {isk sold stk pun fra tur ksold kstk kpun kfra ktur hnx hsz xlen xidx xknd xawt xnum xcam xfst xlst rsold rstk rpun rfra rtur r1sold r1stk r1pun r1fra r1tur r2sold r2stk r2pun r2fra r2tur r3sold r3stk r3pun r3fra r3tur : Int32} {fr : Nat → Option Nat} {k : Nat} {M M' : MT} {r : Int32} {a1 : Int32} {a2 : Int32} (hR : RR rqa r1qa r2qa r3qa isk sold stk pun fra tur ft fu fh fd fb ksold kstk kpun kfra ktur kft kfu kfh kfd kfb hnx hsz fr xlen xidx xknd xawt xnum xcam xfst xlst xfc xft rsold rstk rpun rfra rtur rft rfu rfh rfd rfb r1sold r1stk r1pun r1fra r1tur r1ft r1fu r1fh r1fd r1fb r2sold r2stk r2pun r2fra r2tur r2ft r2fu r2fh r2fd r2fb r3sold r3stk r3pun r3fra r3tur r3ft r3fu r3fh r3fd r3fb M.1 M.2.1 M.2.2.1 M.2.2.2.1 M.2.2.2.2.1 M.2.2.2.2.2.1 M.2.2.2.2.2.2.1 M.2.2.2.2.2.2.2.1 M.2.2.2.2.2.2.2.2.1 M.2.2.2.2.2.2.2.2.2.1 M.2.2.2.2.2.2.2.2.2.2.1 M.2.2.2.2.2.2.2.2.2.2.2.1 M.2.2.2.2.2.2.2.2.2.2.2.2.1 M.2.2.2.2.2.2.2.2.2.2.2.2.2) (hI : PI k M) (hb : k < 10000000) (h : k_punch a1 a2 M = some (r, M')) : PI (k + 1) M' := by
  obtain ⟨hS, -, hH, -⟩ := hR
  obtain ⟨n, hn, hpas⟩ := Hs_n hH
  obtain ⟨σ, k0, H, D, ms, hP, hf, -, ⟨hk, h24, -⟩, hh, hd, hm, h49, -⟩ := Rd_of hS
  rw [k_punch, Option.map_eq_some_iff] at h
  obtain ⟨q, hq, he⟩ := h
  cases he
  unfold F_X5_punch at hq
  obtain ⟨r1, h1, hq⟩ := bd_t hq
  by_cases c1 : r1 = 0
  · rw [if_pos c1] at hq; obtain rfl := Option.some.inj hq; exact pi_non hI _ _ _ _ _ _ _ _ _
  rw [if_neg c1] at hq
  obtain ⟨t, ht, rfl⟩ := tkM hk h24 h1 c1
  obtain ⟨r2, h2, hq⟩ := bd_t hq
  by_cases c2 : r2 = 0
  · rw [if_pos c2] at hq; obtain rfl := Option.some.inj hq; exact pi_non hI _ _ _ _ _ _ _ _ _
  rw [if_neg c2] at hq
  obtain ⟨p, hp, rfl⟩ := plM h2 c2
  rw [l25, l37] at hq
  obtain ⟨-, hq⟩ := ck_t hq
  obtain ⟨-, hq⟩ := ck_t hq
  dsimp only [nmd] at hq
  by_cases c3 : (M.2.2.2.2.2.2.2.2.2.1 (Int32.toNatClampNeg (nI (25 + t))) &&& M.2.2.2.2.2.2.2.2.2.1 (Int32.toNatClampNeg (nI (37 + t)))) &&& ((1 : Int32) <<< (nI p &&& 31)) = 0
  · rw [if_pos c3] at hq
    obtain ⟨r9, h9, hq⟩ := bd_t hq
    obtain ⟨-, hq⟩ := ck_t hq
    obtain ⟨-, hq⟩ := ck_t hq
    obtain ⟨-, hq⟩ := ck_t hq
    obtain ⟨-, hq⟩ := ck_t hq
    obtain ⟨-, hq⟩ := ck_t hq
    obtain ⟨-, hq⟩ := ck_t hq
    obtain ⟨-, hq⟩ := ck_t hq
    obtain ⟨r21, h21, hq⟩ := bd_t hq
    obtain rfl := Option.some.inj hq
    refine pi_act hI _ _ _ _ _ _ _ _ _ ?_ (rec_PI hn hpas h9 hI.1 hI.2.2)
    dsimp only
    rw [tn (by omega), tn (by omega), t62, z_one (by omega)]
    obtain ⟨x, ex, hx⟩ := PA_x hI.1 hb
    obtain ⟨d1, d2, -⟩ := hd t (by omega)
    refine PA_due (c := 1) (x := x) (m := D t ||| 2 ^ p) hI.1 hk h24 ht (Nat.or_lt_two_pow d1 (Nat.pow_lt_pow_right (by decide) hp)) d1 d2 (pc_set _ p hp) (by omega) ex (by omega) hb (by omega) ?_ ?_ ?_ ?_
    · rw [pk_un (by omega), pk_un (by omega), pk_un (by omega)]
    · rw [pk_us, pk_un (by omega), pk_un (by omega), ex]; exact nI_add x 1
    · rw [pk_un (by omega), pk_us, pk_un (by omega), d2, fa_or]
    · intro u hu hne
      rw [pk_un (by omega), pk_un (by omega), pk_un (by omega)]
  · rw [if_neg c3] at hq; obtain rfl := Option.some.inj hq; exact pi_non hI _ _ _ _ _ _ _ _ _
theorem pi_forge {rqa r1qa r2qa r3qa : Nat} {ft fu fh fd fb kft kfu kfh kfd kfb xfc xft rft rfu rfh rfd rfb r1ft r1fu r1fh r1fd r1fb r2ft r2fu r2fh r2fd r2fb r3ft r3fu r3fh r3fd r3fb : Nat → Int32} {isk sold stk pun fra tur ksold kstk kpun kfra ktur hnx hsz xlen xidx xknd xawt xnum xcam xfst xlst rsold rstk rpun rfra rtur r1sold r1stk r1pun r1fra r1tur r2sold r2stk r2pun r2fra r2tur r3sold r3stk r3pun r3fra r3tur : Int32} {fr : Nat → Option Nat} {k : Nat} {M M' : MT} {r : Int32} {a1 : Int32} {a2 : Int32} {a3 : Int32} (hR : RR rqa r1qa r2qa r3qa isk sold stk pun fra tur ft fu fh fd fb ksold kstk kpun kfra ktur kft kfu kfh kfd kfb hnx hsz fr xlen xidx xknd xawt xnum xcam xfst xlst xfc xft rsold rstk rpun rfra rtur rft rfu rfh rfd rfb r1sold r1stk r1pun r1fra r1tur r1ft r1fu r1fh r1fd r1fb r2sold r2stk r2pun r2fra r2tur r2ft r2fu r2fh r2fd r2fb r3sold r3stk r3pun r3fra r3tur r3ft r3fu r3fh r3fd r3fb M.1 M.2.1 M.2.2.1 M.2.2.2.1 M.2.2.2.2.1 M.2.2.2.2.2.1 M.2.2.2.2.2.2.1 M.2.2.2.2.2.2.2.1 M.2.2.2.2.2.2.2.2.1 M.2.2.2.2.2.2.2.2.2.1 M.2.2.2.2.2.2.2.2.2.2.1 M.2.2.2.2.2.2.2.2.2.2.2.1 M.2.2.2.2.2.2.2.2.2.2.2.2.1 M.2.2.2.2.2.2.2.2.2.2.2.2.2) (hI : PI k M) (hb : k < 10000000) (h : k_forge a1 a2 a3 M = some (r, M')) : PI (k + 1) M' := by
  obtain ⟨hS, -, hH, -⟩ := hR
  obtain ⟨n, hn, hpas⟩ := Hs_n hH
  obtain ⟨σ, k0, H, D, ms, hP, hf, -, ⟨hk, h24, -⟩, hh, hd, hm, h49, -⟩ := Rd_of hS
  rw [k_forge, Option.map_eq_some_iff] at h
  obtain ⟨q, hq, he⟩ := h
  cases he
  unfold F_X5_forge at hq
  obtain ⟨r1, h1, hq⟩ := bd_t hq
  by_cases c1 : r1 = 0
  · rw [if_pos c1] at hq; obtain rfl := Option.some.inj hq; exact pi_non hI _ _ _ _ _ _ _ _ _
  rw [if_neg c1] at hq
  obtain ⟨t, ht, rfl⟩ := tkM hk h24 h1 c1
  obtain ⟨r2, h2, hq⟩ := bd_t hq
  by_cases c2 : r2 = 0
  · rw [if_pos c2] at hq; obtain rfl := Option.some.inj hq; exact pi_non hI _ _ _ _ _ _ _ _ _
  rw [if_neg c2] at hq
  obtain ⟨p, hp, rfl⟩ := plM h2 c2
  rw [l25] at hq
  obtain ⟨-, hq⟩ := ck_t hq
  by_cases c3 : (M.2.2.2.2.2.2.2.2.2.1 (Int32.toNatClampNeg (nI (25 + t))) >>> (nI p &&& 31)) &&& 1 = 1
  · rw [if_pos c3] at hq
    by_cases c4 : (1 : Int32) = a3
    · rw [if_pos c4] at hq; obtain rfl := Option.some.inj hq; exact pi_non hI _ _ _ _ _ _ _ _ _
    rw [if_neg c4] at hq
    obtain ⟨r8, h8, hq⟩ := bd_t hq
    obtain ⟨-, hq⟩ := ck_t hq
    dsimp only [nmd] at hq
    obtain ⟨-, hq⟩ := ck_t hq
    obtain ⟨-, hq⟩ := ck_t hq
    obtain ⟨-, hq⟩ := ck_t hq
    obtain ⟨r15, h15, hq⟩ := bd_t hq
    have fin : PI (k + 1) (r8.1, M.2.1, M.2.2.1, M.2.2.2.1, M.2.2.2.2.1, M.2.2.2.2.2.1, M.2.2.2.2.2.2.1, M.2.2.2.2.2.2.2.1, M.2.2.2.2.2.2.2.2.1, upd (upd M.2.2.2.2.2.2.2.2.2.1 (Int32.toNatClampNeg (nI (25 + t))) (M.2.2.2.2.2.2.2.2.2.1 (Int32.toNatClampNeg (nI (25 + t))) ^^^ (1 : Int32) <<< (nI p &&& 31))) (Int32.toNatClampNeg (63 : Int32)) (upd M.2.2.2.2.2.2.2.2.2.1 (Int32.toNatClampNeg (nI (25 + t))) (M.2.2.2.2.2.2.2.2.2.1 (Int32.toNatClampNeg (nI (25 + t))) ^^^ (1 : Int32) <<< (nI p &&& 31)) (Int32.toNatClampNeg (63 : Int32)) + 1), r8.2, M.2.2.2.2.2.2.2.2.2.2.2.1, M.2.2.2.2.2.2.2.2.2.2.2.2.1, M.2.2.2.2.2.2.2.2.2.2.2.2.2) := by
      refine pi_act hI _ _ _ _ _ _ _ _ _ (PA_same hI.1 (fun j hj => ?_)) (rec_PI hn hpas h8 hI.1 hI.2.2)
      rw [tn (by omega), t63, pk_un (by omega), pk_un (by omega)]
    by_cases c5 : r15 = 0
    · rw [if_pos c5] at hq; obtain rfl := Option.some.inj hq; exact fin
    · rw [if_neg c5] at hq; obtain rfl := Option.some.inj hq; exact fin
  · rw [if_neg c3] at hq
    by_cases c4 : (0 : Int32) = a3
    · rw [if_pos c4] at hq; obtain rfl := Option.some.inj hq; exact pi_non hI _ _ _ _ _ _ _ _ _
    rw [if_neg c4] at hq
    obtain ⟨r8, h8, hq⟩ := bd_t hq
    obtain ⟨-, hq⟩ := ck_t hq
    dsimp only [nmd] at hq
    obtain ⟨-, hq⟩ := ck_t hq
    obtain ⟨-, hq⟩ := ck_t hq
    obtain ⟨-, hq⟩ := ck_t hq
    obtain ⟨r15, h15, hq⟩ := bd_t hq
    have fin : PI (k + 1) (r8.1, M.2.1, M.2.2.1, M.2.2.2.1, M.2.2.2.2.1, M.2.2.2.2.2.1, M.2.2.2.2.2.2.1, M.2.2.2.2.2.2.2.1, M.2.2.2.2.2.2.2.2.1, upd (upd M.2.2.2.2.2.2.2.2.2.1 (Int32.toNatClampNeg (nI (25 + t))) (M.2.2.2.2.2.2.2.2.2.1 (Int32.toNatClampNeg (nI (25 + t))) ^^^ (1 : Int32) <<< (nI p &&& 31))) (Int32.toNatClampNeg (63 : Int32)) (upd M.2.2.2.2.2.2.2.2.2.1 (Int32.toNatClampNeg (nI (25 + t))) (M.2.2.2.2.2.2.2.2.2.1 (Int32.toNatClampNeg (nI (25 + t))) ^^^ (1 : Int32) <<< (nI p &&& 31)) (Int32.toNatClampNeg (63 : Int32)) + 1), r8.2, M.2.2.2.2.2.2.2.2.2.2.2.1, M.2.2.2.2.2.2.2.2.2.2.2.2.1, M.2.2.2.2.2.2.2.2.2.2.2.2.2) := by
      refine pi_act hI _ _ _ _ _ _ _ _ _ (PA_same hI.1 (fun j hj => ?_)) (rec_PI hn hpas h8 hI.1 hI.2.2)
      rw [tn (by omega), t63, pk_un (by omega), pk_un (by omega)]
    by_cases c5 : r15 = 0
    · rw [if_pos c5] at hq; obtain rfl := Option.some.inj hq; exact fin
    · rw [if_neg c5] at hq; obtain rfl := Option.some.inj hq; exact fin
theorem pi_mend {rqa r1qa r2qa r3qa : Nat} {ft fu fh fd fb kft kfu kfh kfd kfb xfc xft rft rfu rfh rfd rfb r1ft r1fu r1fh r1fd r1fb r2ft r2fu r2fh r2fd r2fb r3ft r3fu r3fh r3fd r3fb : Nat → Int32} {isk sold stk pun fra tur ksold kstk kpun kfra ktur hnx hsz xlen xidx xknd xawt xnum xcam xfst xlst rsold rstk rpun rfra rtur r1sold r1stk r1pun r1fra r1tur r2sold r2stk r2pun r2fra r2tur r3sold r3stk r3pun r3fra r3tur : Int32} {fr : Nat → Option Nat} {k : Nat} {M M' : MT} {r : Int32} {a1 : Int32} (hR : RR rqa r1qa r2qa r3qa isk sold stk pun fra tur ft fu fh fd fb ksold kstk kpun kfra ktur kft kfu kfh kfd kfb hnx hsz fr xlen xidx xknd xawt xnum xcam xfst xlst xfc xft rsold rstk rpun rfra rtur rft rfu rfh rfd rfb r1sold r1stk r1pun r1fra r1tur r1ft r1fu r1fh r1fd r1fb r2sold r2stk r2pun r2fra r2tur r2ft r2fu r2fh r2fd r2fb r3sold r3stk r3pun r3fra r3tur r3ft r3fu r3fh r3fd r3fb M.1 M.2.1 M.2.2.1 M.2.2.2.1 M.2.2.2.2.1 M.2.2.2.2.2.1 M.2.2.2.2.2.2.1 M.2.2.2.2.2.2.2.1 M.2.2.2.2.2.2.2.2.1 M.2.2.2.2.2.2.2.2.2.1 M.2.2.2.2.2.2.2.2.2.2.1 M.2.2.2.2.2.2.2.2.2.2.2.1 M.2.2.2.2.2.2.2.2.2.2.2.2.1 M.2.2.2.2.2.2.2.2.2.2.2.2.2) (hI : PI k M) (hb : k < 10000000) (h : k_mend a1 M = some (r, M')) : PI (k + 1) M' := by
  obtain ⟨hS, -, hH, -⟩ := hR
  obtain ⟨n, hn, hpas⟩ := Hs_n hH
  obtain ⟨σ, k0, H, D, ms, hP, hf, -, ⟨hk, h24, -⟩, hh, hd, hm, h49, -⟩ := Rd_of hS
  rw [k_mend, Option.map_eq_some_iff] at h
  obtain ⟨q, hq, he⟩ := h
  cases he
  unfold F_X5_mend at hq
  obtain ⟨r1, h1, hq⟩ := bd_t hq
  by_cases c1 : r1 = 0
  · rw [if_pos c1] at hq; obtain rfl := Option.some.inj hq; exact pi_non hI _ _ _ _ _ _ _ _ _
  rw [if_neg c1] at hq
  obtain ⟨t, ht, rfl⟩ := tkM hk h24 h1 c1
  obtain ⟨r2, h2, hq⟩ := bd_t hq
  by_cases c2 : r2 = 0
  · rw [if_pos c2] at hq; obtain rfl := Option.some.inj hq; exact pi_non hI _ _ _ _ _ _ _ _ _
  rw [if_neg c2] at hq
  obtain ⟨r8, h8, hq⟩ := bd_t hq
  rw [l25, l37] at hq
  obtain ⟨-, hq⟩ := ck_t hq
  obtain ⟨-, hq⟩ := ck_t hq
  dsimp only [nmd] at hq
  obtain ⟨r9, h9, hq⟩ := bd_t hq
  obtain ⟨-, hq⟩ := ck_t hq
  obtain ⟨-, hq⟩ := ck_t hq
  obtain rfl := Option.some.inj hq
  refine pi_act hI _ _ _ _ _ _ _ _ _ (PA_same hI.1 (fun j hj => ?_)) (rec_PI hn hpas h8 hI.1 hI.2.2)
  dsimp only
  rw [tn (by omega), pk_un (by omega)]
theorem pi_turn {rqa r1qa r2qa r3qa : Nat} {ft fu fh fd fb kft kfu kfh kfd kfb xfc xft rft rfu rfh rfd rfb r1ft r1fu r1fh r1fd r1fb r2ft r2fu r2fh r2fd r2fb r3ft r3fu r3fh r3fd r3fb : Nat → Int32} {isk sold stk pun fra tur ksold kstk kpun kfra ktur hnx hsz xlen xidx xknd xawt xnum xcam xfst xlst rsold rstk rpun rfra rtur r1sold r1stk r1pun r1fra r1tur r2sold r2stk r2pun r2fra r2tur r3sold r3stk r3pun r3fra r3tur : Int32} {fr : Nat → Option Nat} {k : Nat} {M M' : MT} {r : Int32} {a1 : Int32} {a2 : Int32} (hR : RR rqa r1qa r2qa r3qa isk sold stk pun fra tur ft fu fh fd fb ksold kstk kpun kfra ktur kft kfu kfh kfd kfb hnx hsz fr xlen xidx xknd xawt xnum xcam xfst xlst xfc xft rsold rstk rpun rfra rtur rft rfu rfh rfd rfb r1sold r1stk r1pun r1fra r1tur r1ft r1fu r1fh r1fd r1fb r2sold r2stk r2pun r2fra r2tur r2ft r2fu r2fh r2fd r2fb r3sold r3stk r3pun r3fra r3tur r3ft r3fu r3fh r3fd r3fb M.1 M.2.1 M.2.2.1 M.2.2.2.1 M.2.2.2.2.1 M.2.2.2.2.2.1 M.2.2.2.2.2.2.1 M.2.2.2.2.2.2.2.1 M.2.2.2.2.2.2.2.2.1 M.2.2.2.2.2.2.2.2.2.1 M.2.2.2.2.2.2.2.2.2.2.1 M.2.2.2.2.2.2.2.2.2.2.2.1 M.2.2.2.2.2.2.2.2.2.2.2.2.1 M.2.2.2.2.2.2.2.2.2.2.2.2.2) (hI : PI k M) (hb : k < 10000000) (h : k_turn a1 a2 M = some (r, M')) : PI (k + 1) M' := by
  obtain ⟨hS, -, hH, -⟩ := hR
  obtain ⟨n, hn, hpas⟩ := Hs_n hH
  obtain ⟨σ, k0, H, D, ms, hP, hf, -, ⟨hk, h24, -⟩, hh, hd, hm, h49, -⟩ := Rd_of hS
  rw [k_turn, Option.map_eq_some_iff] at h
  obtain ⟨q, hq, he⟩ := h
  cases he
  unfold F_X5_turn at hq
  obtain ⟨r1, h1, hq⟩ := bd_t hq
  by_cases c1 : r1 = 0
  · rw [if_pos c1] at hq; obtain rfl := Option.some.inj hq; exact pi_non hI _ _ _ _ _ _ _ _ _
  rw [if_neg c1] at hq
  obtain ⟨t, ht, rfl⟩ := tkM hk h24 h1 c1
  obtain ⟨r2, h2, hq⟩ := bd_t hq
  by_cases c2 : r2 = 0
  · rw [if_pos c2] at hq; obtain rfl := Option.some.inj hq; exact pi_non hI _ _ _ _ _ _ _ _ _
  rw [if_neg c2] at hq
  obtain ⟨b1, b2⟩ := pwM h2 c2
  obtain ⟨r3, h3, hq⟩ := bd_t hq
  by_cases c3 : r3 = 0
  · rw [if_pos c3] at hq; obtain rfl := Option.some.inj hq; exact pi_non hI _ _ _ _ _ _ _ _ _
  rw [if_neg c3] at hq
  obtain ⟨r7, h7, hq⟩ := bd_t hq
  obtain ⟨r8, h8, hq⟩ := bd_t hq
  obtain ⟨-, hq⟩ := ck_t hq
  obtain rfl := Option.some.inj hq
  refine pi_act hI _ _ _ _ _ _ _ _ _ ?_ (rec_PI hn hpas h7 hI.1 hI.2.2)
  dsimp only
  exact PA_mono (Nat.le_succ k) (turns_PA hI.1 hb hP hf hk h24 ht (hh t (by omega)).1 (hd t (by omega)).1 (hh t (by omega)).2.1 (hd t (by omega)).2.1 b1 b2 h8)
theorem pi_stack {rqa r1qa r2qa r3qa : Nat} {ft fu fh fd fb kft kfu kfh kfd kfb xfc xft rft rfu rfh rfd rfb r1ft r1fu r1fh r1fd r1fb r2ft r2fu r2fh r2fd r2fb r3ft r3fu r3fh r3fd r3fb : Nat → Int32} {isk sold stk pun fra tur ksold kstk kpun kfra ktur hnx hsz xlen xidx xknd xawt xnum xcam xfst xlst rsold rstk rpun rfra rtur r1sold r1stk r1pun r1fra r1tur r2sold r2stk r2pun r2fra r2tur r3sold r3stk r3pun r3fra r3tur : Int32} {fr : Nat → Option Nat} {k : Nat} {M M' : MT} {r : Int32} {a1 : Int32} {a2 : Int32} (hR : RR rqa r1qa r2qa r3qa isk sold stk pun fra tur ft fu fh fd fb ksold kstk kpun kfra ktur kft kfu kfh kfd kfb hnx hsz fr xlen xidx xknd xawt xnum xcam xfst xlst xfc xft rsold rstk rpun rfra rtur rft rfu rfh rfd rfb r1sold r1stk r1pun r1fra r1tur r1ft r1fu r1fh r1fd r1fb r2sold r2stk r2pun r2fra r2tur r2ft r2fu r2fh r2fd r2fb r3sold r3stk r3pun r3fra r3tur r3ft r3fu r3fh r3fd r3fb M.1 M.2.1 M.2.2.1 M.2.2.2.1 M.2.2.2.2.1 M.2.2.2.2.2.1 M.2.2.2.2.2.2.1 M.2.2.2.2.2.2.2.1 M.2.2.2.2.2.2.2.2.1 M.2.2.2.2.2.2.2.2.2.1 M.2.2.2.2.2.2.2.2.2.2.1 M.2.2.2.2.2.2.2.2.2.2.2.1 M.2.2.2.2.2.2.2.2.2.2.2.2.1 M.2.2.2.2.2.2.2.2.2.2.2.2.2) (hI : PI k M) (hb : k < 10000000) (h : k_stack a1 a2 M = some (r, M')) : PI (k + 1) M' := by
  obtain ⟨hS, -, hH, -⟩ := hR
  obtain ⟨n, hn, hpas⟩ := Hs_n hH
  obtain ⟨σ, k0, H, D, ms, hP, hf, -, ⟨hk, h24, -⟩, hh, hd, hm, h49, -⟩ := Rd_of hS
  rw [k_stack, Option.map_eq_some_iff] at h
  obtain ⟨q, hq, he⟩ := h
  cases he
  unfold F_X5_stack at hq
  obtain ⟨r1, h1, hq⟩ := bd_t hq
  by_cases c1 : r1 = 0
  · rw [if_pos c1] at hq; obtain rfl := Option.some.inj hq; exact pi_non hI _ _ _ _ _ _ _ _ _
  rw [if_neg c1] at hq
  obtain ⟨t, ht, rfl⟩ := tkM hk h24 h1 c1
  obtain ⟨r2, h2, hq⟩ := bd_t hq
  by_cases c2 : r2 = a2
  · rw [if_pos c2] at hq; obtain rfl := Option.some.inj hq; exact pi_non hI _ _ _ _ _ _ _ _ _
  rw [if_neg c2] at hq
  obtain ⟨r8, h8, hq⟩ := bd_t hq
  obtain ⟨-, hq⟩ := ck_t hq
  dsimp only [nmd] at hq
  obtain ⟨-, hq⟩ := ck_t hq
  obtain ⟨-, hq⟩ := ck_t hq
  obtain ⟨r11, h11, hq⟩ := bd_t hq
  obtain rfl := Option.some.inj hq
  refine pi_act hI _ _ _ _ _ _ _ _ _ (PA_same hI.1 (fun j hj => ?_)) (rec_PI hn hpas h8 hI.1 hI.2.2)
  dsimp only
  rw [t49, pk_un (by omega)]
theorem pi_turnStack {rqa r1qa r2qa r3qa : Nat} {ft fu fh fd fb kft kfu kfh kfd kfb xfc xft rft rfu rfh rfd rfb r1ft r1fu r1fh r1fd r1fb r2ft r2fu r2fh r2fd r2fb r3ft r3fu r3fh r3fd r3fb : Nat → Int32} {isk sold stk pun fra tur ksold kstk kpun kfra ktur hnx hsz xlen xidx xknd xawt xnum xcam xfst xlst rsold rstk rpun rfra rtur r1sold r1stk r1pun r1fra r1tur r2sold r2stk r2pun r2fra r2tur r3sold r3stk r3pun r3fra r3tur : Int32} {fr : Nat → Option Nat} {k : Nat} {M M' : MT} {r : Int32} {a1 : Int32} (hR : RR rqa r1qa r2qa r3qa isk sold stk pun fra tur ft fu fh fd fb ksold kstk kpun kfra ktur kft kfu kfh kfd kfb hnx hsz fr xlen xidx xknd xawt xnum xcam xfst xlst xfc xft rsold rstk rpun rfra rtur rft rfu rfh rfd rfb r1sold r1stk r1pun r1fra r1tur r1ft r1fu r1fh r1fd r1fb r2sold r2stk r2pun r2fra r2tur r2ft r2fu r2fh r2fd r2fb r3sold r3stk r3pun r3fra r3tur r3ft r3fu r3fh r3fd r3fb M.1 M.2.1 M.2.2.1 M.2.2.2.1 M.2.2.2.2.1 M.2.2.2.2.2.1 M.2.2.2.2.2.2.1 M.2.2.2.2.2.2.2.1 M.2.2.2.2.2.2.2.2.1 M.2.2.2.2.2.2.2.2.2.1 M.2.2.2.2.2.2.2.2.2.2.1 M.2.2.2.2.2.2.2.2.2.2.2.1 M.2.2.2.2.2.2.2.2.2.2.2.2.1 M.2.2.2.2.2.2.2.2.2.2.2.2.2) (hI : PI k M) (hb : k < 10000000) (h : k_turnStack a1 M = some (r, M')) : PI (k + 1) M' := by
  obtain ⟨hS, -, hH, -⟩ := hR
  obtain ⟨n, hn, hpas⟩ := Hs_n hH
  obtain ⟨σ, k0, H, D, ms, hP, hf, -, ⟨hk, h24, -⟩, hh, hd, hm, h49, -⟩ := Rd_of hS
  rw [k_turnStack, Option.map_eq_some_iff] at h
  obtain ⟨q, hq, he⟩ := h
  cases he
  unfold F_X5_turnStack at hq
  obtain ⟨r2, h2, hq⟩ := bd_t hq
  by_cases c2 : r2 = 0
  · rw [if_pos c2] at hq; obtain rfl := Option.some.inj hq; exact pi_non hI _ _ _ _ _ _ _ _ _
  rw [if_neg c2] at hq
  obtain ⟨b1, b2⟩ := pwM h2 c2
  obtain ⟨-, hq⟩ := ck_t hq
  by_cases c4 : M.2.2.2.2.2.2.2.2.2.1 (Int32.toNatClampNeg (49 : Int32)) = 0
  · rw [if_pos c4] at hq; obtain rfl := Option.some.inj hq; exact pi_non hI _ _ _ _ _ _ _ _ _
  rw [if_neg c4] at hq
  obtain ⟨r3, h3, hq⟩ := bd_t hq
  by_cases c3 : r3 = 0
  · rw [if_pos c3] at hq; obtain rfl := Option.some.inj hq; exact pi_non hI _ _ _ _ _ _ _ _ _
  rw [if_neg c3] at hq
  obtain ⟨r7, h7, hq⟩ := bd_t hq
  obtain ⟨A', e0, e1, e2, e3, e4, e5, e6, e7, e8⟩ := tsM_lp (pas := r7.1) (fp := r7.2) hP hk hm b1 b2 10000 0 M.2.2.2.2.2.2.2.2.2.1 H D (Nat.zero_le _) (by omega) hf h24 h49 (fun u hu => ⟨(hh u hu).1, (hh u hu).2.1⟩) (fun u hu => ⟨(hd u hu).1, (hd u hu).2.1⟩)
  have hq2 := e0.symm.trans hq
  cases hq2
  refine pi_act hI _ _ _ _ _ _ _ _ _ ?_ (rec_PI hn hpas h7 hI.1 hI.2.2)
  exact PA_mono (Nat.le_succ k) (ts_PA hP hI.1 hk h24 (fun u hu => ⟨(hd u hu).1, (hd u hu).2.1⟩) (e1 24 (by omega)) e3 e6)
theorem pi_type {rqa r1qa r2qa r3qa : Nat} {ft fu fh fd fb kft kfu kfh kfd kfb xfc xft rft rfu rfh rfd rfb r1ft r1fu r1fh r1fd r1fb r2ft r2fu r2fh r2fd r2fb r3ft r3fu r3fh r3fd r3fb : Nat → Int32} {isk sold stk pun fra tur ksold kstk kpun kfra ktur hnx hsz xlen xidx xknd xawt xnum xcam xfst xlst rsold rstk rpun rfra rtur r1sold r1stk r1pun r1fra r1tur r2sold r2stk r2pun r2fra r2tur r3sold r3stk r3pun r3fra r3tur : Int32} {fr : Nat → Option Nat} {k : Nat} {M M' : MT} {r : Int32} {a1 : Int32} (hR : RR rqa r1qa r2qa r3qa isk sold stk pun fra tur ft fu fh fd fb ksold kstk kpun kfra ktur kft kfu kfh kfd kfb hnx hsz fr xlen xidx xknd xawt xnum xcam xfst xlst xfc xft rsold rstk rpun rfra rtur rft rfu rfh rfd rfb r1sold r1stk r1pun r1fra r1tur r1ft r1fu r1fh r1fd r1fb r2sold r2stk r2pun r2fra r2tur r2ft r2fu r2fh r2fd r2fb r3sold r3stk r3pun r3fra r3tur r3ft r3fu r3fh r3fd r3fb M.1 M.2.1 M.2.2.1 M.2.2.2.1 M.2.2.2.2.1 M.2.2.2.2.2.1 M.2.2.2.2.2.2.1 M.2.2.2.2.2.2.2.1 M.2.2.2.2.2.2.2.2.1 M.2.2.2.2.2.2.2.2.2.1 M.2.2.2.2.2.2.2.2.2.2.1 M.2.2.2.2.2.2.2.2.2.2.2.1 M.2.2.2.2.2.2.2.2.2.2.2.2.1 M.2.2.2.2.2.2.2.2.2.2.2.2.2) (hI : PI k M) (hb : k < 10000000) (h : k_type a1 M = some (r, M')) : PI (k + 1) M' := by
  obtain ⟨hS, -, hH, -⟩ := hR
  obtain ⟨n, hn, hpas⟩ := Hs_n hH
  obtain ⟨σ, k0, H, D, ms, hP, hf, -, ⟨hk, h24, -⟩, hh, hd, hm, h49, -⟩ := Rd_of hS
  rw [k_type, Option.map_eq_some_iff] at h
  obtain ⟨q, hq, he⟩ := h
  cases he
  exact pi_non hI _ _ _ _ _ _ _ _ _
theorem pi_clearText {rqa r1qa r2qa r3qa : Nat} {ft fu fh fd fb kft kfu kfh kfd kfb xfc xft rft rfu rfh rfd rfb r1ft r1fu r1fh r1fd r1fb r2ft r2fu r2fh r2fd r2fb r3ft r3fu r3fh r3fd r3fb : Nat → Int32} {isk sold stk pun fra tur ksold kstk kpun kfra ktur hnx hsz xlen xidx xknd xawt xnum xcam xfst xlst rsold rstk rpun rfra rtur r1sold r1stk r1pun r1fra r1tur r2sold r2stk r2pun r2fra r2tur r3sold r3stk r3pun r3fra r3tur : Int32} {fr : Nat → Option Nat} {k : Nat} {M M' : MT} {r : Int32} (hR : RR rqa r1qa r2qa r3qa isk sold stk pun fra tur ft fu fh fd fb ksold kstk kpun kfra ktur kft kfu kfh kfd kfb hnx hsz fr xlen xidx xknd xawt xnum xcam xfst xlst xfc xft rsold rstk rpun rfra rtur rft rfu rfh rfd rfb r1sold r1stk r1pun r1fra r1tur r1ft r1fu r1fh r1fd r1fb r2sold r2stk r2pun r2fra r2tur r2ft r2fu r2fh r2fd r2fb r3sold r3stk r3pun r3fra r3tur r3ft r3fu r3fh r3fd r3fb M.1 M.2.1 M.2.2.1 M.2.2.2.1 M.2.2.2.2.1 M.2.2.2.2.2.1 M.2.2.2.2.2.2.1 M.2.2.2.2.2.2.2.1 M.2.2.2.2.2.2.2.2.1 M.2.2.2.2.2.2.2.2.2.1 M.2.2.2.2.2.2.2.2.2.2.1 M.2.2.2.2.2.2.2.2.2.2.2.1 M.2.2.2.2.2.2.2.2.2.2.2.2.1 M.2.2.2.2.2.2.2.2.2.2.2.2.2) (hI : PI k M) (hb : k < 10000000) (h : k_clearText M = some (r, M')) : PI (k + 1) M' := by
  obtain ⟨hS, -, hH, -⟩ := hR
  obtain ⟨n, hn, hpas⟩ := Hs_n hH
  obtain ⟨σ, k0, H, D, ms, hP, hf, -, ⟨hk, h24, -⟩, hh, hd, hm, h49, -⟩ := Rd_of hS
  rw [k_clearText, Option.map_eq_some_iff] at h
  obtain ⟨q, hq, he⟩ := h
  cases he
  exact pi_non hI _ _ _ _ _ _ _ _ _
theorem pi_fault {rqa r1qa r2qa r3qa : Nat} {ft fu fh fd fb kft kfu kfh kfd kfb xfc xft rft rfu rfh rfd rfb r1ft r1fu r1fh r1fd r1fb r2ft r2fu r2fh r2fd r2fb r3ft r3fu r3fh r3fd r3fb : Nat → Int32} {isk sold stk pun fra tur ksold kstk kpun kfra ktur hnx hsz xlen xidx xknd xawt xnum xcam xfst xlst rsold rstk rpun rfra rtur r1sold r1stk r1pun r1fra r1tur r2sold r2stk r2pun r2fra r2tur r3sold r3stk r3pun r3fra r3tur : Int32} {fr : Nat → Option Nat} {k : Nat} {M M' : MT} {r : Int32} {a1 : Int32} (hR : RR rqa r1qa r2qa r3qa isk sold stk pun fra tur ft fu fh fd fb ksold kstk kpun kfra ktur kft kfu kfh kfd kfb hnx hsz fr xlen xidx xknd xawt xnum xcam xfst xlst xfc xft rsold rstk rpun rfra rtur rft rfu rfh rfd rfb r1sold r1stk r1pun r1fra r1tur r1ft r1fu r1fh r1fd r1fb r2sold r2stk r2pun r2fra r2tur r2ft r2fu r2fh r2fd r2fb r3sold r3stk r3pun r3fra r3tur r3ft r3fu r3fh r3fd r3fb M.1 M.2.1 M.2.2.1 M.2.2.2.1 M.2.2.2.2.1 M.2.2.2.2.2.1 M.2.2.2.2.2.2.1 M.2.2.2.2.2.2.2.1 M.2.2.2.2.2.2.2.2.1 M.2.2.2.2.2.2.2.2.2.1 M.2.2.2.2.2.2.2.2.2.2.1 M.2.2.2.2.2.2.2.2.2.2.2.1 M.2.2.2.2.2.2.2.2.2.2.2.2.1 M.2.2.2.2.2.2.2.2.2.2.2.2.2) (hI : PI k M) (hb : k < 10000000) (h : k_fault a1 M = some (r, M')) : PI (k + 1) M' := by
  obtain ⟨hS, -, hH, -⟩ := hR
  obtain ⟨n, hn, hpas⟩ := Hs_n hH
  obtain ⟨σ, k0, H, D, ms, hP, hf, -, ⟨hk, h24, -⟩, hh, hd, hm, h49, -⟩ := Rd_of hS
  rw [k_fault, Option.map_eq_some_iff] at h
  obtain ⟨q, hq, he⟩ := h
  cases he
  exact pi_non hI _ _ _ _ _ _ _ _ _
theorem pi_undo {rqa r1qa r2qa r3qa : Nat} {ft fu fh fd fb kft kfu kfh kfd kfb xfc xft rft rfu rfh rfd rfb r1ft r1fu r1fh r1fd r1fb r2ft r2fu r2fh r2fd r2fb r3ft r3fu r3fh r3fd r3fb : Nat → Int32} {isk sold stk pun fra tur ksold kstk kpun kfra ktur hnx hsz xlen xidx xknd xawt xnum xcam xfst xlst rsold rstk rpun rfra rtur r1sold r1stk r1pun r1fra r1tur r2sold r2stk r2pun r2fra r2tur r3sold r3stk r3pun r3fra r3tur : Int32} {fr : Nat → Option Nat} {k : Nat} {M M' : MT} {r : Int32} (hR : RR rqa r1qa r2qa r3qa isk sold stk pun fra tur ft fu fh fd fb ksold kstk kpun kfra ktur kft kfu kfh kfd kfb hnx hsz fr xlen xidx xknd xawt xnum xcam xfst xlst xfc xft rsold rstk rpun rfra rtur rft rfu rfh rfd rfb r1sold r1stk r1pun r1fra r1tur r1ft r1fu r1fh r1fd r1fb r2sold r2stk r2pun r2fra r2tur r2ft r2fu r2fh r2fd r2fb r3sold r3stk r3pun r3fra r3tur r3ft r3fu r3fh r3fd r3fb M.1 M.2.1 M.2.2.1 M.2.2.2.1 M.2.2.2.2.1 M.2.2.2.2.2.1 M.2.2.2.2.2.2.1 M.2.2.2.2.2.2.2.1 M.2.2.2.2.2.2.2.2.1 M.2.2.2.2.2.2.2.2.2.1 M.2.2.2.2.2.2.2.2.2.2.1 M.2.2.2.2.2.2.2.2.2.2.2.1 M.2.2.2.2.2.2.2.2.2.2.2.2.1 M.2.2.2.2.2.2.2.2.2.2.2.2.2) (hI : PI k M) (hb : k < 10000000) (h : k_undo M = some (r, M')) : PI (k + 1) M' := by
  obtain ⟨hS, -, hH, -⟩ := hR
  obtain ⟨n, hn, hpas⟩ := Hs_n hH
  obtain ⟨σ, k0, H, D, ms, hP, hf, -, ⟨hk, h24, -⟩, hh, hd, hm, h49, -⟩ := Rd_of hS
  rw [k_undo, Option.map_eq_some_iff] at h
  obtain ⟨q, hq, he⟩ := h
  cases he
  unfold F_X5_undo at hq
  by_cases c1 : M.1 = 0
  · rw [if_pos c1] at hq; obtain rfl := Option.some.inj hq; exact pi_non hI _ _ _ _ _ _ _ _ _
  rw [if_neg c1] at hq
  have hn1 : 1 ≤ n := by
    rcases Nat.eq_zero_or_pos n with g | g
    · exact absurd (by rw [hpas, g]; rfl) c1
    · exact g
  rw [hpas, m1 hn1 (by omega)] at hq
  have e := undo_lp M.2.2.2.2.2.2.2.2.2.1 M.2.2.2.2.2.2.2.2.2.2.1 (m := n - 1) (by omega) 10000 0 (Nat.zero_le _) (by omega)
  rw [fb_put_0] at e
  have hq2 := e.symm.trans hq
  cases hq2
  refine pi_act hI _ _ _ _ _ _ _ _ _ (PA_mono (Nat.le_succ k) (PA_ext (put65 _ _) (hI.2.2 n hn hpas (n - 1) (by omega)))) (fun n2 h4 e2 j hj => ?_)
  have : n - 1 = n2 := (nI_eq (by omega) (by omega)).mp e2
  exact hI.2.2 n hn hpas j (by omega)
theorem pi_keep {rqa r1qa r2qa r3qa : Nat} {ft fu fh fd fb kft kfu kfh kfd kfb xfc xft rft rfu rfh rfd rfb r1ft r1fu r1fh r1fd r1fb r2ft r2fu r2fh r2fd r2fb r3ft r3fu r3fh r3fd r3fb : Nat → Int32} {isk sold stk pun fra tur ksold kstk kpun kfra ktur hnx hsz xlen xidx xknd xawt xnum xcam xfst xlst rsold rstk rpun rfra rtur r1sold r1stk r1pun r1fra r1tur r2sold r2stk r2pun r2fra r2tur r3sold r3stk r3pun r3fra r3tur : Int32} {fr : Nat → Option Nat} {k : Nat} {M M' : MT} {r : Int32} (hR : RR rqa r1qa r2qa r3qa isk sold stk pun fra tur ft fu fh fd fb ksold kstk kpun kfra ktur kft kfu kfh kfd kfb hnx hsz fr xlen xidx xknd xawt xnum xcam xfst xlst xfc xft rsold rstk rpun rfra rtur rft rfu rfh rfd rfb r1sold r1stk r1pun r1fra r1tur r1ft r1fu r1fh r1fd r1fb r2sold r2stk r2pun r2fra r2tur r2ft r2fu r2fh r2fd r2fb r3sold r3stk r3pun r3fra r3tur r3ft r3fu r3fh r3fd r3fb M.1 M.2.1 M.2.2.1 M.2.2.2.1 M.2.2.2.2.1 M.2.2.2.2.2.1 M.2.2.2.2.2.2.1 M.2.2.2.2.2.2.2.1 M.2.2.2.2.2.2.2.2.1 M.2.2.2.2.2.2.2.2.2.1 M.2.2.2.2.2.2.2.2.2.2.1 M.2.2.2.2.2.2.2.2.2.2.2.1 M.2.2.2.2.2.2.2.2.2.2.2.2.1 M.2.2.2.2.2.2.2.2.2.2.2.2.2) (hI : PI k M) (hb : k < 10000000) (h : k_keep M = some (r, M')) : PI (k + 1) M' := by
  obtain ⟨hS, -, hH, -⟩ := hR
  obtain ⟨n, hn, hpas⟩ := Hs_n hH
  obtain ⟨σ, k0, H, D, ms, hP, hf, -, ⟨hk, h24, -⟩, hh, hd, hm, h49, -⟩ := Rd_of hS
  rw [k_keep, Option.map_eq_some_iff] at h
  obtain ⟨q, hq, he⟩ := h
  cases he
  unfold F_X5_keep at hq
  have e := keep_lp M.2.2.2.2.2.2.2.2.2.1 M.2.2.2.2.2.2.2.2.2.2.2.1 M.2.1 10000 0 (Nat.zero_le _) (by omega)
  rw [fb_put_0] at e
  have hq2 := e.symm.trans hq
  cases hq2
  exact ⟨PA_mono (Nat.le_succ k) hI.1, fun _ => PA_mono (Nat.le_succ k) (PA_ext (put65 _ _) hI.1), fun n h1 h2 j hj => PA_mono (Nat.le_succ k) (hI.2.2 n h1 h2 j hj)⟩
theorem pi_restore {rqa r1qa r2qa r3qa : Nat} {ft fu fh fd fb kft kfu kfh kfd kfb xfc xft rft rfu rfh rfd rfb r1ft r1fu r1fh r1fd r1fb r2ft r2fu r2fh r2fd r2fb r3ft r3fu r3fh r3fd r3fb : Nat → Int32} {isk sold stk pun fra tur ksold kstk kpun kfra ktur hnx hsz xlen xidx xknd xawt xnum xcam xfst xlst rsold rstk rpun rfra rtur r1sold r1stk r1pun r1fra r1tur r2sold r2stk r2pun r2fra r2tur r3sold r3stk r3pun r3fra r3tur : Int32} {fr : Nat → Option Nat} {k : Nat} {M M' : MT} {r : Int32} (hR : RR rqa r1qa r2qa r3qa isk sold stk pun fra tur ft fu fh fd fb ksold kstk kpun kfra ktur kft kfu kfh kfd kfb hnx hsz fr xlen xidx xknd xawt xnum xcam xfst xlst xfc xft rsold rstk rpun rfra rtur rft rfu rfh rfd rfb r1sold r1stk r1pun r1fra r1tur r1ft r1fu r1fh r1fd r1fb r2sold r2stk r2pun r2fra r2tur r2ft r2fu r2fh r2fd r2fb r3sold r3stk r3pun r3fra r3tur r3ft r3fu r3fh r3fd r3fb M.1 M.2.1 M.2.2.1 M.2.2.2.1 M.2.2.2.2.1 M.2.2.2.2.2.1 M.2.2.2.2.2.2.1 M.2.2.2.2.2.2.2.1 M.2.2.2.2.2.2.2.2.1 M.2.2.2.2.2.2.2.2.2.1 M.2.2.2.2.2.2.2.2.2.2.1 M.2.2.2.2.2.2.2.2.2.2.2.1 M.2.2.2.2.2.2.2.2.2.2.2.2.1 M.2.2.2.2.2.2.2.2.2.2.2.2.2) (hI : PI k M) (hb : k < 10000000) (h : k_restore M = some (r, M')) : PI (k + 1) M' := by
  obtain ⟨hS, hK, hH, -⟩ := hR
  obtain ⟨n, hn, hpas⟩ := Hs_n hH
  obtain ⟨σ, k0, H, D, ms, hP, hf, -, ⟨hk, h24, -⟩, hh, hd, hm, h49, -⟩ := Rd_of hS
  rw [k_restore, Option.map_eq_some_iff] at h
  obtain ⟨q, hq, he⟩ := h
  cases he
  unfold F_X5_restore at hq
  by_cases c1 : M.2.1 = 0
  · rw [if_pos c1] at hq; obtain rfl := Option.some.inj hq; exact pi_non hI _ _ _ _ _ _ _ _ _
  rw [if_neg c1] at hq
  have hk1 : M.2.1 = 1 := by
    rcases hK with ⟨e, g | ⟨g, -⟩⟩
    · exact absurd (e.symm.trans g) c1
    · exact e.symm.trans g
  obtain ⟨r8, h8, hq⟩ := bd_t hq
  have e := rest_lp M.2.2.2.2.2.2.2.2.2.1 M.2.2.2.2.2.2.2.2.2.2.2.1 M.2.1 r8.1 r8.2 10000 0 (Nat.zero_le _) (by omega)
  rw [fb_put_0] at e
  have hq2 := e.symm.trans hq
  cases hq2
  exact pi_act hI _ _ _ _ _ _ _ _ _ (PA_mono (Nat.le_succ k) (PA_ext (put65 _ _) (hI.2.1 hk1))) (rec_PI hn hpas h8 hI.1 hI.2.2)
