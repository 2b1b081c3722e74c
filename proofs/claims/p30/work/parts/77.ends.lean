/-! the start, and the stack turned forth and back -/
theorem Obj.scratch {G : gG} {oqa c : Nat} {pas misk len a1 a2 a3 a4 a5 a6 b1 b2 b3 b4 b5 b6 : Int32} {fs fp fn fx g1 g2 : Nat → Int32} {L : List va_W} (h : Obj G oqa c (pas, misk, len, a1, a2, a3, a4, a5, a6, fs, fp, fn, fx, g1) L) : Obj G oqa c (pas, misk, len, b1, b2, b3, b4, b5, b6, fs, fp, fn, fx, g2) L := by
  obtain ⟨d, h1, h2, h3⟩ := h
  exact ⟨d, h1, h2, h3⟩
def MS (fs : Nat → Int32) (a b c d e f : Int32) (g : Nat → Int32) : MT := (0, 0, 0, a, b, c, d, e, f, fs, fun _ => 0, fun _ => 0, fun _ => 0, g)
theorem isMove0 (a b c d e f : Int32) (g : Nat → Int32) : ∃ g', F_X5_isMove 0 a b c d e f (fun _ => 0) g = some (0, 0, 1, 0, d, e, 0, g') := by
  obtain ⟨g1, e1, -⟩ := idM_lp (N := 0) (fx := fun _ => 0) a b c d e f 10000 0 g (Nat.zero_le _) (by omega) (fun j hj => absurd hj (Nat.not_lt_zero j))
  refine ⟨g1, ?_⟩
  have e2 : F_X5_isMove 0 a b c d e f (fun _ => 0) g = F_X5_isMove_36 0 (fun _ => 0) (9999 + 1) 24 0 0 0 d e f g1 := e1
  have e3 : F_X5_round 0 0 0 0 d e f (fun _ => 0) g1 = some (0, 1, 0, d, e, 0, g1) := by
    unfold F_X5_round
    rw [show F_X5_isAt 0 0 (fun _ => 0) 40 = some 0 from rfl, Option.bind_some, if_pos rfl, show F_X5_fails 0 0 0 = some 1 from rfl, Option.bind_some]
  rw [e2, F_X5_isMove_36, e3, Option.bind_some]
  dsimp only
  rw [if_neg i10, if_neg i10]
theorem ms_undo (fs : Nat → Int32) (a b c d e f : Int32) (g : Nat → Int32) : k_undo (MS fs a b c d e f g) = some (-5, MS fs a b c d e f g) := rfl
theorem ms_restore (fs : Nat → Int32) (a b c d e f : Int32) (g : Nat → Int32) : k_restore (MS fs a b c d e f g) = some (-5, MS fs a b c d e f g) := rfl
theorem ms_fault0 (fs : Nat → Int32) (a b c d e f : Int32) (g : Nat → Int32) : ∃ g', k_fault 0 (MS fs a b c d e f g) = some (0, MS fs 0 1 0 d e 0 g') := by
  obtain ⟨g', h⟩ := isMove0 a b c d e f g
  refine ⟨g', ?_⟩
  unfold k_fault F_X5_fault MS
  dsimp only
  rw [show F_X5_in 0 0 1 = some 1 from rfl, Option.bind_some, if_neg i10, h]
  rfl
theorem ms_fault1 (fs : Nat → Int32) (a b c d e f : Int32) (g : Nat → Int32) : ∃ g', k_fault 1 (MS fs a b c d e f g) = some (1, MS fs 0 1 0 d e 0 g') := by
  obtain ⟨g', h⟩ := isMove0 a b c d e f g
  refine ⟨g', ?_⟩
  unfold k_fault F_X5_fault MS
  dsimp only
  rw [show F_X5_in 1 0 1 = some 1 from rfl, Option.bind_some, if_neg i10, h]
  rfl
theorem ms_read (fs : Nat → Int32) (a b c d e f : Int32) (g : Nat → Int32) : ∃ g', k_readMove (MS fs a b c d e f g) = some (-100, MS fs 0 1 0 d e 0 g') := by
  obtain ⟨g', h⟩ := isMove0 a b c d e f g
  refine ⟨g', ?_⟩
  unfold k_readMove F_X5_readMove MS
  dsimp only
  rw [h, Option.bind_some]
  dsimp only
  rw [if_pos rfl, show (-100 : Int32) - 0 = -100 by decide]
  rfl
theorem od_s0 : od s0 = 24 := by decide +kernel
theorem init_x {r2 : Nat → Int32} (h : F_X5_init = some r2) : (∀ j, j < 24 → r2 j = nI (s0 j)) ∧ ∀ j, 24 ≤ j → r2 j = 0 := by
  obtain ⟨fs, m1, m2, m3⟩ := initM_lp 10000 0 (fun _ => 0) (Nat.zero_le _) (by omega) (fun j hj => absurd hj (Nat.not_lt_zero j)) (fun _ _ => rfl)
  have : F_X5_init = some fs := m1
  rw [this] at h
  cases h
  exact ⟨m2, m3⟩
theorem move24 {r2 : Nat → Int32} (h : F_X5_init = some r2) : F_X5_move r2 0 = some 24 := by
  obtain ⟨h1, h2⟩ := init_x h
  unfold F_X5_move
  rw [if_pos rfl, orderM s0_Pm h1, Option.bind_some, od_s0]; rfl
theorem PI_0 {r2 : Nat → Int32} (h : F_X5_init = some r2) (a b c d e f : Int32) (g : Nat → Int32) : PI 0 (MS r2 a b c d e f g) := by
  obtain ⟨h1, h2⟩ := init_x h
  refine ⟨⟨0, 0, fun _ => 0, by omega, h2 24 (by omega), h2 62 (by omega), by omega, fun t ht => ⟨show 0 < 2 ^ 24 by decide, h2 _ (by omega)⟩, Nat.le_refl 0⟩, fun e => absurd e (show ¬ (0 : Int32) = 1 by decide), fun n h3 h4 j hj => ?_⟩
  have : n = 0 := ((nI_eq (a := 0) (b := n) (by omega) (by omega)).mp h4).symm
  omega
theorem VR_ext {σ : Nat → Nat} {k ms : Nat} {H D : Nat → Nat} {A B : Nat → Int32} (h : VR σ k H D ms A) (e : ∀ j, j < 65 → B j = A j) : VR σ k H D ms B := by
  obtain ⟨h1, h2, ⟨h3, h4⟩, h5, h6, h7, h8⟩ := h
  exact ⟨h1, fun j hj => by rw [e j (by omega)]; exact h2 j hj, ⟨h3, by rw [e 24 (by omega)]; exact h4⟩, fun t ht => ⟨(h5 t ht).1, by rw [e _ (by omega)]; exact (h5 t ht).2⟩, fun t ht => ⟨(h6 t ht).1, by rw [e _ (by omega)]; exact (h6 t ht).2⟩, h7, by rw [e 49 (by omega)]; exact h8⟩
theorem pas_mt {n : Nat} {pas : Int32} {fs fp : Nat → Int32} {r : Int32 × (Nat → Int32)} (hn : n ≤ 4) (hp : pas = nI n) (h : F_X5_records pas fs fp = some r) : ∃ n', n' = min (n + 1) 4 ∧ r.1 = nI n' ∧ (∀ k, k < 65 → ps r.2 (n' - 1) k = fs k) ∧ ∀ d, 2 ≤ d → d ≤ n' → ∀ k, k < 65 → ps r.2 (n' - d) k = ps fp (n + 1 - d) k := by
  obtain ⟨m, fp', e1, e2, e3, e4⟩ := recM fs fp hn
  rw [hp, e1] at h
  cases h
  exact ⟨m, e2, rfl, e3, e4⟩
/-- the stack is turned, or each place would be sent to itself, or none is on it -/
theorem ts_step {M M1 : MT} {r a : Int32} {σ : Nat → Nat} {k ms n : Nat} {H D : Nat → Nat} (hV : VR σ k H D ms M.2.2.2.2.2.2.2.2.2.1) (hn : n ≤ 4) (hpas : M.1 = nI n) (b1 : -9999 ≤ a.toInt) (b2 : a.toInt ≤ 9999) (h : k_turnStack a M = some (r, M1)) :
    (r = -5 ∧ M1 = M ∧ (ms = 0 ∨ fmo a σ = 0)) ∨ (¬ ms = 0 ∧ ¬ fmo a σ = 0 ∧ r = nI (pc ms) ∧ ∃ n', n' = min (n + 1) 4 ∧ M1.1 = nI n' ∧ (∀ j, j < 65 → ps M1.2.2.2.2.2.2.2.2.2.2.1 (n' - 1) j = M.2.2.2.2.2.2.2.2.2.1 j) ∧ (∀ d, 2 ≤ d → d ≤ n' → ∀ j, j < 65 → ps M1.2.2.2.2.2.2.2.2.2.2.1 (n' - d) j = ps M.2.2.2.2.2.2.2.2.2.2.1 (n + 1 - d) j) ∧ VR σ k (fun u => if tq ms k 0 u = true then MV σ (fmo a σ) (H u) else H u) (fun u => if tq ms k 0 u = true then MV σ (fmo a σ) (D u) else D u) ms M1.2.2.2.2.2.2.2.2.2.1 ∧ M1.2.2.2.2.2.2.2.2.2.1 64 = M.2.2.2.2.2.2.2.2.2.1 64 + nI (pc ms)) := by
  obtain ⟨hP, hf, ⟨hk, h24⟩, hh, hd, hm, h49⟩ := id hV
  have hm2 := two12 hk hm
  rw [k_turnStack, Option.map_eq_some_iff] at h
  obtain ⟨q, hq, he⟩ := h
  cases he
  unfold F_X5_turnStack at hq
  have hp1 : F_X5_isPower a = some 1 := by
    rcases isPow a with ⟨-, e, -, -⟩ | ⟨e, -⟩
    · exact e
    · unfold F_X4_isPower at e
      have k1 : (-9999 : Int32).toInt = -9999 := by decide
      have k2 : (9999 : Int32).toInt = 9999 := by decide
      rw [if_neg (by rw [fa_lt]; omega), if_neg (by rw [fa_lt]; omega)] at e
      cases e
  rw [hp1, Option.bind_some, if_neg i10, k49, t49, h49, forward_o hP hf b1 b2, Option.bind_some] at hq
  by_cases c : ms = 0
  · rw [if_pos (by rw [c]; rfl)] at hq
    cases hq
    exact Or.inl ⟨rfl, rfl, Or.inl c⟩
  · rw [if_neg (fun q => c ((eq0 (by omega)).mp q))] at hq
    have hl := fmo_lt a σ
    have ho := od_le hP
    by_cases c2 : fmo a σ = 0
    · rw [if_pos (by rw [c2]; rfl)] at hq
      cases hq
      exact Or.inl ⟨rfl, rfl, Or.inr c2⟩
    · rw [if_neg (fun q => c2 ((eq0 (by omega)).mp q))] at hq
      obtain ⟨r7, h7, hq⟩ := bd_t hq
      obtain ⟨A', e0, e1, e2, e3, e4, e5, e6, e7, e8⟩ := tsM_lp (pas := r7.1) (fp := r7.2) hP hk hm b1 b2 10000 0 M.2.2.2.2.2.2.2.2.2.1 H D (Nat.zero_le _) (by omega) hf h24 h49 hh hd
      have hq2 := e0.symm.trans hq
      cases hq2
      obtain ⟨n', g1, g2, g3, g4⟩ := pas_mt hn hpas h7
      refine Or.inr ⟨c, c2, rfl, n', g1, g2, g3, g4, ⟨hP, fun j hj => ?_, ⟨hk, ?_⟩, fun u hu => ⟨?_, e5 u hu⟩, fun u hu => ⟨?_, e6 u hu⟩, hm, ?_⟩, ?_⟩
      · show A' j = _; rw [e1 j (by omega)]; exact hf j hj
      · show A' 24 = _; rw [e1 24 (by omega)]; exact h24
      · show (if tq ms k 0 u = true then MV σ (fmo a σ) (H u) else H u) < _
        split
        · exact MV_lt hP _ _
        · exact (hh u hu).1
      · show (if tq ms k 0 u = true then MV σ (fmo a σ) (D u) else D u) < _
        split
        · exact MV_lt hP _ _
        · exact (hd u hu).1
      · show A' 49 = _; rw [e2, h49]
      · show A' 64 = _; rw [e8, tc_all hk hm]
theorem fm_neg {a : Int32} {d : Nat} (h0 : 1 ≤ d) (ha : a.toInt ≠ -2147483648) (h : fm a d ≠ 0) : fm a d + fm (-a) d = d := by
  have e1 := fm_int (a := a) h0
  have e2 := fm_int (a := -a) h0
  rw [fb_negI ha] at e2
  have hl := fm_lt (a := a) h0
  have hl2 := fm_lt (a := -a) h0
  have h3 : ((fm a d : Int) + (fm (-a) d : Int)) % (d : Int) = 0 := by
    rw [e1, e2, ← Int.add_emod, Int.add_right_neg, Int.zero_emod]
  have h4 : (d : Int) ∣ ((fm a d + fm (-a) d : Nat) : Int) := by
    rw [Int.natCast_add]; exact Int.dvd_of_emod_eq_zero h3
  have h5 : d ∣ fm a d + fm (-a) d := Int.natCast_dvd_natCast.mp h4
  obtain ⟨c, hc⟩ := h5
  match c, hc with
  | 0, hc => omega
  | 1, hc => omega
  | c + 2, hc =>
    have : d * (c + 2) = d * c + 2 * d := by rw [Nat.mul_add, Nat.mul_comm d 2]
    omega
theorem two_x (x : Int32) : x + x = 2 * x := by
  apply Int32.toBitVec_inj.mp
  show x.toBitVec + x.toBitVec = 2#32 * x.toBitVec
  exact BitVec.two_mul.symm
/-- forth and back: all holes are as before, the accounts have two turns a ticket more -/
theorem ts_back {M M1 M2 : MT} {r r2 a : Int32} {σ : Nat → Nat} {k ms n : Nat} {H D : Nat → Nat} (hV : VR σ k H D ms M.2.2.2.2.2.2.2.2.2.1) (hn : n ≤ 4) (hpas : M.1 = nI n) (b1 : -9999 ≤ a.toInt) (b2 : a.toInt ≤ 9999) (h : k_turnStack a M = some (r, M1)) (hr : ¬ r = -5) (h2 : k_turnStack (-a) M1 = some (r2, M2)) :
    r = nI (pc ms) ∧ r2 = nI (pc ms) ∧ VR σ k H D ms M2.2.2.2.2.2.2.2.2.2.1 ∧ M2.2.2.2.2.2.2.2.2.2.1 64 = M.2.2.2.2.2.2.2.2.2.1 64 + 2 * nI (pc ms) ∧ ∃ r3 M3 r4 M4, k_undo M2 = some (r3, M3) ∧ ¬ r3 < 0 ∧ k_undo M3 = some (r4, M4) ∧ ¬ r4 < 0 ∧ ∀ j, j < 65 → M4.2.2.2.2.2.2.2.2.2.1 j = M.2.2.2.2.2.2.2.2.2.1 j := by
  have ha : a.toInt ≠ -2147483648 := by omega
  have hna : (-a).toInt = -a.toInt := fb_negI ha
  have hP := hV.1
  rcases ts_step hV hn hpas b1 b2 h with ⟨e, -, -⟩ | ⟨c1, c2, e1, n1, g1, g2, g3, g4, hV1, g6⟩
  · exact absurd e hr
  have hsum := fm_neg (a := a) (od_pos σ) ha c2
  have hl := fmo_lt a σ
  have hne : ¬ fmo (-a) σ = 0 := fun q => by unfold fmo at q hl; omega
  rcases ts_step hV1 (show n1 ≤ 4 by omega) g2 (by omega) (by omega) h2 with ⟨-, -, e | e⟩ | ⟨-, -, e2, n2, k1, k2, k3, k4, hV2, k6⟩
  · exact absurd e c1
  · exact absurd e hne
  have mvb : ∀ m, m < 2 ^ 24 → MV σ (fmo (-a) σ) (MV σ (fmo a σ) m) = m := fun m hm => by
    rw [MV_add hP, show fmo (-a) σ + fmo a σ = od σ by unfold fmo; omega, MV_od hP hm]
  refine ⟨e1, e2, ?_, by rw [k6, g6, Int32.add_assoc, two_x], ?_⟩
  · obtain ⟨q1, q2, q3, q4, q5, q6, q7⟩ := hV2
    refine ⟨q1, q2, q3, fun u hu => ⟨(hV.2.2.2.1 u hu).1, ?_⟩, fun u hu => ⟨(hV.2.2.2.2.1 u hu).1, ?_⟩, q6, q7⟩
    · rw [(q4 u hu).2]
      congr 1
      by_cases c : tq ms k 0 u = true
      · simp only [c, ↓reduceIte]; exact mvb _ (hV.2.2.2.1 u hu).1
      · simp only [c]; rfl
    · rw [(q5 u hu).2]
      congr 1
      by_cases c : tq ms k 0 u = true
      · simp only [c, ↓reduceIte]; exact mvb _ (hV.2.2.2.2.1 u hu).1
      · simp only [c]; rfl
  · have u1 := undo_lp M2.2.2.2.2.2.2.2.2.2.1 M2.2.2.2.2.2.2.2.2.2.2.1 (m := n2 - 1) (by omega) 10000 0 (Nat.zero_le _) (by omega)
    rw [fb_put_0] at u1
    change F_X5_undo_22 _ 10000 0 _ _ = _ at u1
    have v1 : k_undo M2 = some (nI (n2 - 1), (nI (n2 - 1), M2.2.1, M2.2.2.1, M2.2.2.2.1, M2.2.2.2.2.1, M2.2.2.2.2.2.1, M2.2.2.2.2.2.2.1, M2.2.2.2.2.2.2.2.1, M2.2.2.2.2.2.2.2.2.1, fb_put M2.2.2.2.2.2.2.2.2.2.1 (ps M2.2.2.2.2.2.2.2.2.2.2.1 (n2 - 1)) 0 65, M2.2.2.2.2.2.2.2.2.2.2.1, M2.2.2.2.2.2.2.2.2.2.2.2.1, M2.2.2.2.2.2.2.2.2.2.2.2.2.1, M2.2.2.2.2.2.2.2.2.2.2.2.2.2)) := by
      unfold k_undo F_X5_undo
      rw [k2, if_neg (fun q => by have := (eq0 (by omega)).mp q; omega), m1 (by omega) (by omega), u1]
      rfl
    have u2 := undo_lp (fb_put M2.2.2.2.2.2.2.2.2.2.1 (ps M2.2.2.2.2.2.2.2.2.2.2.1 (n2 - 1)) 0 65) M2.2.2.2.2.2.2.2.2.2.2.1 (m := n2 - 1 - 1) (by omega) 10000 0 (Nat.zero_le _) (by omega)
    rw [fb_put_0] at u2
    change F_X5_undo_22 _ 10000 0 _ _ = _ at u2
    refine ⟨_, _, nI (n2 - 1 - 1), (nI (n2 - 1 - 1), M2.2.1, M2.2.2.1, M2.2.2.2.1, M2.2.2.2.2.1, M2.2.2.2.2.2.1, M2.2.2.2.2.2.2.1, M2.2.2.2.2.2.2.2.1, M2.2.2.2.2.2.2.2.2.1, fb_put (fb_put M2.2.2.2.2.2.2.2.2.2.1 (ps M2.2.2.2.2.2.2.2.2.2.2.1 (n2 - 1)) 0 65) (ps M2.2.2.2.2.2.2.2.2.2.2.1 (n2 - 1 - 1)) 0 65, M2.2.2.2.2.2.2.2.2.2.2.1, M2.2.2.2.2.2.2.2.2.2.2.2.1, M2.2.2.2.2.2.2.2.2.2.2.2.2.1, M2.2.2.2.2.2.2.2.2.2.2.2.2.2), v1, fun q => (lt0 (by omega)).mp q, ?_, fun q => (lt0 (by omega)).mp q, fun j hj => ?_⟩
    · unfold k_undo F_X5_undo
      dsimp only
      rw [if_neg (fun q => by have := (eq0 (by omega)).mp q; omega), m1 (by omega) (by omega), u2]
      rfl
    · show fb_put (fb_put M2.2.2.2.2.2.2.2.2.2.1 (ps M2.2.2.2.2.2.2.2.2.2.2.1 (n2 - 1)) 0 65) (ps M2.2.2.2.2.2.2.2.2.2.2.1 (n2 - 1 - 1)) 0 65 j = _
      rw [← put65 _ _ j hj]
      have w := k4 2 (by omega) (by omega) j hj
      rw [show n2 - 2 = n2 - 1 - 1 by omega, show n1 + 1 - 2 = n1 - 1 by omega] at w
      rw [w, g3 j hj]
