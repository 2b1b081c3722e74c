/-! reading a round and a move, by both -/
def RO (N : Nat) (xfc : Nat → Int32) (i0 : Nat) (num : Int32) (cam : Nat) (cf cl : Int32) (xft : Nat → Int32) (res : Option RD) : Prop :=
  (∃ i k w, i ≤ N ∧ ¬ k = 0 ∧ res = some (nI i, k, w) ∧ ∀ M, CR N xfc i0 1 num (nI cam) cf cl xft (nI i) k M) ∨
  ∃ i cam' τ fst' lst' inr' g' num' cf' cl' xft', i0 < i ∧ i ≤ N ∧ cam' < 2 ^ 24 ∧ cam' ≠ 0 ∧ Pm τ ∧ Mv τ g' ∧ Mv τ xft' ∧ (∀ x, x < 24 → cam'.testBit x = false → τ x = x) ∧ res = some (nI i, 0, nI cam', fst', lst', inr', g') ∧ ∀ o k M, CR N xfc i 0 num' (nI cam') cf' cl' xft' o k M → CR N xfc i0 1 num (nI cam) cf cl xft o k M
/-- inside a round -/
def IR (cam r : Nat) (τ : Nat → Nat) (fst lst cf cl : Int32) (l : Nat) (xft : Nat → Int32) : Prop := (r = 0 ∧ cf = -5 ∧ Mv τ xft) ∨ ∃ f, r ≠ 0 ∧ f < 24 ∧ l < 24 ∧ fst = nI f ∧ lst = nI l ∧ cf = nI f ∧ cl = nI l ∧ τ l = f ∧ cam.testBit l = true ∧ ∀ j, j < 24 → j ≠ l → xft j = nI (τ j)
theorem or_b {cam y x : Nat} (h : (cam ||| 2 ^ y).testBit x = false) : cam.testBit x = false ∧ x ≠ y := by
  rw [fb_bit_set, Bool.or_eq_false_iff, decide_eq_false_iff_not] at h
  exact h
theorem or_y (cam y : Nat) : (cam ||| 2 ^ y).testBit y = true := by rw [fb_bit_set, decide_eq_true rfl, Bool.or_true]
theorem rd_stop {N n : Nat} {fx g : Nat → Int32} {spo k cam fst lst inr : Int32} (hk : ¬ k = 0) : F_X5_round_21 (nI N) fx (n + 1) 0 spo k cam fst lst inr g = some (spo, k, cam, fst, lst, inr, g) := by
  rw [F_X5_round_21, if_pos rfl, if_neg hk]
theorem rd_one {N n : Nat} {fx g : Nat → Int32} {spo cam fst lst : Int32} : F_X5_round_21 (nI N) fx (n + 1) 0 spo 0 cam fst lst (nI 1) g = Option.bind (F_X5_fails (nI N) spo 0) fun r7 => some (spo, r7, cam, fst, lst, nI 1, g) := by
  rw [F_X5_round_21, if_pos rfl, if_pos rfl, if_pos (show nI 1 ≤ 1 by decide)]
theorem rd_two {N n r : Nat} {fx g : Nat → Int32} {spo cam fst lst : Int32} (hr : r < 1000) (h : 2 ≤ r) : F_X5_round_21 (nI N) fx (n + 1) 0 spo 0 cam fst lst (nI r) g = Option.bind (F_X5_isAt (nI N) spo fx 41) fun r8 => if r8 = 0 then (Option.bind (F_X5_fails (nI N) spo 0) fun r10 => some (spo, r10, cam, fst, lst, nI r, g)) else (some (spo + 1, 0, cam, fst, lst, nI r, g)) := by
  rw [F_X5_round_21, if_pos rfl, if_pos rfl, if_neg (fun q => by have := (nI_leI (b := 1) (by omega) (by decide)).mp q; omega)]
theorem rd_lp {N : Nat} {xfc fx : Nat → Int32} (hT : Tt N xfc fx) : ∀ (n i cam r l : Nat) (τ : Nat → Nat) (g xft : Nat → Int32) (fst lst cf cl num : Int32), i < N → N - i + 1 < n → r ≤ i → cam < 2 ^ 24 → Pm τ → Mv τ g → (∀ x, x < 24 → cam.testBit x = false → τ x = x) → IR cam r τ fst lst cf cl l xft → RO N xfc (i + 1) num cam cf cl xft (F_X5_round_21 (nI N) fx n 1 (nI i) 0 (nI cam) fst lst (nI r) g) := by
  obtain ⟨hN, hv⟩ := hT
  intro n
  induction n with
  | zero => intro i _ _ _ _ _ _ _ _ _ _ _ _ h; omega
  | succ n ih =>
    intro i cam r l τ g xft fst lst cf cl num hi hn hr hcam hP hg hid hI
    obtain ⟨n, rfl⟩ : ∃ m, n = m + 1 := ⟨n - 1, by omega⟩
    rw [F_X5_round_21, if_neg n10, l1]
    have hl : r ≠ 0 → lst = nI l ∧ l < 24 := fun q => by
      rcases hI with ⟨z, _⟩ | ⟨f, _, _, e1, _, e2, _⟩
      · exact absurd z q
      · exact ⟨e2, e1⟩
    rcases reads_eq (num := num) (xft := xft) (g := g) (fst := fst) (cf := cf) (cl := cl) ⟨hN, hv⟩ hcam (show r < 1000 by omega) hl (show i + 1 ≤ N by omega) with ⟨a, k, w, p1, p2, p3, p4⟩ | ⟨a, y, p1, p2, p3, p4, p5, p6, p7⟩
    · rw [p3, Option.bind_some, if_neg p2, rd_stop p2]
      exact Or.inl ⟨a, k, w, p1, p2, rfl, p4⟩
    · have hcam2 : cam ||| 2 ^ y < 2 ^ 24 := Nat.or_lt_two_pow hcam (Nat.pow_lt_pow_right (by decide) p3)
      have ty := hid y p3 p4
      rw [p6, Option.bind_some]
      rcases hI with ⟨z, hcf, hx⟩ | ⟨f, hr0, hf24, hl24, e1, e2, e3, e4, e5, e6, e7⟩
      · unfold insR
        rw [if_pos z]
        dsimp only
        rw [if_pos rfl]
        have hg2 : Mv τ (upd g y (nI y)) := fun j hj => by
          by_cases c : j = y
          · rw [c, pk_us, ty]
          · rw [pk_un c]; exact hg j hj
        have hid2 : ∀ x, x < 24 → (cam ||| 2 ^ y).testBit x = false → τ x = x := fun x h1 h2 => hid x h1 (or_b h2).1
        subst z hcf
        rcases Nat.lt_or_ge a N with c | c
        · obtain ⟨v, hv1, hv2, hv3⟩ := hv a c
          have hnd := p5 v c hv3 hv1
          by_cases d : v = 44
          · subst d
            rw [atT (p := 44) hN c hv3, Option.bind_some, if_neg n10]
            have st : ∀ o k M, CR N xfc (a + 1) 1 (nI y) (nI (cam ||| 2 ^ y)) (nI y) (nI y) xft o k M → CR N xfc (i + 1) 1 num (nI cam) (-5) cl xft o k M := fun o k M h => p7 o k M (CR_step hN c (by rw [hv2]; exact fo_2fy _ _ p3 p4) h)
            rcases ih a (cam ||| 2 ^ y) (0 + 1) y τ (upd g y (nI y)) xft (nI y) (nI y) (nI y) (nI y) (nI y) c (by omega) (by omega) hcam2 hP hg2 hid2 (Or.inr ⟨y, by omega, p3, p3, rfl, rfl, rfl, rfl, ty, or_y cam y, fun j hj _ => hx j hj⟩) with ⟨b, k, w, q1, q2, q3, q4⟩ | ⟨b, cam', τ', fst', lst', inr', g', num', cf', cl', xft', q1, q2, q3, q4, q5, q6, q7, q8, q9, q10⟩
            · exact Or.inl ⟨b, k, w, q1, q2, q3, fun M => st _ _ _ (q4 M)⟩
            · exact Or.inr ⟨b, cam', τ', fst', lst', inr', g', num', cf', cl', xft', by omega, q2, q3, q4, q5, q6, q7, q8, q9, fun o k M h => st _ _ _ (q10 o k M h)⟩
          · rw [atF hN c (by rw [hv3]; exact fun q => d ((eq44 (by omega)).mp q)), Option.bind_some, if_pos rfl, rd_one, failsM hN c, Option.bind_some]
            exact Or.inl ⟨a, 4, _, p2, by decide, rfl, fun M => p7 _ _ _ (CR_fault hN c (w := _) (by rw [hv2]; exact fo_2fn _ _ p3 hnd hv1 p4 d) (by decide))⟩
        · have ea : a = N := by omega
          subst ea
          rw [atO hN c (by omega), Option.bind_some, if_pos rfl, rd_one, failsE, Option.bind_some]
          exact Or.inl ⟨a, 1, _, p2, by decide, rfl, fun M => p7 _ _ _ (CR_end hN (fe_2 p3 p4) (fun q => absurd q (by decide)))⟩
      · unfold insR
        rw [if_neg hr0]
        dsimp only
        rw [if_pos rfl]
        subst e1 e3 e4
        have hyl : y ≠ l := fun q => by rw [q, e6] at p4; cases p4
        have hP2 := sw_Pm hP hl24 p3
        have hg2 : Mv (sw τ l y) (upd (upd g l (nI y)) y (nI f)) := by
          have := sw_Mv hg l y
          rw [ty, e5] at this
          exact this
        have hid2 : ∀ x, x < 24 → (cam ||| 2 ^ y).testBit x = false → sw τ l y x = x := fun x h1 h2 => by
          have h3 := or_b h2
          unfold sw
          rw [if_neg h3.2, if_neg (fun q => by rw [q, e6] at h3; exact absurd h3.1 (by decide))]
          exact hid x h1 h3.1
        have sy : sw τ l y y = f := by unfold sw; rw [if_pos rfl, e5]
        have hx2 : ∀ j, j < 24 → j ≠ y → upd xft l (nI y) j = nI (sw τ l y j) := fun j hj h => by
          unfold sw
          rw [if_neg h]
          by_cases c : j = l
          · rw [c, pk_us, if_pos rfl, ty]
          · rw [pk_un c, if_neg c]; exact e7 j hj c
        rcases Nat.lt_or_ge a N with c | c
        · obtain ⟨v, hv1, hv2, hv3⟩ := hv a c
          have hnd := p5 v c hv3 hv1
          by_cases d : v = 44
          · subst d
            rw [atT (p := 44) hN c hv3, Option.bind_some, if_neg n10]
            have st : ∀ o k M, CR N xfc (a + 1) 1 (nI y) (nI (cam ||| 2 ^ y)) (nI f) (nI y) (upd xft l (nI y)) o k M → CR N xfc (i + 1) 1 num (nI cam) (nI f) (nI l) xft o k M := fun o k M h => p7 o k M (CR_step hN c (by rw [hv2]; exact fo_2gc p3 hf24 hl24 p4) h)
            rcases ih a (cam ||| 2 ^ y) (r + 1) y (sw τ l y) (upd (upd g l (nI y)) y (nI f)) (upd xft l (nI y)) (nI f) (nI y) (nI f) (nI y) (nI y) c (by omega) (by omega) hcam2 hP2 hg2 hid2 (Or.inr ⟨f, by omega, hf24, p3, rfl, rfl, rfl, rfl, sy, or_y cam y, hx2⟩) with ⟨b, k, w, q1, q2, q3, q4⟩ | ⟨b, cam', τ', fst', lst', inr', g', num', cf', cl', xft', q1, q2, q3, q4, q5, q6, q7, q8, q9, q10⟩
            · exact Or.inl ⟨b, k, w, q1, q2, q3, fun M => st _ _ _ (q4 M)⟩
            · exact Or.inr ⟨b, cam', τ', fst', lst', inr', g', num', cf', cl', xft', by omega, q2, q3, q4, q5, q6, q7, q8, q9, fun o k M h => st _ _ _ (q10 o k M h)⟩
          · rw [atF hN c (by rw [hv3]; exact fun q => d ((eq44 (by omega)).mp q)), Option.bind_some, if_pos rfl, rd_two (by omega) (by omega)]
            by_cases d2 : v = 41
            · subst d2
              rw [atT (p := 41) hN c hv3, Option.bind_some, if_neg n10, l1]
              refine Or.inr ⟨a + 1, cam ||| 2 ^ y, sw τ l y, nI f, nI y, nI (r + 1), _, nI y, nI f, nI y, upd (upd xft l (nI y)) y (nI f), by omega, by omega, hcam2, ne0_bit.mpr ⟨y, or_y cam y⟩, hP2, hg2, fun j hj => ?_, hid2, rfl, fun o k M h => p7 o k M (CR_step hN c (by rw [hv2]; exact fo_2gb p3 hf24 hl24 p4) h)⟩
              by_cases q : j = y
              · rw [q, pk_us, sy]
              · rw [pk_un q]; exact hx2 j hj q
            · rw [atF hN c (by rw [hv3]; exact fun q => d2 ((eq41 (by omega)).mp q)), Option.bind_some, if_pos rfl, failsM hN c, Option.bind_some]
              exact Or.inl ⟨a, 4, _, p2, by decide, rfl, fun M => p7 _ _ _ (CR_fault hN c (w := _) (by rw [hv2]; exact fo_2gn p3 hf24 hnd hv1 p4 d d2) (by decide))⟩
        · have ea : a = N := by omega
          subst ea
          rw [atO hN c (by omega), Option.bind_some, if_pos rfl, rd_two (by omega) (by omega), atO hN c (by omega), Option.bind_some, if_pos rfl, failsE, Option.bind_some]
          exact Or.inl ⟨a, 1, _, p2, by decide, rfl, fun M => p7 _ _ _ (CR_end hN (fe_2 p3 p4) (fun q => absurd q (by decide)))⟩
/-- the outcome of reading the text -/
def MO (N : Nat) (xfc : Nat → Int32) (i : Nat) (num cam cf cl : Int32) (xft : Nat → Int32) (res : Option (Int32 × RD)) : Prop :=
  (∃ o k w, ¬ k = 0 ∧ res = some (0, o, k, w) ∧ ∀ M, CR N xfc i 0 num cam cf cl xft o k M) ∨
  ∃ o w1 w2 w3 w4 g τ, Pm τ ∧ Mv τ g ∧ res = some (1, o, 0, w1, w2, w3, w4, g) ∧ CR N xfc i 0 num cam cf cl xft o 0 (fun j => nI (τ j))
theorem mv_lp {N : Nat} {xfc fx : Nat → Int32} (hT : Tt N xfc fx) (x1 : Int32) : ∀ (n i cam : Nat) (τ : Nat → Nat) (g xft : Nat → Int32) (fst lst inr cf cl num : Int32), (i < N ∨ (i = N ∧ cam = 0)) → N - i < n → cam < 2 ^ 24 → Pm τ → Mv τ g → Mv τ xft → (∀ x, x < 24 → cam.testBit x = false → τ x = x) → MO N xfc i num (nI cam) cf cl xft (F_X5_isMove_36 (nI N) fx n x1 (nI i) 0 (nI cam) fst lst inr g) := by
  have hT2 := hT
  obtain ⟨hN, hv⟩ := hT
  intro n
  induction n with
  | zero => intro i _ _ _ _ _ _ _ _ _ _ _ h; omega
  | succ n ih =>
    intro i cam τ g xft fst lst inr cf cl num hi hn hcam hP hg hx hid
    rw [F_X5_isMove_36]
    unfold F_X5_round
    rcases hi with c | ⟨c, c0⟩
    · obtain ⟨v, hv1, hv2, hv3⟩ := hv i c
      by_cases d : v = 40
      · subst d
        rw [atT (p := 40) hN c hv3, Option.bind_some, if_neg n10]
        have st : ∀ o k M, CR N xfc (i + 1) 1 num (nI cam) (-5) cl xft o k M → CR N xfc i 0 num (nI cam) cf cl xft o k M := fun o k M h => CR_step hN c (by rw [hv2]; exact fo_0y _ _ _ _ _) h
        rcases rd_lp hT2 10000 i cam 0 0 τ g xft fst lst (-5) cl num c (by omega) (by omega) hcam hP hg hid (Or.inl ⟨rfl, rfl, hx⟩) with ⟨a, k, w, p1, p2, p3, p4⟩ | ⟨a, cam', τ', fst', lst', inr', g', num', cf', cl', xft', q1, q2, q3, q4, q5, q6, q7, q8, q9, q10⟩
        · rw [show F_X5_round_21 (nI N) fx 10000 1 (nI i) 0 (nI cam) fst lst 0 g = some (nI a, k, w) from p3, Option.bind_some]
          dsimp only
          rw [if_neg p2, if_neg p2]
          exact Or.inl ⟨nI a, k, w, p2, rfl, fun M => st _ _ _ (p4 M)⟩
        · rw [show F_X5_round_21 (nI N) fx 10000 1 (nI i) 0 (nI cam) fst lst 0 g = some (nI a, 0, nI cam', fst', lst', inr', g') from q9, Option.bind_some]
          dsimp only
          rw [if_pos rfl]
          rcases Nat.lt_or_ge a N with e | e
          · rw [if_pos ((nI_ltI (by omega) (by omega)).mpr e)]
            rcases ih a cam' τ' g' xft' fst' lst' inr' cf' cl' num' (Or.inl e) (by omega) q3 q5 q6 q7 q8 with ⟨o, k, w, r1, r2, r3⟩ | ⟨o, w1, w2, w3, w4, g2, τ2, r1, r2, r3, r4⟩
            · exact Or.inl ⟨o, k, w, r1, r2, fun M => st _ _ _ (q10 _ _ _ (r3 M))⟩
            · exact Or.inr ⟨o, w1, w2, w3, w4, g2, τ2, r1, r2, r3, st _ _ _ (q10 _ _ _ r4)⟩
          · have ea : a = N := by omega
            subst ea
            rw [if_neg (fun q => by have := (nI_ltI (by omega) (by omega)).mp q; omega), if_pos rfl]
            exact Or.inr ⟨nI a, nI cam', fst', lst', inr', g', τ', q5, q6, rfl, st _ _ _ (q10 _ _ _ (CR_end hN (fe_0 q3 q4) (fun _ j hj => q7 j hj)))⟩
      · have d2 : ¬ nI v = 40 := fun q => d ((eq40 (by omega)).mp q)
        rw [atF hN c (by rw [hv3]; exact d2), Option.bind_some, if_pos rfl, failsM hN c, Option.bind_some, Option.bind_some]
        dsimp only
        rw [if_neg (by decide), if_neg (by decide)]
        exact Or.inl ⟨nI i, 4, _, by decide, rfl, fun M => CR_fault hN c (w := _) (by rw [hv2]; exact fo_0n _ _ _ _ _ d2) (by decide)⟩
    · subst c c0
      rw [atO hN (Nat.le_refl i) (by omega), Option.bind_some, if_pos rfl, failsE, Option.bind_some, Option.bind_some]
      dsimp only
      rw [if_neg n10, if_neg n10]
      exact Or.inl ⟨nI i, 1, _, by decide, rfl, fun M => CR_end hN fe_0z (fun q => absurd q (by decide))⟩
