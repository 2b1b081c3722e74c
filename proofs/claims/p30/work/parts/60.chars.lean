/-! reading: one character, by both -/
theorem lt48 {c : Nat} (h : c < 2 ^ 31) : nI c < 48 ↔ c < 48 := nI_ltI h (by decide)
theorem gt57 {c : Nat} (h : c < 2 ^ 31) : 57 < nI c ↔ 57 < c := nI_ltI (by decide) h
theorem ltI24 {c : Nat} (h : c < 2 ^ 31) : nI c < 24 ↔ c < 24 := nI_ltI h (by decide)
theorem eq44 {c : Nat} (h : c < 2 ^ 31) : nI c = 44 ↔ c = 44 := nI_eq h (by decide)
theorem eq41 {c : Nat} (h : c < 2 ^ 31) : nI c = 41 ↔ c = 41 := nI_eq h (by decide)
theorem eq40 {c : Nat} (h : c < 2 ^ 31) : nI c = 40 ↔ c = 40 := nI_eq h (by decide)
def dg (c : Nat) : Prop := 48 ≤ c ∧ c ≤ 57
theorem msub {a b : Nat} (h : b ≤ a) (ha : a < 2 ^ 30) : nI a - nI b = nI (a - b) := by
  apply Int32.toInt_inj.mp
  rw [pk_sub_toInt ha (by omega), nI_toInt (by omega)]
  omega
theorem cdT {c : Nat} (h : dg c) : F_X2_isDigit (nI c) = some 1 := by
  unfold dg at h
  unfold F_X2_isDigit
  rw [if_neg (fun q => by have := (lt48 (by omega)).mp q; omega), if_neg (fun q => by have := (gt57 (by omega)).mp q; omega)]
theorem cdF {c : Nat} (h : ¬ dg c) (hc : c < 65536) : F_X2_isDigit (nI c) = some 0 := by
  unfold dg at h
  unfold F_X2_isDigit
  by_cases d : c < 48
  · rw [if_pos ((lt48 (by omega)).mpr d)]
  · rw [if_neg (fun q => by have := (lt48 (by omega)).mp q; omega), if_pos ((gt57 (by omega)).mpr (by omega))]
theorem mdO {N i : Nat} {fx : Nat → Int32} (hN : N ≤ 80) (hi : N ≤ i) (h2 : i < 2 ^ 31) : F_X5_isDigit (nI N) (nI i) fx = some 0 := by
  unfold F_X5_isDigit
  rw [if_pos ((nI_leI (by omega) h2).mpr hi)]
theorem mdT {N i c : Nat} {fx : Nat → Int32} (hN : N ≤ 80) (hi : i < N) (hc : fx i = nI c) (h : dg c) : F_X5_isDigit (nI N) (nI i) fx = some 1 := by
  unfold dg at h
  unfold F_X5_isDigit F_X5_in
  rw [if_neg (fun q => by have := (nI_leI (by omega) (by omega)).mp q; omega), ck_ok (by omega) (by omega), tn (by omega), hc, if_neg (fun q => by have := (lt48 (by omega)).mp q; omega), if_neg (fun q => by have := (gt57 (by omega)).mp q; omega), Option.bind_some, if_neg n10]
theorem mdF {N i c : Nat} {fx : Nat → Int32} (hN : N ≤ 80) (hi : i < N) (hc : fx i = nI c) (hc2 : c < 65536) (h : ¬ dg c) : F_X5_isDigit (nI N) (nI i) fx = some 0 := by
  unfold dg at h
  unfold F_X5_isDigit F_X5_in
  rw [if_neg (fun q => by have := (nI_leI (by omega) (by omega)).mp q; omega), ck_ok (by omega) (by omega), tn (by omega), hc]
  by_cases d : c < 48
  · rw [if_pos ((lt48 (by omega)).mpr d)]; rfl
  · rw [if_neg (fun q => by have := (lt48 (by omega)).mp q; omega), if_pos ((gt57 (by omega)).mpr (by omega))]; rfl
theorem atO {N i : Nat} {fx : Nat → Int32} (hN : N ≤ 80) (hi : N ≤ i) (h2 : i < 2 ^ 31) (p : Int32) : F_X5_isAt (nI N) (nI i) fx p = some 0 := by
  unfold F_X5_isAt
  rw [if_pos ((nI_leI (by omega) h2).mpr hi)]
theorem atT {N i : Nat} {fx : Nat → Int32} (hN : N ≤ 80) (hi : i < N) {p : Int32} (hc : fx i = p) : F_X5_isAt (nI N) (nI i) fx p = some 1 := by
  unfold F_X5_isAt
  rw [if_neg (fun q => by have := (nI_leI (by omega) (by omega)).mp q; omega), ck_ok (by omega) (by omega), tn (by omega), if_pos hc]
theorem atF {N i : Nat} {fx : Nat → Int32} (hN : N ≤ 80) (hi : i < N) {p : Int32} (hc : ¬ fx i = p) : F_X5_isAt (nI N) (nI i) fx p = some 0 := by
  unfold F_X5_isAt
  rw [if_neg (fun q => by have := (nI_leI (by omega) (by omega)).mp q; omega), ck_ok (by omega) (by omega), tn (by omega), if_neg hc]
theorem failsE {N : Nat} (x : Int32) : F_X5_fails (nI N) (nI N) x = some 1 := by
  unfold F_X5_fails
  rw [if_pos rfl]
theorem failsM {N i : Nat} (hN : N ≤ 80) (hi : i < N) (x : Int32) : F_X5_fails (nI N) (nI i) x = some 4 := by
  unfold F_X5_fails
  rw [if_neg (fun q => by have := (nI_eq (by omega) (by omega)).mp q; omega)]
/-! the class's step -/
theorem fo_0y (num cam fst lst : Int32) (xft : Nat → Int32) : F_X2_faultOf 0 num cam fst lst xft 40 = some (0, 1, num, cam, -5, lst, xft) := by
  unfold F_X2_faultOf F_X2_startRound
  rw [if_pos rfl, if_pos rfl, Option.bind_some]
theorem fo_0n (num cam fst lst : Int32) (xft : Nat → Int32) {c : Int32} (h : ¬ c = 40) : F_X2_faultOf 0 num cam fst lst xft c = some (4, 0, num, cam, fst, lst, xft) := by
  unfold F_X2_faultOf F_X2_startRound
  rw [if_pos rfl, if_neg h, Option.bind_some]
theorem fo_1y (num cam fst lst : Int32) (xft : Nat → Int32) {c : Nat} (h : dg c) : F_X2_faultOf 1 num cam fst lst xft (nI c) = some (0, 2, nI (c - 48), cam, fst, lst, xft) := by
  unfold F_X2_faultOf F_X2_startPlace
  rw [if_neg n10, if_pos rfl, cdT h, Option.bind_some, if_neg n10, Option.bind_some, show (48 : Int32) = nI 48 from rfl, msub h.1 (by have := h.2; omega)]
theorem fo_1n (num cam fst lst : Int32) (xft : Nat → Int32) {c : Nat} (h : ¬ dg c) (hc : c < 65536) : F_X2_faultOf 1 num cam fst lst xft (nI c) = some (4, 1, num, cam, fst, lst, xft) := by
  unfold F_X2_faultOf F_X2_startPlace
  rw [if_neg n10, if_pos rfl, cdF h hc, Option.bind_some, if_pos rfl, Option.bind_some]
theorem n20 : ¬ (2 : Int32) = 0 := by decide
theorem n21 : ¬ (2 : Int32) = 1 := by decide
theorem fo_2d0 (cam fst lst : Int32) (xft : Nat → Int32) {c : Nat} (h : dg c) : F_X2_faultOf 2 (nI 0) cam fst lst xft (nI c) = some (2, 2, nI 0, cam, fst, lst, xft) := by
  unfold F_X2_faultOf F_X2_lengthenPlace
  rw [if_neg n20, if_neg n21, cdT h, Option.bind_some, if_neg n10, if_pos (show nI 0 = 0 from rfl), Option.bind_some]
theorem len_eq {x c : Nat} (hx : x < 24) (h : dg c) : nI x * 10 + (nI c - 48) = nI (10 * x + (c - 48)) := by
  rw [show (48 : Int32) = nI 48 from rfl, msub h.1 (by have := h.2; omega), show nI x * 10 = nI (x * 10) from pk_mul x 10, nI_add, Nat.mul_comm]
theorem fo_2dy (cam fst lst : Int32) (xft : Nat → Int32) {x c : Nat} (hx : x < 24) (h0 : x ≠ 0) (h : dg c) (hl : 10 * x + (c - 48) < 24) : F_X2_faultOf 2 (nI x) cam fst lst xft (nI c) = some (0, 2, nI (10 * x + (c - 48)), cam, fst, lst, xft) := by
  unfold F_X2_faultOf F_X2_lengthenPlace
  rw [if_neg n20, if_neg n21, cdT h, Option.bind_some, if_neg n10, if_neg (fun q => h0 ((eq0 (by omega)).mp q)), len_eq hx h, if_pos ((ltI24 (by omega)).mpr hl), Option.bind_some]
theorem fo_2dn (cam fst lst : Int32) (xft : Nat → Int32) {x c : Nat} (hx : x < 24) (h0 : x ≠ 0) (h : dg c) (hl : ¬ 10 * x + (c - 48) < 24) : F_X2_faultOf 2 (nI x) cam fst lst xft (nI c) = some (2, 2, nI x, cam, fst, lst, xft) := by
  have := h.2
  unfold F_X2_faultOf F_X2_lengthenPlace
  rw [if_neg n20, if_neg n21, cdT h, Option.bind_some, if_neg n10, if_neg (fun q => h0 ((eq0 (by omega)).mp q)), len_eq hx h, if_neg (fun q => hl ((ltI24 (by omega)).mp q)), Option.bind_some]
theorem fo_2h (fst lst : Int32) (xft : Nat → Int32) {cam x c : Nat} (hx : x < 24) (h : ¬ dg c) (hc : c < 65536) (hb : cam.testBit x = true) : F_X2_faultOf 2 (nI x) (nI cam) fst lst xft (nI c) = some (3, 2, nI x, nI cam, fst, lst, xft) := by
  unfold F_X2_faultOf F_X2_endPlace
  rw [if_neg n20, if_neg n21, cdF h hc, Option.bind_some, if_pos rfl, has_t (by omega) hb, Option.bind_some, if_neg n10, Option.bind_some]
theorem fo_2fy (lst : Int32) (xft : Nat → Int32) {cam x : Nat} (hx : x < 24) (hb : cam.testBit x = false) : F_X2_faultOf 2 (nI x) (nI cam) (-5) lst xft (nI 44) = some (0, 1, nI x, nI (cam ||| 2 ^ x), nI x, nI x, xft) := by
  unfold F_X2_faultOf F_X2_endPlace
  rw [if_neg n20, if_neg n21, cdF (by unfold dg; omega) (by omega), Option.bind_some, if_pos rfl, has_f (by omega) hb, Option.bind_some, if_pos rfl, if_pos rfl, if_pos (show nI 44 = 44 from rfl), if_neg n10, only_eq (by omega), Option.bind_some, if_neg (show ¬ nI 44 = 41 by decide), Option.bind_some, fa_or]
theorem fo_2fn (lst : Int32) (xft : Nat → Int32) {cam x c : Nat} (hx : x < 24) (h : ¬ dg c) (hc : c < 65536) (hb : cam.testBit x = false) (h44 : ¬ c = 44) : F_X2_faultOf 2 (nI x) (nI cam) (-5) lst xft (nI c) = some (4, 2, nI x, nI cam, -5, lst, xft) := by
  unfold F_X2_faultOf F_X2_endPlace
  rw [if_neg n20, if_neg n21, cdF h hc, Option.bind_some, if_pos rfl, has_f (by omega) hb, Option.bind_some, if_pos rfl, if_pos rfl, if_neg (fun q => h44 ((eq44 (by omega)).mp q))]
  by_cases d : nI c = 41
  · rw [if_pos d, if_neg n10, Option.bind_some]
  · rw [if_neg d, Option.bind_some]
theorem xsendC {xft : Nat → Int32} {p q : Nat} (hp : p < 24) (hq : q < 24) : F_X2_send xft (nI p) (nI q) = some (upd xft p (nI q)) := by
  unfold F_X2_send
  rw [isP hp, isP hq, Option.bind_some, Option.bind_some, if_neg n10, if_neg n10, ck_ok hp (by omega), tn (by omega)]
theorem n5 {f : Nat} (hf : f < 24) : ¬ nI f = -5 := fun q => by
  have := congrArg Int32.toInt q
  rw [nI_toInt (by omega)] at this
  have k1 : (-5 : Int32).toInt = -5 := by decide
  omega
theorem fo_2gc {xft : Nat → Int32} {cam x f l : Nat} (hx : x < 24) (hf : f < 24) (hl : l < 24) (hb : cam.testBit x = false) : F_X2_faultOf 2 (nI x) (nI cam) (nI f) (nI l) xft (nI 44) = some (0, 1, nI x, nI (cam ||| 2 ^ x), nI f, nI x, upd xft l (nI x)) := by
  unfold F_X2_faultOf F_X2_endPlace
  rw [if_neg n20, if_neg n21, cdF (by unfold dg; omega) (by omega), Option.bind_some, if_pos rfl, has_f (by omega) hb, Option.bind_some, if_pos rfl, if_neg (n5 hf), if_pos (show nI 44 = 44 from rfl), if_pos rfl, xsendC hl hx, Option.bind_some, only_eq (by omega), Option.bind_some, if_neg (show ¬ nI 44 = 41 by decide), Option.bind_some, fa_or]
theorem fo_2gb {xft : Nat → Int32} {cam x f l : Nat} (hx : x < 24) (hf : f < 24) (hl : l < 24) (hb : cam.testBit x = false) : F_X2_faultOf 2 (nI x) (nI cam) (nI f) (nI l) xft (nI 41) = some (0, 0, nI x, nI (cam ||| 2 ^ x), nI f, nI x, upd (upd xft l (nI x)) x (nI f)) := by
  unfold F_X2_faultOf F_X2_endPlace
  rw [if_neg n20, if_neg n21, cdF (by unfold dg; omega) (by omega), Option.bind_some, if_pos rfl, has_f (by omega) hb, Option.bind_some, if_pos rfl, if_neg (n5 hf), if_neg (show ¬ nI 41 = 44 by decide), if_pos (show nI 41 = 41 from rfl), if_pos rfl, if_pos rfl, xsendC hl hx, Option.bind_some, only_eq (by omega), Option.bind_some, if_pos (show nI 41 = 41 from rfl), xsendC hx hf, Option.bind_some, Option.bind_some, fa_or]
theorem fo_2gn {xft : Nat → Int32} {cam x f l c : Nat} (hx : x < 24) (hf : f < 24) (h : ¬ dg c) (hc : c < 65536) (hb : cam.testBit x = false) (h44 : ¬ c = 44) (h41 : ¬ c = 41) : F_X2_faultOf 2 (nI x) (nI cam) (nI f) (nI l) xft (nI c) = some (4, 2, nI x, nI cam, nI f, nI l, xft) := by
  unfold F_X2_faultOf F_X2_endPlace
  rw [if_neg n20, if_neg n21, cdF h hc, Option.bind_some, if_pos rfl, has_f (by omega) hb, Option.bind_some, if_pos rfl, if_neg (n5 hf), if_neg (fun q => h44 ((eq44 (by omega)).mp q)), if_neg (fun q => h41 ((eq41 (by omega)).mp q)), Option.bind_some]
theorem fe_0z {num : Int32} : F_X2_faultOfEnd 0 num (nI 0) = some 1 := by
  unfold F_X2_faultOfEnd
  rw [if_neg (by decide), if_pos rfl, if_pos (show nI 0 = 0 from rfl)]
theorem fe_0 {num : Int32} {cam : Nat} (hc : cam < 2 ^ 24) (h : cam ≠ 0) : F_X2_faultOfEnd 0 num (nI cam) = some 0 := by
  unfold F_X2_faultOfEnd
  rw [if_neg (by decide), if_pos rfl, if_neg (fun q => h ((eq0 (by omega)).mp q))]
theorem fe_1 {num cam : Int32} : F_X2_faultOfEnd 1 num cam = some 1 := by
  unfold F_X2_faultOfEnd
  rw [if_neg (by decide), if_neg n10]
theorem fe_2h {x cam : Nat} (hx : x < 24) (hb : cam.testBit x = true) : F_X2_faultOfEnd 2 (nI x) (nI cam) = some 3 := by
  unfold F_X2_faultOfEnd
  rw [if_pos rfl, has_t (by omega) hb, Option.bind_some, if_neg n10]
theorem fe_2 {x cam : Nat} (hx : x < 24) (hb : cam.testBit x = false) : F_X2_faultOfEnd 2 (nI x) (nI cam) = some 1 := by
  unfold F_X2_faultOfEnd
  rw [if_pos rfl, has_f (by omega) hb, Option.bind_some, if_pos rfl, if_neg n20]
/-- what the class's loop answers from a place of the text on -/
def CR (N : Nat) (xfc : Nat → Int32) (i : Nat) (awt num cam fst lst : Int32) (xft : Nat → Int32) (o k : Int32) (M : Nat → Int32) : Prop := ∀ (n : Nat) (idx : Int32), N - i + 1 < n → ∃ r, F_X2_read_6 (nI N) xfc n (nI i) idx 0 awt num cam fst lst xft = some r ∧ r.1 = o ∧ r.2.1 = k ∧ (k = 0 → ∀ j, j < 24 → r.2.2.2.2.2.2.2 j = M j)
theorem CR_step {N i : Nat} {xfc xft xft' M : Nat → Int32} {awt num cam fst lst awt' num' cam' fst' lst' o k : Int32} (hN : N ≤ 80) (hi : i < N) (hf : F_X2_faultOf awt num cam fst lst xft (xfc i) = some (0, awt', num', cam', fst', lst', xft')) (h : CR N xfc (i + 1) awt' num' cam' fst' lst' xft' o k M) : CR N xfc i awt num cam fst lst xft o k M := by
  intro n idx hn
  cases n with
  | zero => omega
  | succ n =>
    rw [F_X2_read_6, if_neg (fun q => by have := (le80 (by omega)).mp q; omega), if_neg (fun q => by have := (nI_leI (by omega) (by omega)).mp q; omega), if_pos rfl, ck_ok (by omega) (by omega), tn (by omega), hf, Option.bind_some, l1]
    exact h n (nI i) (by omega)
theorem CR_fault {N i : Nat} {xfc xft M : Nat → Int32} {awt num cam fst lst k : Int32} {w : Int32 × Int32 × Int32 × Int32 × Int32 × (Nat → Int32)} (hN : N ≤ 80) (hi : i < N) (hf : F_X2_faultOf awt num cam fst lst xft (xfc i) = some (k, w)) (hk : ¬ k = 0) : CR N xfc i awt num cam fst lst xft (nI i) k M := by
  intro n idx hn
  cases n with
  | zero => omega
  | succ n =>
    cases n with
    | zero => omega
    | succ n =>
      rw [F_X2_read_6, if_neg (fun q => by have := (le80 (by omega)).mp q; omega), if_neg (fun q => by have := (nI_leI (by omega) (by omega)).mp q; omega), if_pos rfl, ck_ok (by omega) (by omega), tn (by omega), hf, Option.bind_some, l1]
      refine ⟨(nI i, k, w), ?_, rfl, rfl, fun q => absurd q hk⟩
      rw [F_X2_read_6]
      by_cases d : (80 : Int32) ≤ nI (i + 1)
      · rw [if_pos d, if_neg hk]
      · rw [if_neg d]
        by_cases e : nI N ≤ nI (i + 1)
        · rw [if_pos e, if_neg hk]
        · rw [if_neg e, if_neg hk, if_neg hk]
theorem CR_end {N : Nat} {xfc xft M : Nat → Int32} {awt num cam fst lst k : Int32} (hN : N ≤ 80) (hf : F_X2_faultOfEnd awt num cam = some k) (hM : k = 0 → ∀ j, j < 24 → xft j = M j) : CR N xfc N awt num cam fst lst xft (nI N) k M := by
  intro n idx hn
  cases n with
  | zero => omega
  | succ n =>
    refine ⟨(nI N, k, awt, num, cam, fst, lst, xft), ?_, rfl, rfl, hM⟩
    rw [F_X2_read_6]
    by_cases d : (80 : Int32) ≤ nI N
    · rw [if_pos d, if_pos rfl, hf, Option.bind_some]
    · rw [if_neg d, if_pos ((nI_leI (by omega) (by omega)).mpr (Nat.le_refl N)), if_pos rfl, hf, Option.bind_some]
