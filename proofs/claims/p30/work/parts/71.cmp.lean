/-! small rows for the walks of the law -/
def F_L_ones_4 : Nat → Int32 → Int32 → Int32 → Option (Int32)
  | 0, _, _, _ => none
  | n + 1, x0, x1, x2 => if 24 ≤ x2 then (some x1) else (F_L_ones_4 n x0 (x1 + ((x0 >>> (x2 &&& 31)) &&& 1)) (x2 + 1))
def F_L_ones (p0 : Int32) : Option (Int32) := F_L_ones_4 10000 p0 0 0
set_option maxHeartbeats 4000000 in
set_option maxRecDepth 100000 in
theorem c_L_ones (l : Launch) (G : gG) (p0 : Int32) (res : Int32) (h : F_L_ones p0 = some res) : RdM l G yL_ones cL_ones 3 .int (rmk 0 0) [] [.int p0] res := by
  refine ofR (by decide) (Nat.le_of_ble_eq_true rfl) ?_
  intro p e s m below meth c ls S hr hlk hK hP hl
  have S : CallFix p m c cL_ones 3 s ([.int p0] : List Value).toArray T0 RL := S
  obtain ⟨hx, hb, hml, hown, hts⟩ := id S
  have hl : lv_has ls 3 [(0, .int p0)] := hl
  have L4 : ∀ (n : Nat) (x0 x1 x2 : Int32), F_L_ones_4 n x0 x1 x2 = some res → ∀ (ls : Array Slot), lv_has ls 3 [(0, .int x0), (1, .int x1), (2, .int x2)] → W p l e (rmk 0 0) s m ([.int p0] : List Value).toArray below meth c s.heap [] 0 0 (MQ below (vp_Si (fun x => x = res)) ([.int p0] : List Value).toArray s 0 0 (fun _ => False)) (F0 m 4 ls []) := by
    intro n
    induction n with
    | zero => intro x0 x1 x2 h; exact absurd (show (none : Option (Int32)) = some res from h) (fun q => by cases q)
    | succ n ih =>
      intro x0 x1 x2 h ls hl
      rw [F_L_ones_4] at h
      refine lv_iload_n hx hb dL_ones_4 rfl (lv_at hl 2 rfl) ?_
      refine lv_bipush (v := 24) hx hb dL_ones_5 (by decide) ?_
      refine lv_icmp_ge (tgt := 24) hx hb dL_ones_7 (by decide) (fun c1 => ?_) (fun c1 => ?_)
      · replace h := if_t c1 h
        refine lv_iload_n hx hb dL_ones_24 rfl (lv_at hl 1 rfl) ?_
        obtain rfl := Option.some.inj h
        exact retR S hr hlk rfl rfl dL_ones_25
      · replace h := if_f c1 h
        refine lv_iload_n hx hb dL_ones_10 rfl (lv_at hl 1 rfl) ?_
        refine lv_iload_n hx hb dL_ones_11 rfl (lv_at hl 0 rfl) ?_
        refine lv_iload_n hx hb dL_ones_12 rfl (lv_at hl 2 rfl) ?_
        refine lv_ishr hx hb dL_ones_13 ?_
        refine lv_iconst (v := 1) hx hb dL_ones_14 (by decide) ?_
        refine lv_iand hx hb dL_ones_15 ?_
        refine lv_iadd hx hb dL_ones_16 ?_
        refine lv_istore_n (lv' := [(1, .int (x1 + ((x0 >>> (x2 &&& 31)) &&& 1))), (0, .int x0), (2, .int x2)]) hx hb dL_ones_17 rfl hl (by decide) rfl (fun ls hl => ?_)
        refine lv_iinc (v := x2 + 1) (lv' := [(2, .int (x2 + 1)), (1, .int (x1 + ((x0 >>> (x2 &&& 31)) &&& 1))), (0, .int x0)]) hx hb dL_ones_18 hl (k := 2) rfl rfl (by decide) rfl (fun ls hl => ?_)
        refine lv_goto (tgt := 4) hx hb dL_ones_21 (by decide) ?_
        exact ih x0 (x1 + ((x0 >>> (x2 &&& 31)) &&& 1)) (x2 + 1)  h ls (lv_sub hl [2, 1, 0] rfl)
  rw [F_L_ones] at h
  refine lv_iconst (v := 0) hx hb dL_ones_0 (by decide) ?_
  refine lv_istore_n (lv' := [(1, .int 0), (0, .int p0)]) hx hb dL_ones_1 rfl hl (by decide) rfl (fun ls hl => ?_)
  refine lv_iconst (v := 0) hx hb dL_ones_2 (by decide) ?_
  refine lv_istore_n (lv' := [(2, .int 0), (1, .int 0), (0, .int p0)]) hx hb dL_ones_3 rfl hl (by decide) rfl (fun ls hl => ?_)
  exact L4 10000 p0 0 0  h ls (lv_sub hl [2, 1, 0] rfl)
theorem lv_re {p : Program} {l : Launch} {e : Env} {R : Room} {s : State} {m : MethodId} {args : Array Value} {below : List Frame} {meth : Method} {c : Code} {H : Heap} {locs : List Loc} {cells slots : Nat} {Q : State → Prop} {pc : Nat} {ls : Array Slot} {rest : List Value} {x y : Int32} (h : x = y) (kk : W p l e R s m args below meth c H locs cells slots Q (F0 m pc ls (.int y :: rest))) : W p l e R s m args below meth c H locs cells slots Q (F0 m pc ls (.int x :: rest)) := by rw [h]; exact kk
theorem k_ge {a b : Nat} (ha : a < 2 ^ 31) (hb : b < 2 ^ 31) (h : b ≤ a) : nI b ≤ nI a := (nI_leI hb ha).mpr h
theorem k_nge {a b : Nat} (ha : a < 2 ^ 31) (hb : b < 2 ^ 31) (h : a < b) : ¬ nI b ≤ nI a := fun q => by have := (nI_leI hb ha).mp q; omega
theorem k_lt {a b : Nat} (ha : a < 2 ^ 31) (hb : b < 2 ^ 31) (h : a < b) : nI a < nI b := fa_of_nle (k_nge ha hb h)
theorem k_nlt {a b : Nat} (ha : a < 2 ^ 31) (hb : b < 2 ^ 31) (h : b ≤ a) : ¬ nI a < nI b := fun q => (fa_of_lt q).2.1 (k_ge ha hb h)
theorem k_ne {a b : Nat} (ha : a < 2 ^ 31) (hb : b < 2 ^ 31) (h : ¬ a = b) : ¬ nI a = nI b := fun q => h ((nI_eq ha hb).mp q)
theorem nI_nz {a : Nat} (h0 : 0 < a) (h : a < 2 ^ 31) : ¬ nI a = 0 := fun q => by have := (eq0 h).mp q; omega
theorem onesL_lp (m : Nat) (hm : m < 2 ^ 31) : ∀ (n j : Nat), j ≤ 24 → 24 - j < n → F_L_ones_4 n (nI m) (nI (fb_sm (fun x => m / 2 ^ x % 2) j)) (nI j) = some (nI (pc m)) := by
  intro n
  induction n with
  | zero => intro j _ h; omega
  | succ n ih =>
    intro j hj hn
    rw [F_L_ones_4]
    by_cases c : 24 ≤ j
    · rw [if_pos ((le24 (by omega)).mpr c), show j = 24 by omega]; rfl
    · rw [if_neg (fun q => c ((le24 (by omega)).mp q)), z_shr hm (by omega), z_and1, nI_add, l1]
      exact ih (j + 1) (by omega) (by omega)
theorem onesL {m : Nat} (hm : m < 2 ^ 31) : F_L_ones (nI m) = some (nI (pc m)) := onesL_lp m hm 10000 0 (by omega) (by omega)
theorem bf {b : Bool} (h : ¬ b = true) : b = false := by cases b; rfl; exact absurd rfl h
def onC (ms t : Nat) : Nat := fb_sm (fun x => ms / 2 ^ x % 2) t
theorem onC_all {ms k : Nat} (hk : k ≤ 12) (hm : ms < 2 ^ k) : onC ms k = pc ms := by
  have := tc_all hk hm
  unfold tc at this
  rw [Nat.sub_zero] at this
  rw [← this]
  exact fb_sm_cong (fun u _ => by rw [Nat.zero_add])
theorem ons (ms t : Nat) : nI (onC ms t) + (if ms.testBit t = true then 1 else 0) = nI (onC ms (t + 1)) := by
  show _ = nI (onC ms t + ms / 2 ^ t % 2)
  rw [bitv]
  by_cases c : ms.testBit t = true
  · rw [if_pos c, if_pos c]; exact nI_add _ 1
  · rw [if_neg c, if_neg c]; exact nI_add _ 0
theorem fls (H D : Nat → Nat) (t : Nat) : nI (flF H D t) + (if H t = D t then 0 else 1) = nI (flF H D (t + 1)) := by
  show _ = nI (if H t = D t then flF H D t else flF H D t + 1)
  by_cases c : H t = D t
  · rw [if_pos c, if_pos c]; exact nI_add _ 0
  · rw [if_neg c, if_neg c]; exact nI_add _ 1
theorem rcs1 {σ : Nat → Nat} (h : Pm σ) {j : Nat} (hj : j < 24) (c : low σ j = j) : nI (rcF σ j) + 1 = nI (rcF σ (j + 1)) := by rw [rc_step h hj, if_pos c]; exact nI_add _ 1
theorem rcs0 {σ : Nat → Nat} (h : Pm σ) {j : Nat} (hj : j < 24) (c : ¬ low σ j = j) : nI (rcF σ j) + 0 = nI (rcF σ (j + 1)) := by rw [rc_step h hj, if_neg c]; exact nI_add _ 0
theorem fxs1 {σ : Nat → Nat} {j : Nat} (c : σ j = j) : nI (fxF σ j) + 1 = nI (fxF σ (j + 1)) := by rw [fx_step, if_pos c]; exact nI_add _ 1
theorem fxs0 {σ : Nat → Nat} {j : Nat} (c : ¬ σ j = j) : nI (fxF σ j) + 0 = nI (fxF σ (j + 1)) := by rw [fx_step, if_neg c]; exact nI_add _ 0
theorem nextT {k t : Nat} (hk : k ≤ 12) (ht : t < k) : ∃ u, u < k ∧ (nI t + 1) - (nI t + 1) / nI k * nI k = nI u := by
  refine ⟨(t + 1) % k, Nat.mod_lt _ (by omega), ?_⟩
  rw [l1, pk_rem (show t + 1 < 2 ^ 31 by omega) (by omega) (by omega)]
theorem lt_zero {H : Nat → Nat} {ms k : Nat} (hm : ms < 2 ^ 24) (h : ¬ 0 < pc ms) : lt_ H ms k = 0 := by
  unfold lt_
  rw [if_pos (pc_zero hm (by omega))]
section HH
variable {σ : Nat → Nat} {k ms : Nat} {H D : Nat → Nat} {fs : Nat → Int32}
theorem tg0 (h : VR σ k H D ms fs) {j : Nat} (hj : j < 24) : (nI (TG σ j) >>> (nI (σ j) &&& 31)) &&& 1 = 0 := by
  have h1 := TG_lt h.1 (show j ≤ 24 by omega)
  have h2 := h.1.1 j hj
  rw [bitM (by omega) (by omega), TG_new h.1 hj]; rfl
theorem tgs (h : VR σ k H D ms fs) {j : Nat} (hj : j < 24) : nI (TG σ j) ||| (1 : Int32) <<< (nI (σ j) &&& 31) = nI (TG σ (j + 1)) := by
  have h2 := h.1.1 j hj
  rw [z_one (by omega), fa_or, TG_succ σ hj]
theorem alv_n {σ : Nat → Nat} {a b : Nat} (h : al σ a b < od σ) : alv σ a b = nI (al σ a b) := if_pos h
theorem alv_ge (h : VR σ k H D ms fs) {a b : Nat} (c : al σ a b < od σ) : ¬ alv σ a b < 0 := by
  have := od_le h.1
  rw [alv_n c]
  exact fun q => (lt0 (by omega)).mp q
theorem alv_lt {σ : Nat → Nat} {a b : Nat} (c : ¬ al σ a b < od σ) : alv σ a b < 0 := by
  unfold alv
  rw [if_neg c]; decide
theorem al_s (h : VR σ k H D ms fs) {t u : Nat} (ht : t < k) (hu : u < k) (c : al σ (H t) (H u) < od σ) : al σ (H u) (H t) < od σ := re_sym h.1 (h.2.2.2.1 t (by have := h.2.2.1.1; omega)).1 c
theorem al0 (h : VR σ k H D ms fs) {t : Nat} (ht : t < k) : F_X5_alikeIn fs (nI t) (nI t) = some 0 := by
  have hH := (h.2.2.2.1 t (by have := h.2.2.1.1; omega)).1
  rw [v_alike h ht ht]
  unfold alv
  rw [al_self hH, if_pos (show 0 < od σ from od_pos σ)]; rfl
theorem reason_iff (h : VR σ k H D ms fs) {t u : Nat} (ht : t < k) (hu : u < k) {r : Int32} (hr : r = 0 ↔ pc (H t) = pc (H u) ∧ lkP σ (H t) (H u) 24 ∧ alv σ (H t) (H u) ≠ -5) : r = 0 ↔ al σ (H t) (H u) < od σ := by
  have hH := (h.2.2.2.1 t (by have := h.2.2.1.1; omega)).1
  rw [hr]
  constructor
  · rintro ⟨-, -, h3⟩
    by_cases c : al σ (H t) (H u) < od σ
    · exact c
    · exact absurd ((alv_5 h.1 _ _).mpr c) h3
  · intro c
    obtain ⟨h1, h2⟩ := re_lk h.1 hH c
    exact ⟨h1, h2, fun q => (alv_5 h.1 _ _).mp q c⟩
theorem reason0 (h : VR σ k H D ms fs) {t : Nat} (ht : t < k) : F_X5_reason fs (nI t) (nI t) = some 0 := by
  have hH := (h.2.2.2.1 t (by have := h.2.2.1.1; omega)).1
  obtain ⟨r, e, hr⟩ := v_reason h ht ht
  rw [e, (reason_iff h ht ht hr).mpr (by rw [al_self hH]; exact od_pos σ)]
theorem kin_t (h : VR σ k H D ms fs) {t u : Nat} (hu : u < k) (c : al σ (H u) (H t) < od σ) : (nI (kmF σ H t k) >>> (nI u &&& 31)) &&& 1 = 1 := by
  have h1 := kin_lt σ H t h.2.2.1.1
  have h2 := h.2.2.1.1
  rw [bitM (by omega) (by omega), if_pos ((kmF_bit σ H t u k).mpr ⟨hu, c⟩)]; rfl
theorem kin_f (h : VR σ k H D ms fs) {t u : Nat} (hu : u < k) (c : ¬ al σ (H u) (H t) < od σ) : ¬ (nI (kmF σ H t k) >>> (nI u &&& 31)) &&& 1 = 1 := by
  have h1 := kin_lt σ H t h.2.2.1.1
  have h2 := h.2.2.1.1
  rw [bitM (by omega) (by omega), if_neg (fun q => c ((kmF_bit σ H t u k).mp q).2)]; decide
theorem kin1 (h : VR σ k H D ms fs) {t : Nat} (ht : t < k) : (nI (kmF σ H t k) >>> (nI t &&& 31)) &&& 1 = 1 := by
  have hH := (h.2.2.2.1 t (by have := h.2.2.1.1; omega)).1
  exact kin_t h ht (by rw [al_self hH]; exact od_pos σ)
theorem meets0 (h : VR σ k H D ms fs) {t : Nat} (ht : t < k) : F_X5_meetsIn fs (nI t) (nI t) = some (if H t = 0 then -5 else 0) := by
  have hH := (h.2.2.2.1 t (by have := h.2.2.1.1; omega)).1
  rw [v_meets h ht ht, meets_self h.1 hH]
theorem best0 (h : VR σ k H D ms fs) {t : Nat} (ht : t < k) : ∃ b, b < pd σ (H t) ∧ (ms.testBit t = true → F_X5_bestTurn fs (nI t) 0 = some (nI b)) := by
  have hH := (h.2.2.2.1 t (by have := h.2.2.1.1; omega)).1
  exact ⟨_, best_pd h.1 hH _ _, fun d => (v_best h ht d).1⟩
theorem best1 (h : VR σ k H D ms fs) {t : Nat} (ht : t < k) {LT : Nat} (hL : LT = lt_ H ms k) : ∃ b, b ≤ 24 ∧ (ms.testBit t = true → pc LT ≤ b) ∧ (ms.testBit t = true → F_X5_bestTurn fs (nI t) 1 = some (nI b)) := by
  have hH := (h.2.2.2.1 t (by have := h.2.2.1.1; omega)).1
  exact ⟨_, pc_le _, fun d => by rw [hL]; exact best_ge h.2.2.1.1 ht hH d, fun d => (v_best h ht d).2⟩
end HH
theorem pas_of {G : gG} {oqa c : Nat} {M : MT} {L : List va_W} (hO : Obj G oqa c M L) : ∃ n, n ≤ 4 ∧ M.1 = nI n := by
  obtain ⟨d, -, hR, -⟩ := hO
  exact Hs_n hR.2.2.1
theorem pun_of {G : gG} {oqa c : Nat} {M : MT} {L : List va_W} (hO : Obj G oqa c M L) {σ : Nat → Nat} {k : Nat} {H D : Nat → Nat} {ms : Nat} (hV : VR σ k H D ms M.2.2.2.2.2.2.2.2.2.1) (hc : c < 10000000) : ∃ x, M.2.2.2.2.2.2.2.2.2.1 62 = nI x ∧ x < 2 ^ 28 ∧ fb_sm (fun t => pc (D t)) k ≤ x := by
  obtain ⟨d, -, -, hI⟩ := hO
  obtain ⟨n, x, D2, h1, h2, h3, h4, h5, h6⟩ := hI.1
  have e : n = k := (nI_eq (by omega) (by have := hV.2.2.1.1; omega)).mp (h2.symm.trans hV.2.2.1.2)
  subst e
  refine ⟨x, h3, by omega, Nat.le_trans (Nat.le_of_eq (fb_sm_cong (fun u hu => ?_))) h6⟩
  have := (nI_eq (by have := (h5 u (by omega)).1; omega) (by have := (hV.2.2.2.2.1 u (by omega)).1; omega)).mp ((h5 u (by omega)).2.symm.trans (hV.2.2.2.2.1 u (by omega)).2)
  rw [this]
