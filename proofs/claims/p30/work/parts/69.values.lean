/-! what the readers answer, in numbers -/
def VR (σ : Nat → Nat) (k : Nat) (H D : Nat → Nat) (ms : Nat) (fs : Nat → Int32) : Prop := Pm σ ∧ Mv σ fs ∧ (k ≤ 12 ∧ fs 24 = nI k) ∧ (∀ t, t < 12 → H t < 2 ^ 24 ∧ fs (25 + t) = nI (H t)) ∧ (∀ t, t < 12 → D t < 2 ^ 24 ∧ fs (37 + t) = nI (D t)) ∧ ms < 2 ^ k ∧ fs 49 = nI ms
theorem VR_of {G : gG} {oqa c : Nat} {M : MT} {L : List va_W} (hO : Obj G oqa c M L) : ∃ σ k H D ms, VR σ k H D ms M.2.2.2.2.2.2.2.2.2.1 := by
  obtain ⟨d, -, hR, -⟩ := hO
  obtain ⟨σ, k, H, D, ms, hP, hf, -, ⟨hk, h24, -⟩, hh, hd, hm, h49, -⟩ := Rd_of hR.1
  exact ⟨σ, k, H, D, ms, hP, hf, ⟨hk, h24⟩, fun t ht => ⟨(hh t ht).1, (hh t ht).2.1⟩, fun t ht => ⟨(hd t ht).1, (hd t ht).2.1⟩, hm, h49⟩
theorem plM1 {p : Nat} (h : p < 24) : F_X5_isPlace (nI p) = some 1 := by
  rcases isPl (nI p) with ⟨_, _, _, _, e⟩ | ⟨e1, _⟩
  · exact e
  · rw [isP h] at e1; cases e1
theorem i10 : ¬ (1 : Int32) = 0 := by decide
section VV
variable {σ : Nat → Nat} {k ms : Nat} {H D : Nat → Nat} {fs : Nat → Int32}
theorem v_place0 (h : VR σ k H D ms fs) {p : Nat} (hp : p < 24) : F_X5_place fs (nI p) 0 = some (nI (σ p)) := by
  unfold F_X5_place
  rw [plM1 hp, Option.bind_some, if_neg i10, if_pos rfl, l0, ck_ok (by omega) (by omega), tn (by omega), h.2.1 p hp]
theorem v_place1 (h : VR σ k H D ms fs) {p : Nat} (hp : p < 24) : F_X5_place fs (nI (σ p)) 1 = some (nI p) := by
  unfold F_X5_place
  rw [plM1 (h.1.1 p hp), Option.bind_some, if_neg i10, if_neg (by decide), if_pos rfl, srcM h.1 h.2.1 hp, Option.bind_some]
theorem v_place2 (h : VR σ k H D ms fs) {p : Nat} (hp : p < 24) : F_X5_place fs (nI p) 2 = some (nI (ln σ p)) := by
  unfold F_X5_place
  rw [plM1 hp, Option.bind_some, if_neg i10, if_neg (by decide), if_neg (by decide), if_pos rfl, long_eq h.1 h.2.1 hp, Option.bind_some]
theorem v_place3 (h : VR σ k H D ms fs) {p : Nat} (hp : p < 24) : F_X5_place fs (nI p) 3 = some (nI (low σ p)) := by
  unfold F_X5_place
  rw [plM1 hp, Option.bind_some, if_neg i10, if_neg (by decide), if_neg (by decide), if_neg (by decide), if_pos rfl, low_eq h.1 h.2.1 hp, Option.bind_some]
theorem v_place4 (h : VR σ k H D ms fs) {p : Nat} (hp : p < 24) : F_X5_place fs (nI p) 4 = some (nI (whF H p k)) := by
  unfold F_X5_place
  rw [plM1 hp, Option.bind_some, if_neg i10, if_neg (by decide), if_neg (by decide), if_neg (by decide), if_neg (by decide), if_pos rfl, whM h.2.2.1.1 h.2.2.1.2 h.2.2.2.1 hp, Option.bind_some]
theorem v_move0 (h : VR σ k H D ms fs) : F_X5_move fs 0 = some (nI (od σ)) := by
  unfold F_X5_move
  rw [if_pos rfl, orderM h.1 h.2.1, Option.bind_some]
theorem v_move1 (h : VR σ k H D ms fs) : F_X5_move fs 1 = some (nI (rcF σ 24)) := by
  unfold F_X5_move
  rw [if_neg (by decide), if_pos rfl, roundsM h.1 h.2.1, Option.bind_some]
theorem v_move2 (h : VR σ k H D ms fs) : F_X5_move fs 2 = some (nI (fxF σ 24)) := by
  unfold F_X5_move
  rw [if_neg (by decide), if_neg (by decide), if_pos rfl, fixM h.1 h.2.1, Option.bind_some]
theorem v_move3 (h : VR σ k H D ms fs) : F_X5_move fs 3 = some (nI (lgF σ 24)) := by
  unfold F_X5_move
  rw [if_neg (by decide), if_neg (by decide), if_neg (by decide), if_pos rfl, lgM h.1 h.2.1, Option.bind_some]
theorem nI_sub {a b : Nat} (h : b ≤ a) : nI a - nI b = nI (a - b) := by
  have e : nI (a - b) + nI b = nI a := by rw [nI_add, Nat.sub_add_cancel h]
  rw [← e, Int32.add_sub_cancel]
theorem v_move4 (h : VR σ k H D ms fs) : F_X5_move fs 4 = some (if rcF σ 24 % 2 = 0 then 1 else 0) := by
  unfold F_X5_move
  rw [if_neg (by decide), if_neg (by decide), if_neg (by decide), if_neg (by decide), if_pos rfl, roundsM h.1 h.2.1, Option.bind_some]
  have hr := rcF_le σ 24
  rw [show (24 : Int32) - nI (rcF σ 24) = nI (24 - rcF σ 24) from nI_sub hr]
  have e : nI (24 - rcF σ 24) - nI (24 - rcF σ 24) / 2 * 2 = 0 ↔ 2 ∣ 24 - rcF σ 24 := rem0 (x := 24 - rcF σ 24) (d := 2) (by omega) (by omega) (by omega)
  by_cases c : rcF σ 24 % 2 = 0
  · rw [if_pos c, if_pos (e.mpr (by omega))]
  · rw [if_neg c, if_neg (fun q => c (by have := e.mp q; omega))]
theorem v_tk (h : VR σ k H D ms fs) {t : Nat} (ht : t < k) : F_X5_isTicket fs (nI t) = some 1 := mk1 h.2.2.1.1 h.2.2.1.2 ht
theorem v_ticket (h : VR σ k H D ms fs) {t : Nat} (ht : t < k) (a : Int32) : F_X5_ticket fs (nI t) a = (if a = 0 then some (nI (H t)) else if a = 1 then some (nI (D t)) else if a = 2 then some (nI (H t) &&& (nI (D t) ^^^ (-1))) else if a = 3 then some (nI (D t) &&& (nI (H t) ^^^ (-1))) else if a = 4 then some (nI (pc (H t))) else if a = 5 then some (if H t = D t then 0 else 1) else if a = 6 then some (nI (al σ (MV σ 1 (H t)) (H t) + 1)) else if a = 7 then some (if ms.testBit t = true then 1 else 0) else if a = 8 then some (fs (50 + t)) else some (-2)) := by
  obtain ⟨hP, hf, ⟨hk, h24⟩, hh, hd, hm, h49⟩ := id h
  obtain ⟨x1, x2⟩ := hh t (by omega)
  obtain ⟨y1, y2⟩ := hd t (by omega)
  have hm2 := two12 hk hm
  unfold F_X5_ticket
  rw [v_tk h ht, Option.bind_some, if_neg i10, l25, l37, l50, ck_ok (by omega) (by omega), ck_ok (by omega) (by omega), ck_ok (by omega) (by omega), tn (by omega), tn (by omega), tn (by omega), x2, y2, ones_eq (by omega), onM hm2 h49 (by omega), sameM hP hf x1]
  have hF : F_X5_isFalse fs (nI t) = some (if H t = D t then 0 else 1) := isM2 (by omega) x2 y2 x1 y1
  rw [hF]
  unfold nmd
  simp only [Option.bind_some]
  have e5 : (if (if H t = D t then (0 : Int32) else 1) = 0 then some (0 : Int32) else some 1) = some (if H t = D t then 0 else 1) := by
    by_cases c5 : H t = D t
    · rw [if_pos c5, if_pos rfl]
    · rw [if_neg c5, if_neg i10]
  have e7 : (if (if ms.testBit t = true then (1 : Int32) else 0) = 0 then some (0 : Int32) else some 1) = some (if ms.testBit t = true then 1 else 0) := by
    by_cases c7 : ms.testBit t = true
    · rw [if_pos c7, if_neg i10]
    · rw [if_neg c7, if_pos rfl]
  rw [e5, e7]
theorem v_alike (h : VR σ k H D ms fs) {t u : Nat} (ht : t < k) (hu : u < k) : F_X5_alikeIn fs (nI t) (nI u) = some (alv σ (H t) (H u)) := by
  obtain ⟨hP, hf, ⟨hk, h24⟩, hh, hd, hm, h49⟩ := id h
  obtain ⟨x1, x2⟩ := hh t (by omega)
  obtain ⟨y1, y2⟩ := hh u (by omega)
  unfold F_X5_alikeIn
  rw [v_tk h ht, Option.bind_some, if_neg i10, v_tk h hu, Option.bind_some, if_neg i10, l25, l25, ck_ok (by omega) (by omega), ck_ok (by omega) (by omega), tn (by omega), tn (by omega), x2, y2, alM hP hf x1 y1, Option.bind_some]
theorem v_meets (h : VR σ k H D ms fs) {t u : Nat} (ht : t < k) (hu : u < k) : F_X5_meetsIn fs (nI t) (nI u) = some (mtv σ (H t) (H u) (od σ)) := by
  obtain ⟨hP, hf, ⟨hk, h24⟩, hh, hd, hm, h49⟩ := id h
  obtain ⟨x1, x2⟩ := hh t (by omega)
  obtain ⟨y1, y2⟩ := hh u (by omega)
  unfold F_X5_meetsIn
  rw [v_tk h ht, Option.bind_some, if_neg i10, v_tk h hu, Option.bind_some, if_neg i10, orderM hP hf, Option.bind_some, l25, ck_ok (by omega) (by omega), tn (by omega), x2, mtM hP hf (by omega) x1 y2]
theorem v_reason (h : VR σ k H D ms fs) {t u : Nat} (ht : t < k) (hu : u < k) : ∃ r : Int32, F_X5_reason fs (nI t) (nI u) = some r ∧ (r = 0 ↔ pc (H t) = pc (H u) ∧ lkP σ (H t) (H u) 24 ∧ alv σ (H t) (H u) ≠ -5) := by
  obtain ⟨hP, hf, ⟨hk, h24⟩, hh, hd, hm, h49⟩ := id h
  obtain ⟨x1, x2⟩ := hh t (by omega)
  obtain ⟨y1, y2⟩ := hh u (by omega)
  have p1 := pc_le (H t)
  have p2 := pc_le (H u)
  unfold F_X5_reason
  rw [v_tk h ht, Option.bind_some, if_neg i10, v_tk h hu, Option.bind_some, if_neg i10, l25, l25, ck_ok (by omega) (by omega), ck_ok (by omega) (by omega), tn (by omega), tn (by omega), x2, y2, ones_eq (by omega), ones_eq (by omega), Option.bind_some, Option.bind_some]
  by_cases c : pc (H t) = pc (H u)
  · rw [if_pos (by rw [c])]
    by_cases d : lkP σ (H t) (H u) 24
    · have e := lkM_t hP hf x1 y1 (nI t) (nI u) d 10000 0 (Nat.zero_le _) (by omega)
      by_cases f : alv σ (H t) (H u) = -5
      · rw [if_pos f] at e
        exact ⟨3, e, fun q => absurd q (by decide), fun q => absurd f q.2.2⟩
      · rw [if_neg f] at e
        exact ⟨0, e, fun _ => ⟨c, d, f⟩, fun _ => rfl⟩
    · exact ⟨2, lkM_f hP hf x1 y1 _ _ d 10000 0 (fun q hq => absurd hq (Nat.not_lt_zero _)) (Nat.zero_le _) (by omega), fun q => absurd q (by decide), fun q => absurd q.2.1 d⟩
  · rw [if_neg (fun q => c ((nI_eq (by omega) (by omega)).mp q))]
    exact ⟨1, rfl, fun q => absurd q (by decide), fun q => absurd q.1 c⟩
theorem v_kin (h : VR σ k H D ms fs) {t : Nat} (ht : t < k) : F_X5_kin fs (nI t) = some (nI (kmF σ H t k)) := by
  obtain ⟨hP, hf, ⟨hk, h24⟩, hh, hd, hm, h49⟩ := id h
  unfold F_X5_kin
  rw [v_tk h ht, Option.bind_some, if_neg i10]
  exact knM_lp hP hf hk ht h24 hh 10000 0 (Nat.zero_le _) (by omega)
def lt_ (H : Nat → Nat) (ms k : Nat) : Nat := if ms = 0 then 0 else lbF H ms k
theorem lt_lt (H : Nat → Nat) (ms k : Nat) : lt_ H ms k < 2 ^ 24 := by
  unfold lt_
  split
  · decide
  · exact lbF_lt H ms k
theorem v_lit (h : VR σ k H D ms fs) : F_X5_lit fs = some (nI (lt_ H ms k)) := by
  obtain ⟨hP, hf, ⟨hk, h24⟩, hh, hd, hm, h49⟩ := id h
  have hm2 := two12 hk hm
  unfold F_X5_lit lt_
  rw [k49, t49, h49]
  by_cases c : ms = 0
  · rw [if_pos (by rw [c]; rfl), if_pos c]; rfl
  · have c2 : ¬ nI ms = 0 := fun q => c ((eq0 (by omega)).mp q)
    rw [if_neg c2, if_neg c, lbM (m := ms) hk h24 hm2 h49 hh (fun t ht => ⟨fun q => ⟨q, fun e => ?_⟩, fun q => q.1⟩), Option.bind_some]
    have := congrArg Int32.toInt e
    rw [nI_toInt (by omega)] at this
    have k1 : (-1 : Int32).toInt = -1 := by decide
    omega
theorem v_light (h : VR σ k H D ms fs) : F_X5_light fs = some (nI (lt_ H ms k)) := by
  unfold F_X5_light
  rw [v_lit h, Option.bind_some]
theorem v_bestN (h : VR σ k H D ms fs) {t : Nat} (ht : t < k) (d : ms.testBit t = false) : F_X5_bestTurn fs (nI t) 0 = some (-4) := by
  obtain ⟨hP, hf, ⟨hk, h24⟩, hh, hd, hm, h49⟩ := id h
  have hm2 := two12 hk hm
  unfold F_X5_bestTurn F_X5_in
  rw [v_tk h ht, Option.bind_some, if_neg i10, if_neg (show ¬ (0 : Int32) < 0 by decide), if_neg (show ¬ (1 : Int32) < 0 by decide), Option.bind_some, if_neg i10, onF hm2 h49 (by omega) d, Option.bind_some, if_pos rfl]
theorem v_best (h : VR σ k H D ms fs) {t : Nat} (ht : t < k) (d : ms.testBit t = true) : F_X5_bestTurn fs (nI t) 0 = some (nI (bi (lgt σ (H t) (lbF H (cl ms t) k)) (od σ))) ∧ F_X5_bestTurn fs (nI t) 1 = some (nI (lgt σ (H t) (lbF H (cl ms t) k) (bi (lgt σ (H t) (lbF H (cl ms t) k)) (od σ)))) := by
  obtain ⟨hP, hf, ⟨hk, h24⟩, hh, hd, hm, h49⟩ := id h
  have hm2 := two12 hk hm
  obtain ⟨x1, x2⟩ := hh t (by omega)
  have e1 : F_X5_lightBut fs (nI t) = some (nI (lbF H (cl ms t) k)) := lbM (m := cl ms t) hk h24 hm2 h49 hh (fun s hs => (cl_bit hs).trans ⟨fun q => ⟨q.1, fun z => q.2 ((nI_eq (by omega) (by omega)).mp z)⟩, fun q => ⟨q.1, fun z => q.2 (by rw [z])⟩⟩)
  constructor
  · unfold F_X5_bestTurn F_X5_in
    rw [v_tk h ht, Option.bind_some, if_neg i10, if_neg (show ¬ (0 : Int32) < 0 by decide), if_neg (show ¬ (1 : Int32) < 0 by decide), Option.bind_some, if_neg i10, onT hm2 h49 (by omega) d, Option.bind_some, if_neg i10, e1, Option.bind_some, orderM hP hf, Option.bind_some, l25, ck_ok (by omega) (by omega), tn (by omega), x2, btM_0 hP hf x1, if_pos rfl]
  · unfold F_X5_bestTurn F_X5_in
    rw [v_tk h ht, Option.bind_some, if_neg i10, if_neg (show ¬ (1 : Int32) < 0 by decide), if_neg (show ¬ (1 : Int32) < 1 by decide), Option.bind_some, if_neg i10, onT hm2 h49 (by omega) d, Option.bind_some, if_neg i10, e1, Option.bind_some, orderM hP hf, Option.bind_some, l25, ck_ok (by omega) (by omega), tn (by omega), x2, btM_0 hP hf x1, if_neg i10]
theorem v_count0 (h : VR σ k H D ms fs) (pas len : Int32) : F_X5_count pas len fs 0 = some (nI k) := by
  unfold F_X5_count
  rw [if_pos rfl, k24, t24, h.2.2.1.2]
theorem v_count1 (h : VR σ k H D ms fs) (pas len : Int32) : F_X5_count pas len fs 1 = some (nI (pc ms)) := by
  have hm2 := two12 h.2.2.1.1 h.2.2.2.2.2.1
  unfold F_X5_count
  rw [if_neg (by decide), if_pos rfl, k49, t49, h.2.2.2.2.2.2, ones_eq (by omega), Option.bind_some]
theorem v_count2 (h : VR σ k H D ms fs) (pas len : Int32) : F_X5_count pas len fs 2 = some (nI (flF H D k)) := by
  obtain ⟨hP, hf, ⟨hk, h24⟩, hh, hd, hm, h49⟩ := id h
  unfold F_X5_count
  rw [if_neg (by decide), if_neg (by decide), if_pos rfl, show F_X5_falseOnes fs = some (nI (flF H D k)) from flM_lp (fh := fun t => nI (H t)) (fd := fun t => nI (D t)) hk h24 (fun t ht => ⟨(hh t ht).1, (hh t ht).2, rfl⟩) (fun t ht => ⟨(hd t ht).1, (hd t ht).2, rfl⟩) 10000 0 (Nat.zero_le _) (by omega), Option.bind_some]
theorem v_count3 (h : VR σ k H D ms fs) (pas len : Int32) : F_X5_count pas len fs 3 = some (nI (fb_sm (fun t => pc (H t)) k)) := by
  obtain ⟨hP, hf, ⟨hk, h24⟩, hh, hd, hm, h49⟩ := id h
  unfold F_X5_count
  rw [if_neg (by decide), if_neg (by decide), if_neg (by decide), if_pos rfl, show F_X5_allOf fs 25 = some (nI (fb_sm (fun t => pc (H t)) k)) from aoM_lp (o := 25) (by omega) hk h24 hh 10000 0 (Nat.zero_le _) (by omega), Option.bind_some]
theorem v_count4 (h : VR σ k H D ms fs) (pas len : Int32) : F_X5_count pas len fs 4 = some (nI (fb_sm (fun t => pc (D t)) k)) := by
  obtain ⟨hP, hf, ⟨hk, h24⟩, hh, hd, hm, h49⟩ := id h
  unfold F_X5_count
  rw [if_neg (by decide), if_neg (by decide), if_neg (by decide), if_neg (by decide), if_pos rfl, show F_X5_allOf fs 37 = some (nI (fb_sm (fun t => pc (D t)) k)) from aoM_lp (o := 37) (by omega) hk h24 hd 10000 0 (Nat.zero_le _) (by omega), Option.bind_some]
theorem v_count5 (h : VR σ k H D ms fs) (pas len : Int32) : F_X5_count pas len fs 5 = some (nI (pc (lt_ H ms k))) := by
  unfold F_X5_count
  rw [if_neg (by decide), if_neg (by decide), if_neg (by decide), if_neg (by decide), if_neg (by decide), if_pos rfl, v_lit h, Option.bind_some, ones_eq (by have := lt_lt H ms k; omega), Option.bind_some]
theorem v_count6 (pas len : Int32) (fs : Nat → Int32) : F_X5_count pas len fs 6 = some (fs 62) := by
  unfold F_X5_count
  rw [if_neg (by decide), if_neg (by decide), if_neg (by decide), if_neg (by decide), if_neg (by decide), if_neg (by decide), if_pos rfl, k62, t62]
theorem v_count8 (pas len : Int32) (fs : Nat → Int32) : F_X5_count pas len fs 8 = some (fs 64) := by
  unfold F_X5_count
  rw [if_neg (by decide), if_neg (by decide), if_neg (by decide), if_neg (by decide), if_neg (by decide), if_neg (by decide), if_neg (by decide), if_neg (by decide), if_pos rfl, k64, t64]
theorem v_count9 (pas len : Int32) (fs : Nat → Int32) : F_X5_count pas len fs 9 = some pas := by
  unfold F_X5_count
  rw [if_neg (by decide), if_neg (by decide), if_neg (by decide), if_neg (by decide), if_neg (by decide), if_neg (by decide), if_neg (by decide), if_neg (by decide), if_neg (by decide), if_pos rfl]
end VV
