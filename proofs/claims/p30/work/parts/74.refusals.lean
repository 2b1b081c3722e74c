/-! calls that are refused change nothing -/
theorem in0l {a b c : Int32} (h : a < b) : F_X5_in a b c = some 0 := if_pos h
theorem in0h {a b c : Int32} (h : c < a) : F_X5_in a b c = some 0 := by
  unfold F_X5_in
  by_cases c1 : a < b
  · rw [if_pos c1]
  · rw [if_neg c1, if_pos h]
theorem ng_toInt {a y : Nat} (ha : a < 2 ^ 20) (hy : y < 2 ^ 20) : ((-nI a) - nI y).toInt = -(a : Int) - y := by
  have h1 := nI_toInt (n := a) (by omega)
  have h2 := nI_toInt (n := y) (by omega)
  have h3 : (-nI a).toInt = -(a : Int) := by rw [fb_negI (by omega), h1]
  rw [fb_subI (by omega) (by omega), h2, h3]
theorem m1_toInt {y : Nat} (hy : y < 2 ^ 20) : ((-1 : Int32) - nI y).toInt = -1 - (y : Int) := ng_toInt (a := 1) (by omega) hy
theorem m1_lt {y : Nat} (hy : y < 2 ^ 20) : (-1 : Int32) - nI y < 0 := by
  rw [fa_lt, m1_toInt hy]
  show _ < (0 : Int)
  omega
theorem m1_ne {y n : Nat} (hy : y < 2 ^ 20) (hn : n < 2 ^ 20) : ¬ (-1 : Int32) - nI y = nI n := fun q => by
  have := congrArg Int32.toInt q
  rw [m1_toInt hy, nI_toInt (by omega)] at this
  omega
theorem rf_off {a : Int32} (h : ∀ p, p < 24 → ¬ a = nI p) : F_X5_isPlace a = some 0 := by
  rcases isPl a with ⟨p, hp, e, -, -⟩ | ⟨-, e⟩
  · exact absurd e (h p hp)
  · exact e
theorem rf_no {k : Nat} {fs : Nat → Int32} (hk : k ≤ 12) (h24 : fs 24 = nI k) {a : Int32} (h : ∀ t, t < k → ¬ a = nI t) : F_X5_isTicket fs a = some 0 := by
  rcases isT hk h24 a with ⟨t, ht, e, -, -⟩ | ⟨-, e⟩
  · exact absurd e (h t ht)
  · exact e
theorem rf_pw {a : Int32} (h : a.toInt < -9999 ∨ 9999 < a.toInt) : F_X5_isPower a = some 0 := by
  rcases isPow a with ⟨-, -, h1, h2⟩ | ⟨-, e⟩
  · omega
  · exact e
theorem pw_hi {y : Nat} (hy : y < 2 ^ 20) : F_X5_isPower ((10000 : Int32) + nI y) = some 0 := rf_pw (Or.inr (by rw [show (10000 : Int32) + nI y = nI (10000 + y) from nI_add 10000 y, nI_toInt (by omega)]; omega))
theorem pw_lo {y : Nat} (hy : y < 2 ^ 20) : F_X5_isPower ((-10000 : Int32) - nI y) = some 0 := rf_pw (Or.inl (by rw [show ((-10000 : Int32) - nI y).toInt = -((10000 : Nat) : Int) - y from ng_toInt (a := 10000) (by omega) hy]; omega))
theorem pw_0 : F_X5_isPower 0 = some 1 := by
  rcases isPow 0 with ⟨-, e, -, -⟩ | ⟨e, -⟩
  · exact e
  · exact absurd e (by decide)
section RX
variable {M : MT} {a b d : Int32}
theorem rx_exch1 (h : F_X5_isPlace a = some 0) : k_exchange a b M = some (-1, M) := by
  unfold k_exchange F_X5_exchange; rw [h]; rfl
theorem rx_exch2 (h1 : F_X5_isPlace a = some 1) (h : F_X5_isPlace b = some 0) : k_exchange a b M = some (-1, M) := by
  unfold k_exchange F_X5_exchange; rw [h1, h]; rfl
theorem rx_exch3 (h1 : F_X5_isPlace a = some 1) : k_exchange a a M = some (-5, M) := by
  unfold k_exchange F_X5_exchange; rw [h1, Option.bind_some, if_neg i10, Option.bind_some, if_neg i10, if_pos rfl]; rfl
theorem rx_sell (h : F_X5_in a 0 16777215 = some 0) : k_sell a M = some (-2, M) := by
  unfold k_sell F_X5_sell; rw [h]; rfl
theorem rx_punch1 (h : F_X5_isTicket M.2.2.2.2.2.2.2.2.2.1 a = some 0) : k_punch a b M = some (-1, M) := by
  unfold k_punch F_X5_punch; rw [h]; rfl
theorem rx_punch2 (h1 : F_X5_isTicket M.2.2.2.2.2.2.2.2.2.1 a = some 1) (h : F_X5_isPlace b = some 0) : k_punch a b M = some (-1, M) := by
  unfold k_punch F_X5_punch; rw [h1, h]; rfl
theorem rx_forge1 (h : F_X5_isTicket M.2.2.2.2.2.2.2.2.2.1 a = some 0) : k_forge a b d M = some (-1, M) := by
  unfold k_forge F_X5_forge; rw [h]; rfl
theorem rx_forge2 (h1 : F_X5_isTicket M.2.2.2.2.2.2.2.2.2.1 a = some 1) (h : F_X5_isPlace b = some 0) : k_forge a b d M = some (-1, M) := by
  unfold k_forge F_X5_forge; rw [h1, h]; rfl
theorem rx_mend1 (h : F_X5_isTicket M.2.2.2.2.2.2.2.2.2.1 a = some 0) : k_mend a M = some (-1, M) := by
  unfold k_mend F_X5_mend; rw [h]; rfl
theorem rx_turn1 (h : F_X5_isTicket M.2.2.2.2.2.2.2.2.2.1 a = some 0) : k_turn a b M = some (-1, M) := by
  unfold k_turn F_X5_turn; rw [h]; rfl
theorem rx_turn2 (h1 : F_X5_isTicket M.2.2.2.2.2.2.2.2.2.1 a = some 1) (h : F_X5_isPower b = some 0) : k_turn a b M = some (-2, M) := by
  unfold k_turn F_X5_turn; rw [h1, h]; rfl
theorem rx_stack1 (h : F_X5_isTicket M.2.2.2.2.2.2.2.2.2.1 a = some 0) : k_stack a b M = some (-1, M) := by
  unfold k_stack F_X5_stack; rw [h]; rfl
theorem rx_ts1 (h : F_X5_isPower a = some 0) : k_turnStack a M = some (-2, M) := by
  unfold k_turnStack F_X5_turnStack; rw [h]; rfl
theorem rx_fault (h : F_X5_in a 0 1 = some 0) : k_fault a M = some (-2, M) := by
  unfold k_fault F_X5_fault; rw [h]; rfl
end RX
section RR2
variable {σ : Nat → Nat} {k ms : Nat} {H D : Nat → Nat} {M : MT}
theorem fw_0 {fs : Nat → Int32} (h : VR σ k H D ms fs) : F_X5_forward fs 0 = some 0 := by
  have e := forward_eq h.1 h.2.1 (a := 0) (by decide) (by decide)
  rw [e]
  unfold fm
  rw [show (0 : Int32).toInt = 0 from rfl, Int.zero_emod]; rfl
theorem rx_ts2 (h : VR σ k H D ms M.2.2.2.2.2.2.2.2.2.1) : k_turnStack 0 M = some (-5, M) := by
  unfold k_turnStack F_X5_turnStack
  rw [pw_0, Option.bind_some, if_neg i10, k49, fw_0 h]
  by_cases c : M.2.2.2.2.2.2.2.2.2.1 (Int32.toNatClampNeg (49 : Int32)) = 0
  · rw [if_pos c]; rfl
  · rw [if_neg c]; rfl
theorem rx_turn3 (h : VR σ k H D ms M.2.2.2.2.2.2.2.2.2.1) (hk : 0 < k) : k_turn 0 0 M = some (-5, M) := by
  unfold k_turn F_X5_turn
  rw [show F_X5_isTicket M.2.2.2.2.2.2.2.2.2.1 0 = some 1 from v_tk h hk, Option.bind_some, if_neg i10, pw_0, Option.bind_some, if_neg i10, fw_0 h]
  rfl
theorem rx_forge3t (h : VR σ k H D ms M.2.2.2.2.2.2.2.2.2.1) (hk : 0 < k) (c : (nI (H 0) >>> ((3 : Int32) &&& 31)) &&& 1 = 1) : k_forge 0 3 1 M = some (-5, M) := by
  unfold k_forge F_X5_forge
  rw [show F_X5_isTicket M.2.2.2.2.2.2.2.2.2.1 0 = some 1 from v_tk h hk, Option.bind_some, if_neg i10, show F_X5_isPlace 3 = some 1 from plM1 (p := 3) (by omega), Option.bind_some, if_neg i10, show (25 : Int32) + 0 = nI 25 from rfl, ck_ok (by omega) (by omega), tn (by omega), (h.2.2.2.1 0 (by omega)).2, if_pos c, if_pos rfl]
  rfl
theorem rx_forge3f (h : VR σ k H D ms M.2.2.2.2.2.2.2.2.2.1) (hk : 0 < k) (c : ¬ (nI (H 0) >>> ((3 : Int32) &&& 31)) &&& 1 = 1) : k_forge 0 3 0 M = some (-5, M) := by
  unfold k_forge F_X5_forge
  rw [show F_X5_isTicket M.2.2.2.2.2.2.2.2.2.1 0 = some 1 from v_tk h hk, Option.bind_some, if_neg i10, show F_X5_isPlace 3 = some 1 from plM1 (p := 3) (by omega), Option.bind_some, if_neg i10, show (25 : Int32) + 0 = nI 25 from rfl, ck_ok (by omega) (by omega), tn (by omega), (h.2.2.2.1 0 (by omega)).2, if_neg c, if_pos rfl]
  rfl
theorem rx_stack2 (h : VR σ k H D ms M.2.2.2.2.2.2.2.2.2.1) (hk : 0 < k) {b : Int32} (c : (if ms.testBit 0 = true then (1 : Int32) else 0) = b) : k_stack 0 b M = some (-5, M) := by
  unfold k_stack F_X5_stack
  have hm2 := two12 h.2.2.1.1 h.2.2.2.2.2.1
  rw [show F_X5_isTicket M.2.2.2.2.2.2.2.2.2.1 0 = some 1 from v_tk h hk, Option.bind_some, if_neg i10, show F_X5_isOn M.2.2.2.2.2.2.2.2.2.1 0 = some (if ms.testBit 0 = true then 1 else 0) from onM (t := 0) hm2 h.2.2.2.2.2.2 (by omega), Option.bind_some, if_pos c]
  rfl
theorem rx_mend2 (h : VR σ k H D ms M.2.2.2.2.2.2.2.2.2.1) (hk : 0 < k) (c : H 0 = D 0) : k_mend 0 M = some (-5, M) := by
  unfold k_mend F_X5_mend
  have e : F_X5_isFalse M.2.2.2.2.2.2.2.2.2.1 0 = some (if H 0 = D 0 then 0 else 1) := isM2 (t := 0) (by omega) (h.2.2.2.1 0 (by omega)).2 (h.2.2.2.2.1 0 (by omega)).2 (h.2.2.2.1 0 (by omega)).1 (h.2.2.2.2.1 0 (by omega)).1
  rw [show F_X5_isTicket M.2.2.2.2.2.2.2.2.2.1 0 = some 1 from v_tk h hk, Option.bind_some, if_neg i10, e, if_pos c]
  rfl
end RR2
section RV
variable {fs : Nat → Int32} {a b : Int32} {y : Nat}
theorem rv_place1 (h : F_X5_isPlace a = some 0) : F_X5_place fs a b = some (-1) := by
  unfold F_X5_place; rw [h]; rfl
theorem rv_place2 (hy : y < 2 ^ 20) : F_X5_place fs 0 ((5 : Int32) + nI y) = some (-2) := by
  unfold F_X5_place
  rw [show F_X5_isPlace 0 = some 1 from plM1 (p := 0) (by omega), Option.bind_some, if_neg i10, show (5 : Int32) + nI y = nI (5 + y) from nI_add 5 y]
  have c0 : ¬ nI (5 + y) = 0 := k_ne (b := 0) (by omega) (by omega) (by omega)
  have c1 : ¬ nI (5 + y) = 1 := k_ne (b := 1) (by omega) (by omega) (by omega)
  have c2 : ¬ nI (5 + y) = 2 := k_ne (b := 2) (by omega) (by omega) (by omega)
  have c3 : ¬ nI (5 + y) = 3 := k_ne (b := 3) (by omega) (by omega) (by omega)
  have c4 : ¬ nI (5 + y) = 4 := k_ne (b := 4) (by omega) (by omega) (by omega)
  rw [if_neg c0, if_neg c1, if_neg c2, if_neg c3, if_neg c4]
theorem mv_no (c0 : ¬ a = 0) (c1 : ¬ a = 1) (c2 : ¬ a = 2) (c3 : ¬ a = 3) (c4 : ¬ a = 4) : F_X5_move fs a = some (-2) := by
  unfold F_X5_move
  rw [if_neg c0, if_neg c1, if_neg c2, if_neg c3, if_neg c4]
theorem rv_move1 (hy : y < 2 ^ 20) : F_X5_move fs ((5 : Int32) + nI y) = some (-2) := by
  rw [show (5 : Int32) + nI y = nI (5 + y) from nI_add 5 y]
  exact mv_no (k_ne (b := 0) (by omega) (by omega) (by omega)) (k_ne (b := 1) (by omega) (by omega) (by omega)) (k_ne (b := 2) (by omega) (by omega) (by omega)) (k_ne (b := 3) (by omega) (by omega) (by omega)) (k_ne (b := 4) (by omega) (by omega) (by omega))
theorem rv_move2 (hy : y < 2 ^ 20) : F_X5_move fs ((-1 : Int32) - nI y) = some (-2) :=
  mv_no (m1_ne (n := 0) hy (by omega)) (m1_ne (n := 1) hy (by omega)) (m1_ne (n := 2) hy (by omega)) (m1_ne (n := 3) hy (by omega)) (m1_ne (n := 4) hy (by omega))
theorem rv_power1 (h : F_X5_isPlace a = some 0) : F_X5_power fs a b = some (-1) := by
  unfold F_X5_power; rw [h]; rfl
theorem rv_power2 (h : F_X5_isPower b = some 0) : F_X5_power fs 0 b = some (-2) := by
  unfold F_X5_power; rw [show F_X5_isPlace 0 = some 1 from plM1 (p := 0) (by omega), h]; rfl
theorem rv_ticket1 (h : F_X5_isTicket fs a = some 0) : F_X5_ticket fs a b = some (-1) := by
  unfold F_X5_ticket; rw [h]; rfl
theorem rv_alike (h : F_X5_isTicket fs a = some 0) : F_X5_alikeIn fs a b = some (-1) := by
  unfold F_X5_alikeIn; rw [h]; rfl
theorem rv_meets (h : F_X5_isTicket fs a = some 0) : F_X5_meetsIn fs a b = some (-1) := by
  unfold F_X5_meetsIn; rw [h]; rfl
theorem rv_reason (h : F_X5_isTicket fs a = some 0) : F_X5_reason fs a b = some (-1) := by
  unfold F_X5_reason; rw [h]; rfl
theorem rv_kin (h : F_X5_isTicket fs a = some 0) : F_X5_kin fs a = some (-1) := by
  unfold F_X5_kin; rw [h]; rfl
theorem rv_best (h : F_X5_isTicket fs a = some 0) : F_X5_bestTurn fs a b = some (-1) := by
  unfold F_X5_bestTurn; rw [h]; rfl
theorem rv_best2 (h1 : F_X5_isTicket fs a = some 1) (h : F_X5_in b 0 1 = some 0) : F_X5_bestTurn fs a b = some (-2) := by
  unfold F_X5_bestTurn; rw [h1, h]; rfl
theorem rv_count (hy : y < 2 ^ 20) (pas len : Int32) : F_X5_count pas len fs ((11 : Int32) + nI y) = some (-2) := by
  unfold F_X5_count
  rw [show (11 : Int32) + nI y = nI (11 + y) from nI_add 11 y]
  have c0 : ¬ nI (11 + y) = 0 := k_ne (b := 0) (by omega) (by omega) (by omega)
  have c1 : ¬ nI (11 + y) = 1 := k_ne (b := 1) (by omega) (by omega) (by omega)
  have c2 : ¬ nI (11 + y) = 2 := k_ne (b := 2) (by omega) (by omega) (by omega)
  have c3 : ¬ nI (11 + y) = 3 := k_ne (b := 3) (by omega) (by omega) (by omega)
  have c4 : ¬ nI (11 + y) = 4 := k_ne (b := 4) (by omega) (by omega) (by omega)
  have c5 : ¬ nI (11 + y) = 5 := k_ne (b := 5) (by omega) (by omega) (by omega)
  have c6 : ¬ nI (11 + y) = 6 := k_ne (b := 6) (by omega) (by omega) (by omega)
  have c7 : ¬ nI (11 + y) = 7 := k_ne (b := 7) (by omega) (by omega) (by omega)
  have c8 : ¬ nI (11 + y) = 8 := k_ne (b := 8) (by omega) (by omega) (by omega)
  have c9 : ¬ nI (11 + y) = 9 := k_ne (b := 9) (by omega) (by omega) (by omega)
  have c10 : ¬ nI (11 + y) = 10 := k_ne (b := 10) (by omega) (by omega) (by omega)
  rw [if_neg c0, if_neg c1, if_neg c2, if_neg c3, if_neg c4, if_neg c5, if_neg c6, if_neg c7, if_neg c8, if_neg c9, if_neg c10]
theorem rv_ticket2 {σ : Nat → Nat} {k ms : Nat} {H D : Nat → Nat} (h : VR σ k H D ms fs) (hk : 0 < k) (hy : y < 2 ^ 20) : F_X5_ticket fs 0 ((9 : Int32) + nI y) = some (-2) := by
  have e := v_ticket h hk ((9 : Int32) + nI y)
  rw [show (9 : Int32) + nI y = nI (9 + y) from nI_add 9 y] at e ⊢
  have c0 : ¬ nI (9 + y) = 0 := k_ne (b := 0) (by omega) (by omega) (by omega)
  have c1 : ¬ nI (9 + y) = 1 := k_ne (b := 1) (by omega) (by omega) (by omega)
  have c2 : ¬ nI (9 + y) = 2 := k_ne (b := 2) (by omega) (by omega) (by omega)
  have c3 : ¬ nI (9 + y) = 3 := k_ne (b := 3) (by omega) (by omega) (by omega)
  have c4 : ¬ nI (9 + y) = 4 := k_ne (b := 4) (by omega) (by omega) (by omega)
  have c5 : ¬ nI (9 + y) = 5 := k_ne (b := 5) (by omega) (by omega) (by omega)
  have c6 : ¬ nI (9 + y) = 6 := k_ne (b := 6) (by omega) (by omega) (by omega)
  have c7 : ¬ nI (9 + y) = 7 := k_ne (b := 7) (by omega) (by omega) (by omega)
  have c8 : ¬ nI (9 + y) = 8 := k_ne (b := 8) (by omega) (by omega) (by omega)
  rw [if_neg c0, if_neg c1, if_neg c2, if_neg c3, if_neg c4, if_neg c5, if_neg c6, if_neg c7, if_neg c8] at e
  exact e
theorem ad_gt {c y : Nat} (hc : c < 2 ^ 25) (hy : y < 2 ^ 20) {n : Nat} (h : n < c) : nI n < nI c + nI y := by
  rw [nI_add]; exact k_lt (by omega) (by omega) (by omega)
end RV
theorem Obj.mono {G : gG} {oqa c c' : Nat} {M : MT} {L : List va_W} (h : Obj G oqa c M L) (hc : c ≤ c') : Obj G oqa c' M L := by
  obtain ⟨d, h1, h2, h3⟩ := h
  exact ⟨d, h1, h2, PA_mono hc h3.1, fun e => PA_mono hc (h3.2.1 e), fun n h4 h5 j hj => PA_mono hc (h3.2.2 n h4 h5 j hj)⟩
