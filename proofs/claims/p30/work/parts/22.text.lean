set_option maxHeartbeats 4000000 in
set_option maxRecDepth 100000 in
theorem c_X2_length (l : Launch) (G : gG) (xqa xqc xqt : Nat) (xlen : Int32) (xidx : Int32) (xknd : Int32) (xawt : Int32) (xnum : Int32) (xcam : Int32) (xfst : Int32) (xlst : Int32) (xfc : Nat → Int32) (xft : Nat → Int32) (res : Int32) (h : F_X2_length xlen = some res) : RdM l G yX2_length cX2_length 1 .int (rmk 0 0) [(xqa, .inr (2, [.ref xqc, .int xlen, .ref xqt, .int xidx, .int xknd, .int xawt, .int xnum, .int xcam, .int xfst, .int xlst])), (xqc, .inl (G.2.1, 80, .inl xfc)), (xqt, .inl (G.2.2.1, 24, .inl xft))] [.ref xqa] res := by
  refine ofR (by decide) (Nat.le_of_ble_eq_true rfl) ?_
  intro p e s m below meth c ls S hr hlk hK hP hl
  have S : CallFix p m c cX2_length 1 s ([.ref xqa] : List Value).toArray T0 RX2 := S
  obtain ⟨hx, hb, hml, hown, hts⟩ := id S
  have hl : lv_has ls 1 [(0, .ref xqa)] := hl
  rw [F_X2_length] at h
  refine lv_aload_n hx hb dX2_length_0 rfl (lv_at hl 0 rfl) ?_
  refine gf S hK iX2 hP 0 rfl rfl 1 (by decide) q104 rfl dX2_length_1 ?_
  obtain rfl := Option.some.inj h
  exact retR S hr hlk rfl rfl dX2_length_4
set_option maxHeartbeats 4000000 in
set_option maxRecDepth 100000 in
theorem c_X2_faultIndex (l : Launch) (G : gG) (xqa xqc xqt : Nat) (xlen : Int32) (xidx : Int32) (xknd : Int32) (xawt : Int32) (xnum : Int32) (xcam : Int32) (xfst : Int32) (xlst : Int32) (xfc : Nat → Int32) (xft : Nat → Int32) (res : Int32) (h : F_X2_faultIndex xidx = some res) : RdM l G yX2_faultIndex cX2_faultIndex 1 .int (rmk 0 0) [(xqa, .inr (2, [.ref xqc, .int xlen, .ref xqt, .int xidx, .int xknd, .int xawt, .int xnum, .int xcam, .int xfst, .int xlst])), (xqc, .inl (G.2.1, 80, .inl xfc)), (xqt, .inl (G.2.2.1, 24, .inl xft))] [.ref xqa] res := by
  refine ofR (by decide) (Nat.le_of_ble_eq_true rfl) ?_
  intro p e s m below meth c ls S hr hlk hK hP hl
  have S : CallFix p m c cX2_faultIndex 1 s ([.ref xqa] : List Value).toArray T0 RX2 := S
  obtain ⟨hx, hb, hml, hown, hts⟩ := id S
  have hl : lv_has ls 1 [(0, .ref xqa)] := hl
  rw [F_X2_faultIndex] at h
  refine lv_aload_n hx hb dX2_faultIndex_0 rfl (lv_at hl 0 rfl) ?_
  refine gf S hK iX2 hP 0 rfl rfl 3 (by decide) q106 rfl dX2_faultIndex_1 ?_
  obtain rfl := Option.some.inj h
  exact retR S hr hlk rfl rfl dX2_faultIndex_4
set_option maxHeartbeats 4000000 in
set_option maxRecDepth 100000 in
theorem c_X2_faultKind (l : Launch) (G : gG) (xqa xqc xqt : Nat) (xlen : Int32) (xidx : Int32) (xknd : Int32) (xawt : Int32) (xnum : Int32) (xcam : Int32) (xfst : Int32) (xlst : Int32) (xfc : Nat → Int32) (xft : Nat → Int32) (res : Int32) (h : F_X2_faultKind xknd = some res) : RdM l G yX2_faultKind cX2_faultKind 1 .int (rmk 0 0) [(xqa, .inr (2, [.ref xqc, .int xlen, .ref xqt, .int xidx, .int xknd, .int xawt, .int xnum, .int xcam, .int xfst, .int xlst])), (xqc, .inl (G.2.1, 80, .inl xfc)), (xqt, .inl (G.2.2.1, 24, .inl xft))] [.ref xqa] res := by
  refine ofR (by decide) (Nat.le_of_ble_eq_true rfl) ?_
  intro p e s m below meth c ls S hr hlk hK hP hl
  have S : CallFix p m c cX2_faultKind 1 s ([.ref xqa] : List Value).toArray T0 RX2 := S
  obtain ⟨hx, hb, hml, hown, hts⟩ := id S
  have hl : lv_has ls 1 [(0, .ref xqa)] := hl
  rw [F_X2_faultKind] at h
  refine lv_aload_n hx hb dX2_faultKind_0 rfl (lv_at hl 0 rfl) ?_
  refine gf S hK iX2 hP 0 rfl rfl 4 (by decide) q107 rfl dX2_faultKind_1 ?_
  obtain rfl := Option.some.inj h
  exact retR S hr hlk rfl rfl dX2_faultKind_4
set_option maxHeartbeats 4000000 in
set_option maxRecDepth 100000 in
theorem c_X2_target (l : Launch) (G : gG) (xqa xqc xqt : Nat) (xlen : Int32) (xidx : Int32) (xknd : Int32) (xawt : Int32) (xnum : Int32) (xcam : Int32) (xfst : Int32) (xlst : Int32) (xfc : Nat → Int32) (xft : Nat → Int32) (p1 : Int32) (res : Int32) (h : F_X2_target xft p1 = some res) : RdM l G yX2_target cX2_target 2 .int (rmk 1 20) [(xqa, .inr (2, [.ref xqc, .int xlen, .ref xqt, .int xidx, .int xknd, .int xawt, .int xnum, .int xcam, .int xfst, .int xlst])), (xqc, .inl (G.2.1, 80, .inl xfc)), (xqt, .inl (G.2.2.1, 24, .inl xft))] [.ref xqa, .int p1] res := by
  refine ofR (by decide) (Nat.le_of_ble_eq_true rfl) ?_
  intro p e s m below meth c ls S hr hlk hK hP hl
  have S : CallFix p m c cX2_target 2 s ([.ref xqa, .int p1] : List Value).toArray T0 RX2 := S
  obtain ⟨hx, hb, hml, hown, hts⟩ := id S
  have hl : lv_has ls 2 [(0, .ref xqa), (1, .int p1)] := hl
  rw [F_X2_target] at h
  refine lv_iload_n hx hb dX2_target_0 rfl (lv_at hl 1 rfl) ?_
  obtain ⟨r1, hr1, h⟩ := bd_t h
  refine rdN (As := [.int p1]) (rest := []) S hK (c_X4_isPlace l G p1 r1 hr1) mX4_isPlace 1 rfl ⟨rfl, rfl, Nat.le_of_ble_eq_true rfl, Nat.le_of_ble_eq_true rfl⟩ (ws_nil G.1 _) rfl hl.1 (Nat.le_of_ble_eq_true rfl) ⟨Nat.le_refl 0, Nat.le_refl 0⟩ dX2_target_1 ?_
  refine lv_if_eq (tgt := 16) hx hb dX2_target_4 (by decide) (fun c2 => ?_) (fun c2 => ?_)
  · replace h := if_t c2 h
    refine lv_iconst (v := (-1)) hx hb dX2_target_16 (by decide) ?_
    obtain rfl := Option.some.inj h
    exact retR S hr hlk rfl rfl dX2_target_17
  · replace h := if_f c2 h
    refine lv_aload_n hx hb dX2_target_7 rfl (lv_at hl 0 rfl) ?_
    refine gf S hK iX2 hP 0 rfl rfl 2 (by decide) q105 rfl dX2_target_8 ?_
    refine lv_iload_n hx hb dX2_target_11 rfl (lv_at hl 1 rfl) ?_
    obtain ⟨k3, h⟩ := ck_t h
    refine ald S hK hP 2 rfl (ok_vp k3) dX2_target_12 ?_
    refine lv_goto (tgt := 17) hx hb dX2_target_13 (by decide) ?_
    obtain rfl := Option.some.inj h
    exact retR S hr hlk rfl rfl dX2_target_17
set_option maxHeartbeats 4000000 in
set_option maxRecDepth 100000 in
theorem c_X2_isDigit (l : Launch) (G : gG) (p0 : Int32) (res : Int32) (h : F_X2_isDigit p0 = some res) : RdM l G yX2_isDigit cX2_isDigit 1 .boolean (rmk 0 0) [] [.int p0] res := by
  refine ofR (by decide) (Nat.le_of_ble_eq_true rfl) ?_
  intro p e s m below meth c ls S hr hlk hK hP hl
  have S : CallFix p m c cX2_isDigit 1 s ([.int p0] : List Value).toArray T0 RX2 := S
  obtain ⟨hx, hb, hml, hown, hts⟩ := id S
  have hl : lv_has ls 1 [(0, .int p0)] := hl
  rw [F_X2_isDigit] at h
  refine lv_iload_n hx hb dX2_isDigit_0 rfl (lv_at hl 0 rfl) ?_
  refine lv_bipush (v := 48) hx hb dX2_isDigit_1 (by decide) ?_
  refine lv_icmp_lt (tgt := 16) hx hb dX2_isDigit_3 (by decide) (fun c1 => ?_) (fun c1 => ?_)
  · replace h := if_t c1 h
    refine lv_iconst (v := 0) hx hb dX2_isDigit_16 (by decide) ?_
    obtain rfl := Option.some.inj h
    exact retR S hr hlk rfl rfl dX2_isDigit_17
  · replace h := if_f c1 h
    refine lv_iload_n hx hb dX2_isDigit_6 rfl (lv_at hl 0 rfl) ?_
    refine lv_bipush (v := 57) hx hb dX2_isDigit_7 (by decide) ?_
    refine lv_icmp_gt (tgt := 16) hx hb dX2_isDigit_9 (by decide) (fun c2 => ?_) (fun c2 => ?_)
    · replace h := if_t c2 h
      refine lv_iconst (v := 0) hx hb dX2_isDigit_16 (by decide) ?_
      obtain rfl := Option.some.inj h
      exact retR S hr hlk rfl rfl dX2_isDigit_17
    · replace h := if_f c2 h
      refine lv_iconst (v := 1) hx hb dX2_isDigit_12 (by decide) ?_
      refine lv_goto (tgt := 17) hx hb dX2_isDigit_13 (by decide) ?_
      obtain rfl := Option.some.inj h
      exact retR S hr hlk rfl rfl dX2_isDigit_17
set_option maxHeartbeats 4000000 in
set_option maxRecDepth 100000 in
theorem c_X2_append (l : Launch) (G : gG) (xqa xqc xqt : Nat) (xlen : Int32) (xidx : Int32) (xknd : Int32) (xawt : Int32) (xnum : Int32) (xcam : Int32) (xfst : Int32) (xlst : Int32) (xfc : Nat → Int32) (xft : Nat → Int32) (p1 : Int32) (sz : Nat) (res : Int32 × (Nat → Int32)) (h : F_X2_append xlen xfc p1 = some res) : WrM l G yX2_append cX2_append 2 none (rmk 0 0) [(xqa, .inr (2, [.ref xqc, .int xlen, .ref xqt, .int xidx, .int xknd, .int xawt, .int xnum, .int xcam, .int xfst, .int xlst])), (xqc, .inl (G.2.1, 80, .inl xfc)), (xqt, .inl (G.2.2.1, 24, .inl xft))] sz [.ref xqa, .int p1] none [(xqa, .inr (2, [.ref xqc, .int res.1, .ref xqt, .int xidx, .int xknd, .int xawt, .int xnum, .int xcam, .int xfst, .int xlst])), (xqc, .inl (G.2.1, 80, .inl res.2)), (xqt, .inl (G.2.2.1, 24, .inl xft))] := by
  refine ofWr (by decide) (Nat.le_of_ble_eq_true rfl) ?_
  intro p e s m below meth c ls A S hr hlk hK hP hD hS hA hl
  have S : CallFix p m c cX2_append 2 s ([.ref xqa, .int p1] : List Value).toArray T0 RX2 := S
  obtain ⟨hx, hb, hml, hown, hts⟩ := id S
  have hl : lv_has ls 2 [(0, .ref xqa), (1, .int p1)] := hl
  rw [F_X2_append] at h
  refine lv_aload_n hx hb dX2_append_0 rfl (lv_at hl 0 rfl) ?_
  refine gf S hK iX2 hP 0 rfl rfl 1 (by decide) q104 rfl dX2_append_1 ?_
  refine lv_if_lt (tgt := 36) hx hb dX2_append_4 (by decide) (fun c1 => ?_) (fun c1 => ?_)
  · replace h := if_t c1 h
    obtain rfl := Option.some.inj h
    exact retV S hr hlk hP hD hS dX2_append_36
  · replace h := if_f c1 h
    refine lv_aload_n hx hb dX2_append_7 rfl (lv_at hl 0 rfl) ?_
    refine gf S hK iX2 hP 0 rfl rfl 1 (by decide) q104 rfl dX2_append_8 ?_
    refine lv_bipush (v := 80) hx hb dX2_append_11 (by decide) ?_
    refine lv_icmp_ge (tgt := 36) hx hb dX2_append_13 (by decide) (fun c2 => ?_) (fun c2 => ?_)
    · replace h := if_t c2 h
      obtain rfl := Option.some.inj h
      exact retV S hr hlk hP hD hS dX2_append_36
    · replace h := if_f c2 h
      refine lv_aload_n hx hb dX2_append_16 rfl (lv_at hl 0 rfl) ?_
      refine gf S hK iX2 hP 0 rfl rfl 0 (by decide) q103 rfl dX2_append_17 ?_
      refine lv_aload_n hx hb dX2_append_20 rfl (lv_at hl 0 rfl) ?_
      refine gf S hK iX2 hP 0 rfl rfl 1 (by decide) q104 rfl dX2_append_21 ?_
      refine lv_iload_n hx hb dX2_append_24 rfl (lv_at hl 1 rfl) ?_
      obtain ⟨k3, h⟩ := ck_t h
      refine cast_ S hK hP hD hS 1 rfl (ok_vp k3) [(xqa, .inr (2, [.ref xqc, .int xlen, .ref xqt, .int xidx, .int xknd, .int xawt, .int xnum, .int xcam, .int xfst, .int xlst])), (xqc, .inl (G.2.1, 80, .inl (upd xfc (Int32.toNatClampNeg xlen) (vp_nar .char p1)))), (xqt, .inl (G.2.2.1, 24, .inl xft))] rfl dX2_append_25 (fun H locs hP hD hS => ?_)
      refine lv_aload_n hx hb dX2_append_26 rfl (lv_at hl 0 rfl) ?_
      refine lv_dup hx hb dX2_append_27 rfl ?_
      refine gf S hK iX2 hP 0 rfl rfl 1 (by decide) q104 rfl dX2_append_28 ?_
      refine lv_iconst (v := 1) hx hb dX2_append_31 (by decide) ?_
      refine lv_iadd hx hb dX2_append_32 ?_
      refine pf S hK iX2 tyX2 tyX2_ok nmX2 hP hD hS 0 rfl rfl 1 (by decide) q104 rfl rfl rfl (Nat.le_of_ble_eq_true rfl) [(xqa, .inr (2, [.ref xqc, .int (xlen + 1), .ref xqt, .int xidx, .int xknd, .int xawt, .int xnum, .int xcam, .int xfst, .int xlst])), (xqc, .inl (G.2.1, 80, .inl (upd xfc (Int32.toNatClampNeg xlen) (vp_nar .char p1)))), (xqt, .inl (G.2.2.1, 24, .inl xft))] rfl dX2_append_33 (fun H locs hP hD hS => ?_)
      obtain rfl := Option.some.inj h
      exact retV S hr hlk hP hD hS dX2_append_36
set_option maxHeartbeats 4000000 in
set_option maxRecDepth 100000 in
theorem c_X2_empty (l : Launch) (G : gG) (xqa xqc xqt : Nat) (xlen : Int32) (xidx : Int32) (xknd : Int32) (xawt : Int32) (xnum : Int32) (xcam : Int32) (xfst : Int32) (xlst : Int32) (xfc : Nat → Int32) (xft : Nat → Int32) (sz : Nat) (res : Int32) (h : F_X2_empty xlen = some res) : WrM l G yX2_empty cX2_empty 1 none (rmk 0 0) [(xqa, .inr (2, [.ref xqc, .int xlen, .ref xqt, .int xidx, .int xknd, .int xawt, .int xnum, .int xcam, .int xfst, .int xlst])), (xqc, .inl (G.2.1, 80, .inl xfc)), (xqt, .inl (G.2.2.1, 24, .inl xft))] sz [.ref xqa] none [(xqa, .inr (2, [.ref xqc, .int res, .ref xqt, .int xidx, .int xknd, .int xawt, .int xnum, .int xcam, .int xfst, .int xlst])), (xqc, .inl (G.2.1, 80, .inl xfc)), (xqt, .inl (G.2.2.1, 24, .inl xft))] := by
  refine ofWr (by decide) (Nat.le_of_ble_eq_true rfl) ?_
  intro p e s m below meth c ls A S hr hlk hK hP hD hS hA hl
  have S : CallFix p m c cX2_empty 1 s ([.ref xqa] : List Value).toArray T0 RX2 := S
  obtain ⟨hx, hb, hml, hown, hts⟩ := id S
  have hl : lv_has ls 1 [(0, .ref xqa)] := hl
  rw [F_X2_empty] at h
  refine lv_aload_n hx hb dX2_empty_0 rfl (lv_at hl 0 rfl) ?_
  refine lv_iconst (v := 0) hx hb dX2_empty_1 (by decide) ?_
  refine pf S hK iX2 tyX2 tyX2_ok nmX2 hP hD hS 0 rfl rfl 1 (by decide) q104 rfl rfl rfl (Nat.le_of_ble_eq_true rfl) [(xqa, .inr (2, [.ref xqc, .int 0, .ref xqt, .int xidx, .int xknd, .int xawt, .int xnum, .int xcam, .int xfst, .int xlst])), (xqc, .inl (G.2.1, 80, .inl xfc)), (xqt, .inl (G.2.2.1, 24, .inl xft))] rfl dX2_empty_2 (fun H locs hP hD hS => ?_)
  obtain rfl := Option.some.inj h
  exact retV S hr hlk hP hD hS dX2_empty_5
set_option maxHeartbeats 4000000 in
set_option maxRecDepth 100000 in
theorem c_X2_startReading (l : Launch) (G : gG) (xqa xqc xqt : Nat) (xlen : Int32) (xidx : Int32) (xknd : Int32) (xawt : Int32) (xnum : Int32) (xcam : Int32) (xfst : Int32) (xlst : Int32) (xfc : Nat → Int32) (xft : Nat → Int32) (sz : Nat) (res : Int32 × Int32 × Int32 × (Nat → Int32)) (h : F_X2_startReading xknd xawt xcam xft = some res) : WrM l G yX2_startReading cX2_startReading 2 none (rmk 0 0) [(xqa, .inr (2, [.ref xqc, .int xlen, .ref xqt, .int xidx, .int xknd, .int xawt, .int xnum, .int xcam, .int xfst, .int xlst])), (xqc, .inl (G.2.1, 80, .inl xfc)), (xqt, .inl (G.2.2.1, 24, .inl xft))] sz [.ref xqa] none [(xqa, .inr (2, [.ref xqc, .int xlen, .ref xqt, .int xidx, .int res.1, .int res.2.1, .int xnum, .int res.2.2.1, .int xfst, .int xlst])), (xqc, .inl (G.2.1, 80, .inl xfc)), (xqt, .inl (G.2.2.1, 24, .inl res.2.2.2))] := by
  refine ofWr (by decide) (Nat.le_of_ble_eq_true rfl) ?_
  intro p e s m below meth c ls A S hr hlk hK hP hD hS hA hl
  have S : CallFix p m c cX2_startReading 2 s ([.ref xqa] : List Value).toArray T0 RX2 := S
  obtain ⟨hx, hb, hml, hown, hts⟩ := id S
  have hl : lv_has ls 2 [(0, .ref xqa)] := hl
  have L2 : ∀ (n : Nat) (x1 : Int32) (xknd : Int32) (xawt : Int32) (xcam : Int32) (xft : Nat → Int32), F_X2_startReading_2 n x1 xknd xawt xcam xft = some res → ∀ (H : Heap) (locs : List Loc), va_P G.1 vwCl [(xqa, .inr (2, [.ref xqc, .int xlen, .ref xqt, .int xidx, .int xknd, .int xawt, .int xnum, .int xcam, .int xfst, .int xlst])), (xqc, .inl (G.2.1, 80, .inl xfc)), (xqt, .inl (G.2.2.1, 24, .inl xft))] H → va_D A [(xqa, .inr (2, [.ref xqc, .int xlen, .ref xqt, .int xidx, .int xknd, .int xawt, .int xnum, .int xcam, .int xfst, .int xlst])), (xqc, .inl (G.2.1, 80, .inl xfc)), (xqt, .inl (G.2.2.1, 24, .inl xft))] → va_S A s.heap H locs → ∀ (ls : Array Slot), lv_has ls 2 [(0, .ref xqa), (1, .int x1)] → W p l e (rmk 0 0) s m ([.ref xqa] : List Value).toArray below meth c H locs 0 0 (MQ below (gQw G none [(xqa, .inr (2, [.ref xqc, .int xlen, .ref xqt, .int xidx, .int res.1, .int res.2.1, .int xnum, .int res.2.2.1, .int xfst, .int xlst])), (xqc, .inl (G.2.1, 80, .inl xfc)), (xqt, .inl (G.2.2.1, 24, .inl res.2.2.2))] A) ([.ref xqa] : List Value).toArray s 0 0 A) (F0 m 2 ls []) := by
    intro n
    induction n with
    | zero => intro x1 xknd xawt xcam xft h; exact absurd (show (none : Option (Int32 × Int32 × Int32 × (Nat → Int32))) = some res from h) (fun q => by cases q)
    | succ n ih =>
      intro x1 xknd xawt xcam xft h H locs hP hD hS ls hl
      rw [F_X2_startReading_2] at h
      refine lv_iload_n hx hb dX2_startReading_2 rfl (lv_at hl 1 rfl) ?_
      refine lv_bipush (v := 24) hx hb dX2_startReading_3 (by decide) ?_
      refine lv_icmp_ge (tgt := 21) hx hb dX2_startReading_5 (by decide) (fun c1 => ?_) (fun c1 => ?_)
      · replace h := if_t c1 h
        refine lv_aload_n hx hb dX2_startReading_21 rfl (lv_at hl 0 rfl) ?_
        refine lv_iconst (v := 0) hx hb dX2_startReading_22 (by decide) ?_
        refine pf S hK iX2 tyX2 tyX2_ok nmX2 hP hD hS 0 rfl rfl 4 (by decide) q107 rfl rfl rfl (Nat.le_of_ble_eq_true rfl) [(xqa, .inr (2, [.ref xqc, .int xlen, .ref xqt, .int xidx, .int 0, .int xawt, .int xnum, .int xcam, .int xfst, .int xlst])), (xqc, .inl (G.2.1, 80, .inl xfc)), (xqt, .inl (G.2.2.1, 24, .inl xft))] rfl dX2_startReading_23 (fun H locs hP hD hS => ?_)
        refine lv_aload_n hx hb dX2_startReading_26 rfl (lv_at hl 0 rfl) ?_
        refine lv_iconst (v := 0) hx hb dX2_startReading_27 (by decide) ?_
        refine pf S hK iX2 tyX2 tyX2_ok nmX2 hP hD hS 0 rfl rfl 5 (by decide) q108 rfl rfl rfl (Nat.le_of_ble_eq_true rfl) [(xqa, .inr (2, [.ref xqc, .int xlen, .ref xqt, .int xidx, .int 0, .int 0, .int xnum, .int xcam, .int xfst, .int xlst])), (xqc, .inl (G.2.1, 80, .inl xfc)), (xqt, .inl (G.2.2.1, 24, .inl xft))] rfl dX2_startReading_28 (fun H locs hP hD hS => ?_)
        refine lv_aload_n hx hb dX2_startReading_31 rfl (lv_at hl 0 rfl) ?_
        refine lv_iconst (v := 0) hx hb dX2_startReading_32 (by decide) ?_
        refine pf S hK iX2 tyX2 tyX2_ok nmX2 hP hD hS 0 rfl rfl 7 (by decide) q110 rfl rfl rfl (Nat.le_of_ble_eq_true rfl) [(xqa, .inr (2, [.ref xqc, .int xlen, .ref xqt, .int xidx, .int 0, .int 0, .int xnum, .int 0, .int xfst, .int xlst])), (xqc, .inl (G.2.1, 80, .inl xfc)), (xqt, .inl (G.2.2.1, 24, .inl xft))] rfl dX2_startReading_33 (fun H locs hP hD hS => ?_)
        obtain rfl := Option.some.inj h
        exact retV S hr hlk hP hD hS dX2_startReading_36
      · replace h := if_f c1 h
        refine lv_aload_n hx hb dX2_startReading_8 rfl (lv_at hl 0 rfl) ?_
        refine gf S hK iX2 hP 0 rfl rfl 2 (by decide) q105 rfl dX2_startReading_9 ?_
        refine lv_iload_n hx hb dX2_startReading_12 rfl (lv_at hl 1 rfl) ?_
        refine lv_iload_n hx hb dX2_startReading_13 rfl (lv_at hl 1 rfl) ?_
        obtain ⟨k2, h⟩ := ck_t h
        refine ast S hK hP hD hS 2 rfl (ok_vp k2) [(xqa, .inr (2, [.ref xqc, .int xlen, .ref xqt, .int xidx, .int xknd, .int xawt, .int xnum, .int xcam, .int xfst, .int xlst])), (xqc, .inl (G.2.1, 80, .inl xfc)), (xqt, .inl (G.2.2.1, 24, .inl (upd xft (Int32.toNatClampNeg x1) x1)))] rfl dX2_startReading_14 (fun H locs hP hD hS => ?_)
        refine lv_iinc (v := x1 + 1) (lv' := [(1, .int (x1 + 1)), (0, .ref xqa)]) hx hb dX2_startReading_15 hl (k := 1) rfl rfl (by decide) rfl (fun ls hl => ?_)
        refine lv_goto (tgt := 2) hx hb dX2_startReading_18 (by decide) ?_
        exact ih (x1 + 1) xknd xawt xcam (upd xft (Int32.toNatClampNeg x1) x1) h _ _ hP hD hS ls (lv_sub hl [1, 0] rfl)
  rw [F_X2_startReading] at h
  refine lv_iconst (v := 0) hx hb dX2_startReading_0 (by decide) ?_
  refine lv_istore_n (lv' := [(1, .int 0), (0, .ref xqa)]) hx hb dX2_startReading_1 rfl hl (by decide) rfl (fun ls hl => ?_)
  exact L2 10000 0 xknd xawt xcam xft h _ _ hP hD hS ls (lv_sub hl [1, 0] rfl)
set_option maxHeartbeats 4000000 in
set_option maxRecDepth 100000 in
theorem c_X2_startRound (l : Launch) (G : gG) (xqa xqc xqt : Nat) (xlen : Int32) (xidx : Int32) (xknd : Int32) (xawt : Int32) (xnum : Int32) (xcam : Int32) (xfst : Int32) (xlst : Int32) (xfc : Nat → Int32) (xft : Nat → Int32) (p1 : Int32) (sz : Nat) (res : Int32 × Int32 × Int32) (h : F_X2_startRound xawt xfst p1 = some res) : WrM l G yX2_startRound cX2_startRound 2 (some .int) (rmk 0 0) [(xqa, .inr (2, [.ref xqc, .int xlen, .ref xqt, .int xidx, .int xknd, .int xawt, .int xnum, .int xcam, .int xfst, .int xlst])), (xqc, .inl (G.2.1, 80, .inl xfc)), (xqt, .inl (G.2.2.1, 24, .inl xft))] sz [.ref xqa, .int p1] (some res.1) [(xqa, .inr (2, [.ref xqc, .int xlen, .ref xqt, .int xidx, .int xknd, .int res.2.1, .int xnum, .int xcam, .int res.2.2, .int xlst])), (xqc, .inl (G.2.1, 80, .inl xfc)), (xqt, .inl (G.2.2.1, 24, .inl xft))] := by
  refine ofWr (by decide) (Nat.le_of_ble_eq_true rfl) ?_
  intro p e s m below meth c ls A S hr hlk hK hP hD hS hA hl
  have S : CallFix p m c cX2_startRound 2 s ([.ref xqa, .int p1] : List Value).toArray T0 RX2 := S
  obtain ⟨hx, hb, hml, hown, hts⟩ := id S
  have hl : lv_has ls 2 [(0, .ref xqa), (1, .int p1)] := hl
  rw [F_X2_startRound] at h
  refine lv_iload_n hx hb dX2_startRound_0 rfl (lv_at hl 1 rfl) ?_
  refine lv_bipush (v := 40) hx hb dX2_startRound_1 (by decide) ?_
  refine lv_icmp_eq (tgt := 8) hx hb dX2_startRound_3 (by decide) (fun c1 => ?_) (fun c1 => ?_)
  · replace h := if_t c1 h
    refine lv_aload_n hx hb dX2_startRound_8 rfl (lv_at hl 0 rfl) ?_
    refine lv_bipush (v := (-5)) hx hb dX2_startRound_9 (by decide) ?_
    refine pf S hK iX2 tyX2 tyX2_ok nmX2 hP hD hS 0 rfl rfl 8 (by decide) q111 rfl rfl rfl (Nat.le_of_ble_eq_true rfl) [(xqa, .inr (2, [.ref xqc, .int xlen, .ref xqt, .int xidx, .int xknd, .int xawt, .int xnum, .int xcam, .int (-5), .int xlst])), (xqc, .inl (G.2.1, 80, .inl xfc)), (xqt, .inl (G.2.2.1, 24, .inl xft))] rfl dX2_startRound_11 (fun H locs hP hD hS => ?_)
    refine lv_aload_n hx hb dX2_startRound_14 rfl (lv_at hl 0 rfl) ?_
    refine lv_iconst (v := 1) hx hb dX2_startRound_15 (by decide) ?_
    refine pf S hK iX2 tyX2 tyX2_ok nmX2 hP hD hS 0 rfl rfl 5 (by decide) q108 rfl rfl rfl (Nat.le_of_ble_eq_true rfl) [(xqa, .inr (2, [.ref xqc, .int xlen, .ref xqt, .int xidx, .int xknd, .int 1, .int xnum, .int xcam, .int (-5), .int xlst])), (xqc, .inl (G.2.1, 80, .inl xfc)), (xqt, .inl (G.2.2.1, 24, .inl xft))] rfl dX2_startRound_16 (fun H locs hP hD hS => ?_)
    refine lv_iconst (v := 0) hx hb dX2_startRound_19 (by decide) ?_
    obtain rfl := Option.some.inj h
    exact retW S hr hlk rfl rfl hP hD hS dX2_startRound_20
  · replace h := if_f c1 h
    refine lv_iconst (v := 4) hx hb dX2_startRound_6 (by decide) ?_
    obtain rfl := Option.some.inj h
    exact retW S hr hlk rfl rfl hP hD hS dX2_startRound_7
set_option maxHeartbeats 4000000 in
set_option maxRecDepth 100000 in
theorem c_X2_startPlace (l : Launch) (G : gG) (xqa xqc xqt : Nat) (xlen : Int32) (xidx : Int32) (xknd : Int32) (xawt : Int32) (xnum : Int32) (xcam : Int32) (xfst : Int32) (xlst : Int32) (xfc : Nat → Int32) (xft : Nat → Int32) (p1 : Int32) (sz : Nat) (res : Int32 × Int32 × Int32) (h : F_X2_startPlace xawt xnum p1 = some res) : WrM l G yX2_startPlace cX2_startPlace 2 (some .int) (rmk 1 20) [(xqa, .inr (2, [.ref xqc, .int xlen, .ref xqt, .int xidx, .int xknd, .int xawt, .int xnum, .int xcam, .int xfst, .int xlst])), (xqc, .inl (G.2.1, 80, .inl xfc)), (xqt, .inl (G.2.2.1, 24, .inl xft))] sz [.ref xqa, .int p1] (some res.1) [(xqa, .inr (2, [.ref xqc, .int xlen, .ref xqt, .int xidx, .int xknd, .int res.2.1, .int res.2.2, .int xcam, .int xfst, .int xlst])), (xqc, .inl (G.2.1, 80, .inl xfc)), (xqt, .inl (G.2.2.1, 24, .inl xft))] := by
  refine ofWr (by decide) (Nat.le_of_ble_eq_true rfl) ?_
  intro p e s m below meth c ls A S hr hlk hK hP hD hS hA hl
  have S : CallFix p m c cX2_startPlace 2 s ([.ref xqa, .int p1] : List Value).toArray T0 RX2 := S
  obtain ⟨hx, hb, hml, hown, hts⟩ := id S
  have hl : lv_has ls 2 [(0, .ref xqa), (1, .int p1)] := hl
  rw [F_X2_startPlace] at h
  refine lv_iload_n hx hb dX2_startPlace_0 rfl (lv_at hl 1 rfl) ?_
  obtain ⟨r1, hr1, h⟩ := bd_t h
  refine rdS (As := [.int p1]) (rest := []) S hK (c_X2_isDigit l G p1 r1 hr1) mX2_isDigit q175 ⟨rfl, rfl, Nat.le_of_ble_eq_true rfl, Nat.le_of_ble_eq_true rfl⟩ (ws_nil G.1 _) rfl hl.1 (Nat.le_of_ble_eq_true rfl) ⟨Nat.le_refl 0, Nat.le_refl 0⟩ dX2_startPlace_1 ?_
  refine lv_if_ne (tgt := 9) hx hb dX2_startPlace_4 (by decide) (fun c2 => ?_) (fun c2 => ?_)
  · replace h := if_f c2 h
    refine lv_aload_n hx hb dX2_startPlace_9 rfl (lv_at hl 0 rfl) ?_
    refine lv_iload_n hx hb dX2_startPlace_10 rfl (lv_at hl 1 rfl) ?_
    refine lv_bipush (v := 48) hx hb dX2_startPlace_11 (by decide) ?_
    refine lv_isub hx hb dX2_startPlace_13 ?_
    refine pf S hK iX2 tyX2 tyX2_ok nmX2 hP hD hS 0 rfl rfl 6 (by decide) q109 rfl rfl rfl (Nat.le_of_ble_eq_true rfl) [(xqa, .inr (2, [.ref xqc, .int xlen, .ref xqt, .int xidx, .int xknd, .int xawt, .int (p1 - 48), .int xcam, .int xfst, .int xlst])), (xqc, .inl (G.2.1, 80, .inl xfc)), (xqt, .inl (G.2.2.1, 24, .inl xft))] rfl dX2_startPlace_14 (fun H locs hP hD hS => ?_)
    refine lv_aload_n hx hb dX2_startPlace_17 rfl (lv_at hl 0 rfl) ?_
    refine lv_iconst (v := 2) hx hb dX2_startPlace_18 (by decide) ?_
    refine pf S hK iX2 tyX2 tyX2_ok nmX2 hP hD hS 0 rfl rfl 5 (by decide) q108 rfl rfl rfl (Nat.le_of_ble_eq_true rfl) [(xqa, .inr (2, [.ref xqc, .int xlen, .ref xqt, .int xidx, .int xknd, .int 2, .int (p1 - 48), .int xcam, .int xfst, .int xlst])), (xqc, .inl (G.2.1, 80, .inl xfc)), (xqt, .inl (G.2.2.1, 24, .inl xft))] rfl dX2_startPlace_19 (fun H locs hP hD hS => ?_)
    refine lv_iconst (v := 0) hx hb dX2_startPlace_22 (by decide) ?_
    obtain rfl := Option.some.inj h
    exact retW S hr hlk rfl rfl hP hD hS dX2_startPlace_23
  · replace h := if_t c2 h
    refine lv_iconst (v := 4) hx hb dX2_startPlace_7 (by decide) ?_
    obtain rfl := Option.some.inj h
    exact retW S hr hlk rfl rfl hP hD hS dX2_startPlace_8
set_option maxHeartbeats 4000000 in
set_option maxRecDepth 100000 in
theorem c_X2_lengthenPlace (l : Launch) (G : gG) (xqa xqc xqt : Nat) (xlen : Int32) (xidx : Int32) (xknd : Int32) (xawt : Int32) (xnum : Int32) (xcam : Int32) (xfst : Int32) (xlst : Int32) (xfc : Nat → Int32) (xft : Nat → Int32) (p1 : Int32) (sz : Nat) (res : Int32 × Int32) (h : F_X2_lengthenPlace xnum p1 = some res) : WrM l G yX2_lengthenPlace cX2_lengthenPlace 3 (some .int) (rmk 0 0) [(xqa, .inr (2, [.ref xqc, .int xlen, .ref xqt, .int xidx, .int xknd, .int xawt, .int xnum, .int xcam, .int xfst, .int xlst])), (xqc, .inl (G.2.1, 80, .inl xfc)), (xqt, .inl (G.2.2.1, 24, .inl xft))] sz [.ref xqa, .int p1] (some res.1) [(xqa, .inr (2, [.ref xqc, .int xlen, .ref xqt, .int xidx, .int xknd, .int xawt, .int res.2, .int xcam, .int xfst, .int xlst])), (xqc, .inl (G.2.1, 80, .inl xfc)), (xqt, .inl (G.2.2.1, 24, .inl xft))] := by
  refine ofWr (by decide) (Nat.le_of_ble_eq_true rfl) ?_
  intro p e s m below meth c ls A S hr hlk hK hP hD hS hA hl
  have S : CallFix p m c cX2_lengthenPlace 3 s ([.ref xqa, .int p1] : List Value).toArray T0 RX2 := S
  obtain ⟨hx, hb, hml, hown, hts⟩ := id S
  have hl : lv_has ls 3 [(0, .ref xqa), (1, .int p1)] := hl
  rw [F_X2_lengthenPlace] at h
  refine lv_aload_n hx hb dX2_lengthenPlace_0 rfl (lv_at hl 0 rfl) ?_
  refine gf S hK iX2 hP 0 rfl rfl 6 (by decide) q109 rfl dX2_lengthenPlace_1 ?_
  refine lv_bipush (v := 10) hx hb dX2_lengthenPlace_4 (by decide) ?_
  refine lv_imul hx hb dX2_lengthenPlace_6 ?_
  refine lv_iload_n hx hb dX2_lengthenPlace_7 rfl (lv_at hl 1 rfl) ?_
  refine lv_bipush (v := 48) hx hb dX2_lengthenPlace_8 (by decide) ?_
  refine lv_isub hx hb dX2_lengthenPlace_10 ?_
  refine lv_iadd hx hb dX2_lengthenPlace_11 ?_
  refine lv_istore_n (lv' := [(2, .int ((xnum * 10) + (p1 - 48))), (0, .ref xqa), (1, .int p1)]) hx hb dX2_lengthenPlace_12 rfl hl (by decide) rfl (fun ls hl => ?_)
  refine lv_aload_n hx hb dX2_lengthenPlace_13 rfl (lv_at hl 1 rfl) ?_
  refine gf S hK iX2 hP 0 rfl rfl 6 (by decide) q109 rfl dX2_lengthenPlace_14 ?_
  refine lv_if_eq (tgt := 26) hx hb dX2_lengthenPlace_17 (by decide) (fun c1 => ?_) (fun c1 => ?_)
  · replace h := if_t c1 h
    refine lv_iconst (v := 2) hx hb dX2_lengthenPlace_26 (by decide) ?_
    obtain rfl := Option.some.inj h
    exact retW S hr hlk rfl rfl hP hD hS dX2_lengthenPlace_27
  · replace h := if_f c1 h
    refine lv_iload_n hx hb dX2_lengthenPlace_20 rfl (lv_at hl 0 rfl) ?_
    refine lv_bipush (v := 24) hx hb dX2_lengthenPlace_21 (by decide) ?_
    refine lv_icmp_lt (tgt := 28) hx hb dX2_lengthenPlace_23 (by decide) (fun c2 => ?_) (fun c2 => ?_)
    · replace h := if_t c2 h
      refine lv_aload_n hx hb dX2_lengthenPlace_28 rfl (lv_at hl 1 rfl) ?_
      refine lv_iload_n hx hb dX2_lengthenPlace_29 rfl (lv_at hl 0 rfl) ?_
      refine pf S hK iX2 tyX2 tyX2_ok nmX2 hP hD hS 0 rfl rfl 6 (by decide) q109 rfl rfl rfl (Nat.le_of_ble_eq_true rfl) [(xqa, .inr (2, [.ref xqc, .int xlen, .ref xqt, .int xidx, .int xknd, .int xawt, .int ((xnum * 10) + (p1 - 48)), .int xcam, .int xfst, .int xlst])), (xqc, .inl (G.2.1, 80, .inl xfc)), (xqt, .inl (G.2.2.1, 24, .inl xft))] rfl dX2_lengthenPlace_30 (fun H locs hP hD hS => ?_)
      refine lv_iconst (v := 0) hx hb dX2_lengthenPlace_33 (by decide) ?_
      obtain rfl := Option.some.inj h
      exact retW S hr hlk rfl rfl hP hD hS dX2_lengthenPlace_34
    · replace h := if_f c2 h
      refine lv_iconst (v := 2) hx hb dX2_lengthenPlace_26 (by decide) ?_
      obtain rfl := Option.some.inj h
      exact retW S hr hlk rfl rfl hP hD hS dX2_lengthenPlace_27
set_option maxHeartbeats 4000000 in
set_option maxRecDepth 100000 in
theorem c_X2_send (l : Launch) (G : gG) (xqa xqc xqt : Nat) (xlen : Int32) (xidx : Int32) (xknd : Int32) (xawt : Int32) (xnum : Int32) (xcam : Int32) (xfst : Int32) (xlst : Int32) (xfc : Nat → Int32) (xft : Nat → Int32) (p1 p2 : Int32) (sz : Nat) (res : (Nat → Int32)) (h : F_X2_send xft p1 p2 = some res) : WrM l G yX2_send cX2_send 3 none (rmk 1 20) [(xqa, .inr (2, [.ref xqc, .int xlen, .ref xqt, .int xidx, .int xknd, .int xawt, .int xnum, .int xcam, .int xfst, .int xlst])), (xqc, .inl (G.2.1, 80, .inl xfc)), (xqt, .inl (G.2.2.1, 24, .inl xft))] sz [.ref xqa, .int p1, .int p2] none [(xqa, .inr (2, [.ref xqc, .int xlen, .ref xqt, .int xidx, .int xknd, .int xawt, .int xnum, .int xcam, .int xfst, .int xlst])), (xqc, .inl (G.2.1, 80, .inl xfc)), (xqt, .inl (G.2.2.1, 24, .inl res))] := by
  refine ofWr (by decide) (Nat.le_of_ble_eq_true rfl) ?_
  intro p e s m below meth c ls A S hr hlk hK hP hD hS hA hl
  have S : CallFix p m c cX2_send 3 s ([.ref xqa, .int p1, .int p2] : List Value).toArray T0 RX2 := S
  obtain ⟨hx, hb, hml, hown, hts⟩ := id S
  have hl : lv_has ls 3 [(0, .ref xqa), (1, .int p1), (2, .int p2)] := hl
  rw [F_X2_send] at h
  refine lv_iload_n hx hb dX2_send_0 rfl (lv_at hl 1 rfl) ?_
  obtain ⟨r1, hr1, h⟩ := bd_t h
  refine rdN (As := [.int p1]) (rest := []) S hK (c_X4_isPlace l G p1 r1 hr1) mX4_isPlace 1 rfl ⟨rfl, rfl, Nat.le_of_ble_eq_true rfl, Nat.le_of_ble_eq_true rfl⟩ (ws_nil G.1 _) rfl hl.1 (Nat.le_of_ble_eq_true rfl) ⟨Nat.le_refl 0, Nat.le_refl 0⟩ dX2_send_1 ?_
  refine lv_if_eq (tgt := 21) hx hb dX2_send_4 (by decide) (fun c2 => ?_) (fun c2 => ?_)
  · replace h := if_t c2 h
    obtain rfl := Option.some.inj h
    exact retV S hr hlk hP hD hS dX2_send_21
  · replace h := if_f c2 h
    refine lv_iload_n hx hb dX2_send_7 rfl (lv_at hl 2 rfl) ?_
    obtain ⟨r3, hr3, h⟩ := bd_t h
    refine rdN (As := [.int p2]) (rest := []) S hK (c_X4_isPlace l G p2 r3 hr3) mX4_isPlace 1 rfl ⟨rfl, rfl, Nat.le_of_ble_eq_true rfl, Nat.le_of_ble_eq_true rfl⟩ (ws_nil G.1 _) rfl hl.1 (Nat.le_of_ble_eq_true rfl) ⟨Nat.le_refl 0, Nat.le_refl 0⟩ dX2_send_8 ?_
    refine lv_if_eq (tgt := 21) hx hb dX2_send_11 (by decide) (fun c4 => ?_) (fun c4 => ?_)
    · replace h := if_t c4 h
      obtain rfl := Option.some.inj h
      exact retV S hr hlk hP hD hS dX2_send_21
    · replace h := if_f c4 h
      refine lv_aload_n hx hb dX2_send_14 rfl (lv_at hl 0 rfl) ?_
      refine gf S hK iX2 hP 0 rfl rfl 2 (by decide) q105 rfl dX2_send_15 ?_
      refine lv_iload_n hx hb dX2_send_18 rfl (lv_at hl 1 rfl) ?_
      refine lv_iload_n hx hb dX2_send_19 rfl (lv_at hl 2 rfl) ?_
      obtain ⟨k5, h⟩ := ck_t h
      refine ast S hK hP hD hS 2 rfl (ok_vp k5) [(xqa, .inr (2, [.ref xqc, .int xlen, .ref xqt, .int xidx, .int xknd, .int xawt, .int xnum, .int xcam, .int xfst, .int xlst])), (xqc, .inl (G.2.1, 80, .inl xfc)), (xqt, .inl (G.2.2.1, 24, .inl (upd xft (Int32.toNatClampNeg p1) p2)))] rfl dX2_send_20 (fun H locs hP hD hS => ?_)
      obtain rfl := Option.some.inj h
      exact retV S hr hlk hP hD hS dX2_send_21
set_option maxHeartbeats 4000000 in
set_option maxRecDepth 100000 in
theorem c_X2_endPlace (l : Launch) (G : gG) (xqa xqc xqt : Nat) (xlen : Int32) (xidx : Int32) (xknd : Int32) (xawt : Int32) (xnum : Int32) (xcam : Int32) (xfst : Int32) (xlst : Int32) (xfc : Nat → Int32) (xft : Nat → Int32) (p1 : Int32) (sz : Nat) (res : Int32 × Int32 × Int32 × Int32 × Int32 × (Nat → Int32)) (h : F_X2_endPlace xawt xnum xcam xfst xlst xft p1 = some res) : WrM l G yX2_endPlace cX2_endPlace 3 (some .int) (rmk 2 42) [(xqa, .inr (2, [.ref xqc, .int xlen, .ref xqt, .int xidx, .int xknd, .int xawt, .int xnum, .int xcam, .int xfst, .int xlst])), (xqc, .inl (G.2.1, 80, .inl xfc)), (xqt, .inl (G.2.2.1, 24, .inl xft))] sz [.ref xqa, .int p1] (some res.1) [(xqa, .inr (2, [.ref xqc, .int xlen, .ref xqt, .int xidx, .int xknd, .int res.2.1, .int xnum, .int res.2.2.1, .int res.2.2.2.1, .int res.2.2.2.2.1])), (xqc, .inl (G.2.1, 80, .inl xfc)), (xqt, .inl (G.2.2.1, 24, .inl res.2.2.2.2.2))] := by
  refine ofWr (by decide) (Nat.le_of_ble_eq_true rfl) ?_
  intro p e s m below meth c ls A S hr hlk hK hP hD hS hA hl
  have S : CallFix p m c cX2_endPlace 3 s ([.ref xqa, .int p1] : List Value).toArray T0 RX2 := S
  obtain ⟨hx, hb, hml, hown, hts⟩ := id S
  have hl : lv_has ls 3 [(0, .ref xqa), (1, .int p1)] := hl
  rw [F_X2_endPlace] at h
  refine lv_aload_n hx hb dX2_endPlace_0 rfl (lv_at hl 0 rfl) ?_
  refine gf S hK iX2 hP 0 rfl rfl 7 (by decide) q110 rfl dX2_endPlace_1 ?_
  refine lv_aload_n hx hb dX2_endPlace_4 rfl (lv_at hl 0 rfl) ?_
  refine gf S hK iX2 hP 0 rfl rfl 6 (by decide) q109 rfl dX2_endPlace_5 ?_
  obtain ⟨r1, hr1, h⟩ := bd_t h
  refine rdN (As := [.int xcam, .int xnum]) (rest := []) S hK (c_X4_has l G xcam xnum r1 hr1) mX4_has 0 rfl ⟨rfl, rfl, Nat.le_of_ble_eq_true rfl, Nat.le_of_ble_eq_true rfl⟩ (ws_nil G.1 _) rfl hl.1 (Nat.le_of_ble_eq_true rfl) ⟨Nat.le_refl 0, Nat.le_refl 0⟩ dX2_endPlace_8 ?_
  refine lv_if_eq (tgt := 16) hx hb dX2_endPlace_11 (by decide) (fun c2 => ?_) (fun c2 => ?_)
  · replace h := if_t c2 h
    refine lv_aload_n hx hb dX2_endPlace_16 rfl (lv_at hl 0 rfl) ?_
    refine gf S hK iX2 hP 0 rfl rfl 8 (by decide) q111 rfl dX2_endPlace_17 ?_
    refine lv_bipush (v := (-5)) hx hb dX2_endPlace_20 (by decide) ?_
    refine lv_icmp_ne (tgt := 29) hx hb dX2_endPlace_22 (by decide) (fun c3 => ?_) (fun c3 => ?_)
    · replace h := if_f c3 h
      refine lv_iconst (v := 0) hx hb dX2_endPlace_29 (by decide) ?_
      refine lv_istore_n (lv' := [(2, .int 0), (0, .ref xqa), (1, .int p1)]) hx hb dX2_endPlace_30 rfl hl (by decide) rfl (fun ls hl => ?_)
      refine lv_iload_n hx hb dX2_endPlace_31 rfl (lv_at hl 2 rfl) ?_
      refine lv_bipush (v := 44) hx hb dX2_endPlace_32 (by decide) ?_
      refine lv_icmp_eq (tgt := 49) hx hb dX2_endPlace_34 (by decide) (fun c4 => ?_) (fun c4 => ?_)
      · replace h := if_t c4 h
        refine lv_iload_n hx hb dX2_endPlace_49 rfl (lv_at hl 0 rfl) ?_
        refine lv_if_eq (tgt := 64) hx hb dX2_endPlace_50 (by decide) (fun c5 => ?_) (fun c5 => ?_)
        · replace h := if_t c5 h
          refine lv_aload_n hx hb dX2_endPlace_64 rfl (lv_at hl 1 rfl) ?_
          refine lv_aload_n hx hb dX2_endPlace_65 rfl (lv_at hl 1 rfl) ?_
          refine gf S hK iX2 hP 0 rfl rfl 9 (by decide) q112 rfl dX2_endPlace_66 ?_
          refine lv_aload_n hx hb dX2_endPlace_69 rfl (lv_at hl 1 rfl) ?_
          refine gf S hK iX2 hP 0 rfl rfl 6 (by decide) q109 rfl dX2_endPlace_70 ?_
          obtain ⟨r6, hr6, h⟩ := bd_t h
          refine wrV (As := [.int xlst, .int xnum]) (rest := []) (ws := [(xqa, .inr (2, [.ref xqc, .int xlen, .ref xqt, .int xidx, .int xknd, .int xawt, .int xnum, .int xcam, .int xfst, .int xlst])), (xqc, .inl (G.2.1, 80, .inl xfc)), (xqt, .inl (G.2.2.1, 24, .inl xft))]) (wr := []) (ws' := [(xqa, .inr (2, [.ref xqc, .int xlen, .ref xqt, .int xidx, .int xknd, .int xawt, .int xnum, .int xcam, .int xfst, .int xlst])), (xqc, .inl (G.2.1, 80, .inl xfc)), (xqt, .inl (G.2.2.1, 24, .inl r6))]) (ws1 := [(xqa, .inr (2, [.ref xqc, .int xlen, .ref xqt, .int xidx, .int xknd, .int xawt, .int xnum, .int xcam, .int xfst, .int xlst])), (xqc, .inl (G.2.1, 80, .inl xfc)), (xqt, .inl (G.2.2.1, 24, .inl r6))]) S hK (c_X2_send l G xqa xqc xqt xlen xidx xknd xawt xnum xcam xfst xlst xfc xft xlst xnum _ r6 hr6) mX2_send q189 ⟨rfl, rfl, Nat.le_of_ble_eq_true rfl, Nat.le_of_ble_eq_true rfl⟩ hP hD hS hA [0, 1, 2] [] [0, 1, 2] rfl rfl (by decide) (by decide) (by decide) rfl (by decide) rfl rfl rfl rfl hl.1 (Nat.le_of_ble_eq_true rfl) ⟨Nat.le_refl 0, Nat.le_refl 0⟩ dX2_endPlace_73 (fun H locs hP hD hS => ?_)
          refine lv_aload_n hx hb dX2_endPlace_76 rfl (lv_at hl 1 rfl) ?_
          refine lv_dup hx hb dX2_endPlace_77 rfl ?_
          refine gf S hK iX2 hP 0 rfl rfl 7 (by decide) q110 rfl dX2_endPlace_78 ?_
          refine lv_aload_n hx hb dX2_endPlace_81 rfl (lv_at hl 1 rfl) ?_
          refine gf S hK iX2 hP 0 rfl rfl 6 (by decide) q109 rfl dX2_endPlace_82 ?_
          obtain ⟨r7, hr7, h⟩ := bd_t h
          refine rdN (As := [.int xnum]) (rest := [.int xcam, .ref xqa]) S hK (c_X4_only l G xnum r7 hr7) mX4_only 2 rfl ⟨rfl, rfl, Nat.le_of_ble_eq_true rfl, Nat.le_of_ble_eq_true rfl⟩ (ws_nil G.1 _) rfl hl.1 (Nat.le_of_ble_eq_true rfl) ⟨Nat.le_refl 0, Nat.le_refl 0⟩ dX2_endPlace_85 ?_
          refine lv_ior hx hb dX2_endPlace_88 ?_
          refine pf S hK iX2 tyX2 tyX2_ok nmX2 hP hD hS 0 rfl rfl 7 (by decide) q110 rfl rfl rfl (Nat.le_of_ble_eq_true rfl) [(xqa, .inr (2, [.ref xqc, .int xlen, .ref xqt, .int xidx, .int xknd, .int xawt, .int xnum, .int (xcam ||| r7), .int xfst, .int xlst])), (xqc, .inl (G.2.1, 80, .inl xfc)), (xqt, .inl (G.2.2.1, 24, .inl r6))] rfl dX2_endPlace_89 (fun H locs hP hD hS => ?_)
          refine lv_aload_n hx hb dX2_endPlace_92 rfl (lv_at hl 1 rfl) ?_
          refine lv_aload_n hx hb dX2_endPlace_93 rfl (lv_at hl 1 rfl) ?_
          refine gf S hK iX2 hP 0 rfl rfl 6 (by decide) q109 rfl dX2_endPlace_94 ?_
          refine pf S hK iX2 tyX2 tyX2_ok nmX2 hP hD hS 0 rfl rfl 9 (by decide) q112 rfl rfl rfl (Nat.le_of_ble_eq_true rfl) [(xqa, .inr (2, [.ref xqc, .int xlen, .ref xqt, .int xidx, .int xknd, .int xawt, .int xnum, .int (xcam ||| r7), .int xfst, .int xnum])), (xqc, .inl (G.2.1, 80, .inl xfc)), (xqt, .inl (G.2.2.1, 24, .inl r6))] rfl dX2_endPlace_97 (fun H locs hP hD hS => ?_)
          refine lv_aload_n hx hb dX2_endPlace_100 rfl (lv_at hl 1 rfl) ?_
          refine lv_iconst (v := 1) hx hb dX2_endPlace_101 (by decide) ?_
          refine pf S hK iX2 tyX2 tyX2_ok nmX2 hP hD hS 0 rfl rfl 5 (by decide) q108 rfl rfl rfl (Nat.le_of_ble_eq_true rfl) [(xqa, .inr (2, [.ref xqc, .int xlen, .ref xqt, .int xidx, .int xknd, .int 1, .int xnum, .int (xcam ||| r7), .int xfst, .int xnum])), (xqc, .inl (G.2.1, 80, .inl xfc)), (xqt, .inl (G.2.2.1, 24, .inl r6))] rfl dX2_endPlace_102 (fun H locs hP hD hS => ?_)
          refine lv_iload_n hx hb dX2_endPlace_105 rfl (lv_at hl 2 rfl) ?_
          refine lv_bipush (v := 41) hx hb dX2_endPlace_106 (by decide) ?_
          refine lv_icmp_ne (tgt := 128) hx hb dX2_endPlace_108 (by decide) (fun c8 => ?_) (fun c8 => ?_)
          · replace h := if_f c8 h
            refine lv_iconst (v := 0) hx hb dX2_endPlace_128 (by decide) ?_
            obtain rfl := Option.some.inj h
            exact retW S hr hlk rfl rfl hP hD hS dX2_endPlace_129
          · replace h := if_t c8 h
            refine lv_aload_n hx hb dX2_endPlace_111 rfl (lv_at hl 1 rfl) ?_
            refine lv_aload_n hx hb dX2_endPlace_112 rfl (lv_at hl 1 rfl) ?_
            refine gf S hK iX2 hP 0 rfl rfl 9 (by decide) q112 rfl dX2_endPlace_113 ?_
            refine lv_aload_n hx hb dX2_endPlace_116 rfl (lv_at hl 1 rfl) ?_
            refine gf S hK iX2 hP 0 rfl rfl 8 (by decide) q111 rfl dX2_endPlace_117 ?_
            obtain ⟨r9, hr9, h⟩ := bd_t h
            refine wrV (As := [.int xnum, .int xfst]) (rest := []) (ws := [(xqa, .inr (2, [.ref xqc, .int xlen, .ref xqt, .int xidx, .int xknd, .int 1, .int xnum, .int (xcam ||| r7), .int xfst, .int xnum])), (xqc, .inl (G.2.1, 80, .inl xfc)), (xqt, .inl (G.2.2.1, 24, .inl r6))]) (wr := []) (ws' := [(xqa, .inr (2, [.ref xqc, .int xlen, .ref xqt, .int xidx, .int xknd, .int 1, .int xnum, .int (xcam ||| r7), .int xfst, .int xnum])), (xqc, .inl (G.2.1, 80, .inl xfc)), (xqt, .inl (G.2.2.1, 24, .inl r9))]) (ws1 := [(xqa, .inr (2, [.ref xqc, .int xlen, .ref xqt, .int xidx, .int xknd, .int 1, .int xnum, .int (xcam ||| r7), .int xfst, .int xnum])), (xqc, .inl (G.2.1, 80, .inl xfc)), (xqt, .inl (G.2.2.1, 24, .inl r9))]) S hK (c_X2_send l G xqa xqc xqt xlen xidx xknd 1 xnum (xcam ||| r7) xfst xnum xfc r6 xnum xfst _ r9 hr9) mX2_send q189 ⟨rfl, rfl, Nat.le_of_ble_eq_true rfl, Nat.le_of_ble_eq_true rfl⟩ hP hD hS hA [0, 1, 2] [] [0, 1, 2] rfl rfl (by decide) (by decide) (by decide) rfl (by decide) rfl rfl rfl rfl hl.1 (Nat.le_of_ble_eq_true rfl) ⟨Nat.le_refl 0, Nat.le_refl 0⟩ dX2_endPlace_120 (fun H locs hP hD hS => ?_)
            refine lv_aload_n hx hb dX2_endPlace_123 rfl (lv_at hl 1 rfl) ?_
            refine lv_iconst (v := 0) hx hb dX2_endPlace_124 (by decide) ?_
            refine pf S hK iX2 tyX2 tyX2_ok nmX2 hP hD hS 0 rfl rfl 5 (by decide) q108 rfl rfl rfl (Nat.le_of_ble_eq_true rfl) [(xqa, .inr (2, [.ref xqc, .int xlen, .ref xqt, .int xidx, .int xknd, .int 0, .int xnum, .int (xcam ||| r7), .int xfst, .int xnum])), (xqc, .inl (G.2.1, 80, .inl xfc)), (xqt, .inl (G.2.2.1, 24, .inl r9))] rfl dX2_endPlace_125 (fun H locs hP hD hS => ?_)
            refine lv_iconst (v := 0) hx hb dX2_endPlace_128 (by decide) ?_
            obtain rfl := Option.some.inj h
            exact retW S hr hlk rfl rfl hP hD hS dX2_endPlace_129
        · replace h := if_f c5 h
          refine lv_aload_n hx hb dX2_endPlace_53 rfl (lv_at hl 1 rfl) ?_
          refine lv_aload_n hx hb dX2_endPlace_54 rfl (lv_at hl 1 rfl) ?_
          refine gf S hK iX2 hP 0 rfl rfl 6 (by decide) q109 rfl dX2_endPlace_55 ?_
          refine pf S hK iX2 tyX2 tyX2_ok nmX2 hP hD hS 0 rfl rfl 8 (by decide) q111 rfl rfl rfl (Nat.le_of_ble_eq_true rfl) [(xqa, .inr (2, [.ref xqc, .int xlen, .ref xqt, .int xidx, .int xknd, .int xawt, .int xnum, .int xcam, .int xnum, .int xlst])), (xqc, .inl (G.2.1, 80, .inl xfc)), (xqt, .inl (G.2.2.1, 24, .inl xft))] rfl dX2_endPlace_58 (fun H locs hP hD hS => ?_)
          refine lv_goto (tgt := 76) hx hb dX2_endPlace_61 (by decide) ?_
          refine lv_aload_n hx hb dX2_endPlace_76 rfl (lv_at hl 1 rfl) ?_
          refine lv_dup hx hb dX2_endPlace_77 rfl ?_
          refine gf S hK iX2 hP 0 rfl rfl 7 (by decide) q110 rfl dX2_endPlace_78 ?_
          refine lv_aload_n hx hb dX2_endPlace_81 rfl (lv_at hl 1 rfl) ?_
          refine gf S hK iX2 hP 0 rfl rfl 6 (by decide) q109 rfl dX2_endPlace_82 ?_
          obtain ⟨r10, hr10, h⟩ := bd_t h
          refine rdN (As := [.int xnum]) (rest := [.int xcam, .ref xqa]) S hK (c_X4_only l G xnum r10 hr10) mX4_only 2 rfl ⟨rfl, rfl, Nat.le_of_ble_eq_true rfl, Nat.le_of_ble_eq_true rfl⟩ (ws_nil G.1 _) rfl hl.1 (Nat.le_of_ble_eq_true rfl) ⟨Nat.le_refl 0, Nat.le_refl 0⟩ dX2_endPlace_85 ?_
          refine lv_ior hx hb dX2_endPlace_88 ?_
          refine pf S hK iX2 tyX2 tyX2_ok nmX2 hP hD hS 0 rfl rfl 7 (by decide) q110 rfl rfl rfl (Nat.le_of_ble_eq_true rfl) [(xqa, .inr (2, [.ref xqc, .int xlen, .ref xqt, .int xidx, .int xknd, .int xawt, .int xnum, .int (xcam ||| r10), .int xnum, .int xlst])), (xqc, .inl (G.2.1, 80, .inl xfc)), (xqt, .inl (G.2.2.1, 24, .inl xft))] rfl dX2_endPlace_89 (fun H locs hP hD hS => ?_)
          refine lv_aload_n hx hb dX2_endPlace_92 rfl (lv_at hl 1 rfl) ?_
          refine lv_aload_n hx hb dX2_endPlace_93 rfl (lv_at hl 1 rfl) ?_
          refine gf S hK iX2 hP 0 rfl rfl 6 (by decide) q109 rfl dX2_endPlace_94 ?_
          refine pf S hK iX2 tyX2 tyX2_ok nmX2 hP hD hS 0 rfl rfl 9 (by decide) q112 rfl rfl rfl (Nat.le_of_ble_eq_true rfl) [(xqa, .inr (2, [.ref xqc, .int xlen, .ref xqt, .int xidx, .int xknd, .int xawt, .int xnum, .int (xcam ||| r10), .int xnum, .int xnum])), (xqc, .inl (G.2.1, 80, .inl xfc)), (xqt, .inl (G.2.2.1, 24, .inl xft))] rfl dX2_endPlace_97 (fun H locs hP hD hS => ?_)
          refine lv_aload_n hx hb dX2_endPlace_100 rfl (lv_at hl 1 rfl) ?_
          refine lv_iconst (v := 1) hx hb dX2_endPlace_101 (by decide) ?_
          refine pf S hK iX2 tyX2 tyX2_ok nmX2 hP hD hS 0 rfl rfl 5 (by decide) q108 rfl rfl rfl (Nat.le_of_ble_eq_true rfl) [(xqa, .inr (2, [.ref xqc, .int xlen, .ref xqt, .int xidx, .int xknd, .int 1, .int xnum, .int (xcam ||| r10), .int xnum, .int xnum])), (xqc, .inl (G.2.1, 80, .inl xfc)), (xqt, .inl (G.2.2.1, 24, .inl xft))] rfl dX2_endPlace_102 (fun H locs hP hD hS => ?_)
          refine lv_iload_n hx hb dX2_endPlace_105 rfl (lv_at hl 2 rfl) ?_
          refine lv_bipush (v := 41) hx hb dX2_endPlace_106 (by decide) ?_
          refine lv_icmp_ne (tgt := 128) hx hb dX2_endPlace_108 (by decide) (fun c11 => ?_) (fun c11 => ?_)
          · replace h := if_f c11 h
            refine lv_iconst (v := 0) hx hb dX2_endPlace_128 (by decide) ?_
            obtain rfl := Option.some.inj h
            exact retW S hr hlk rfl rfl hP hD hS dX2_endPlace_129
          · replace h := if_t c11 h
            refine lv_aload_n hx hb dX2_endPlace_111 rfl (lv_at hl 1 rfl) ?_
            refine lv_aload_n hx hb dX2_endPlace_112 rfl (lv_at hl 1 rfl) ?_
            refine gf S hK iX2 hP 0 rfl rfl 9 (by decide) q112 rfl dX2_endPlace_113 ?_
            refine lv_aload_n hx hb dX2_endPlace_116 rfl (lv_at hl 1 rfl) ?_
            refine gf S hK iX2 hP 0 rfl rfl 8 (by decide) q111 rfl dX2_endPlace_117 ?_
            obtain ⟨r12, hr12, h⟩ := bd_t h
            refine wrV (As := [.int xnum, .int xnum]) (rest := []) (ws := [(xqa, .inr (2, [.ref xqc, .int xlen, .ref xqt, .int xidx, .int xknd, .int 1, .int xnum, .int (xcam ||| r10), .int xnum, .int xnum])), (xqc, .inl (G.2.1, 80, .inl xfc)), (xqt, .inl (G.2.2.1, 24, .inl xft))]) (wr := []) (ws' := [(xqa, .inr (2, [.ref xqc, .int xlen, .ref xqt, .int xidx, .int xknd, .int 1, .int xnum, .int (xcam ||| r10), .int xnum, .int xnum])), (xqc, .inl (G.2.1, 80, .inl xfc)), (xqt, .inl (G.2.2.1, 24, .inl r12))]) (ws1 := [(xqa, .inr (2, [.ref xqc, .int xlen, .ref xqt, .int xidx, .int xknd, .int 1, .int xnum, .int (xcam ||| r10), .int xnum, .int xnum])), (xqc, .inl (G.2.1, 80, .inl xfc)), (xqt, .inl (G.2.2.1, 24, .inl r12))]) S hK (c_X2_send l G xqa xqc xqt xlen xidx xknd 1 xnum (xcam ||| r10) xnum xnum xfc xft xnum xnum _ r12 hr12) mX2_send q189 ⟨rfl, rfl, Nat.le_of_ble_eq_true rfl, Nat.le_of_ble_eq_true rfl⟩ hP hD hS hA [0, 1, 2] [] [0, 1, 2] rfl rfl (by decide) (by decide) (by decide) rfl (by decide) rfl rfl rfl rfl hl.1 (Nat.le_of_ble_eq_true rfl) ⟨Nat.le_refl 0, Nat.le_refl 0⟩ dX2_endPlace_120 (fun H locs hP hD hS => ?_)
            refine lv_aload_n hx hb dX2_endPlace_123 rfl (lv_at hl 1 rfl) ?_
            refine lv_iconst (v := 0) hx hb dX2_endPlace_124 (by decide) ?_
            refine pf S hK iX2 tyX2 tyX2_ok nmX2 hP hD hS 0 rfl rfl 5 (by decide) q108 rfl rfl rfl (Nat.le_of_ble_eq_true rfl) [(xqa, .inr (2, [.ref xqc, .int xlen, .ref xqt, .int xidx, .int xknd, .int 0, .int xnum, .int (xcam ||| r10), .int xnum, .int xnum])), (xqc, .inl (G.2.1, 80, .inl xfc)), (xqt, .inl (G.2.2.1, 24, .inl r12))] rfl dX2_endPlace_125 (fun H locs hP hD hS => ?_)
            refine lv_iconst (v := 0) hx hb dX2_endPlace_128 (by decide) ?_
            obtain rfl := Option.some.inj h
            exact retW S hr hlk rfl rfl hP hD hS dX2_endPlace_129
      · replace h := if_f c4 h
        refine lv_iload_n hx hb dX2_endPlace_37 rfl (lv_at hl 2 rfl) ?_
        refine lv_bipush (v := 41) hx hb dX2_endPlace_38 (by decide) ?_
        refine lv_icmp_ne (tgt := 47) hx hb dX2_endPlace_40 (by decide) (fun c13 => ?_) (fun c13 => ?_)
        · replace h := if_f c13 h
          refine lv_iconst (v := 4) hx hb dX2_endPlace_47 (by decide) ?_
          obtain rfl := Option.some.inj h
          exact retW S hr hlk rfl rfl hP hD hS dX2_endPlace_48
        · replace h := if_t c13 h
          refine lv_iload_n hx hb dX2_endPlace_43 rfl (lv_at hl 0 rfl) ?_
          refine lv_if_eq (tgt := 49) hx hb dX2_endPlace_44 (by decide) (fun c14 => ?_) (fun c14 => ?_)
          · replace h := if_t c14 h
            refine lv_iload_n hx hb dX2_endPlace_49 rfl (lv_at hl 0 rfl) ?_
            refine lv_if_eq (tgt := 64) hx hb dX2_endPlace_50 (by decide) (fun c15 => ?_) (fun c15 => ?_)
            · replace h := if_t c15 h
              refine lv_aload_n hx hb dX2_endPlace_64 rfl (lv_at hl 1 rfl) ?_
              refine lv_aload_n hx hb dX2_endPlace_65 rfl (lv_at hl 1 rfl) ?_
              refine gf S hK iX2 hP 0 rfl rfl 9 (by decide) q112 rfl dX2_endPlace_66 ?_
              refine lv_aload_n hx hb dX2_endPlace_69 rfl (lv_at hl 1 rfl) ?_
              refine gf S hK iX2 hP 0 rfl rfl 6 (by decide) q109 rfl dX2_endPlace_70 ?_
              obtain ⟨r16, hr16, h⟩ := bd_t h
              refine wrV (As := [.int xlst, .int xnum]) (rest := []) (ws := [(xqa, .inr (2, [.ref xqc, .int xlen, .ref xqt, .int xidx, .int xknd, .int xawt, .int xnum, .int xcam, .int xfst, .int xlst])), (xqc, .inl (G.2.1, 80, .inl xfc)), (xqt, .inl (G.2.2.1, 24, .inl xft))]) (wr := []) (ws' := [(xqa, .inr (2, [.ref xqc, .int xlen, .ref xqt, .int xidx, .int xknd, .int xawt, .int xnum, .int xcam, .int xfst, .int xlst])), (xqc, .inl (G.2.1, 80, .inl xfc)), (xqt, .inl (G.2.2.1, 24, .inl r16))]) (ws1 := [(xqa, .inr (2, [.ref xqc, .int xlen, .ref xqt, .int xidx, .int xknd, .int xawt, .int xnum, .int xcam, .int xfst, .int xlst])), (xqc, .inl (G.2.1, 80, .inl xfc)), (xqt, .inl (G.2.2.1, 24, .inl r16))]) S hK (c_X2_send l G xqa xqc xqt xlen xidx xknd xawt xnum xcam xfst xlst xfc xft xlst xnum _ r16 hr16) mX2_send q189 ⟨rfl, rfl, Nat.le_of_ble_eq_true rfl, Nat.le_of_ble_eq_true rfl⟩ hP hD hS hA [0, 1, 2] [] [0, 1, 2] rfl rfl (by decide) (by decide) (by decide) rfl (by decide) rfl rfl rfl rfl hl.1 (Nat.le_of_ble_eq_true rfl) ⟨Nat.le_refl 0, Nat.le_refl 0⟩ dX2_endPlace_73 (fun H locs hP hD hS => ?_)
              refine lv_aload_n hx hb dX2_endPlace_76 rfl (lv_at hl 1 rfl) ?_
              refine lv_dup hx hb dX2_endPlace_77 rfl ?_
              refine gf S hK iX2 hP 0 rfl rfl 7 (by decide) q110 rfl dX2_endPlace_78 ?_
              refine lv_aload_n hx hb dX2_endPlace_81 rfl (lv_at hl 1 rfl) ?_
              refine gf S hK iX2 hP 0 rfl rfl 6 (by decide) q109 rfl dX2_endPlace_82 ?_
              obtain ⟨r17, hr17, h⟩ := bd_t h
              refine rdN (As := [.int xnum]) (rest := [.int xcam, .ref xqa]) S hK (c_X4_only l G xnum r17 hr17) mX4_only 2 rfl ⟨rfl, rfl, Nat.le_of_ble_eq_true rfl, Nat.le_of_ble_eq_true rfl⟩ (ws_nil G.1 _) rfl hl.1 (Nat.le_of_ble_eq_true rfl) ⟨Nat.le_refl 0, Nat.le_refl 0⟩ dX2_endPlace_85 ?_
              refine lv_ior hx hb dX2_endPlace_88 ?_
              refine pf S hK iX2 tyX2 tyX2_ok nmX2 hP hD hS 0 rfl rfl 7 (by decide) q110 rfl rfl rfl (Nat.le_of_ble_eq_true rfl) [(xqa, .inr (2, [.ref xqc, .int xlen, .ref xqt, .int xidx, .int xknd, .int xawt, .int xnum, .int (xcam ||| r17), .int xfst, .int xlst])), (xqc, .inl (G.2.1, 80, .inl xfc)), (xqt, .inl (G.2.2.1, 24, .inl r16))] rfl dX2_endPlace_89 (fun H locs hP hD hS => ?_)
              refine lv_aload_n hx hb dX2_endPlace_92 rfl (lv_at hl 1 rfl) ?_
              refine lv_aload_n hx hb dX2_endPlace_93 rfl (lv_at hl 1 rfl) ?_
              refine gf S hK iX2 hP 0 rfl rfl 6 (by decide) q109 rfl dX2_endPlace_94 ?_
              refine pf S hK iX2 tyX2 tyX2_ok nmX2 hP hD hS 0 rfl rfl 9 (by decide) q112 rfl rfl rfl (Nat.le_of_ble_eq_true rfl) [(xqa, .inr (2, [.ref xqc, .int xlen, .ref xqt, .int xidx, .int xknd, .int xawt, .int xnum, .int (xcam ||| r17), .int xfst, .int xnum])), (xqc, .inl (G.2.1, 80, .inl xfc)), (xqt, .inl (G.2.2.1, 24, .inl r16))] rfl dX2_endPlace_97 (fun H locs hP hD hS => ?_)
              refine lv_aload_n hx hb dX2_endPlace_100 rfl (lv_at hl 1 rfl) ?_
              refine lv_iconst (v := 1) hx hb dX2_endPlace_101 (by decide) ?_
              refine pf S hK iX2 tyX2 tyX2_ok nmX2 hP hD hS 0 rfl rfl 5 (by decide) q108 rfl rfl rfl (Nat.le_of_ble_eq_true rfl) [(xqa, .inr (2, [.ref xqc, .int xlen, .ref xqt, .int xidx, .int xknd, .int 1, .int xnum, .int (xcam ||| r17), .int xfst, .int xnum])), (xqc, .inl (G.2.1, 80, .inl xfc)), (xqt, .inl (G.2.2.1, 24, .inl r16))] rfl dX2_endPlace_102 (fun H locs hP hD hS => ?_)
              refine lv_iload_n hx hb dX2_endPlace_105 rfl (lv_at hl 2 rfl) ?_
              refine lv_bipush (v := 41) hx hb dX2_endPlace_106 (by decide) ?_
              refine lv_icmp_ne (tgt := 128) hx hb dX2_endPlace_108 (by decide) (fun c18 => ?_) (fun c18 => ?_)
              · replace h := if_f c18 h
                refine lv_iconst (v := 0) hx hb dX2_endPlace_128 (by decide) ?_
                obtain rfl := Option.some.inj h
                exact retW S hr hlk rfl rfl hP hD hS dX2_endPlace_129
              · replace h := if_t c18 h
                refine lv_aload_n hx hb dX2_endPlace_111 rfl (lv_at hl 1 rfl) ?_
                refine lv_aload_n hx hb dX2_endPlace_112 rfl (lv_at hl 1 rfl) ?_
                refine gf S hK iX2 hP 0 rfl rfl 9 (by decide) q112 rfl dX2_endPlace_113 ?_
                refine lv_aload_n hx hb dX2_endPlace_116 rfl (lv_at hl 1 rfl) ?_
                refine gf S hK iX2 hP 0 rfl rfl 8 (by decide) q111 rfl dX2_endPlace_117 ?_
                obtain ⟨r19, hr19, h⟩ := bd_t h
                refine wrV (As := [.int xnum, .int xfst]) (rest := []) (ws := [(xqa, .inr (2, [.ref xqc, .int xlen, .ref xqt, .int xidx, .int xknd, .int 1, .int xnum, .int (xcam ||| r17), .int xfst, .int xnum])), (xqc, .inl (G.2.1, 80, .inl xfc)), (xqt, .inl (G.2.2.1, 24, .inl r16))]) (wr := []) (ws' := [(xqa, .inr (2, [.ref xqc, .int xlen, .ref xqt, .int xidx, .int xknd, .int 1, .int xnum, .int (xcam ||| r17), .int xfst, .int xnum])), (xqc, .inl (G.2.1, 80, .inl xfc)), (xqt, .inl (G.2.2.1, 24, .inl r19))]) (ws1 := [(xqa, .inr (2, [.ref xqc, .int xlen, .ref xqt, .int xidx, .int xknd, .int 1, .int xnum, .int (xcam ||| r17), .int xfst, .int xnum])), (xqc, .inl (G.2.1, 80, .inl xfc)), (xqt, .inl (G.2.2.1, 24, .inl r19))]) S hK (c_X2_send l G xqa xqc xqt xlen xidx xknd 1 xnum (xcam ||| r17) xfst xnum xfc r16 xnum xfst _ r19 hr19) mX2_send q189 ⟨rfl, rfl, Nat.le_of_ble_eq_true rfl, Nat.le_of_ble_eq_true rfl⟩ hP hD hS hA [0, 1, 2] [] [0, 1, 2] rfl rfl (by decide) (by decide) (by decide) rfl (by decide) rfl rfl rfl rfl hl.1 (Nat.le_of_ble_eq_true rfl) ⟨Nat.le_refl 0, Nat.le_refl 0⟩ dX2_endPlace_120 (fun H locs hP hD hS => ?_)
                refine lv_aload_n hx hb dX2_endPlace_123 rfl (lv_at hl 1 rfl) ?_
                refine lv_iconst (v := 0) hx hb dX2_endPlace_124 (by decide) ?_
                refine pf S hK iX2 tyX2 tyX2_ok nmX2 hP hD hS 0 rfl rfl 5 (by decide) q108 rfl rfl rfl (Nat.le_of_ble_eq_true rfl) [(xqa, .inr (2, [.ref xqc, .int xlen, .ref xqt, .int xidx, .int xknd, .int 0, .int xnum, .int (xcam ||| r17), .int xfst, .int xnum])), (xqc, .inl (G.2.1, 80, .inl xfc)), (xqt, .inl (G.2.2.1, 24, .inl r19))] rfl dX2_endPlace_125 (fun H locs hP hD hS => ?_)
                refine lv_iconst (v := 0) hx hb dX2_endPlace_128 (by decide) ?_
                obtain rfl := Option.some.inj h
                exact retW S hr hlk rfl rfl hP hD hS dX2_endPlace_129
            · replace h := if_f c15 h
              refine lv_aload_n hx hb dX2_endPlace_53 rfl (lv_at hl 1 rfl) ?_
              refine lv_aload_n hx hb dX2_endPlace_54 rfl (lv_at hl 1 rfl) ?_
              refine gf S hK iX2 hP 0 rfl rfl 6 (by decide) q109 rfl dX2_endPlace_55 ?_
              refine pf S hK iX2 tyX2 tyX2_ok nmX2 hP hD hS 0 rfl rfl 8 (by decide) q111 rfl rfl rfl (Nat.le_of_ble_eq_true rfl) [(xqa, .inr (2, [.ref xqc, .int xlen, .ref xqt, .int xidx, .int xknd, .int xawt, .int xnum, .int xcam, .int xnum, .int xlst])), (xqc, .inl (G.2.1, 80, .inl xfc)), (xqt, .inl (G.2.2.1, 24, .inl xft))] rfl dX2_endPlace_58 (fun H locs hP hD hS => ?_)
              refine lv_goto (tgt := 76) hx hb dX2_endPlace_61 (by decide) ?_
              refine lv_aload_n hx hb dX2_endPlace_76 rfl (lv_at hl 1 rfl) ?_
              refine lv_dup hx hb dX2_endPlace_77 rfl ?_
              refine gf S hK iX2 hP 0 rfl rfl 7 (by decide) q110 rfl dX2_endPlace_78 ?_
              refine lv_aload_n hx hb dX2_endPlace_81 rfl (lv_at hl 1 rfl) ?_
              refine gf S hK iX2 hP 0 rfl rfl 6 (by decide) q109 rfl dX2_endPlace_82 ?_
              obtain ⟨r20, hr20, h⟩ := bd_t h
              refine rdN (As := [.int xnum]) (rest := [.int xcam, .ref xqa]) S hK (c_X4_only l G xnum r20 hr20) mX4_only 2 rfl ⟨rfl, rfl, Nat.le_of_ble_eq_true rfl, Nat.le_of_ble_eq_true rfl⟩ (ws_nil G.1 _) rfl hl.1 (Nat.le_of_ble_eq_true rfl) ⟨Nat.le_refl 0, Nat.le_refl 0⟩ dX2_endPlace_85 ?_
              refine lv_ior hx hb dX2_endPlace_88 ?_
              refine pf S hK iX2 tyX2 tyX2_ok nmX2 hP hD hS 0 rfl rfl 7 (by decide) q110 rfl rfl rfl (Nat.le_of_ble_eq_true rfl) [(xqa, .inr (2, [.ref xqc, .int xlen, .ref xqt, .int xidx, .int xknd, .int xawt, .int xnum, .int (xcam ||| r20), .int xnum, .int xlst])), (xqc, .inl (G.2.1, 80, .inl xfc)), (xqt, .inl (G.2.2.1, 24, .inl xft))] rfl dX2_endPlace_89 (fun H locs hP hD hS => ?_)
              refine lv_aload_n hx hb dX2_endPlace_92 rfl (lv_at hl 1 rfl) ?_
              refine lv_aload_n hx hb dX2_endPlace_93 rfl (lv_at hl 1 rfl) ?_
              refine gf S hK iX2 hP 0 rfl rfl 6 (by decide) q109 rfl dX2_endPlace_94 ?_
              refine pf S hK iX2 tyX2 tyX2_ok nmX2 hP hD hS 0 rfl rfl 9 (by decide) q112 rfl rfl rfl (Nat.le_of_ble_eq_true rfl) [(xqa, .inr (2, [.ref xqc, .int xlen, .ref xqt, .int xidx, .int xknd, .int xawt, .int xnum, .int (xcam ||| r20), .int xnum, .int xnum])), (xqc, .inl (G.2.1, 80, .inl xfc)), (xqt, .inl (G.2.2.1, 24, .inl xft))] rfl dX2_endPlace_97 (fun H locs hP hD hS => ?_)
              refine lv_aload_n hx hb dX2_endPlace_100 rfl (lv_at hl 1 rfl) ?_
              refine lv_iconst (v := 1) hx hb dX2_endPlace_101 (by decide) ?_
              refine pf S hK iX2 tyX2 tyX2_ok nmX2 hP hD hS 0 rfl rfl 5 (by decide) q108 rfl rfl rfl (Nat.le_of_ble_eq_true rfl) [(xqa, .inr (2, [.ref xqc, .int xlen, .ref xqt, .int xidx, .int xknd, .int 1, .int xnum, .int (xcam ||| r20), .int xnum, .int xnum])), (xqc, .inl (G.2.1, 80, .inl xfc)), (xqt, .inl (G.2.2.1, 24, .inl xft))] rfl dX2_endPlace_102 (fun H locs hP hD hS => ?_)
              refine lv_iload_n hx hb dX2_endPlace_105 rfl (lv_at hl 2 rfl) ?_
              refine lv_bipush (v := 41) hx hb dX2_endPlace_106 (by decide) ?_
              refine lv_icmp_ne (tgt := 128) hx hb dX2_endPlace_108 (by decide) (fun c21 => ?_) (fun c21 => ?_)
              · replace h := if_f c21 h
                refine lv_iconst (v := 0) hx hb dX2_endPlace_128 (by decide) ?_
                obtain rfl := Option.some.inj h
                exact retW S hr hlk rfl rfl hP hD hS dX2_endPlace_129
              · replace h := if_t c21 h
                refine lv_aload_n hx hb dX2_endPlace_111 rfl (lv_at hl 1 rfl) ?_
                refine lv_aload_n hx hb dX2_endPlace_112 rfl (lv_at hl 1 rfl) ?_
                refine gf S hK iX2 hP 0 rfl rfl 9 (by decide) q112 rfl dX2_endPlace_113 ?_
                refine lv_aload_n hx hb dX2_endPlace_116 rfl (lv_at hl 1 rfl) ?_
                refine gf S hK iX2 hP 0 rfl rfl 8 (by decide) q111 rfl dX2_endPlace_117 ?_
                obtain ⟨r22, hr22, h⟩ := bd_t h
                refine wrV (As := [.int xnum, .int xnum]) (rest := []) (ws := [(xqa, .inr (2, [.ref xqc, .int xlen, .ref xqt, .int xidx, .int xknd, .int 1, .int xnum, .int (xcam ||| r20), .int xnum, .int xnum])), (xqc, .inl (G.2.1, 80, .inl xfc)), (xqt, .inl (G.2.2.1, 24, .inl xft))]) (wr := []) (ws' := [(xqa, .inr (2, [.ref xqc, .int xlen, .ref xqt, .int xidx, .int xknd, .int 1, .int xnum, .int (xcam ||| r20), .int xnum, .int xnum])), (xqc, .inl (G.2.1, 80, .inl xfc)), (xqt, .inl (G.2.2.1, 24, .inl r22))]) (ws1 := [(xqa, .inr (2, [.ref xqc, .int xlen, .ref xqt, .int xidx, .int xknd, .int 1, .int xnum, .int (xcam ||| r20), .int xnum, .int xnum])), (xqc, .inl (G.2.1, 80, .inl xfc)), (xqt, .inl (G.2.2.1, 24, .inl r22))]) S hK (c_X2_send l G xqa xqc xqt xlen xidx xknd 1 xnum (xcam ||| r20) xnum xnum xfc xft xnum xnum _ r22 hr22) mX2_send q189 ⟨rfl, rfl, Nat.le_of_ble_eq_true rfl, Nat.le_of_ble_eq_true rfl⟩ hP hD hS hA [0, 1, 2] [] [0, 1, 2] rfl rfl (by decide) (by decide) (by decide) rfl (by decide) rfl rfl rfl rfl hl.1 (Nat.le_of_ble_eq_true rfl) ⟨Nat.le_refl 0, Nat.le_refl 0⟩ dX2_endPlace_120 (fun H locs hP hD hS => ?_)
                refine lv_aload_n hx hb dX2_endPlace_123 rfl (lv_at hl 1 rfl) ?_
                refine lv_iconst (v := 0) hx hb dX2_endPlace_124 (by decide) ?_
                refine pf S hK iX2 tyX2 tyX2_ok nmX2 hP hD hS 0 rfl rfl 5 (by decide) q108 rfl rfl rfl (Nat.le_of_ble_eq_true rfl) [(xqa, .inr (2, [.ref xqc, .int xlen, .ref xqt, .int xidx, .int xknd, .int 0, .int xnum, .int (xcam ||| r20), .int xnum, .int xnum])), (xqc, .inl (G.2.1, 80, .inl xfc)), (xqt, .inl (G.2.2.1, 24, .inl r22))] rfl dX2_endPlace_125 (fun H locs hP hD hS => ?_)
                refine lv_iconst (v := 0) hx hb dX2_endPlace_128 (by decide) ?_
                obtain rfl := Option.some.inj h
                exact retW S hr hlk rfl rfl hP hD hS dX2_endPlace_129
          · replace h := if_f c14 h
            refine lv_iconst (v := 4) hx hb dX2_endPlace_47 (by decide) ?_
            obtain rfl := Option.some.inj h
            exact retW S hr hlk rfl rfl hP hD hS dX2_endPlace_48
    · replace h := if_t c3 h
      refine lv_iconst (v := 1) hx hb dX2_endPlace_25 (by decide) ?_
      refine lv_goto (tgt := 30) hx hb dX2_endPlace_26 (by decide) ?_
      refine lv_istore_n (lv' := [(2, .int 1), (0, .ref xqa), (1, .int p1)]) hx hb dX2_endPlace_30 rfl hl (by decide) rfl (fun ls hl => ?_)
      refine lv_iload_n hx hb dX2_endPlace_31 rfl (lv_at hl 2 rfl) ?_
      refine lv_bipush (v := 44) hx hb dX2_endPlace_32 (by decide) ?_
      refine lv_icmp_eq (tgt := 49) hx hb dX2_endPlace_34 (by decide) (fun c23 => ?_) (fun c23 => ?_)
      · replace h := if_t c23 h
        refine lv_iload_n hx hb dX2_endPlace_49 rfl (lv_at hl 0 rfl) ?_
        refine lv_if_eq (tgt := 64) hx hb dX2_endPlace_50 (by decide) (fun c24 => ?_) (fun c24 => ?_)
        · replace h := if_t c24 h
          refine lv_aload_n hx hb dX2_endPlace_64 rfl (lv_at hl 1 rfl) ?_
          refine lv_aload_n hx hb dX2_endPlace_65 rfl (lv_at hl 1 rfl) ?_
          refine gf S hK iX2 hP 0 rfl rfl 9 (by decide) q112 rfl dX2_endPlace_66 ?_
          refine lv_aload_n hx hb dX2_endPlace_69 rfl (lv_at hl 1 rfl) ?_
          refine gf S hK iX2 hP 0 rfl rfl 6 (by decide) q109 rfl dX2_endPlace_70 ?_
          obtain ⟨r25, hr25, h⟩ := bd_t h
          refine wrV (As := [.int xlst, .int xnum]) (rest := []) (ws := [(xqa, .inr (2, [.ref xqc, .int xlen, .ref xqt, .int xidx, .int xknd, .int xawt, .int xnum, .int xcam, .int xfst, .int xlst])), (xqc, .inl (G.2.1, 80, .inl xfc)), (xqt, .inl (G.2.2.1, 24, .inl xft))]) (wr := []) (ws' := [(xqa, .inr (2, [.ref xqc, .int xlen, .ref xqt, .int xidx, .int xknd, .int xawt, .int xnum, .int xcam, .int xfst, .int xlst])), (xqc, .inl (G.2.1, 80, .inl xfc)), (xqt, .inl (G.2.2.1, 24, .inl r25))]) (ws1 := [(xqa, .inr (2, [.ref xqc, .int xlen, .ref xqt, .int xidx, .int xknd, .int xawt, .int xnum, .int xcam, .int xfst, .int xlst])), (xqc, .inl (G.2.1, 80, .inl xfc)), (xqt, .inl (G.2.2.1, 24, .inl r25))]) S hK (c_X2_send l G xqa xqc xqt xlen xidx xknd xawt xnum xcam xfst xlst xfc xft xlst xnum _ r25 hr25) mX2_send q189 ⟨rfl, rfl, Nat.le_of_ble_eq_true rfl, Nat.le_of_ble_eq_true rfl⟩ hP hD hS hA [0, 1, 2] [] [0, 1, 2] rfl rfl (by decide) (by decide) (by decide) rfl (by decide) rfl rfl rfl rfl hl.1 (Nat.le_of_ble_eq_true rfl) ⟨Nat.le_refl 0, Nat.le_refl 0⟩ dX2_endPlace_73 (fun H locs hP hD hS => ?_)
          refine lv_aload_n hx hb dX2_endPlace_76 rfl (lv_at hl 1 rfl) ?_
          refine lv_dup hx hb dX2_endPlace_77 rfl ?_
          refine gf S hK iX2 hP 0 rfl rfl 7 (by decide) q110 rfl dX2_endPlace_78 ?_
          refine lv_aload_n hx hb dX2_endPlace_81 rfl (lv_at hl 1 rfl) ?_
          refine gf S hK iX2 hP 0 rfl rfl 6 (by decide) q109 rfl dX2_endPlace_82 ?_
          obtain ⟨r26, hr26, h⟩ := bd_t h
          refine rdN (As := [.int xnum]) (rest := [.int xcam, .ref xqa]) S hK (c_X4_only l G xnum r26 hr26) mX4_only 2 rfl ⟨rfl, rfl, Nat.le_of_ble_eq_true rfl, Nat.le_of_ble_eq_true rfl⟩ (ws_nil G.1 _) rfl hl.1 (Nat.le_of_ble_eq_true rfl) ⟨Nat.le_refl 0, Nat.le_refl 0⟩ dX2_endPlace_85 ?_
          refine lv_ior hx hb dX2_endPlace_88 ?_
          refine pf S hK iX2 tyX2 tyX2_ok nmX2 hP hD hS 0 rfl rfl 7 (by decide) q110 rfl rfl rfl (Nat.le_of_ble_eq_true rfl) [(xqa, .inr (2, [.ref xqc, .int xlen, .ref xqt, .int xidx, .int xknd, .int xawt, .int xnum, .int (xcam ||| r26), .int xfst, .int xlst])), (xqc, .inl (G.2.1, 80, .inl xfc)), (xqt, .inl (G.2.2.1, 24, .inl r25))] rfl dX2_endPlace_89 (fun H locs hP hD hS => ?_)
          refine lv_aload_n hx hb dX2_endPlace_92 rfl (lv_at hl 1 rfl) ?_
          refine lv_aload_n hx hb dX2_endPlace_93 rfl (lv_at hl 1 rfl) ?_
          refine gf S hK iX2 hP 0 rfl rfl 6 (by decide) q109 rfl dX2_endPlace_94 ?_
          refine pf S hK iX2 tyX2 tyX2_ok nmX2 hP hD hS 0 rfl rfl 9 (by decide) q112 rfl rfl rfl (Nat.le_of_ble_eq_true rfl) [(xqa, .inr (2, [.ref xqc, .int xlen, .ref xqt, .int xidx, .int xknd, .int xawt, .int xnum, .int (xcam ||| r26), .int xfst, .int xnum])), (xqc, .inl (G.2.1, 80, .inl xfc)), (xqt, .inl (G.2.2.1, 24, .inl r25))] rfl dX2_endPlace_97 (fun H locs hP hD hS => ?_)
          refine lv_aload_n hx hb dX2_endPlace_100 rfl (lv_at hl 1 rfl) ?_
          refine lv_iconst (v := 1) hx hb dX2_endPlace_101 (by decide) ?_
          refine pf S hK iX2 tyX2 tyX2_ok nmX2 hP hD hS 0 rfl rfl 5 (by decide) q108 rfl rfl rfl (Nat.le_of_ble_eq_true rfl) [(xqa, .inr (2, [.ref xqc, .int xlen, .ref xqt, .int xidx, .int xknd, .int 1, .int xnum, .int (xcam ||| r26), .int xfst, .int xnum])), (xqc, .inl (G.2.1, 80, .inl xfc)), (xqt, .inl (G.2.2.1, 24, .inl r25))] rfl dX2_endPlace_102 (fun H locs hP hD hS => ?_)
          refine lv_iload_n hx hb dX2_endPlace_105 rfl (lv_at hl 2 rfl) ?_
          refine lv_bipush (v := 41) hx hb dX2_endPlace_106 (by decide) ?_
          refine lv_icmp_ne (tgt := 128) hx hb dX2_endPlace_108 (by decide) (fun c27 => ?_) (fun c27 => ?_)
          · replace h := if_f c27 h
            refine lv_iconst (v := 0) hx hb dX2_endPlace_128 (by decide) ?_
            obtain rfl := Option.some.inj h
            exact retW S hr hlk rfl rfl hP hD hS dX2_endPlace_129
          · replace h := if_t c27 h
            refine lv_aload_n hx hb dX2_endPlace_111 rfl (lv_at hl 1 rfl) ?_
            refine lv_aload_n hx hb dX2_endPlace_112 rfl (lv_at hl 1 rfl) ?_
            refine gf S hK iX2 hP 0 rfl rfl 9 (by decide) q112 rfl dX2_endPlace_113 ?_
            refine lv_aload_n hx hb dX2_endPlace_116 rfl (lv_at hl 1 rfl) ?_
            refine gf S hK iX2 hP 0 rfl rfl 8 (by decide) q111 rfl dX2_endPlace_117 ?_
            obtain ⟨r28, hr28, h⟩ := bd_t h
            refine wrV (As := [.int xnum, .int xfst]) (rest := []) (ws := [(xqa, .inr (2, [.ref xqc, .int xlen, .ref xqt, .int xidx, .int xknd, .int 1, .int xnum, .int (xcam ||| r26), .int xfst, .int xnum])), (xqc, .inl (G.2.1, 80, .inl xfc)), (xqt, .inl (G.2.2.1, 24, .inl r25))]) (wr := []) (ws' := [(xqa, .inr (2, [.ref xqc, .int xlen, .ref xqt, .int xidx, .int xknd, .int 1, .int xnum, .int (xcam ||| r26), .int xfst, .int xnum])), (xqc, .inl (G.2.1, 80, .inl xfc)), (xqt, .inl (G.2.2.1, 24, .inl r28))]) (ws1 := [(xqa, .inr (2, [.ref xqc, .int xlen, .ref xqt, .int xidx, .int xknd, .int 1, .int xnum, .int (xcam ||| r26), .int xfst, .int xnum])), (xqc, .inl (G.2.1, 80, .inl xfc)), (xqt, .inl (G.2.2.1, 24, .inl r28))]) S hK (c_X2_send l G xqa xqc xqt xlen xidx xknd 1 xnum (xcam ||| r26) xfst xnum xfc r25 xnum xfst _ r28 hr28) mX2_send q189 ⟨rfl, rfl, Nat.le_of_ble_eq_true rfl, Nat.le_of_ble_eq_true rfl⟩ hP hD hS hA [0, 1, 2] [] [0, 1, 2] rfl rfl (by decide) (by decide) (by decide) rfl (by decide) rfl rfl rfl rfl hl.1 (Nat.le_of_ble_eq_true rfl) ⟨Nat.le_refl 0, Nat.le_refl 0⟩ dX2_endPlace_120 (fun H locs hP hD hS => ?_)
            refine lv_aload_n hx hb dX2_endPlace_123 rfl (lv_at hl 1 rfl) ?_
            refine lv_iconst (v := 0) hx hb dX2_endPlace_124 (by decide) ?_
            refine pf S hK iX2 tyX2 tyX2_ok nmX2 hP hD hS 0 rfl rfl 5 (by decide) q108 rfl rfl rfl (Nat.le_of_ble_eq_true rfl) [(xqa, .inr (2, [.ref xqc, .int xlen, .ref xqt, .int xidx, .int xknd, .int 0, .int xnum, .int (xcam ||| r26), .int xfst, .int xnum])), (xqc, .inl (G.2.1, 80, .inl xfc)), (xqt, .inl (G.2.2.1, 24, .inl r28))] rfl dX2_endPlace_125 (fun H locs hP hD hS => ?_)
            refine lv_iconst (v := 0) hx hb dX2_endPlace_128 (by decide) ?_
            obtain rfl := Option.some.inj h
            exact retW S hr hlk rfl rfl hP hD hS dX2_endPlace_129
        · replace h := if_f c24 h
          refine lv_aload_n hx hb dX2_endPlace_53 rfl (lv_at hl 1 rfl) ?_
          refine lv_aload_n hx hb dX2_endPlace_54 rfl (lv_at hl 1 rfl) ?_
          refine gf S hK iX2 hP 0 rfl rfl 6 (by decide) q109 rfl dX2_endPlace_55 ?_
          refine pf S hK iX2 tyX2 tyX2_ok nmX2 hP hD hS 0 rfl rfl 8 (by decide) q111 rfl rfl rfl (Nat.le_of_ble_eq_true rfl) [(xqa, .inr (2, [.ref xqc, .int xlen, .ref xqt, .int xidx, .int xknd, .int xawt, .int xnum, .int xcam, .int xnum, .int xlst])), (xqc, .inl (G.2.1, 80, .inl xfc)), (xqt, .inl (G.2.2.1, 24, .inl xft))] rfl dX2_endPlace_58 (fun H locs hP hD hS => ?_)
          refine lv_goto (tgt := 76) hx hb dX2_endPlace_61 (by decide) ?_
          refine lv_aload_n hx hb dX2_endPlace_76 rfl (lv_at hl 1 rfl) ?_
          refine lv_dup hx hb dX2_endPlace_77 rfl ?_
          refine gf S hK iX2 hP 0 rfl rfl 7 (by decide) q110 rfl dX2_endPlace_78 ?_
          refine lv_aload_n hx hb dX2_endPlace_81 rfl (lv_at hl 1 rfl) ?_
          refine gf S hK iX2 hP 0 rfl rfl 6 (by decide) q109 rfl dX2_endPlace_82 ?_
          obtain ⟨r29, hr29, h⟩ := bd_t h
          refine rdN (As := [.int xnum]) (rest := [.int xcam, .ref xqa]) S hK (c_X4_only l G xnum r29 hr29) mX4_only 2 rfl ⟨rfl, rfl, Nat.le_of_ble_eq_true rfl, Nat.le_of_ble_eq_true rfl⟩ (ws_nil G.1 _) rfl hl.1 (Nat.le_of_ble_eq_true rfl) ⟨Nat.le_refl 0, Nat.le_refl 0⟩ dX2_endPlace_85 ?_
          refine lv_ior hx hb dX2_endPlace_88 ?_
          refine pf S hK iX2 tyX2 tyX2_ok nmX2 hP hD hS 0 rfl rfl 7 (by decide) q110 rfl rfl rfl (Nat.le_of_ble_eq_true rfl) [(xqa, .inr (2, [.ref xqc, .int xlen, .ref xqt, .int xidx, .int xknd, .int xawt, .int xnum, .int (xcam ||| r29), .int xnum, .int xlst])), (xqc, .inl (G.2.1, 80, .inl xfc)), (xqt, .inl (G.2.2.1, 24, .inl xft))] rfl dX2_endPlace_89 (fun H locs hP hD hS => ?_)
          refine lv_aload_n hx hb dX2_endPlace_92 rfl (lv_at hl 1 rfl) ?_
          refine lv_aload_n hx hb dX2_endPlace_93 rfl (lv_at hl 1 rfl) ?_
          refine gf S hK iX2 hP 0 rfl rfl 6 (by decide) q109 rfl dX2_endPlace_94 ?_
          refine pf S hK iX2 tyX2 tyX2_ok nmX2 hP hD hS 0 rfl rfl 9 (by decide) q112 rfl rfl rfl (Nat.le_of_ble_eq_true rfl) [(xqa, .inr (2, [.ref xqc, .int xlen, .ref xqt, .int xidx, .int xknd, .int xawt, .int xnum, .int (xcam ||| r29), .int xnum, .int xnum])), (xqc, .inl (G.2.1, 80, .inl xfc)), (xqt, .inl (G.2.2.1, 24, .inl xft))] rfl dX2_endPlace_97 (fun H locs hP hD hS => ?_)
          refine lv_aload_n hx hb dX2_endPlace_100 rfl (lv_at hl 1 rfl) ?_
          refine lv_iconst (v := 1) hx hb dX2_endPlace_101 (by decide) ?_
          refine pf S hK iX2 tyX2 tyX2_ok nmX2 hP hD hS 0 rfl rfl 5 (by decide) q108 rfl rfl rfl (Nat.le_of_ble_eq_true rfl) [(xqa, .inr (2, [.ref xqc, .int xlen, .ref xqt, .int xidx, .int xknd, .int 1, .int xnum, .int (xcam ||| r29), .int xnum, .int xnum])), (xqc, .inl (G.2.1, 80, .inl xfc)), (xqt, .inl (G.2.2.1, 24, .inl xft))] rfl dX2_endPlace_102 (fun H locs hP hD hS => ?_)
          refine lv_iload_n hx hb dX2_endPlace_105 rfl (lv_at hl 2 rfl) ?_
          refine lv_bipush (v := 41) hx hb dX2_endPlace_106 (by decide) ?_
          refine lv_icmp_ne (tgt := 128) hx hb dX2_endPlace_108 (by decide) (fun c30 => ?_) (fun c30 => ?_)
          · replace h := if_f c30 h
            refine lv_iconst (v := 0) hx hb dX2_endPlace_128 (by decide) ?_
            obtain rfl := Option.some.inj h
            exact retW S hr hlk rfl rfl hP hD hS dX2_endPlace_129
          · replace h := if_t c30 h
            refine lv_aload_n hx hb dX2_endPlace_111 rfl (lv_at hl 1 rfl) ?_
            refine lv_aload_n hx hb dX2_endPlace_112 rfl (lv_at hl 1 rfl) ?_
            refine gf S hK iX2 hP 0 rfl rfl 9 (by decide) q112 rfl dX2_endPlace_113 ?_
            refine lv_aload_n hx hb dX2_endPlace_116 rfl (lv_at hl 1 rfl) ?_
            refine gf S hK iX2 hP 0 rfl rfl 8 (by decide) q111 rfl dX2_endPlace_117 ?_
            obtain ⟨r31, hr31, h⟩ := bd_t h
            refine wrV (As := [.int xnum, .int xnum]) (rest := []) (ws := [(xqa, .inr (2, [.ref xqc, .int xlen, .ref xqt, .int xidx, .int xknd, .int 1, .int xnum, .int (xcam ||| r29), .int xnum, .int xnum])), (xqc, .inl (G.2.1, 80, .inl xfc)), (xqt, .inl (G.2.2.1, 24, .inl xft))]) (wr := []) (ws' := [(xqa, .inr (2, [.ref xqc, .int xlen, .ref xqt, .int xidx, .int xknd, .int 1, .int xnum, .int (xcam ||| r29), .int xnum, .int xnum])), (xqc, .inl (G.2.1, 80, .inl xfc)), (xqt, .inl (G.2.2.1, 24, .inl r31))]) (ws1 := [(xqa, .inr (2, [.ref xqc, .int xlen, .ref xqt, .int xidx, .int xknd, .int 1, .int xnum, .int (xcam ||| r29), .int xnum, .int xnum])), (xqc, .inl (G.2.1, 80, .inl xfc)), (xqt, .inl (G.2.2.1, 24, .inl r31))]) S hK (c_X2_send l G xqa xqc xqt xlen xidx xknd 1 xnum (xcam ||| r29) xnum xnum xfc xft xnum xnum _ r31 hr31) mX2_send q189 ⟨rfl, rfl, Nat.le_of_ble_eq_true rfl, Nat.le_of_ble_eq_true rfl⟩ hP hD hS hA [0, 1, 2] [] [0, 1, 2] rfl rfl (by decide) (by decide) (by decide) rfl (by decide) rfl rfl rfl rfl hl.1 (Nat.le_of_ble_eq_true rfl) ⟨Nat.le_refl 0, Nat.le_refl 0⟩ dX2_endPlace_120 (fun H locs hP hD hS => ?_)
            refine lv_aload_n hx hb dX2_endPlace_123 rfl (lv_at hl 1 rfl) ?_
            refine lv_iconst (v := 0) hx hb dX2_endPlace_124 (by decide) ?_
            refine pf S hK iX2 tyX2 tyX2_ok nmX2 hP hD hS 0 rfl rfl 5 (by decide) q108 rfl rfl rfl (Nat.le_of_ble_eq_true rfl) [(xqa, .inr (2, [.ref xqc, .int xlen, .ref xqt, .int xidx, .int xknd, .int 0, .int xnum, .int (xcam ||| r29), .int xnum, .int xnum])), (xqc, .inl (G.2.1, 80, .inl xfc)), (xqt, .inl (G.2.2.1, 24, .inl r31))] rfl dX2_endPlace_125 (fun H locs hP hD hS => ?_)
            refine lv_iconst (v := 0) hx hb dX2_endPlace_128 (by decide) ?_
            obtain rfl := Option.some.inj h
            exact retW S hr hlk rfl rfl hP hD hS dX2_endPlace_129
      · replace h := if_f c23 h
        refine lv_iload_n hx hb dX2_endPlace_37 rfl (lv_at hl 2 rfl) ?_
        refine lv_bipush (v := 41) hx hb dX2_endPlace_38 (by decide) ?_
        refine lv_icmp_ne (tgt := 47) hx hb dX2_endPlace_40 (by decide) (fun c32 => ?_) (fun c32 => ?_)
        · replace h := if_f c32 h
          refine lv_iconst (v := 4) hx hb dX2_endPlace_47 (by decide) ?_
          obtain rfl := Option.some.inj h
          exact retW S hr hlk rfl rfl hP hD hS dX2_endPlace_48
        · replace h := if_t c32 h
          refine lv_iload_n hx hb dX2_endPlace_43 rfl (lv_at hl 0 rfl) ?_
          refine lv_if_eq (tgt := 49) hx hb dX2_endPlace_44 (by decide) (fun c33 => ?_) (fun c33 => ?_)
          · replace h := if_t c33 h
            refine lv_iload_n hx hb dX2_endPlace_49 rfl (lv_at hl 0 rfl) ?_
            refine lv_if_eq (tgt := 64) hx hb dX2_endPlace_50 (by decide) (fun c34 => ?_) (fun c34 => ?_)
            · replace h := if_t c34 h
              refine lv_aload_n hx hb dX2_endPlace_64 rfl (lv_at hl 1 rfl) ?_
              refine lv_aload_n hx hb dX2_endPlace_65 rfl (lv_at hl 1 rfl) ?_
              refine gf S hK iX2 hP 0 rfl rfl 9 (by decide) q112 rfl dX2_endPlace_66 ?_
              refine lv_aload_n hx hb dX2_endPlace_69 rfl (lv_at hl 1 rfl) ?_
              refine gf S hK iX2 hP 0 rfl rfl 6 (by decide) q109 rfl dX2_endPlace_70 ?_
              obtain ⟨r35, hr35, h⟩ := bd_t h
              refine wrV (As := [.int xlst, .int xnum]) (rest := []) (ws := [(xqa, .inr (2, [.ref xqc, .int xlen, .ref xqt, .int xidx, .int xknd, .int xawt, .int xnum, .int xcam, .int xfst, .int xlst])), (xqc, .inl (G.2.1, 80, .inl xfc)), (xqt, .inl (G.2.2.1, 24, .inl xft))]) (wr := []) (ws' := [(xqa, .inr (2, [.ref xqc, .int xlen, .ref xqt, .int xidx, .int xknd, .int xawt, .int xnum, .int xcam, .int xfst, .int xlst])), (xqc, .inl (G.2.1, 80, .inl xfc)), (xqt, .inl (G.2.2.1, 24, .inl r35))]) (ws1 := [(xqa, .inr (2, [.ref xqc, .int xlen, .ref xqt, .int xidx, .int xknd, .int xawt, .int xnum, .int xcam, .int xfst, .int xlst])), (xqc, .inl (G.2.1, 80, .inl xfc)), (xqt, .inl (G.2.2.1, 24, .inl r35))]) S hK (c_X2_send l G xqa xqc xqt xlen xidx xknd xawt xnum xcam xfst xlst xfc xft xlst xnum _ r35 hr35) mX2_send q189 ⟨rfl, rfl, Nat.le_of_ble_eq_true rfl, Nat.le_of_ble_eq_true rfl⟩ hP hD hS hA [0, 1, 2] [] [0, 1, 2] rfl rfl (by decide) (by decide) (by decide) rfl (by decide) rfl rfl rfl rfl hl.1 (Nat.le_of_ble_eq_true rfl) ⟨Nat.le_refl 0, Nat.le_refl 0⟩ dX2_endPlace_73 (fun H locs hP hD hS => ?_)
              refine lv_aload_n hx hb dX2_endPlace_76 rfl (lv_at hl 1 rfl) ?_
              refine lv_dup hx hb dX2_endPlace_77 rfl ?_
              refine gf S hK iX2 hP 0 rfl rfl 7 (by decide) q110 rfl dX2_endPlace_78 ?_
              refine lv_aload_n hx hb dX2_endPlace_81 rfl (lv_at hl 1 rfl) ?_
              refine gf S hK iX2 hP 0 rfl rfl 6 (by decide) q109 rfl dX2_endPlace_82 ?_
              obtain ⟨r36, hr36, h⟩ := bd_t h
              refine rdN (As := [.int xnum]) (rest := [.int xcam, .ref xqa]) S hK (c_X4_only l G xnum r36 hr36) mX4_only 2 rfl ⟨rfl, rfl, Nat.le_of_ble_eq_true rfl, Nat.le_of_ble_eq_true rfl⟩ (ws_nil G.1 _) rfl hl.1 (Nat.le_of_ble_eq_true rfl) ⟨Nat.le_refl 0, Nat.le_refl 0⟩ dX2_endPlace_85 ?_
              refine lv_ior hx hb dX2_endPlace_88 ?_
              refine pf S hK iX2 tyX2 tyX2_ok nmX2 hP hD hS 0 rfl rfl 7 (by decide) q110 rfl rfl rfl (Nat.le_of_ble_eq_true rfl) [(xqa, .inr (2, [.ref xqc, .int xlen, .ref xqt, .int xidx, .int xknd, .int xawt, .int xnum, .int (xcam ||| r36), .int xfst, .int xlst])), (xqc, .inl (G.2.1, 80, .inl xfc)), (xqt, .inl (G.2.2.1, 24, .inl r35))] rfl dX2_endPlace_89 (fun H locs hP hD hS => ?_)
              refine lv_aload_n hx hb dX2_endPlace_92 rfl (lv_at hl 1 rfl) ?_
              refine lv_aload_n hx hb dX2_endPlace_93 rfl (lv_at hl 1 rfl) ?_
              refine gf S hK iX2 hP 0 rfl rfl 6 (by decide) q109 rfl dX2_endPlace_94 ?_
              refine pf S hK iX2 tyX2 tyX2_ok nmX2 hP hD hS 0 rfl rfl 9 (by decide) q112 rfl rfl rfl (Nat.le_of_ble_eq_true rfl) [(xqa, .inr (2, [.ref xqc, .int xlen, .ref xqt, .int xidx, .int xknd, .int xawt, .int xnum, .int (xcam ||| r36), .int xfst, .int xnum])), (xqc, .inl (G.2.1, 80, .inl xfc)), (xqt, .inl (G.2.2.1, 24, .inl r35))] rfl dX2_endPlace_97 (fun H locs hP hD hS => ?_)
              refine lv_aload_n hx hb dX2_endPlace_100 rfl (lv_at hl 1 rfl) ?_
              refine lv_iconst (v := 1) hx hb dX2_endPlace_101 (by decide) ?_
              refine pf S hK iX2 tyX2 tyX2_ok nmX2 hP hD hS 0 rfl rfl 5 (by decide) q108 rfl rfl rfl (Nat.le_of_ble_eq_true rfl) [(xqa, .inr (2, [.ref xqc, .int xlen, .ref xqt, .int xidx, .int xknd, .int 1, .int xnum, .int (xcam ||| r36), .int xfst, .int xnum])), (xqc, .inl (G.2.1, 80, .inl xfc)), (xqt, .inl (G.2.2.1, 24, .inl r35))] rfl dX2_endPlace_102 (fun H locs hP hD hS => ?_)
              refine lv_iload_n hx hb dX2_endPlace_105 rfl (lv_at hl 2 rfl) ?_
              refine lv_bipush (v := 41) hx hb dX2_endPlace_106 (by decide) ?_
              refine lv_icmp_ne (tgt := 128) hx hb dX2_endPlace_108 (by decide) (fun c37 => ?_) (fun c37 => ?_)
              · replace h := if_f c37 h
                refine lv_iconst (v := 0) hx hb dX2_endPlace_128 (by decide) ?_
                obtain rfl := Option.some.inj h
                exact retW S hr hlk rfl rfl hP hD hS dX2_endPlace_129
              · replace h := if_t c37 h
                refine lv_aload_n hx hb dX2_endPlace_111 rfl (lv_at hl 1 rfl) ?_
                refine lv_aload_n hx hb dX2_endPlace_112 rfl (lv_at hl 1 rfl) ?_
                refine gf S hK iX2 hP 0 rfl rfl 9 (by decide) q112 rfl dX2_endPlace_113 ?_
                refine lv_aload_n hx hb dX2_endPlace_116 rfl (lv_at hl 1 rfl) ?_
                refine gf S hK iX2 hP 0 rfl rfl 8 (by decide) q111 rfl dX2_endPlace_117 ?_
                obtain ⟨r38, hr38, h⟩ := bd_t h
                refine wrV (As := [.int xnum, .int xfst]) (rest := []) (ws := [(xqa, .inr (2, [.ref xqc, .int xlen, .ref xqt, .int xidx, .int xknd, .int 1, .int xnum, .int (xcam ||| r36), .int xfst, .int xnum])), (xqc, .inl (G.2.1, 80, .inl xfc)), (xqt, .inl (G.2.2.1, 24, .inl r35))]) (wr := []) (ws' := [(xqa, .inr (2, [.ref xqc, .int xlen, .ref xqt, .int xidx, .int xknd, .int 1, .int xnum, .int (xcam ||| r36), .int xfst, .int xnum])), (xqc, .inl (G.2.1, 80, .inl xfc)), (xqt, .inl (G.2.2.1, 24, .inl r38))]) (ws1 := [(xqa, .inr (2, [.ref xqc, .int xlen, .ref xqt, .int xidx, .int xknd, .int 1, .int xnum, .int (xcam ||| r36), .int xfst, .int xnum])), (xqc, .inl (G.2.1, 80, .inl xfc)), (xqt, .inl (G.2.2.1, 24, .inl r38))]) S hK (c_X2_send l G xqa xqc xqt xlen xidx xknd 1 xnum (xcam ||| r36) xfst xnum xfc r35 xnum xfst _ r38 hr38) mX2_send q189 ⟨rfl, rfl, Nat.le_of_ble_eq_true rfl, Nat.le_of_ble_eq_true rfl⟩ hP hD hS hA [0, 1, 2] [] [0, 1, 2] rfl rfl (by decide) (by decide) (by decide) rfl (by decide) rfl rfl rfl rfl hl.1 (Nat.le_of_ble_eq_true rfl) ⟨Nat.le_refl 0, Nat.le_refl 0⟩ dX2_endPlace_120 (fun H locs hP hD hS => ?_)
                refine lv_aload_n hx hb dX2_endPlace_123 rfl (lv_at hl 1 rfl) ?_
                refine lv_iconst (v := 0) hx hb dX2_endPlace_124 (by decide) ?_
                refine pf S hK iX2 tyX2 tyX2_ok nmX2 hP hD hS 0 rfl rfl 5 (by decide) q108 rfl rfl rfl (Nat.le_of_ble_eq_true rfl) [(xqa, .inr (2, [.ref xqc, .int xlen, .ref xqt, .int xidx, .int xknd, .int 0, .int xnum, .int (xcam ||| r36), .int xfst, .int xnum])), (xqc, .inl (G.2.1, 80, .inl xfc)), (xqt, .inl (G.2.2.1, 24, .inl r38))] rfl dX2_endPlace_125 (fun H locs hP hD hS => ?_)
                refine lv_iconst (v := 0) hx hb dX2_endPlace_128 (by decide) ?_
                obtain rfl := Option.some.inj h
                exact retW S hr hlk rfl rfl hP hD hS dX2_endPlace_129
            · replace h := if_f c34 h
              refine lv_aload_n hx hb dX2_endPlace_53 rfl (lv_at hl 1 rfl) ?_
              refine lv_aload_n hx hb dX2_endPlace_54 rfl (lv_at hl 1 rfl) ?_
              refine gf S hK iX2 hP 0 rfl rfl 6 (by decide) q109 rfl dX2_endPlace_55 ?_
              refine pf S hK iX2 tyX2 tyX2_ok nmX2 hP hD hS 0 rfl rfl 8 (by decide) q111 rfl rfl rfl (Nat.le_of_ble_eq_true rfl) [(xqa, .inr (2, [.ref xqc, .int xlen, .ref xqt, .int xidx, .int xknd, .int xawt, .int xnum, .int xcam, .int xnum, .int xlst])), (xqc, .inl (G.2.1, 80, .inl xfc)), (xqt, .inl (G.2.2.1, 24, .inl xft))] rfl dX2_endPlace_58 (fun H locs hP hD hS => ?_)
              refine lv_goto (tgt := 76) hx hb dX2_endPlace_61 (by decide) ?_
              refine lv_aload_n hx hb dX2_endPlace_76 rfl (lv_at hl 1 rfl) ?_
              refine lv_dup hx hb dX2_endPlace_77 rfl ?_
              refine gf S hK iX2 hP 0 rfl rfl 7 (by decide) q110 rfl dX2_endPlace_78 ?_
              refine lv_aload_n hx hb dX2_endPlace_81 rfl (lv_at hl 1 rfl) ?_
              refine gf S hK iX2 hP 0 rfl rfl 6 (by decide) q109 rfl dX2_endPlace_82 ?_
              obtain ⟨r39, hr39, h⟩ := bd_t h
              refine rdN (As := [.int xnum]) (rest := [.int xcam, .ref xqa]) S hK (c_X4_only l G xnum r39 hr39) mX4_only 2 rfl ⟨rfl, rfl, Nat.le_of_ble_eq_true rfl, Nat.le_of_ble_eq_true rfl⟩ (ws_nil G.1 _) rfl hl.1 (Nat.le_of_ble_eq_true rfl) ⟨Nat.le_refl 0, Nat.le_refl 0⟩ dX2_endPlace_85 ?_
              refine lv_ior hx hb dX2_endPlace_88 ?_
              refine pf S hK iX2 tyX2 tyX2_ok nmX2 hP hD hS 0 rfl rfl 7 (by decide) q110 rfl rfl rfl (Nat.le_of_ble_eq_true rfl) [(xqa, .inr (2, [.ref xqc, .int xlen, .ref xqt, .int xidx, .int xknd, .int xawt, .int xnum, .int (xcam ||| r39), .int xnum, .int xlst])), (xqc, .inl (G.2.1, 80, .inl xfc)), (xqt, .inl (G.2.2.1, 24, .inl xft))] rfl dX2_endPlace_89 (fun H locs hP hD hS => ?_)
              refine lv_aload_n hx hb dX2_endPlace_92 rfl (lv_at hl 1 rfl) ?_
              refine lv_aload_n hx hb dX2_endPlace_93 rfl (lv_at hl 1 rfl) ?_
              refine gf S hK iX2 hP 0 rfl rfl 6 (by decide) q109 rfl dX2_endPlace_94 ?_
              refine pf S hK iX2 tyX2 tyX2_ok nmX2 hP hD hS 0 rfl rfl 9 (by decide) q112 rfl rfl rfl (Nat.le_of_ble_eq_true rfl) [(xqa, .inr (2, [.ref xqc, .int xlen, .ref xqt, .int xidx, .int xknd, .int xawt, .int xnum, .int (xcam ||| r39), .int xnum, .int xnum])), (xqc, .inl (G.2.1, 80, .inl xfc)), (xqt, .inl (G.2.2.1, 24, .inl xft))] rfl dX2_endPlace_97 (fun H locs hP hD hS => ?_)
              refine lv_aload_n hx hb dX2_endPlace_100 rfl (lv_at hl 1 rfl) ?_
              refine lv_iconst (v := 1) hx hb dX2_endPlace_101 (by decide) ?_
              refine pf S hK iX2 tyX2 tyX2_ok nmX2 hP hD hS 0 rfl rfl 5 (by decide) q108 rfl rfl rfl (Nat.le_of_ble_eq_true rfl) [(xqa, .inr (2, [.ref xqc, .int xlen, .ref xqt, .int xidx, .int xknd, .int 1, .int xnum, .int (xcam ||| r39), .int xnum, .int xnum])), (xqc, .inl (G.2.1, 80, .inl xfc)), (xqt, .inl (G.2.2.1, 24, .inl xft))] rfl dX2_endPlace_102 (fun H locs hP hD hS => ?_)
              refine lv_iload_n hx hb dX2_endPlace_105 rfl (lv_at hl 2 rfl) ?_
              refine lv_bipush (v := 41) hx hb dX2_endPlace_106 (by decide) ?_
              refine lv_icmp_ne (tgt := 128) hx hb dX2_endPlace_108 (by decide) (fun c40 => ?_) (fun c40 => ?_)
              · replace h := if_f c40 h
                refine lv_iconst (v := 0) hx hb dX2_endPlace_128 (by decide) ?_
                obtain rfl := Option.some.inj h
                exact retW S hr hlk rfl rfl hP hD hS dX2_endPlace_129
              · replace h := if_t c40 h
                refine lv_aload_n hx hb dX2_endPlace_111 rfl (lv_at hl 1 rfl) ?_
                refine lv_aload_n hx hb dX2_endPlace_112 rfl (lv_at hl 1 rfl) ?_
                refine gf S hK iX2 hP 0 rfl rfl 9 (by decide) q112 rfl dX2_endPlace_113 ?_
                refine lv_aload_n hx hb dX2_endPlace_116 rfl (lv_at hl 1 rfl) ?_
                refine gf S hK iX2 hP 0 rfl rfl 8 (by decide) q111 rfl dX2_endPlace_117 ?_
                obtain ⟨r41, hr41, h⟩ := bd_t h
                refine wrV (As := [.int xnum, .int xnum]) (rest := []) (ws := [(xqa, .inr (2, [.ref xqc, .int xlen, .ref xqt, .int xidx, .int xknd, .int 1, .int xnum, .int (xcam ||| r39), .int xnum, .int xnum])), (xqc, .inl (G.2.1, 80, .inl xfc)), (xqt, .inl (G.2.2.1, 24, .inl xft))]) (wr := []) (ws' := [(xqa, .inr (2, [.ref xqc, .int xlen, .ref xqt, .int xidx, .int xknd, .int 1, .int xnum, .int (xcam ||| r39), .int xnum, .int xnum])), (xqc, .inl (G.2.1, 80, .inl xfc)), (xqt, .inl (G.2.2.1, 24, .inl r41))]) (ws1 := [(xqa, .inr (2, [.ref xqc, .int xlen, .ref xqt, .int xidx, .int xknd, .int 1, .int xnum, .int (xcam ||| r39), .int xnum, .int xnum])), (xqc, .inl (G.2.1, 80, .inl xfc)), (xqt, .inl (G.2.2.1, 24, .inl r41))]) S hK (c_X2_send l G xqa xqc xqt xlen xidx xknd 1 xnum (xcam ||| r39) xnum xnum xfc xft xnum xnum _ r41 hr41) mX2_send q189 ⟨rfl, rfl, Nat.le_of_ble_eq_true rfl, Nat.le_of_ble_eq_true rfl⟩ hP hD hS hA [0, 1, 2] [] [0, 1, 2] rfl rfl (by decide) (by decide) (by decide) rfl (by decide) rfl rfl rfl rfl hl.1 (Nat.le_of_ble_eq_true rfl) ⟨Nat.le_refl 0, Nat.le_refl 0⟩ dX2_endPlace_120 (fun H locs hP hD hS => ?_)
                refine lv_aload_n hx hb dX2_endPlace_123 rfl (lv_at hl 1 rfl) ?_
                refine lv_iconst (v := 0) hx hb dX2_endPlace_124 (by decide) ?_
                refine pf S hK iX2 tyX2 tyX2_ok nmX2 hP hD hS 0 rfl rfl 5 (by decide) q108 rfl rfl rfl (Nat.le_of_ble_eq_true rfl) [(xqa, .inr (2, [.ref xqc, .int xlen, .ref xqt, .int xidx, .int xknd, .int 0, .int xnum, .int (xcam ||| r39), .int xnum, .int xnum])), (xqc, .inl (G.2.1, 80, .inl xfc)), (xqt, .inl (G.2.2.1, 24, .inl r41))] rfl dX2_endPlace_125 (fun H locs hP hD hS => ?_)
                refine lv_iconst (v := 0) hx hb dX2_endPlace_128 (by decide) ?_
                obtain rfl := Option.some.inj h
                exact retW S hr hlk rfl rfl hP hD hS dX2_endPlace_129
          · replace h := if_f c33 h
            refine lv_iconst (v := 4) hx hb dX2_endPlace_47 (by decide) ?_
            obtain rfl := Option.some.inj h
            exact retW S hr hlk rfl rfl hP hD hS dX2_endPlace_48
  · replace h := if_f c2 h
    refine lv_iconst (v := 3) hx hb dX2_endPlace_14 (by decide) ?_
    obtain rfl := Option.some.inj h
    exact retW S hr hlk rfl rfl hP hD hS dX2_endPlace_15
set_option maxHeartbeats 4000000 in
set_option maxRecDepth 100000 in
theorem c_X2_faultOf (l : Launch) (G : gG) (xqa xqc xqt : Nat) (xlen : Int32) (xidx : Int32) (xknd : Int32) (xawt : Int32) (xnum : Int32) (xcam : Int32) (xfst : Int32) (xlst : Int32) (xfc : Nat → Int32) (xft : Nat → Int32) (p1 : Int32) (sz : Nat) (res : Int32 × Int32 × Int32 × Int32 × Int32 × Int32 × (Nat → Int32)) (h : F_X2_faultOf xawt xnum xcam xfst xlst xft p1 = some res) : WrM l G yX2_faultOf cX2_faultOf 2 (some .int) (rmk 3 64) [(xqa, .inr (2, [.ref xqc, .int xlen, .ref xqt, .int xidx, .int xknd, .int xawt, .int xnum, .int xcam, .int xfst, .int xlst])), (xqc, .inl (G.2.1, 80, .inl xfc)), (xqt, .inl (G.2.2.1, 24, .inl xft))] sz [.ref xqa, .int p1] (some res.1) [(xqa, .inr (2, [.ref xqc, .int xlen, .ref xqt, .int xidx, .int xknd, .int res.2.1, .int res.2.2.1, .int res.2.2.2.1, .int res.2.2.2.2.1, .int res.2.2.2.2.2.1])), (xqc, .inl (G.2.1, 80, .inl xfc)), (xqt, .inl (G.2.2.1, 24, .inl res.2.2.2.2.2.2))] := by
  refine ofWr (by decide) (Nat.le_of_ble_eq_true rfl) ?_
  intro p e s m below meth c ls A S hr hlk hK hP hD hS hA hl
  have S : CallFix p m c cX2_faultOf 2 s ([.ref xqa, .int p1] : List Value).toArray T0 RX2 := S
  obtain ⟨hx, hb, hml, hown, hts⟩ := id S
  have hl : lv_has ls 2 [(0, .ref xqa), (1, .int p1)] := hl
  rw [F_X2_faultOf] at h
  refine lv_aload_n hx hb dX2_faultOf_0 rfl (lv_at hl 0 rfl) ?_
  refine gf S hK iX2 hP 0 rfl rfl 5 (by decide) q108 rfl dX2_faultOf_1 ?_
  by_cases z4_0 : xawt = 0
  · replace h := if_t z4_0 h
    refine lv_lookup (off := 28) (tgt := 32) hx hb dX2_faultOf_4 (by decide) (by rw [z4_0]; rfl) (by decide) ?_
    refine lv_aload_n hx hb dX2_faultOf_32 rfl (lv_at hl 0 rfl) ?_
    refine lv_iload_n hx hb dX2_faultOf_33 rfl (lv_at hl 1 rfl) ?_
    obtain ⟨r1, hr1, h⟩ := bd_t h
    refine wrV (As := [.int p1]) (rest := []) (ws := [(xqa, .inr (2, [.ref xqc, .int xlen, .ref xqt, .int xidx, .int xknd, .int xawt, .int xnum, .int xcam, .int xfst, .int xlst])), (xqc, .inl (G.2.1, 80, .inl xfc)), (xqt, .inl (G.2.2.1, 24, .inl xft))]) (wr := []) (ws' := [(xqa, .inr (2, [.ref xqc, .int xlen, .ref xqt, .int xidx, .int xknd, .int r1.2.1, .int xnum, .int xcam, .int r1.2.2, .int xlst])), (xqc, .inl (G.2.1, 80, .inl xfc)), (xqt, .inl (G.2.2.1, 24, .inl xft))]) (ws1 := [(xqa, .inr (2, [.ref xqc, .int xlen, .ref xqt, .int xidx, .int xknd, .int r1.2.1, .int xnum, .int xcam, .int r1.2.2, .int xlst])), (xqc, .inl (G.2.1, 80, .inl xfc)), (xqt, .inl (G.2.2.1, 24, .inl xft))]) S hK (c_X2_startRound l G xqa xqc xqt xlen xidx xknd xawt xnum xcam xfst xlst xfc xft p1 _ r1 hr1) mX2_startRound q167 ⟨rfl, rfl, Nat.le_of_ble_eq_true rfl, Nat.le_of_ble_eq_true rfl⟩ hP hD hS hA [0, 1, 2] [] [0, 1, 2] rfl rfl (by decide) (by decide) (by decide) rfl (by decide) rfl rfl rfl rfl hl.1 (Nat.le_of_ble_eq_true rfl) ⟨Nat.le_refl 0, Nat.le_refl 0⟩ dX2_faultOf_34 (fun H locs hP hD hS => ?_)
    obtain rfl := Option.some.inj h
    exact retW S hr hlk rfl rfl hP hD hS dX2_faultOf_37
  replace h := if_f z4_0 h
  by_cases z4_1 : xawt = 1
  · replace h := if_t z4_1 h
    refine lv_lookup (off := 34) (tgt := 38) hx hb dX2_faultOf_4 (by decide) (by rw [z4_1]; rfl) (by decide) ?_
    refine lv_aload_n hx hb dX2_faultOf_38 rfl (lv_at hl 0 rfl) ?_
    refine lv_iload_n hx hb dX2_faultOf_39 rfl (lv_at hl 1 rfl) ?_
    obtain ⟨r2, hr2, h⟩ := bd_t h
    refine wrV (As := [.int p1]) (rest := []) (ws := [(xqa, .inr (2, [.ref xqc, .int xlen, .ref xqt, .int xidx, .int xknd, .int xawt, .int xnum, .int xcam, .int xfst, .int xlst])), (xqc, .inl (G.2.1, 80, .inl xfc)), (xqt, .inl (G.2.2.1, 24, .inl xft))]) (wr := []) (ws' := [(xqa, .inr (2, [.ref xqc, .int xlen, .ref xqt, .int xidx, .int xknd, .int r2.2.1, .int r2.2.2, .int xcam, .int xfst, .int xlst])), (xqc, .inl (G.2.1, 80, .inl xfc)), (xqt, .inl (G.2.2.1, 24, .inl xft))]) (ws1 := [(xqa, .inr (2, [.ref xqc, .int xlen, .ref xqt, .int xidx, .int xknd, .int r2.2.1, .int r2.2.2, .int xcam, .int xfst, .int xlst])), (xqc, .inl (G.2.1, 80, .inl xfc)), (xqt, .inl (G.2.2.1, 24, .inl xft))]) S hK (c_X2_startPlace l G xqa xqc xqt xlen xidx xknd xawt xnum xcam xfst xlst xfc xft p1 _ r2 hr2) mX2_startPlace q171 ⟨rfl, rfl, Nat.le_of_ble_eq_true rfl, Nat.le_of_ble_eq_true rfl⟩ hP hD hS hA [0, 1, 2] [] [0, 1, 2] rfl rfl (by decide) (by decide) (by decide) rfl (by decide) rfl rfl rfl rfl hl.1 (Nat.le_of_ble_eq_true rfl) ⟨Nat.le_refl 0, Nat.le_refl 0⟩ dX2_faultOf_40 (fun H locs hP hD hS => ?_)
    obtain rfl := Option.some.inj h
    exact retW S hr hlk rfl rfl hP hD hS dX2_faultOf_43
  replace h := if_f z4_1 h
  refine lv_lookup (off := 40) (tgt := 44) hx hb dX2_faultOf_4 (by decide) (by show Op.lookupswitch.offset [(0, 28), (1, 34)] 40 _ = 40; rw [lv_osw (a := 0) z4_0 rfl, lv_osw (a := 1) z4_1 rfl]; rfl) (by decide) ?_
  refine lv_iload_n hx hb dX2_faultOf_44 rfl (lv_at hl 1 rfl) ?_
  obtain ⟨r3, hr3, h⟩ := bd_t h
  refine rdS (As := [.int p1]) (rest := []) S hK (c_X2_isDigit l G p1 r3 hr3) mX2_isDigit q175 ⟨rfl, rfl, Nat.le_of_ble_eq_true rfl, Nat.le_of_ble_eq_true rfl⟩ (ws_nil G.1 _) rfl hl.1 (Nat.le_of_ble_eq_true rfl) ⟨Nat.le_refl 0, Nat.le_refl 0⟩ dX2_faultOf_45 ?_
  refine lv_if_eq (tgt := 59) hx hb dX2_faultOf_48 (by decide) (fun c4 => ?_) (fun c4 => ?_)
  · replace h := if_t c4 h
    refine lv_aload_n hx hb dX2_faultOf_59 rfl (lv_at hl 0 rfl) ?_
    refine lv_iload_n hx hb dX2_faultOf_60 rfl (lv_at hl 1 rfl) ?_
    obtain ⟨r5, hr5, h⟩ := bd_t h
    refine wrV (As := [.int p1]) (rest := []) (ws := [(xqa, .inr (2, [.ref xqc, .int xlen, .ref xqt, .int xidx, .int xknd, .int xawt, .int xnum, .int xcam, .int xfst, .int xlst])), (xqc, .inl (G.2.1, 80, .inl xfc)), (xqt, .inl (G.2.2.1, 24, .inl xft))]) (wr := []) (ws' := [(xqa, .inr (2, [.ref xqc, .int xlen, .ref xqt, .int xidx, .int xknd, .int r5.2.1, .int xnum, .int r5.2.2.1, .int r5.2.2.2.1, .int r5.2.2.2.2.1])), (xqc, .inl (G.2.1, 80, .inl xfc)), (xqt, .inl (G.2.2.1, 24, .inl r5.2.2.2.2.2))]) (ws1 := [(xqa, .inr (2, [.ref xqc, .int xlen, .ref xqt, .int xidx, .int xknd, .int r5.2.1, .int xnum, .int r5.2.2.1, .int r5.2.2.2.1, .int r5.2.2.2.2.1])), (xqc, .inl (G.2.1, 80, .inl xfc)), (xqt, .inl (G.2.2.1, 24, .inl r5.2.2.2.2.2))]) S hK (c_X2_endPlace l G xqa xqc xqt xlen xidx xknd xawt xnum xcam xfst xlst xfc xft p1 _ r5 hr5) mX2_endPlace q182 ⟨rfl, rfl, Nat.le_of_ble_eq_true rfl, Nat.le_of_ble_eq_true rfl⟩ hP hD hS hA [0, 1, 2] [] [0, 1, 2] rfl rfl (by decide) (by decide) (by decide) rfl (by decide) rfl rfl rfl rfl hl.1 (Nat.le_of_ble_eq_true rfl) ⟨Nat.le_refl 0, Nat.le_refl 0⟩ dX2_faultOf_61 (fun H locs hP hD hS => ?_)
    obtain rfl := Option.some.inj h
    exact retW S hr hlk rfl rfl hP hD hS dX2_faultOf_64
  · replace h := if_f c4 h
    refine lv_aload_n hx hb dX2_faultOf_51 rfl (lv_at hl 0 rfl) ?_
    refine lv_iload_n hx hb dX2_faultOf_52 rfl (lv_at hl 1 rfl) ?_
    obtain ⟨r6, hr6, h⟩ := bd_t h
    refine wrV (As := [.int p1]) (rest := []) (ws := [(xqa, .inr (2, [.ref xqc, .int xlen, .ref xqt, .int xidx, .int xknd, .int xawt, .int xnum, .int xcam, .int xfst, .int xlst])), (xqc, .inl (G.2.1, 80, .inl xfc)), (xqt, .inl (G.2.2.1, 24, .inl xft))]) (wr := []) (ws' := [(xqa, .inr (2, [.ref xqc, .int xlen, .ref xqt, .int xidx, .int xknd, .int xawt, .int r6.2, .int xcam, .int xfst, .int xlst])), (xqc, .inl (G.2.1, 80, .inl xfc)), (xqt, .inl (G.2.2.1, 24, .inl xft))]) (ws1 := [(xqa, .inr (2, [.ref xqc, .int xlen, .ref xqt, .int xidx, .int xknd, .int xawt, .int r6.2, .int xcam, .int xfst, .int xlst])), (xqc, .inl (G.2.1, 80, .inl xfc)), (xqt, .inl (G.2.2.1, 24, .inl xft))]) S hK (c_X2_lengthenPlace l G xqa xqc xqt xlen xidx xknd xawt xnum xcam xfst xlst xfc xft p1 _ r6 hr6) mX2_lengthenPlace q178 ⟨rfl, rfl, Nat.le_of_ble_eq_true rfl, Nat.le_of_ble_eq_true rfl⟩ hP hD hS hA [0, 1, 2] [] [0, 1, 2] rfl rfl (by decide) (by decide) (by decide) rfl (by decide) rfl rfl rfl rfl hl.1 (Nat.le_of_ble_eq_true rfl) ⟨Nat.le_refl 0, Nat.le_refl 0⟩ dX2_faultOf_53 (fun H locs hP hD hS => ?_)
    refine lv_goto (tgt := 64) hx hb dX2_faultOf_56 (by decide) ?_
    obtain rfl := Option.some.inj h
    exact retW S hr hlk rfl rfl hP hD hS dX2_faultOf_64
set_option maxHeartbeats 4000000 in
set_option maxRecDepth 100000 in
theorem c_X2_faultOfEnd (l : Launch) (G : gG) (xqa xqc xqt : Nat) (xlen : Int32) (xidx : Int32) (xknd : Int32) (xawt : Int32) (xnum : Int32) (xcam : Int32) (xfst : Int32) (xlst : Int32) (xfc : Nat → Int32) (xft : Nat → Int32) (res : Int32) (h : F_X2_faultOfEnd xawt xnum xcam = some res) : RdM l G yX2_faultOfEnd cX2_faultOfEnd 1 .int (rmk 1 21) [(xqa, .inr (2, [.ref xqc, .int xlen, .ref xqt, .int xidx, .int xknd, .int xawt, .int xnum, .int xcam, .int xfst, .int xlst])), (xqc, .inl (G.2.1, 80, .inl xfc)), (xqt, .inl (G.2.2.1, 24, .inl xft))] [.ref xqa] res := by
  refine ofR (by decide) (Nat.le_of_ble_eq_true rfl) ?_
  intro p e s m below meth c ls S hr hlk hK hP hl
  have S : CallFix p m c cX2_faultOfEnd 1 s ([.ref xqa] : List Value).toArray T0 RX2 := S
  obtain ⟨hx, hb, hml, hown, hts⟩ := id S
  have hl : lv_has ls 1 [(0, .ref xqa)] := hl
  rw [F_X2_faultOfEnd] at h
  refine lv_aload_n hx hb dX2_faultOfEnd_0 rfl (lv_at hl 0 rfl) ?_
  refine gf S hK iX2 hP 0 rfl rfl 5 (by decide) q108 rfl dX2_faultOfEnd_1 ?_
  refine lv_iconst (v := 2) hx hb dX2_faultOfEnd_4 (by decide) ?_
  refine lv_icmp_ne (tgt := 24) hx hb dX2_faultOfEnd_5 (by decide) (fun c1 => ?_) (fun c1 => ?_)
  · replace h := if_f c1 h
    refine lv_aload_n hx hb dX2_faultOfEnd_24 rfl (lv_at hl 0 rfl) ?_
    refine gf S hK iX2 hP 0 rfl rfl 5 (by decide) q108 rfl dX2_faultOfEnd_25 ?_
    refine lv_if_ne (tgt := 42) hx hb dX2_faultOfEnd_28 (by decide) (fun c2 => ?_) (fun c2 => ?_)
    · replace h := if_f c2 h
      refine lv_iconst (v := 1) hx hb dX2_faultOfEnd_42 (by decide) ?_
      obtain rfl := Option.some.inj h
      exact retR S hr hlk rfl rfl dX2_faultOfEnd_43
    · replace h := if_t c2 h
      refine lv_aload_n hx hb dX2_faultOfEnd_31 rfl (lv_at hl 0 rfl) ?_
      refine gf S hK iX2 hP 0 rfl rfl 7 (by decide) q110 rfl dX2_faultOfEnd_32 ?_
      refine lv_if_eq (tgt := 42) hx hb dX2_faultOfEnd_35 (by decide) (fun c3 => ?_) (fun c3 => ?_)
      · replace h := if_t c3 h
        refine lv_iconst (v := 1) hx hb dX2_faultOfEnd_42 (by decide) ?_
        obtain rfl := Option.some.inj h
        exact retR S hr hlk rfl rfl dX2_faultOfEnd_43
      · replace h := if_f c3 h
        refine lv_iconst (v := 0) hx hb dX2_faultOfEnd_38 (by decide) ?_
        refine lv_goto (tgt := 43) hx hb dX2_faultOfEnd_39 (by decide) ?_
        obtain rfl := Option.some.inj h
        exact retR S hr hlk rfl rfl dX2_faultOfEnd_43
  · replace h := if_t c1 h
    refine lv_aload_n hx hb dX2_faultOfEnd_8 rfl (lv_at hl 0 rfl) ?_
    refine gf S hK iX2 hP 0 rfl rfl 7 (by decide) q110 rfl dX2_faultOfEnd_9 ?_
    refine lv_aload_n hx hb dX2_faultOfEnd_12 rfl (lv_at hl 0 rfl) ?_
    refine gf S hK iX2 hP 0 rfl rfl 6 (by decide) q109 rfl dX2_faultOfEnd_13 ?_
    obtain ⟨r4, hr4, h⟩ := bd_t h
    refine rdN (As := [.int xcam, .int xnum]) (rest := []) S hK (c_X4_has l G xcam xnum r4 hr4) mX4_has 0 rfl ⟨rfl, rfl, Nat.le_of_ble_eq_true rfl, Nat.le_of_ble_eq_true rfl⟩ (ws_nil G.1 _) rfl hl.1 (Nat.le_of_ble_eq_true rfl) ⟨Nat.le_refl 0, Nat.le_refl 0⟩ dX2_faultOfEnd_16 ?_
    refine lv_if_eq (tgt := 24) hx hb dX2_faultOfEnd_19 (by decide) (fun c5 => ?_) (fun c5 => ?_)
    · replace h := if_t c5 h
      refine lv_aload_n hx hb dX2_faultOfEnd_24 rfl (lv_at hl 0 rfl) ?_
      refine gf S hK iX2 hP 0 rfl rfl 5 (by decide) q108 rfl dX2_faultOfEnd_25 ?_
      refine lv_if_ne (tgt := 42) hx hb dX2_faultOfEnd_28 (by decide) (fun c6 => ?_) (fun c6 => ?_)
      · replace h := if_f c6 h
        refine lv_iconst (v := 1) hx hb dX2_faultOfEnd_42 (by decide) ?_
        obtain rfl := Option.some.inj h
        exact retR S hr hlk rfl rfl dX2_faultOfEnd_43
      · replace h := if_t c6 h
        refine lv_aload_n hx hb dX2_faultOfEnd_31 rfl (lv_at hl 0 rfl) ?_
        refine gf S hK iX2 hP 0 rfl rfl 7 (by decide) q110 rfl dX2_faultOfEnd_32 ?_
        refine lv_if_eq (tgt := 42) hx hb dX2_faultOfEnd_35 (by decide) (fun c7 => ?_) (fun c7 => ?_)
        · replace h := if_t c7 h
          refine lv_iconst (v := 1) hx hb dX2_faultOfEnd_42 (by decide) ?_
          obtain rfl := Option.some.inj h
          exact retR S hr hlk rfl rfl dX2_faultOfEnd_43
        · replace h := if_f c7 h
          refine lv_iconst (v := 0) hx hb dX2_faultOfEnd_38 (by decide) ?_
          refine lv_goto (tgt := 43) hx hb dX2_faultOfEnd_39 (by decide) ?_
          obtain rfl := Option.some.inj h
          exact retR S hr hlk rfl rfl dX2_faultOfEnd_43
    · replace h := if_f c5 h
      refine lv_iconst (v := 3) hx hb dX2_faultOfEnd_22 (by decide) ?_
      obtain rfl := Option.some.inj h
      exact retR S hr hlk rfl rfl dX2_faultOfEnd_23
set_option maxHeartbeats 4000000 in
set_option maxRecDepth 100000 in
theorem c_X2_read (l : Launch) (G : gG) (xqa xqc xqt : Nat) (xlen : Int32) (xidx : Int32) (xknd : Int32) (xawt : Int32) (xnum : Int32) (xcam : Int32) (xfst : Int32) (xlst : Int32) (xfc : Nat → Int32) (xft : Nat → Int32) (sz : Nat) (res : Int32 × Int32 × Int32 × Int32 × Int32 × Int32 × Int32 × (Nat → Int32)) (h : F_X2_read xlen xidx xknd xawt xnum xcam xfst xlst xfc xft = some res) : WrM l G yX2_read cX2_read 2 none (rmk 4 85) [(xqa, .inr (2, [.ref xqc, .int xlen, .ref xqt, .int xidx, .int xknd, .int xawt, .int xnum, .int xcam, .int xfst, .int xlst])), (xqc, .inl (G.2.1, 80, .inl xfc)), (xqt, .inl (G.2.2.1, 24, .inl xft))] sz [.ref xqa] none [(xqa, .inr (2, [.ref xqc, .int xlen, .ref xqt, .int res.1, .int res.2.1, .int res.2.2.1, .int res.2.2.2.1, .int res.2.2.2.2.1, .int res.2.2.2.2.2.1, .int res.2.2.2.2.2.2.1])), (xqc, .inl (G.2.1, 80, .inl xfc)), (xqt, .inl (G.2.2.1, 24, .inl res.2.2.2.2.2.2.2))] := by
  refine ofWr (by decide) (Nat.le_of_ble_eq_true rfl) ?_
  intro p e s m below meth c ls A S hr hlk hK hP hD hS hA hl
  have S : CallFix p m c cX2_read 2 s ([.ref xqa] : List Value).toArray T0 RX2 := S
  obtain ⟨hx, hb, hml, hown, hts⟩ := id S
  have hl : lv_has ls 2 [(0, .ref xqa)] := hl
  have L6 : ∀ (n : Nat) (x1 : Int32) (xidx : Int32) (xknd : Int32) (xawt : Int32) (xnum : Int32) (xcam : Int32) (xfst : Int32) (xlst : Int32) (xft : Nat → Int32), F_X2_read_6 xlen xfc n x1 xidx xknd xawt xnum xcam xfst xlst xft = some res → ∀ (H : Heap) (locs : List Loc), va_P G.1 vwCl [(xqa, .inr (2, [.ref xqc, .int xlen, .ref xqt, .int xidx, .int xknd, .int xawt, .int xnum, .int xcam, .int xfst, .int xlst])), (xqc, .inl (G.2.1, 80, .inl xfc)), (xqt, .inl (G.2.2.1, 24, .inl xft))] H → va_D A [(xqa, .inr (2, [.ref xqc, .int xlen, .ref xqt, .int xidx, .int xknd, .int xawt, .int xnum, .int xcam, .int xfst, .int xlst])), (xqc, .inl (G.2.1, 80, .inl xfc)), (xqt, .inl (G.2.2.1, 24, .inl xft))] → va_S A s.heap H locs → ∀ (ls : Array Slot), lv_has ls 2 [(0, .ref xqa), (1, .int x1)] → W p l e (rmk 4 85) s m ([.ref xqa] : List Value).toArray below meth c H locs 0 0 (MQ below (gQw G none [(xqa, .inr (2, [.ref xqc, .int xlen, .ref xqt, .int res.1, .int res.2.1, .int res.2.2.1, .int res.2.2.2.1, .int res.2.2.2.2.1, .int res.2.2.2.2.2.1, .int res.2.2.2.2.2.2.1])), (xqc, .inl (G.2.1, 80, .inl xfc)), (xqt, .inl (G.2.2.1, 24, .inl res.2.2.2.2.2.2.2))] A) ([.ref xqa] : List Value).toArray s 0 0 A) (F0 m 6 ls []) := by
    intro n
    induction n with
    | zero => intro x1 xidx xknd xawt xnum xcam xfst xlst xft h; exact absurd (show (none : Option (Int32 × Int32 × Int32 × Int32 × Int32 × Int32 × Int32 × (Nat → Int32))) = some res from h) (fun q => by cases q)
    | succ n ih =>
      intro x1 xidx xknd xawt xnum xcam xfst xlst xft h H locs hP hD hS ls hl
      rw [F_X2_read_6] at h
      refine lv_iload_n hx hb dX2_read_6 rfl (lv_at hl 1 rfl) ?_
      refine lv_bipush (v := 80) hx hb dX2_read_7 (by decide) ?_
      refine lv_icmp_ge (tgt := 52) hx hb dX2_read_9 (by decide) (fun c2 => ?_) (fun c2 => ?_)
      · replace h := if_t c2 h
        refine lv_aload_n hx hb dX2_read_52 rfl (lv_at hl 0 rfl) ?_
        refine gf S hK iX2 hP 0 rfl rfl 4 (by decide) q107 rfl dX2_read_53 ?_
        refine lv_if_ne (tgt := 75) hx hb dX2_read_56 (by decide) (fun c3 => ?_) (fun c3 => ?_)
        · replace h := if_f c3 h
          obtain rfl := Option.some.inj h
          exact retV S hr hlk hP hD hS dX2_read_75
        · replace h := if_t c3 h
          refine lv_aload_n hx hb dX2_read_59 rfl (lv_at hl 0 rfl) ?_
          refine lv_aload_n hx hb dX2_read_60 rfl (lv_at hl 0 rfl) ?_
          obtain ⟨r4, hr4, h⟩ := bd_t h
          refine rdV (As := []) (rest := [.ref xqa]) S hK (c_X2_faultOfEnd l G xqa xqc xqt xlen xidx xknd xawt xnum xcam xfst xlst xfc xft r4 hr4) mX2_faultOfEnd q199 ⟨rfl, rfl, Nat.le_of_ble_eq_true rfl, Nat.le_of_ble_eq_true rfl⟩ hP rfl rfl rfl rfl hl.1 (Nat.le_of_ble_eq_true rfl) ⟨Nat.le_refl 0, Nat.le_refl 0⟩ dX2_read_61 ?_
          refine pf S hK iX2 tyX2 tyX2_ok nmX2 hP hD hS 0 rfl rfl 4 (by decide) q107 rfl rfl rfl (Nat.le_of_ble_eq_true rfl) [(xqa, .inr (2, [.ref xqc, .int xlen, .ref xqt, .int xidx, .int r4, .int xawt, .int xnum, .int xcam, .int xfst, .int xlst])), (xqc, .inl (G.2.1, 80, .inl xfc)), (xqt, .inl (G.2.2.1, 24, .inl xft))] rfl dX2_read_64 (fun H locs hP hD hS => ?_)
          refine lv_aload_n hx hb dX2_read_67 rfl (lv_at hl 0 rfl) ?_
          refine lv_aload_n hx hb dX2_read_68 rfl (lv_at hl 0 rfl) ?_
          refine gf S hK iX2 hP 0 rfl rfl 1 (by decide) q104 rfl dX2_read_69 ?_
          refine pf S hK iX2 tyX2 tyX2_ok nmX2 hP hD hS 0 rfl rfl 3 (by decide) q106 rfl rfl rfl (Nat.le_of_ble_eq_true rfl) [(xqa, .inr (2, [.ref xqc, .int xlen, .ref xqt, .int xlen, .int r4, .int xawt, .int xnum, .int xcam, .int xfst, .int xlst])), (xqc, .inl (G.2.1, 80, .inl xfc)), (xqt, .inl (G.2.2.1, 24, .inl xft))] rfl dX2_read_72 (fun H locs hP hD hS => ?_)
          obtain rfl := Option.some.inj h
          exact retV S hr hlk hP hD hS dX2_read_75
      · replace h := if_f c2 h
        refine lv_iload_n hx hb dX2_read_12 rfl (lv_at hl 1 rfl) ?_
        refine lv_aload_n hx hb dX2_read_13 rfl (lv_at hl 0 rfl) ?_
        refine gf S hK iX2 hP 0 rfl rfl 1 (by decide) q104 rfl dX2_read_14 ?_
        refine lv_icmp_ge (tgt := 52) hx hb dX2_read_17 (by decide) (fun c5 => ?_) (fun c5 => ?_)
        · replace h := if_t c5 h
          refine lv_aload_n hx hb dX2_read_52 rfl (lv_at hl 0 rfl) ?_
          refine gf S hK iX2 hP 0 rfl rfl 4 (by decide) q107 rfl dX2_read_53 ?_
          refine lv_if_ne (tgt := 75) hx hb dX2_read_56 (by decide) (fun c6 => ?_) (fun c6 => ?_)
          · replace h := if_f c6 h
            obtain rfl := Option.some.inj h
            exact retV S hr hlk hP hD hS dX2_read_75
          · replace h := if_t c6 h
            refine lv_aload_n hx hb dX2_read_59 rfl (lv_at hl 0 rfl) ?_
            refine lv_aload_n hx hb dX2_read_60 rfl (lv_at hl 0 rfl) ?_
            obtain ⟨r7, hr7, h⟩ := bd_t h
            refine rdV (As := []) (rest := [.ref xqa]) S hK (c_X2_faultOfEnd l G xqa xqc xqt xlen xidx xknd xawt xnum xcam xfst xlst xfc xft r7 hr7) mX2_faultOfEnd q199 ⟨rfl, rfl, Nat.le_of_ble_eq_true rfl, Nat.le_of_ble_eq_true rfl⟩ hP rfl rfl rfl rfl hl.1 (Nat.le_of_ble_eq_true rfl) ⟨Nat.le_refl 0, Nat.le_refl 0⟩ dX2_read_61 ?_
            refine pf S hK iX2 tyX2 tyX2_ok nmX2 hP hD hS 0 rfl rfl 4 (by decide) q107 rfl rfl rfl (Nat.le_of_ble_eq_true rfl) [(xqa, .inr (2, [.ref xqc, .int xlen, .ref xqt, .int xidx, .int r7, .int xawt, .int xnum, .int xcam, .int xfst, .int xlst])), (xqc, .inl (G.2.1, 80, .inl xfc)), (xqt, .inl (G.2.2.1, 24, .inl xft))] rfl dX2_read_64 (fun H locs hP hD hS => ?_)
            refine lv_aload_n hx hb dX2_read_67 rfl (lv_at hl 0 rfl) ?_
            refine lv_aload_n hx hb dX2_read_68 rfl (lv_at hl 0 rfl) ?_
            refine gf S hK iX2 hP 0 rfl rfl 1 (by decide) q104 rfl dX2_read_69 ?_
            refine pf S hK iX2 tyX2 tyX2_ok nmX2 hP hD hS 0 rfl rfl 3 (by decide) q106 rfl rfl rfl (Nat.le_of_ble_eq_true rfl) [(xqa, .inr (2, [.ref xqc, .int xlen, .ref xqt, .int xlen, .int r7, .int xawt, .int xnum, .int xcam, .int xfst, .int xlst])), (xqc, .inl (G.2.1, 80, .inl xfc)), (xqt, .inl (G.2.2.1, 24, .inl xft))] rfl dX2_read_72 (fun H locs hP hD hS => ?_)
            obtain rfl := Option.some.inj h
            exact retV S hr hlk hP hD hS dX2_read_75
        · replace h := if_f c5 h
          refine lv_aload_n hx hb dX2_read_20 rfl (lv_at hl 0 rfl) ?_
          refine gf S hK iX2 hP 0 rfl rfl 4 (by decide) q107 rfl dX2_read_21 ?_
          refine lv_if_ne (tgt := 52) hx hb dX2_read_24 (by decide) (fun c8 => ?_) (fun c8 => ?_)
          · replace h := if_f c8 h
            refine lv_aload_n hx hb dX2_read_52 rfl (lv_at hl 0 rfl) ?_
            refine gf S hK iX2 hP 0 rfl rfl 4 (by decide) q107 rfl dX2_read_53 ?_
            refine lv_if_ne (tgt := 75) hx hb dX2_read_56 (by decide) (fun c9 => ?_) (fun c9 => ?_)
            · replace h := if_f c9 h
              obtain rfl := Option.some.inj h
              exact retV S hr hlk hP hD hS dX2_read_75
            · replace h := if_t c9 h
              refine lv_aload_n hx hb dX2_read_59 rfl (lv_at hl 0 rfl) ?_
              refine lv_aload_n hx hb dX2_read_60 rfl (lv_at hl 0 rfl) ?_
              obtain ⟨r10, hr10, h⟩ := bd_t h
              refine rdV (As := []) (rest := [.ref xqa]) S hK (c_X2_faultOfEnd l G xqa xqc xqt xlen xidx xknd xawt xnum xcam xfst xlst xfc xft r10 hr10) mX2_faultOfEnd q199 ⟨rfl, rfl, Nat.le_of_ble_eq_true rfl, Nat.le_of_ble_eq_true rfl⟩ hP rfl rfl rfl rfl hl.1 (Nat.le_of_ble_eq_true rfl) ⟨Nat.le_refl 0, Nat.le_refl 0⟩ dX2_read_61 ?_
              refine pf S hK iX2 tyX2 tyX2_ok nmX2 hP hD hS 0 rfl rfl 4 (by decide) q107 rfl rfl rfl (Nat.le_of_ble_eq_true rfl) [(xqa, .inr (2, [.ref xqc, .int xlen, .ref xqt, .int xidx, .int r10, .int xawt, .int xnum, .int xcam, .int xfst, .int xlst])), (xqc, .inl (G.2.1, 80, .inl xfc)), (xqt, .inl (G.2.2.1, 24, .inl xft))] rfl dX2_read_64 (fun H locs hP hD hS => ?_)
              refine lv_aload_n hx hb dX2_read_67 rfl (lv_at hl 0 rfl) ?_
              refine lv_aload_n hx hb dX2_read_68 rfl (lv_at hl 0 rfl) ?_
              refine gf S hK iX2 hP 0 rfl rfl 1 (by decide) q104 rfl dX2_read_69 ?_
              refine pf S hK iX2 tyX2 tyX2_ok nmX2 hP hD hS 0 rfl rfl 3 (by decide) q106 rfl rfl rfl (Nat.le_of_ble_eq_true rfl) [(xqa, .inr (2, [.ref xqc, .int xlen, .ref xqt, .int xlen, .int r10, .int xawt, .int xnum, .int xcam, .int xfst, .int xlst])), (xqc, .inl (G.2.1, 80, .inl xfc)), (xqt, .inl (G.2.2.1, 24, .inl xft))] rfl dX2_read_72 (fun H locs hP hD hS => ?_)
              obtain rfl := Option.some.inj h
              exact retV S hr hlk hP hD hS dX2_read_75
          · replace h := if_t c8 h
            refine lv_aload_n hx hb dX2_read_27 rfl (lv_at hl 0 rfl) ?_
            refine lv_aload_n hx hb dX2_read_28 rfl (lv_at hl 0 rfl) ?_
            refine lv_aload_n hx hb dX2_read_29 rfl (lv_at hl 0 rfl) ?_
            refine gf S hK iX2 hP 0 rfl rfl 0 (by decide) q103 rfl dX2_read_30 ?_
            refine lv_iload_n hx hb dX2_read_33 rfl (lv_at hl 1 rfl) ?_
            obtain ⟨k11, h⟩ := ck_t h
            refine cald S hK hP 1 rfl (ok_vp k11) dX2_read_34 ?_
            obtain ⟨r12, hr12, h⟩ := bd_t h
            refine wrV (As := [.int (xfc (Int32.toNatClampNeg x1))]) (rest := [.ref xqa]) (ws := [(xqa, .inr (2, [.ref xqc, .int xlen, .ref xqt, .int xidx, .int xknd, .int xawt, .int xnum, .int xcam, .int xfst, .int xlst])), (xqc, .inl (G.2.1, 80, .inl xfc)), (xqt, .inl (G.2.2.1, 24, .inl xft))]) (wr := []) (ws' := [(xqa, .inr (2, [.ref xqc, .int xlen, .ref xqt, .int xidx, .int xknd, .int r12.2.1, .int r12.2.2.1, .int r12.2.2.2.1, .int r12.2.2.2.2.1, .int r12.2.2.2.2.2.1])), (xqc, .inl (G.2.1, 80, .inl xfc)), (xqt, .inl (G.2.2.1, 24, .inl r12.2.2.2.2.2.2))]) (ws1 := [(xqa, .inr (2, [.ref xqc, .int xlen, .ref xqt, .int xidx, .int xknd, .int r12.2.1, .int r12.2.2.1, .int r12.2.2.2.1, .int r12.2.2.2.2.1, .int r12.2.2.2.2.2.1])), (xqc, .inl (G.2.1, 80, .inl xfc)), (xqt, .inl (G.2.2.1, 24, .inl r12.2.2.2.2.2.2))]) S hK (c_X2_faultOf l G xqa xqc xqt xlen xidx xknd xawt xnum xcam xfst xlst xfc xft (xfc (Int32.toNatClampNeg x1)) _ r12 hr12) mX2_faultOf q163 ⟨rfl, rfl, Nat.le_of_ble_eq_true rfl, Nat.le_of_ble_eq_true rfl⟩ hP hD hS hA [0, 1, 2] [] [0, 1, 2] rfl rfl (by decide) (by decide) (by decide) rfl (by decide) rfl rfl rfl rfl hl.1 (Nat.le_of_ble_eq_true rfl) ⟨Nat.le_refl 0, Nat.le_refl 0⟩ dX2_read_35 (fun H locs hP hD hS => ?_)
            refine pf S hK iX2 tyX2 tyX2_ok nmX2 hP hD hS 0 rfl rfl 4 (by decide) q107 rfl rfl rfl (Nat.le_of_ble_eq_true rfl) [(xqa, .inr (2, [.ref xqc, .int xlen, .ref xqt, .int xidx, .int r12.1, .int r12.2.1, .int r12.2.2.1, .int r12.2.2.2.1, .int r12.2.2.2.2.1, .int r12.2.2.2.2.2.1])), (xqc, .inl (G.2.1, 80, .inl xfc)), (xqt, .inl (G.2.2.1, 24, .inl r12.2.2.2.2.2.2))] rfl dX2_read_38 (fun H locs hP hD hS => ?_)
            refine lv_aload_n hx hb dX2_read_41 rfl (lv_at hl 0 rfl) ?_
            refine lv_iload_n hx hb dX2_read_42 rfl (lv_at hl 1 rfl) ?_
            refine pf S hK iX2 tyX2 tyX2_ok nmX2 hP hD hS 0 rfl rfl 3 (by decide) q106 rfl rfl rfl (Nat.le_of_ble_eq_true rfl) [(xqa, .inr (2, [.ref xqc, .int xlen, .ref xqt, .int x1, .int r12.1, .int r12.2.1, .int r12.2.2.1, .int r12.2.2.2.1, .int r12.2.2.2.2.1, .int r12.2.2.2.2.2.1])), (xqc, .inl (G.2.1, 80, .inl xfc)), (xqt, .inl (G.2.2.1, 24, .inl r12.2.2.2.2.2.2))] rfl dX2_read_43 (fun H locs hP hD hS => ?_)
            refine lv_iinc (v := x1 + 1) (lv' := [(1, .int (x1 + 1)), (0, .ref xqa)]) hx hb dX2_read_46 hl (k := 1) rfl rfl (by decide) rfl (fun ls hl => ?_)
            refine lv_goto (tgt := 6) hx hb dX2_read_49 (by decide) ?_
            exact ih (x1 + 1) x1 r12.1 r12.2.1 r12.2.2.1 r12.2.2.2.1 r12.2.2.2.2.1 r12.2.2.2.2.2.1 r12.2.2.2.2.2.2 h _ _ hP hD hS ls (lv_sub hl [1, 0] rfl)
  rw [F_X2_read] at h
  refine lv_aload_n hx hb dX2_read_0 rfl (lv_at hl 0 rfl) ?_
  obtain ⟨r1, hr1, h⟩ := bd_t h
  refine wrV (As := []) (rest := []) (ws := [(xqa, .inr (2, [.ref xqc, .int xlen, .ref xqt, .int xidx, .int xknd, .int xawt, .int xnum, .int xcam, .int xfst, .int xlst])), (xqc, .inl (G.2.1, 80, .inl xfc)), (xqt, .inl (G.2.2.1, 24, .inl xft))]) (wr := []) (ws' := [(xqa, .inr (2, [.ref xqc, .int xlen, .ref xqt, .int xidx, .int r1.1, .int r1.2.1, .int xnum, .int r1.2.2.1, .int xfst, .int xlst])), (xqc, .inl (G.2.1, 80, .inl xfc)), (xqt, .inl (G.2.2.1, 24, .inl r1.2.2.2))]) (ws1 := [(xqa, .inr (2, [.ref xqc, .int xlen, .ref xqt, .int xidx, .int r1.1, .int r1.2.1, .int xnum, .int r1.2.2.1, .int xfst, .int xlst])), (xqc, .inl (G.2.1, 80, .inl xfc)), (xqt, .inl (G.2.2.1, 24, .inl r1.2.2.2))]) S hK (c_X2_startReading l G xqa xqc xqt xlen xidx xknd xawt xnum xcam xfst xlst xfc xft _ r1 hr1) mX2_startReading q159 ⟨rfl, rfl, Nat.le_of_ble_eq_true rfl, Nat.le_of_ble_eq_true rfl⟩ hP hD hS hA [0, 1, 2] [] [0, 1, 2] rfl rfl (by decide) (by decide) (by decide) rfl (by decide) rfl rfl rfl rfl hl.1 (Nat.le_of_ble_eq_true rfl) ⟨Nat.le_refl 0, Nat.le_refl 0⟩ dX2_read_1 (fun H locs hP hD hS => ?_)
  refine lv_iconst (v := 0) hx hb dX2_read_4 (by decide) ?_
  refine lv_istore_n (lv' := [(1, .int 0), (0, .ref xqa)]) hx hb dX2_read_5 rfl hl (by decide) rfl (fun ls hl => ?_)
  exact L6 10000 0 xidx r1.1 r1.2.1 xnum r1.2.2.1 xfst xlst r1.2.2.2 h _ _ hP hD hS ls (lv_sub hl [1, 0] rfl)
set_option maxHeartbeats 4000000 in
set_option maxRecDepth 100000 in
theorem c_X1_take (l : Launch) (G : gG) (qw qt qu xqa xqc xqt : Nat) (ft : Nat → Int32) (fu : Nat → Int32) (xlen : Int32) (xidx : Int32) (xknd : Int32) (xawt : Int32) (xnum : Int32) (xcam : Int32) (xfst : Int32) (xlst : Int32) (xfc : Nat → Int32) (xft : Nat → Int32) (sz : Nat) (res : (Nat → Int32) × (Nat → Int32)) (h : F_X1_take ft fu xft = some res) : WrM l G yX1_take cX1_take 3 none (rmk 2 42) [(qw, .inr (1, [.ref qt, .ref qu])), (qt, .inl (G.2.2.1, 24, .inl ft)), (qu, .inl (G.2.2.1, 24, .inl fu)), (xqa, .inr (2, [.ref xqc, .int xlen, .ref xqt, .int xidx, .int xknd, .int xawt, .int xnum, .int xcam, .int xfst, .int xlst])), (xqc, .inl (G.2.1, 80, .inl xfc)), (xqt, .inl (G.2.2.1, 24, .inl xft))] sz [.ref qw, .ref xqa] none [(qw, .inr (1, [.ref qt, .ref qu])), (qt, .inl (G.2.2.1, 24, .inl res.1)), (qu, .inl (G.2.2.1, 24, .inl res.2)), (xqa, .inr (2, [.ref xqc, .int xlen, .ref xqt, .int xidx, .int xknd, .int xawt, .int xnum, .int xcam, .int xfst, .int xlst])), (xqc, .inl (G.2.1, 80, .inl xfc)), (xqt, .inl (G.2.2.1, 24, .inl xft))] := by
  refine ofWr (by decide) (Nat.le_of_ble_eq_true rfl) ?_
  intro p e s m below meth c ls A S hr hlk hK hP hD hS hA hl
  have S : CallFix p m c cX1_take 3 s ([.ref qw, .ref xqa] : List Value).toArray T0 RX1 := S
  obtain ⟨hx, hb, hml, hown, hts⟩ := id S
  have hl : lv_has ls 3 [(0, .ref qw), (1, .ref xqa)] := hl
  have L2 : ∀ (n : Nat) (x2 : Int32) (ft : Nat → Int32) (fu : Nat → Int32), F_X1_take_2 xft n x2 ft fu = some res → ∀ (H : Heap) (locs : List Loc), va_P G.1 vwCl [(qw, .inr (1, [.ref qt, .ref qu])), (qt, .inl (G.2.2.1, 24, .inl ft)), (qu, .inl (G.2.2.1, 24, .inl fu)), (xqa, .inr (2, [.ref xqc, .int xlen, .ref xqt, .int xidx, .int xknd, .int xawt, .int xnum, .int xcam, .int xfst, .int xlst])), (xqc, .inl (G.2.1, 80, .inl xfc)), (xqt, .inl (G.2.2.1, 24, .inl xft))] H → va_D A [(qw, .inr (1, [.ref qt, .ref qu])), (qt, .inl (G.2.2.1, 24, .inl ft)), (qu, .inl (G.2.2.1, 24, .inl fu)), (xqa, .inr (2, [.ref xqc, .int xlen, .ref xqt, .int xidx, .int xknd, .int xawt, .int xnum, .int xcam, .int xfst, .int xlst])), (xqc, .inl (G.2.1, 80, .inl xfc)), (xqt, .inl (G.2.2.1, 24, .inl xft))] → va_S A s.heap H locs → ∀ (ls : Array Slot), lv_has ls 3 [(0, .ref qw), (1, .ref xqa), (2, .int x2)] → W p l e (rmk 2 42) s m ([.ref qw, .ref xqa] : List Value).toArray below meth c H locs 0 0 (MQ below (gQw G none [(qw, .inr (1, [.ref qt, .ref qu])), (qt, .inl (G.2.2.1, 24, .inl res.1)), (qu, .inl (G.2.2.1, 24, .inl res.2)), (xqa, .inr (2, [.ref xqc, .int xlen, .ref xqt, .int xidx, .int xknd, .int xawt, .int xnum, .int xcam, .int xfst, .int xlst])), (xqc, .inl (G.2.1, 80, .inl xfc)), (xqt, .inl (G.2.2.1, 24, .inl xft))] A) ([.ref qw, .ref xqa] : List Value).toArray s 0 0 A) (F0 m 2 ls []) := by
    intro n
    induction n with
    | zero => intro x2 ft fu h; exact absurd (show (none : Option ((Nat → Int32) × (Nat → Int32))) = some res from h) (fun q => by cases q)
    | succ n ih =>
      intro x2 ft fu h H locs hP hD hS ls hl
      rw [F_X1_take_2] at h
      refine lv_iload_n hx hb dX1_take_2 rfl (lv_at hl 2 rfl) ?_
      refine lv_bipush (v := 24) hx hb dX1_take_3 (by decide) ?_
      refine lv_icmp_ge (tgt := 24) hx hb dX1_take_5 (by decide) (fun c1 => ?_) (fun c1 => ?_)
      · replace h := if_t c1 h
        obtain rfl := Option.some.inj h
        exact retV S hr hlk hP hD hS dX1_take_24
      · replace h := if_f c1 h
        refine lv_aload_n hx hb dX1_take_8 rfl (lv_at hl 0 rfl) ?_
        refine lv_iload_n hx hb dX1_take_9 rfl (lv_at hl 2 rfl) ?_
        refine lv_aload_n hx hb dX1_take_10 rfl (lv_at hl 1 rfl) ?_
        refine lv_iload_n hx hb dX1_take_11 rfl (lv_at hl 2 rfl) ?_
        obtain ⟨r2, hr2, h⟩ := bd_t h
        refine rdV (As := [.int x2]) (rest := [.int x2, .ref qw]) S hK (c_X2_target l G xqa xqc xqt xlen xidx xknd xawt xnum xcam xfst xlst xfc xft x2 r2 hr2) mX2_target q238 ⟨rfl, rfl, Nat.le_of_ble_eq_true rfl, Nat.le_of_ble_eq_true rfl⟩ (hP.sub (ws' := [(xqa, .inr (2, [.ref xqc, .int xlen, .ref xqt, .int xidx, .int xknd, .int xawt, .int xnum, .int xcam, .int xfst, .int xlst])), (xqc, .inl (G.2.1, 80, .inl xfc)), (xqt, .inl (G.2.2.1, 24, .inl xft))]) [3, 4, 5] rfl) rfl rfl rfl rfl hl.1 (Nat.le_of_ble_eq_true rfl) ⟨Nat.le_refl 0, Nat.le_refl 0⟩ dX1_take_12 ?_
        obtain ⟨r3, hr3, h⟩ := bd_t h
        refine wrV (As := [.int x2, .int r2]) (rest := []) (ws := [(qw, .inr (1, [.ref qt, .ref qu])), (qt, .inl (G.2.2.1, 24, .inl ft)), (qu, .inl (G.2.2.1, 24, .inl fu))]) (wr := [(xqa, .inr (2, [.ref xqc, .int xlen, .ref xqt, .int xidx, .int xknd, .int xawt, .int xnum, .int xcam, .int xfst, .int xlst])), (xqc, .inl (G.2.1, 80, .inl xfc)), (xqt, .inl (G.2.2.1, 24, .inl xft))]) (ws' := [(qw, .inr (1, [.ref qt, .ref qu])), (qt, .inl (G.2.2.1, 24, .inl r3.1)), (qu, .inl (G.2.2.1, 24, .inl r3.2))]) (ws1 := [(qw, .inr (1, [.ref qt, .ref qu])), (qt, .inl (G.2.2.1, 24, .inl r3.1)), (qu, .inl (G.2.2.1, 24, .inl r3.2)), (xqa, .inr (2, [.ref xqc, .int xlen, .ref xqt, .int xidx, .int xknd, .int xawt, .int xnum, .int xcam, .int xfst, .int xlst])), (xqc, .inl (G.2.1, 80, .inl xfc)), (xqt, .inl (G.2.2.1, 24, .inl xft))]) S hK (c_X1_send l G qw qt qu ft fu x2 r2 _ r3 hr3) mX1_send q242 ⟨rfl, rfl, Nat.le_of_ble_eq_true rfl, Nat.le_of_ble_eq_true rfl⟩ hP hD hS hA [0, 1, 2] [3, 4, 5] [3, 4, 5, 0, 1, 2] rfl rfl (by decide) (by decide) (by decide) rfl (by decide) rfl rfl rfl rfl hl.1 (Nat.le_of_ble_eq_true rfl) ⟨Nat.le_refl 0, Nat.le_refl 0⟩ dX1_take_15 (fun H locs hP hD hS => ?_)
        refine lv_iinc (v := x2 + 1) (lv' := [(2, .int (x2 + 1)), (0, .ref qw), (1, .ref xqa)]) hx hb dX1_take_18 hl (k := 2) rfl rfl (by decide) rfl (fun ls hl => ?_)
        refine lv_goto (tgt := 2) hx hb dX1_take_21 (by decide) ?_
        exact ih (x2 + 1) r3.1 r3.2 h _ _ hP hD hS ls (lv_sub hl [1, 2, 0] rfl)
  rw [F_X1_take] at h
  refine lv_iconst (v := 0) hx hb dX1_take_0 (by decide) ?_
  refine lv_istore_n (lv' := [(2, .int 0), (0, .ref qw), (1, .ref xqa)]) hx hb dX1_take_1 rfl hl (by decide) rfl (fun ls hl => ?_)
  exact L2 10000 0 ft fu h _ _ hP hD hS ls (lv_sub hl [1, 2, 0] rfl)
