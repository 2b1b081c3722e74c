set_option maxHeartbeats 4000000 in
set_option maxRecDepth 100000 in
theorem c_J6_bitCount_0f7a4 (l : Launch) (G : gG) (p0 : Int32) (res : Int32) (h : F_J6_bitCount_0f7a4 p0 = some res) : RdM l G yJ6_bitCount_0f7a4 cJ6_bitCount_0f7a4 1 .int (rmk 0 0) [] [.int p0] res := by
  refine ofR (by decide) (Nat.le_of_ble_eq_true rfl) ?_
  intro p e s m below meth c ls S hr hlk hK hP hl
  have S : CallFix p m c cJ6_bitCount_0f7a4 1 s ([.int p0] : List Value).toArray T0 RJ6 := S
  obtain ⟨hx, hb, hml, hown, hts⟩ := id S
  have hl : lv_has ls 1 [(0, .int p0)] := hl
  rw [F_J6_bitCount_0f7a4] at h
  refine lv_iload_n hx hb dJ6_bitCount_0f7a4_0 rfl (lv_at hl 0 rfl) ?_
  refine lv_iload_n hx hb dJ6_bitCount_0f7a4_1 rfl (lv_at hl 0 rfl) ?_
  refine lv_iconst (v := 1) hx hb dJ6_bitCount_0f7a4_2 (by decide) ?_
  refine lv_iushr (v := (p0.toUInt32 >>> ((1 : Int32).toUInt32 &&& Int32.toUInt32 31)).toInt32) hx hb dJ6_bitCount_0f7a4_3 rfl ?_
  refine lv_topi (fun v1 ev1 => ?_)
  replace h := nmd_t ev1 h
  refine lv_ldcw (v := 1431655765) hx hb hown (hts _ q260) dJ6_bitCount_0f7a4_4 ?_
  refine lv_iand hx hb dJ6_bitCount_0f7a4_7 ?_
  refine lv_isub hx hb dJ6_bitCount_0f7a4_8 ?_
  refine lv_istore_n (lv' := [(0, .int (p0 - (v1 &&& 1431655765)))]) hx hb dJ6_bitCount_0f7a4_9 rfl hl (by decide) rfl (fun ls hl => ?_)
  refine lv_iload_n hx hb dJ6_bitCount_0f7a4_10 rfl (lv_at hl 0 rfl) ?_
  refine lv_ldcw (v := 858993459) hx hb hown (hts _ q261) dJ6_bitCount_0f7a4_11 ?_
  refine lv_iand hx hb dJ6_bitCount_0f7a4_14 ?_
  refine lv_iload_n hx hb dJ6_bitCount_0f7a4_15 rfl (lv_at hl 0 rfl) ?_
  refine lv_iconst (v := 2) hx hb dJ6_bitCount_0f7a4_16 (by decide) ?_
  refine lv_iushr (v := ((p0 - (v1 &&& 1431655765)).toUInt32 >>> ((2 : Int32).toUInt32 &&& Int32.toUInt32 31)).toInt32) hx hb dJ6_bitCount_0f7a4_17 rfl ?_
  refine lv_topi (fun v2 ev2 => ?_)
  replace h := nmd_t ev2 h
  refine lv_ldcw (v := 858993459) hx hb hown (hts _ q261) dJ6_bitCount_0f7a4_18 ?_
  refine lv_iand hx hb dJ6_bitCount_0f7a4_21 ?_
  refine lv_iadd hx hb dJ6_bitCount_0f7a4_22 ?_
  refine lv_topi (fun v3 ev3 => ?_)
  replace h := nmd_t ev3 h
  refine lv_istore_n (lv' := [(0, .int v3)]) hx hb dJ6_bitCount_0f7a4_23 rfl hl (by decide) rfl (fun ls hl => ?_)
  refine lv_iload_n hx hb dJ6_bitCount_0f7a4_24 rfl (lv_at hl 0 rfl) ?_
  refine lv_iload_n hx hb dJ6_bitCount_0f7a4_25 rfl (lv_at hl 0 rfl) ?_
  refine lv_iconst (v := 4) hx hb dJ6_bitCount_0f7a4_26 (by decide) ?_
  refine lv_iushr (v := (v3.toUInt32 >>> ((4 : Int32).toUInt32 &&& Int32.toUInt32 31)).toInt32) hx hb dJ6_bitCount_0f7a4_27 rfl ?_
  refine lv_topi (fun v4 ev4 => ?_)
  replace h := nmd_t ev4 h
  refine lv_iadd hx hb dJ6_bitCount_0f7a4_28 ?_
  refine lv_ldcw (v := 252645135) hx hb hown (hts _ q262) dJ6_bitCount_0f7a4_29 ?_
  refine lv_iand hx hb dJ6_bitCount_0f7a4_32 ?_
  refine lv_istore_n (lv' := [(0, .int ((v3 + v4) &&& 252645135))]) hx hb dJ6_bitCount_0f7a4_33 rfl hl (by decide) rfl (fun ls hl => ?_)
  refine lv_iload_n hx hb dJ6_bitCount_0f7a4_34 rfl (lv_at hl 0 rfl) ?_
  refine lv_iload_n hx hb dJ6_bitCount_0f7a4_35 rfl (lv_at hl 0 rfl) ?_
  refine lv_bipush (v := 8) hx hb dJ6_bitCount_0f7a4_36 (by decide) ?_
  refine lv_iushr (v := (((v3 + v4) &&& 252645135).toUInt32 >>> ((8 : Int32).toUInt32 &&& Int32.toUInt32 31)).toInt32) hx hb dJ6_bitCount_0f7a4_38 rfl ?_
  refine lv_topi (fun v5 ev5 => ?_)
  replace h := nmd_t ev5 h
  refine lv_iadd hx hb dJ6_bitCount_0f7a4_39 ?_
  refine lv_istore_n (lv' := [(0, .int (((v3 + v4) &&& 252645135) + v5))]) hx hb dJ6_bitCount_0f7a4_40 rfl hl (by decide) rfl (fun ls hl => ?_)
  refine lv_iload_n hx hb dJ6_bitCount_0f7a4_41 rfl (lv_at hl 0 rfl) ?_
  refine lv_iload_n hx hb dJ6_bitCount_0f7a4_42 rfl (lv_at hl 0 rfl) ?_
  refine lv_bipush (v := 16) hx hb dJ6_bitCount_0f7a4_43 (by decide) ?_
  refine lv_iushr (v := ((((v3 + v4) &&& 252645135) + v5).toUInt32 >>> ((16 : Int32).toUInt32 &&& Int32.toUInt32 31)).toInt32) hx hb dJ6_bitCount_0f7a4_45 rfl ?_
  refine lv_topi (fun v6 ev6 => ?_)
  replace h := nmd_t ev6 h
  refine lv_iadd hx hb dJ6_bitCount_0f7a4_46 ?_
  refine lv_istore_n (lv' := [(0, .int ((((v3 + v4) &&& 252645135) + v5) + v6))]) hx hb dJ6_bitCount_0f7a4_47 rfl hl (by decide) rfl (fun ls hl => ?_)
  refine lv_iload_n hx hb dJ6_bitCount_0f7a4_48 rfl (lv_at hl 0 rfl) ?_
  refine lv_bipush (v := 63) hx hb dJ6_bitCount_0f7a4_49 (by decide) ?_
  refine lv_iand hx hb dJ6_bitCount_0f7a4_51 ?_
  refine lv_topi (fun v7 ev7 => ?_)
  replace h := nmd_t ev7 h
  obtain rfl := Option.some.inj h
  exact retR S hr hlk rfl rfl dJ6_bitCount_0f7a4_52
set_option maxHeartbeats 4000000 in
set_option maxRecDepth 100000 in
theorem c_J9_floorMod_7cf53 (l : Launch) (G : gG) (p0 p1 : Int32) (res : Int32) (h : F_J9_floorMod_7cf53 p0 p1 = some res) : RdM l G yJ9_floorMod_7cf53 cJ9_floorMod_7cf53 3 .int (rmk 0 0) [] [.int p0, .int p1] res := by
  refine ofRF (by decide +kernel) (Nat.le_of_ble_eq_true rfl) ?_
  intro p e s m below meth c ls S hr hlk hK hP hl
  have S : CallFix p m c cJ9_floorMod_7cf53 3 s ([.int p0, .int p1] : List Value).toArray T0 RJ9 := S
  obtain ⟨hx, hb, hml, hown, hts⟩ := id S
  have hl : lv_has ls 3 [(0, .int p0), (1, .int p1)] := hl
  rw [F_J9_floorMod_7cf53] at h
  refine lv_iload_n hx hb dJ9_floorMod_7cf53_0 rfl (lv_at hl 0 rfl) ?_
  refine lv_iload_n hx hb dJ9_floorMod_7cf53_1 rfl (lv_at hl 1 rfl) ?_
  obtain ⟨k1, h⟩ := ck_t h
  refine lv_irem hx hb dJ9_floorMod_7cf53_2 (nz_t k1) ?_
  refine lv_istore_n (lv' := [(2, .int (p0 - p0 / p1 * p1)), (0, .int p0), (1, .int p1)]) hx hb dJ9_floorMod_7cf53_3 rfl hl (by decide) rfl (fun ls hl => ?_)
  refine lv_iload_n hx hb dJ9_floorMod_7cf53_4 rfl (lv_at hl 1 rfl) ?_
  refine lv_iload_n hx hb dJ9_floorMod_7cf53_5 rfl (lv_at hl 2 rfl) ?_
  refine lv_ixor hx hb dJ9_floorMod_7cf53_6 ?_
  refine lv_if_ge (tgt := 18) hx hb dJ9_floorMod_7cf53_7 (by decide) (fun c2 => ?_) (fun c2 => ?_)
  · replace h := if_t c2 h
    refine lv_iload_n hx hb dJ9_floorMod_7cf53_18 rfl (lv_at hl 0 rfl) ?_
    obtain rfl := Option.some.inj h
    exact retR S hr hlk rfl rfl dJ9_floorMod_7cf53_19
  · replace h := if_f c2 h
    refine lv_iload_n hx hb dJ9_floorMod_7cf53_10 rfl (lv_at hl 0 rfl) ?_
    refine lv_if_eq (tgt := 18) hx hb dJ9_floorMod_7cf53_11 (by decide) (fun c3 => ?_) (fun c3 => ?_)
    · replace h := if_t c3 h
      refine lv_iload_n hx hb dJ9_floorMod_7cf53_18 rfl (lv_at hl 0 rfl) ?_
      obtain rfl := Option.some.inj h
      exact retR S hr hlk rfl rfl dJ9_floorMod_7cf53_19
    · replace h := if_f c3 h
      refine lv_iload_n hx hb dJ9_floorMod_7cf53_14 rfl (lv_at hl 0 rfl) ?_
      refine lv_iload_n hx hb dJ9_floorMod_7cf53_15 rfl (lv_at hl 2 rfl) ?_
      refine lv_iadd hx hb dJ9_floorMod_7cf53_16 ?_
      obtain rfl := Option.some.inj h
      exact retR S hr hlk rfl rfl dJ9_floorMod_7cf53_17
set_option maxHeartbeats 4000000 in
set_option maxRecDepth 100000 in
theorem c_X4_isPlace (l : Launch) (G : gG) (p0 : Int32) (res : Int32) (h : F_X4_isPlace p0 = some res) : RdM l G yX4_isPlace cX4_isPlace 1 .boolean (rmk 0 0) [] [.int p0] res := by
  refine ofR (by decide) (Nat.le_of_ble_eq_true rfl) ?_
  intro p e s m below meth c ls S hr hlk hK hP hl
  have S : CallFix p m c cX4_isPlace 1 s ([.int p0] : List Value).toArray T0 RX4 := S
  obtain ⟨hx, hb, hml, hown, hts⟩ := id S
  have hl : lv_has ls 1 [(0, .int p0)] := hl
  rw [F_X4_isPlace] at h
  refine lv_iload_n hx hb dX4_isPlace_0 rfl (lv_at hl 0 rfl) ?_
  refine lv_if_lt (tgt := 14) hx hb dX4_isPlace_1 (by decide) (fun c1 => ?_) (fun c1 => ?_)
  · replace h := if_t c1 h
    refine lv_iconst (v := 0) hx hb dX4_isPlace_14 (by decide) ?_
    obtain rfl := Option.some.inj h
    exact retR S hr hlk rfl rfl dX4_isPlace_15
  · replace h := if_f c1 h
    refine lv_iload_n hx hb dX4_isPlace_4 rfl (lv_at hl 0 rfl) ?_
    refine lv_bipush (v := 24) hx hb dX4_isPlace_5 (by decide) ?_
    refine lv_icmp_ge (tgt := 14) hx hb dX4_isPlace_7 (by decide) (fun c2 => ?_) (fun c2 => ?_)
    · replace h := if_t c2 h
      refine lv_iconst (v := 0) hx hb dX4_isPlace_14 (by decide) ?_
      obtain rfl := Option.some.inj h
      exact retR S hr hlk rfl rfl dX4_isPlace_15
    · replace h := if_f c2 h
      refine lv_iconst (v := 1) hx hb dX4_isPlace_10 (by decide) ?_
      refine lv_goto (tgt := 15) hx hb dX4_isPlace_11 (by decide) ?_
      obtain rfl := Option.some.inj h
      exact retR S hr hlk rfl rfl dX4_isPlace_15
set_option maxHeartbeats 4000000 in
set_option maxRecDepth 100000 in
theorem c_X4_isPower (l : Launch) (G : gG) (p0 : Int32) (res : Int32) (h : F_X4_isPower p0 = some res) : RdM l G yX4_isPower cX4_isPower 1 .boolean (rmk 0 0) [] [.int p0] res := by
  refine ofR (by decide) (Nat.le_of_ble_eq_true rfl) ?_
  intro p e s m below meth c ls S hr hlk hK hP hl
  have S : CallFix p m c cX4_isPower 1 s ([.int p0] : List Value).toArray T0 RX4 := S
  obtain ⟨hx, hb, hml, hown, hts⟩ := id S
  have hl : lv_has ls 1 [(0, .int p0)] := hl
  rw [F_X4_isPower] at h
  refine lv_iload_n hx hb dX4_isPower_0 rfl (lv_at hl 0 rfl) ?_
  refine lv_sipush (v := (-9999)) hx hb dX4_isPower_1 (by decide) ?_
  refine lv_icmp_lt (tgt := 18) hx hb dX4_isPower_4 (by decide) (fun c1 => ?_) (fun c1 => ?_)
  · replace h := if_t c1 h
    refine lv_iconst (v := 0) hx hb dX4_isPower_18 (by decide) ?_
    obtain rfl := Option.some.inj h
    exact retR S hr hlk rfl rfl dX4_isPower_19
  · replace h := if_f c1 h
    refine lv_iload_n hx hb dX4_isPower_7 rfl (lv_at hl 0 rfl) ?_
    refine lv_sipush (v := 9999) hx hb dX4_isPower_8 (by decide) ?_
    refine lv_icmp_gt (tgt := 18) hx hb dX4_isPower_11 (by decide) (fun c2 => ?_) (fun c2 => ?_)
    · replace h := if_t c2 h
      refine lv_iconst (v := 0) hx hb dX4_isPower_18 (by decide) ?_
      obtain rfl := Option.some.inj h
      exact retR S hr hlk rfl rfl dX4_isPower_19
    · replace h := if_f c2 h
      refine lv_iconst (v := 1) hx hb dX4_isPower_14 (by decide) ?_
      refine lv_goto (tgt := 19) hx hb dX4_isPower_15 (by decide) ?_
      obtain rfl := Option.some.inj h
      exact retR S hr hlk rfl rfl dX4_isPower_19
set_option maxHeartbeats 4000000 in
set_option maxRecDepth 100000 in
theorem c_X4_asNumber (l : Launch) (G : gG) (p0 : Int32) (res : Int32) (h : F_X4_asNumber p0 = some res) : RdM l G yX4_asNumber cX4_asNumber 1 .int (rmk 0 0) [] [.int p0] res := by
  refine ofR (by decide) (Nat.le_of_ble_eq_true rfl) ?_
  intro p e s m below meth c ls S hr hlk hK hP hl
  have S : CallFix p m c cX4_asNumber 1 s ([.int p0] : List Value).toArray T0 RX4 := S
  obtain ⟨hx, hb, hml, hown, hts⟩ := id S
  have hl : lv_has ls 1 [(0, .int p0)] := hl
  rw [F_X4_asNumber] at h
  refine lv_iload_n hx hb dX4_asNumber_0 rfl (lv_at hl 0 rfl) ?_
  refine lv_if_eq (tgt := 8) hx hb dX4_asNumber_1 (by decide) (fun c1 => ?_) (fun c1 => ?_)
  · replace h := if_t c1 h
    refine lv_iconst (v := 0) hx hb dX4_asNumber_8 (by decide) ?_
    obtain rfl := Option.some.inj h
    exact retR S hr hlk rfl rfl dX4_asNumber_9
  · replace h := if_f c1 h
    refine lv_iconst (v := 1) hx hb dX4_asNumber_4 (by decide) ?_
    refine lv_goto (tgt := 9) hx hb dX4_asNumber_5 (by decide) ?_
    obtain rfl := Option.some.inj h
    exact retR S hr hlk rfl rfl dX4_asNumber_9
set_option maxHeartbeats 4000000 in
set_option maxRecDepth 100000 in
theorem c_X4_only (l : Launch) (G : gG) (p0 : Int32) (res : Int32) (h : F_X4_only p0 = some res) : RdM l G yX4_only cX4_only 1 .int (rmk 0 0) [] [.int p0] res := by
  refine ofR (by decide) (Nat.le_of_ble_eq_true rfl) ?_
  intro p e s m below meth c ls S hr hlk hK hP hl
  have S : CallFix p m c cX4_only 1 s ([.int p0] : List Value).toArray T0 RX4 := S
  obtain ⟨hx, hb, hml, hown, hts⟩ := id S
  have hl : lv_has ls 1 [(0, .int p0)] := hl
  rw [F_X4_only] at h
  refine lv_iconst (v := 1) hx hb dX4_only_0 (by decide) ?_
  refine lv_iload_n hx hb dX4_only_1 rfl (lv_at hl 0 rfl) ?_
  refine lv_ishl hx hb dX4_only_2 ?_
  obtain rfl := Option.some.inj h
  exact retR S hr hlk rfl rfl dX4_only_3
set_option maxHeartbeats 4000000 in
set_option maxRecDepth 100000 in
theorem c_X4_has (l : Launch) (G : gG) (p0 p1 : Int32) (res : Int32) (h : F_X4_has p0 p1 = some res) : RdM l G yX4_has cX4_has 2 .boolean (rmk 0 0) [] [.int p0, .int p1] res := by
  refine ofR (by decide) (Nat.le_of_ble_eq_true rfl) ?_
  intro p e s m below meth c ls S hr hlk hK hP hl
  have S : CallFix p m c cX4_has 2 s ([.int p0, .int p1] : List Value).toArray T0 RX4 := S
  obtain ⟨hx, hb, hml, hown, hts⟩ := id S
  have hl : lv_has ls 2 [(0, .int p0), (1, .int p1)] := hl
  rw [F_X4_has] at h
  refine lv_iload_n hx hb dX4_has_0 rfl (lv_at hl 0 rfl) ?_
  refine lv_iconst (v := 1) hx hb dX4_has_1 (by decide) ?_
  refine lv_iload_n hx hb dX4_has_2 rfl (lv_at hl 1 rfl) ?_
  refine lv_ishl hx hb dX4_has_3 ?_
  refine lv_iand hx hb dX4_has_4 ?_
  refine lv_if_eq (tgt := 12) hx hb dX4_has_5 (by decide) (fun c1 => ?_) (fun c1 => ?_)
  · replace h := if_t c1 h
    refine lv_iconst (v := 0) hx hb dX4_has_12 (by decide) ?_
    obtain rfl := Option.some.inj h
    exact retR S hr hlk rfl rfl dX4_has_13
  · replace h := if_f c1 h
    refine lv_iconst (v := 1) hx hb dX4_has_8 (by decide) ?_
    refine lv_goto (tgt := 13) hx hb dX4_has_9 (by decide) ?_
    obtain rfl := Option.some.inj h
    exact retR S hr hlk rfl rfl dX4_has_13
set_option maxHeartbeats 4000000 in
set_option maxRecDepth 100000 in
theorem c_X4_lowest (l : Launch) (G : gG) (p0 : Int32) (res : Int32) (h : F_X4_lowest p0 = some res) : RdM l G yX4_lowest cX4_lowest 2 .int (rmk 1 21) [] [.int p0] res := by
  refine ofR (by decide) (Nat.le_of_ble_eq_true rfl) ?_
  intro p e s m below meth c ls S hr hlk hK hP hl
  have S : CallFix p m c cX4_lowest 2 s ([.int p0] : List Value).toArray T0 RX4 := S
  obtain ⟨hx, hb, hml, hown, hts⟩ := id S
  have hl : lv_has ls 2 [(0, .int p0)] := hl
  have L2 : ∀ (n : Nat) (x0 x1 : Int32), F_X4_lowest_2 n x0 x1 = some res → ∀ (ls : Array Slot), lv_has ls 2 [(0, .int x0), (1, .int x1)] → W p l e (rmk 1 21) s m ([.int p0] : List Value).toArray below meth c s.heap [] 0 0 (MQ below (vp_Si (fun x => x = res)) ([.int p0] : List Value).toArray s 0 0 (fun _ => False)) (F0 m 2 ls []) := by
    intro n
    induction n with
    | zero => intro x0 x1 h; exact absurd (show (none : Option (Int32)) = some res from h) (fun q => by cases q)
    | succ n ih =>
      intro x0 x1 h ls hl
      rw [F_X4_lowest_2] at h
      refine lv_iload_n hx hb dX4_lowest_2 rfl (lv_at hl 1 rfl) ?_
      refine lv_bipush (v := 24) hx hb dX4_lowest_3 (by decide) ?_
      refine lv_icmp_ge (tgt := 24) hx hb dX4_lowest_5 (by decide) (fun c1 => ?_) (fun c1 => ?_)
      · replace h := if_t c1 h
        refine lv_bipush (v := (-5)) hx hb dX4_lowest_24 (by decide) ?_
        obtain rfl := Option.some.inj h
        exact retR S hr hlk rfl rfl dX4_lowest_26
      · replace h := if_f c1 h
        refine lv_iload_n hx hb dX4_lowest_8 rfl (lv_at hl 0 rfl) ?_
        refine lv_iload_n hx hb dX4_lowest_9 rfl (lv_at hl 1 rfl) ?_
        obtain ⟨r2, hr2, h⟩ := bd_t h
        refine rdS (As := [.int x0, .int x1]) (rest := []) S hK (c_X4_has l G x0 x1 r2 hr2) mX4_has q349 ⟨rfl, rfl, Nat.le_of_ble_eq_true rfl, Nat.le_of_ble_eq_true rfl⟩ (ws_nil G.1 _) rfl hl.1 (Nat.le_of_ble_eq_true rfl) ⟨Nat.le_refl 0, Nat.le_refl 0⟩ dX4_lowest_10 ?_
        refine lv_if_eq (tgt := 18) hx hb dX4_lowest_13 (by decide) (fun c3 => ?_) (fun c3 => ?_)
        · replace h := if_t c3 h
          refine lv_iinc (v := x1 + 1) (lv' := [(1, .int (x1 + 1)), (0, .int x0)]) hx hb dX4_lowest_18 hl (k := 1) rfl rfl (by decide) rfl (fun ls hl => ?_)
          refine lv_goto (tgt := 2) hx hb dX4_lowest_21 (by decide) ?_
          exact ih x0 (x1 + 1)  h ls (lv_sub hl [1, 0] rfl)
        · replace h := if_f c3 h
          refine lv_iload_n hx hb dX4_lowest_16 rfl (lv_at hl 1 rfl) ?_
          obtain rfl := Option.some.inj h
          exact retR S hr hlk rfl rfl dX4_lowest_17
  rw [F_X4_lowest] at h
  refine lv_iconst (v := 0) hx hb dX4_lowest_0 (by decide) ?_
  refine lv_istore_n (lv' := [(1, .int 0), (0, .int p0)]) hx hb dX4_lowest_1 rfl hl (by decide) rfl (fun ls hl => ?_)
  exact L2 10000 p0 0  h ls (lv_sub hl [1, 0] rfl)
set_option maxHeartbeats 4000000 in
set_option maxRecDepth 100000 in
theorem c_X4_leastCommonMultiple (l : Launch) (G : gG) (p0 p1 : Int32) (res : Int32) (h : F_X4_leastCommonMultiple p0 p1 = some res) : RdM l G yX4_leastCommonMultiple cX4_leastCommonMultiple 3 .int (rmk 0 0) [] [.int p0, .int p1] res := by
  refine ofR (by decide) (Nat.le_of_ble_eq_true rfl) ?_
  intro p e s m below meth c ls S hr hlk hK hP hl
  have S : CallFix p m c cX4_leastCommonMultiple 3 s ([.int p0, .int p1] : List Value).toArray T0 RX4 := S
  obtain ⟨hx, hb, hml, hown, hts⟩ := id S
  have hl : lv_has ls 3 [(0, .int p0), (1, .int p1)] := hl
  have L9 : ∀ (n : Nat) (x0 x1 x2 : Int32), F_X4_leastCommonMultiple_9 n x0 x1 x2 = some res → ∀ (ls : Array Slot), lv_has ls 3 [(0, .int x0), (1, .int x1), (2, .int x2)] → W p l e (rmk 0 0) s m ([.int p0, .int p1] : List Value).toArray below meth c s.heap [] 0 0 (MQ below (vp_Si (fun x => x = res)) ([.int p0, .int p1] : List Value).toArray s 0 0 (fun _ => False)) (F0 m 9 ls []) := by
    intro n
    induction n with
    | zero => intro x0 x1 x2 h; exact absurd (show (none : Option (Int32)) = some res from h) (fun q => by cases q)
    | succ n ih =>
      intro x0 x1 x2 h ls hl
      rw [F_X4_leastCommonMultiple_9] at h
      refine lv_iload_n hx hb dX4_leastCommonMultiple_9 rfl (lv_at hl 2 rfl) ?_
      refine lv_iload_n hx hb dX4_leastCommonMultiple_10 rfl (lv_at hl 1 rfl) ?_
      refine lv_icmp_ge (tgt := 32) hx hb dX4_leastCommonMultiple_11 (by decide) (fun c2 => ?_) (fun c2 => ?_)
      · replace h := if_t c2 h
        refine lv_iload_n hx hb dX4_leastCommonMultiple_32 rfl (lv_at hl 0 rfl) ?_
        refine lv_iload_n hx hb dX4_leastCommonMultiple_33 rfl (lv_at hl 1 rfl) ?_
        refine lv_imul hx hb dX4_leastCommonMultiple_34 ?_
        obtain rfl := Option.some.inj h
        exact retR S hr hlk rfl rfl dX4_leastCommonMultiple_35
      · replace h := if_f c2 h
        refine lv_iload_n hx hb dX4_leastCommonMultiple_14 rfl (lv_at hl 0 rfl) ?_
        refine lv_iload_n hx hb dX4_leastCommonMultiple_15 rfl (lv_at hl 2 rfl) ?_
        refine lv_imul hx hb dX4_leastCommonMultiple_16 ?_
        refine lv_iload_n hx hb dX4_leastCommonMultiple_17 rfl (lv_at hl 1 rfl) ?_
        obtain ⟨k3, h⟩ := ck_t h
        refine lv_irem hx hb dX4_leastCommonMultiple_18 (nz_t k3) ?_
        refine lv_if_ne (tgt := 26) hx hb dX4_leastCommonMultiple_19 (by decide) (fun c4 => ?_) (fun c4 => ?_)
        · replace h := if_f c4 h
          refine lv_iinc (v := x2 + 1) (lv' := [(2, .int (x2 + 1)), (0, .int x0), (1, .int x1)]) hx hb dX4_leastCommonMultiple_26 hl (k := 2) rfl rfl (by decide) rfl (fun ls hl => ?_)
          refine lv_goto (tgt := 9) hx hb dX4_leastCommonMultiple_29 (by decide) ?_
          exact ih x0 x1 (x2 + 1)  h ls (lv_sub hl [1, 2, 0] rfl)
        · replace h := if_t c4 h
          refine lv_iload_n hx hb dX4_leastCommonMultiple_22 rfl (lv_at hl 0 rfl) ?_
          refine lv_iload_n hx hb dX4_leastCommonMultiple_23 rfl (lv_at hl 2 rfl) ?_
          refine lv_imul hx hb dX4_leastCommonMultiple_24 ?_
          obtain rfl := Option.some.inj h
          exact retR S hr hlk rfl rfl dX4_leastCommonMultiple_25
  rw [F_X4_leastCommonMultiple] at h
  refine lv_iload_n hx hb dX4_leastCommonMultiple_0 rfl (lv_at hl 1 rfl) ?_
  refine lv_iconst (v := 1) hx hb dX4_leastCommonMultiple_1 (by decide) ?_
  refine lv_icmp_ge (tgt := 7) hx hb dX4_leastCommonMultiple_2 (by decide) (fun c1 => ?_) (fun c1 => ?_)
  · replace h := if_t c1 h
    refine lv_iconst (v := 1) hx hb dX4_leastCommonMultiple_7 (by decide) ?_
    refine lv_istore_n (lv' := [(2, .int 1), (0, .int p0), (1, .int p1)]) hx hb dX4_leastCommonMultiple_8 rfl hl (by decide) rfl (fun ls hl => ?_)
    exact L9 10000 p0 p1 1  h ls (lv_sub hl [1, 2, 0] rfl)
  · replace h := if_f c1 h
    refine lv_iload_n hx hb dX4_leastCommonMultiple_5 rfl (lv_at hl 0 rfl) ?_
    obtain rfl := Option.some.inj h
    exact retR S hr hlk rfl rfl dX4_leastCommonMultiple_6
