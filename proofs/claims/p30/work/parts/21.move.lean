set_option maxHeartbeats 4000000 in
set_option maxRecDepth 100000 in
theorem c_X1_target (l : Launch) (G : gG) (qw qt qu : Nat) (ft : Nat → Int32) (fu : Nat → Int32) (p1 : Int32) (res : Int32) (h : F_X1_target ft p1 = some res) : RdM l G yX1_target cX1_target 2 .int (rmk 1 20) [(qw, .inr (1, [.ref qt, .ref qu])), (qt, .inl (G.2.2.1, 24, .inl ft)), (qu, .inl (G.2.2.1, 24, .inl fu))] [.ref qw, .int p1] res := by
  refine ofR (by decide) (Nat.le_of_ble_eq_true rfl) ?_
  intro p e s m below meth c ls S hr hlk hK hP hl
  have S : CallFix p m c cX1_target 2 s ([.ref qw, .int p1] : List Value).toArray T0 RX1 := S
  obtain ⟨hx, hb, hml, hown, hts⟩ := id S
  have hl : lv_has ls 2 [(0, .ref qw), (1, .int p1)] := hl
  rw [F_X1_target] at h
  refine lv_iload_n hx hb dX1_target_0 rfl (lv_at hl 1 rfl) ?_
  obtain ⟨r1, hr1, h⟩ := bd_t h
  refine rdN (As := [.int p1]) (rest := []) S hK (c_X4_isPlace l G p1 r1 hr1) mX4_isPlace 3 rfl ⟨rfl, rfl, Nat.le_of_ble_eq_true rfl, Nat.le_of_ble_eq_true rfl⟩ (ws_nil G.1 _) rfl hl.1 (Nat.le_of_ble_eq_true rfl) ⟨Nat.le_refl 0, Nat.le_refl 0⟩ dX1_target_1 ?_
  refine lv_if_eq (tgt := 16) hx hb dX1_target_4 (by decide) (fun c2 => ?_) (fun c2 => ?_)
  · replace h := if_t c2 h
    refine lv_iconst (v := (-1)) hx hb dX1_target_16 (by decide) ?_
    obtain rfl := Option.some.inj h
    exact retR S hr hlk rfl rfl dX1_target_17
  · replace h := if_f c2 h
    refine lv_aload_n hx hb dX1_target_7 rfl (lv_at hl 0 rfl) ?_
    refine gf S hK iX1 hP 0 rfl rfl 0 (by decide) q41 rfl dX1_target_8 ?_
    refine lv_iload_n hx hb dX1_target_11 rfl (lv_at hl 1 rfl) ?_
    obtain ⟨k3, h⟩ := ck_t h
    refine ald S hK hP 1 rfl (ok_vp k3) dX1_target_12 ?_
    refine lv_goto (tgt := 17) hx hb dX1_target_13 (by decide) ?_
    obtain rfl := Option.some.inj h
    exact retR S hr hlk rfl rfl dX1_target_17
set_option maxHeartbeats 4000000 in
set_option maxRecDepth 100000 in
theorem c_X1_source (l : Launch) (G : gG) (qw qt qu : Nat) (ft : Nat → Int32) (fu : Nat → Int32) (p1 : Int32) (res : Int32) (h : F_X1_source fu p1 = some res) : RdM l G yX1_source cX1_source 2 .int (rmk 1 20) [(qw, .inr (1, [.ref qt, .ref qu])), (qt, .inl (G.2.2.1, 24, .inl ft)), (qu, .inl (G.2.2.1, 24, .inl fu))] [.ref qw, .int p1] res := by
  refine ofR (by decide) (Nat.le_of_ble_eq_true rfl) ?_
  intro p e s m below meth c ls S hr hlk hK hP hl
  have S : CallFix p m c cX1_source 2 s ([.ref qw, .int p1] : List Value).toArray T0 RX1 := S
  obtain ⟨hx, hb, hml, hown, hts⟩ := id S
  have hl : lv_has ls 2 [(0, .ref qw), (1, .int p1)] := hl
  rw [F_X1_source] at h
  refine lv_iload_n hx hb dX1_source_0 rfl (lv_at hl 1 rfl) ?_
  obtain ⟨r1, hr1, h⟩ := bd_t h
  refine rdN (As := [.int p1]) (rest := []) S hK (c_X4_isPlace l G p1 r1 hr1) mX4_isPlace 3 rfl ⟨rfl, rfl, Nat.le_of_ble_eq_true rfl, Nat.le_of_ble_eq_true rfl⟩ (ws_nil G.1 _) rfl hl.1 (Nat.le_of_ble_eq_true rfl) ⟨Nat.le_refl 0, Nat.le_refl 0⟩ dX1_source_1 ?_
  refine lv_if_eq (tgt := 16) hx hb dX1_source_4 (by decide) (fun c2 => ?_) (fun c2 => ?_)
  · replace h := if_t c2 h
    refine lv_iconst (v := (-1)) hx hb dX1_source_16 (by decide) ?_
    obtain rfl := Option.some.inj h
    exact retR S hr hlk rfl rfl dX1_source_17
  · replace h := if_f c2 h
    refine lv_aload_n hx hb dX1_source_7 rfl (lv_at hl 0 rfl) ?_
    refine gf S hK iX1 hP 0 rfl rfl 1 (by decide) q42 rfl dX1_source_8 ?_
    refine lv_iload_n hx hb dX1_source_11 rfl (lv_at hl 1 rfl) ?_
    obtain ⟨k3, h⟩ := ck_t h
    refine ald S hK hP 2 rfl (ok_vp k3) dX1_source_12 ?_
    refine lv_goto (tgt := 17) hx hb dX1_source_13 (by decide) ?_
    obtain rfl := Option.some.inj h
    exact retR S hr hlk rfl rfl dX1_source_17
set_option maxHeartbeats 4000000 in
set_option maxRecDepth 100000 in
theorem c_X1_round (l : Launch) (G : gG) (qw qt qu : Nat) (ft : Nat → Int32) (fu : Nat → Int32) (p1 : Int32) (res : Int32) (h : F_X1_round ft p1 = some res) : RdM l G yX1_round cX1_round 5 .int (rmk 1 21) [(qw, .inr (1, [.ref qt, .ref qu])), (qt, .inl (G.2.2.1, 24, .inl ft)), (qu, .inl (G.2.2.1, 24, .inl fu))] [.ref qw, .int p1] res := by
  refine ofR (by decide) (Nat.le_of_ble_eq_true rfl) ?_
  intro p e s m below meth c ls S hr hlk hK hP hl
  have S : CallFix p m c cX1_round 5 s ([.ref qw, .int p1] : List Value).toArray T0 RX1 := S
  obtain ⟨hx, hb, hml, hown, hts⟩ := id S
  have hl : lv_has ls 5 [(0, .ref qw), (1, .int p1)] := hl
  have L7 : ∀ (n : Nat) (x1 x2 x3 x4 : Int32), F_X1_round_7 ft n x1 x2 x3 x4 = some res → ∀ (ls : Array Slot), lv_has ls 5 [(0, .ref qw), (1, .int x1), (2, .int x2), (3, .int x3), (4, .int x4)] → W p l e (rmk 1 21) s m ([.ref qw, .int p1] : List Value).toArray below meth c s.heap [] 0 0 (MQ below (vp_Si (fun x => x = res)) ([.ref qw, .int p1] : List Value).toArray s 0 0 (fun _ => False)) (F0 m 7 ls []) := by
    intro n
    induction n with
    | zero => intro x1 x2 x3 x4 h; exact absurd (show (none : Option (Int32)) = some res from h) (fun q => by cases q)
    | succ n ih =>
      intro x1 x2 x3 x4 h ls hl
      rw [F_X1_round_7] at h
      refine lv_iload hx hb dX1_round_7 (lv_at hl 4 rfl) ?_
      refine lv_bipush (v := 24) hx hb dX1_round_9 (by decide) ?_
      refine lv_icmp_ge (tgt := 49) hx hb dX1_round_11 (by decide) (fun c1 => ?_) (fun c1 => ?_)
      · replace h := if_t c1 h
        refine lv_iload_n hx hb dX1_round_49 rfl (lv_at hl 2 rfl) ?_
        obtain rfl := Option.some.inj h
        exact retR S hr hlk rfl rfl dX1_round_50
      · replace h := if_f c1 h
        refine lv_iload_n hx hb dX1_round_14 rfl (lv_at hl 3 rfl) ?_
        obtain ⟨r2, hr2, h⟩ := bd_t h
        refine rdN (As := [.int x3]) (rest := []) S hK (c_X4_isPlace l G x3 r2 hr2) mX4_isPlace 3 rfl ⟨rfl, rfl, Nat.le_of_ble_eq_true rfl, Nat.le_of_ble_eq_true rfl⟩ (ws_nil G.1 _) rfl hl.1 (Nat.le_of_ble_eq_true rfl) ⟨Nat.le_refl 0, Nat.le_refl 0⟩ dX1_round_15 ?_
        refine lv_if_eq (tgt := 49) hx hb dX1_round_18 (by decide) (fun c3 => ?_) (fun c3 => ?_)
        · replace h := if_t c3 h
          refine lv_iload_n hx hb dX1_round_49 rfl (lv_at hl 2 rfl) ?_
          obtain rfl := Option.some.inj h
          exact retR S hr hlk rfl rfl dX1_round_50
        · replace h := if_f c3 h
          refine lv_iload_n hx hb dX1_round_21 rfl (lv_at hl 2 rfl) ?_
          refine lv_iload_n hx hb dX1_round_22 rfl (lv_at hl 3 rfl) ?_
          obtain ⟨r4, hr4, h⟩ := bd_t h
          refine rdN (As := [.int x2, .int x3]) (rest := []) S hK (c_X4_has l G x2 x3 r4 hr4) mX4_has 4 rfl ⟨rfl, rfl, Nat.le_of_ble_eq_true rfl, Nat.le_of_ble_eq_true rfl⟩ (ws_nil G.1 _) rfl hl.1 (Nat.le_of_ble_eq_true rfl) ⟨Nat.le_refl 0, Nat.le_refl 0⟩ dX1_round_23 ?_
          refine lv_if_ne (tgt := 49) hx hb dX1_round_26 (by decide) (fun c5 => ?_) (fun c5 => ?_)
          · replace h := if_f c5 h
            refine lv_iload_n hx hb dX1_round_49 rfl (lv_at hl 2 rfl) ?_
            obtain rfl := Option.some.inj h
            exact retR S hr hlk rfl rfl dX1_round_50
          · replace h := if_t c5 h
            refine lv_iload_n hx hb dX1_round_29 rfl (lv_at hl 2 rfl) ?_
            refine lv_iload_n hx hb dX1_round_30 rfl (lv_at hl 3 rfl) ?_
            obtain ⟨r6, hr6, h⟩ := bd_t h
            refine rdN (As := [.int x3]) (rest := [.int x2]) S hK (c_X4_only l G x3 r6 hr6) mX4_only 5 rfl ⟨rfl, rfl, Nat.le_of_ble_eq_true rfl, Nat.le_of_ble_eq_true rfl⟩ (ws_nil G.1 _) rfl hl.1 (Nat.le_of_ble_eq_true rfl) ⟨Nat.le_refl 0, Nat.le_refl 0⟩ dX1_round_31 ?_
            refine lv_ior hx hb dX1_round_34 ?_
            refine lv_istore_n (lv' := [(2, .int (x2 ||| r6)), (0, .ref qw), (1, .int x1), (3, .int x3), (4, .int x4)]) hx hb dX1_round_35 rfl hl (by decide) rfl (fun ls hl => ?_)
            refine lv_aload_n hx hb dX1_round_36 rfl (lv_at hl 1 rfl) ?_
            refine gf S hK iX1 hP 0 rfl rfl 0 (by decide) q41 rfl dX1_round_37 ?_
            refine lv_iload_n hx hb dX1_round_40 rfl (lv_at hl 3 rfl) ?_
            obtain ⟨k7, h⟩ := ck_t h
            refine ald S hK hP 1 rfl (ok_vp k7) dX1_round_41 ?_
            refine lv_istore_n (lv' := [(3, .int (ft (Int32.toNatClampNeg x3))), (2, .int (x2 ||| r6)), (0, .ref qw), (1, .int x1), (4, .int x4)]) hx hb dX1_round_42 rfl hl (by decide) rfl (fun ls hl => ?_)
            refine lv_iinc (v := x4 + 1) (lv' := [(4, .int (x4 + 1)), (3, .int (ft (Int32.toNatClampNeg x3))), (2, .int (x2 ||| r6)), (0, .ref qw), (1, .int x1)]) hx hb dX1_round_43 hl (k := 4) rfl rfl (by decide) rfl (fun ls hl => ?_)
            refine lv_goto (tgt := 7) hx hb dX1_round_46 (by decide) ?_
            exact ih x1 (x2 ||| r6) (ft (Int32.toNatClampNeg x3)) (x4 + 1)  h ls (lv_sub hl [3, 4, 2, 1, 0] rfl)
  rw [F_X1_round] at h
  refine lv_iconst (v := 0) hx hb dX1_round_0 (by decide) ?_
  refine lv_istore_n (lv' := [(2, .int 0), (0, .ref qw), (1, .int p1)]) hx hb dX1_round_1 rfl hl (by decide) rfl (fun ls hl => ?_)
  refine lv_iload_n hx hb dX1_round_2 rfl (lv_at hl 2 rfl) ?_
  refine lv_istore_n (lv' := [(3, .int p1), (2, .int 0), (0, .ref qw), (1, .int p1)]) hx hb dX1_round_3 rfl hl (by decide) rfl (fun ls hl => ?_)
  refine lv_iconst (v := 0) hx hb dX1_round_4 (by decide) ?_
  refine lv_istore (lv' := [(4, .int 0), (3, .int p1), (2, .int 0), (0, .ref qw), (1, .int p1)]) hx hb dX1_round_5 hl (by decide) rfl (fun ls hl => ?_)
  exact L7 10000 p1 0 p1 0  h ls (lv_sub hl [3, 4, 2, 1, 0] rfl)
set_option maxHeartbeats 4000000 in
set_option maxRecDepth 100000 in
theorem c_X1_order (l : Launch) (G : gG) (qw qt qu : Nat) (ft : Nat → Int32) (fu : Nat → Int32) (res : Int32) (h : F_X1_order ft = some res) : RdM l G yX1_order cX1_order 5 .int (rmk 2 45) [(qw, .inr (1, [.ref qt, .ref qu])), (qt, .inl (G.2.2.1, 24, .inl ft)), (qu, .inl (G.2.2.1, 24, .inl fu))] [.ref qw] res := by
  refine ofR (by decide) (Nat.le_of_ble_eq_true rfl) ?_
  intro p e s m below meth c ls S hr hlk hK hP hl
  have S : CallFix p m c cX1_order 5 s ([.ref qw] : List Value).toArray T0 RX1 := S
  obtain ⟨hx, hb, hml, hown, hts⟩ := id S
  have hl : lv_has ls 5 [(0, .ref qw)] := hl
  have L6 : ∀ (n : Nat) (x1 x2 x3 : Int32), F_X1_order_6 ft n x1 x2 x3 = some res → ∀ (ls : Array Slot), lv_has ls 5 [(0, .ref qw), (1, .int x1), (2, .int x2), (3, .int x3)] → W p l e (rmk 2 45) s m ([.ref qw] : List Value).toArray below meth c s.heap [] 0 0 (MQ below (vp_Si (fun x => x = res)) ([.ref qw] : List Value).toArray s 0 0 (fun _ => False)) (F0 m 6 ls []) := by
    intro n
    induction n with
    | zero => intro x1 x2 x3 h; exact absurd (show (none : Option (Int32)) = some res from h) (fun q => by cases q)
    | succ n ih =>
      intro x1 x2 x3 h ls hl
      rw [F_X1_order_6] at h
      refine lv_iload_n hx hb dX1_order_6 rfl (lv_at hl 3 rfl) ?_
      refine lv_bipush (v := 24) hx hb dX1_order_7 (by decide) ?_
      refine lv_icmp_ge (tgt := 48) hx hb dX1_order_9 (by decide) (fun c1 => ?_) (fun c1 => ?_)
      · replace h := if_t c1 h
        refine lv_iload_n hx hb dX1_order_48 rfl (lv_at hl 1 rfl) ?_
        obtain rfl := Option.some.inj h
        exact retR S hr hlk rfl rfl dX1_order_49
      · replace h := if_f c1 h
        refine lv_iload_n hx hb dX1_order_12 rfl (lv_at hl 2 rfl) ?_
        refine lv_iload_n hx hb dX1_order_13 rfl (lv_at hl 3 rfl) ?_
        obtain ⟨r2, hr2, h⟩ := bd_t h
        refine rdN (As := [.int x2, .int x3]) (rest := []) S hK (c_X4_has l G x2 x3 r2 hr2) mX4_has 4 rfl ⟨rfl, rfl, Nat.le_of_ble_eq_true rfl, Nat.le_of_ble_eq_true rfl⟩ (ws_nil G.1 _) rfl hl.1 (Nat.le_of_ble_eq_true rfl) ⟨Nat.le_refl 0, Nat.le_refl 0⟩ dX1_order_14 ?_
        refine lv_if_ne (tgt := 42) hx hb dX1_order_17 (by decide) (fun c3 => ?_) (fun c3 => ?_)
        · replace h := if_f c3 h
          refine lv_iinc (v := x3 + 1) (lv' := [(3, .int (x3 + 1)), (0, .ref qw), (1, .int x1), (2, .int x2)]) hx hb dX1_order_42 hl (k := 3) rfl rfl (by decide) rfl (fun ls hl => ?_)
          refine lv_goto (tgt := 6) hx hb dX1_order_45 (by decide) ?_
          exact ih x1 x2 (x3 + 1)  h ls (lv_sub hl [1, 2, 3, 0] rfl)
        · replace h := if_t c3 h
          refine lv_aload_n hx hb dX1_order_20 rfl (lv_at hl 0 rfl) ?_
          refine lv_iload_n hx hb dX1_order_21 rfl (lv_at hl 3 rfl) ?_
          obtain ⟨r4, hr4, h⟩ := bd_t h
          refine rdV (As := [.int x3]) (rest := []) S hK (c_X1_round l G qw qt qu ft fu x3 r4 hr4) mX1_round q252 ⟨rfl, rfl, Nat.le_of_ble_eq_true rfl, Nat.le_of_ble_eq_true rfl⟩ hP rfl rfl rfl rfl hl.1 (Nat.le_of_ble_eq_true rfl) ⟨Nat.le_refl 0, Nat.le_refl 0⟩ dX1_order_22 ?_
          refine lv_istore (lv' := [(4, .int r4), (0, .ref qw), (1, .int x1), (2, .int x2), (3, .int x3)]) hx hb dX1_order_25 hl (by decide) rfl (fun ls hl => ?_)
          refine lv_iload_n hx hb dX1_order_27 rfl (lv_at hl 3 rfl) ?_
          refine lv_iload hx hb dX1_order_28 (lv_at hl 0 rfl) ?_
          refine lv_ior hx hb dX1_order_30 ?_
          refine lv_istore_n (lv' := [(2, .int (x2 ||| r4)), (4, .int r4), (0, .ref qw), (1, .int x1), (3, .int x3)]) hx hb dX1_order_31 rfl hl (by decide) rfl (fun ls hl => ?_)
          refine lv_iload_n hx hb dX1_order_32 rfl (lv_at hl 3 rfl) ?_
          refine lv_iload hx hb dX1_order_33 (lv_at hl 1 rfl) ?_
          obtain ⟨r5, hr5, h⟩ := bd_t h
          refine rdS (As := [.int r4]) (rest := [.int x1]) S hK (c_J6_bitCount_0f7a4 l G r4 r5 hr5) mJ6_bitCount_0f7a4 q257 ⟨rfl, rfl, Nat.le_of_ble_eq_true rfl, Nat.le_of_ble_eq_true rfl⟩ (ws_nil G.1 _) rfl hl.1 (Nat.le_of_ble_eq_true rfl) ⟨Nat.le_refl 0, Nat.le_refl 0⟩ dX1_order_35 ?_
          obtain ⟨r6, hr6, h⟩ := bd_t h
          refine rdN (As := [.int x1, .int r5]) (rest := []) S hK (c_X4_leastCommonMultiple l G x1 r5 r6 hr6) mX4_leastCommonMultiple 6 rfl ⟨rfl, rfl, Nat.le_of_ble_eq_true rfl, Nat.le_of_ble_eq_true rfl⟩ (ws_nil G.1 _) rfl hl.1 (Nat.le_of_ble_eq_true rfl) ⟨Nat.le_refl 0, Nat.le_refl 0⟩ dX1_order_38 ?_
          refine lv_istore_n (lv' := [(1, .int r6), (2, .int (x2 ||| r4)), (4, .int r4), (0, .ref qw), (3, .int x3)]) hx hb dX1_order_41 rfl hl (by decide) rfl (fun ls hl => ?_)
          refine lv_iinc (v := x3 + 1) (lv' := [(3, .int (x3 + 1)), (1, .int r6), (2, .int (x2 ||| r4)), (4, .int r4), (0, .ref qw)]) hx hb dX1_order_42 hl (k := 4) rfl rfl (by decide) rfl (fun ls hl => ?_)
          refine lv_goto (tgt := 6) hx hb dX1_order_45 (by decide) ?_
          exact ih r6 (x2 ||| r4) (x3 + 1)  h ls (lv_sub hl [4, 1, 2, 0] rfl)
  rw [F_X1_order] at h
  refine lv_iconst (v := 1) hx hb dX1_order_0 (by decide) ?_
  refine lv_istore_n (lv' := [(1, .int 1), (0, .ref qw)]) hx hb dX1_order_1 rfl hl (by decide) rfl (fun ls hl => ?_)
  refine lv_iconst (v := 0) hx hb dX1_order_2 (by decide) ?_
  refine lv_istore_n (lv' := [(2, .int 0), (1, .int 1), (0, .ref qw)]) hx hb dX1_order_3 rfl hl (by decide) rfl (fun ls hl => ?_)
  refine lv_iconst (v := 0) hx hb dX1_order_4 (by decide) ?_
  refine lv_istore_n (lv' := [(3, .int 0), (2, .int 0), (1, .int 1), (0, .ref qw)]) hx hb dX1_order_5 rfl hl (by decide) rfl (fun ls hl => ?_)
  exact L6 10000 1 0 0  h ls (lv_sub hl [3, 2, 1, 0] rfl)
set_option maxHeartbeats 4000000 in
set_option maxRecDepth 100000 in
theorem c_X1_rounds (l : Launch) (G : gG) (qw qt qu : Nat) (ft : Nat → Int32) (fu : Nat → Int32) (res : Int32) (h : F_X1_rounds ft = some res) : RdM l G yX1_rounds cX1_rounds 4 .int (rmk 2 45) [(qw, .inr (1, [.ref qt, .ref qu])), (qt, .inl (G.2.2.1, 24, .inl ft)), (qu, .inl (G.2.2.1, 24, .inl fu))] [.ref qw] res := by
  refine ofR (by decide) (Nat.le_of_ble_eq_true rfl) ?_
  intro p e s m below meth c ls S hr hlk hK hP hl
  have S : CallFix p m c cX1_rounds 4 s ([.ref qw] : List Value).toArray T0 RX1 := S
  obtain ⟨hx, hb, hml, hown, hts⟩ := id S
  have hl : lv_has ls 4 [(0, .ref qw)] := hl
  have L6 : ∀ (n : Nat) (x1 x2 x3 : Int32), F_X1_rounds_6 ft n x1 x2 x3 = some res → ∀ (ls : Array Slot), lv_has ls 4 [(0, .ref qw), (1, .int x1), (2, .int x2), (3, .int x3)] → W p l e (rmk 2 45) s m ([.ref qw] : List Value).toArray below meth c s.heap [] 0 0 (MQ below (vp_Si (fun x => x = res)) ([.ref qw] : List Value).toArray s 0 0 (fun _ => False)) (F0 m 6 ls []) := by
    intro n
    induction n with
    | zero => intro x1 x2 x3 h; exact absurd (show (none : Option (Int32)) = some res from h) (fun q => by cases q)
    | succ n ih =>
      intro x1 x2 x3 h ls hl
      rw [F_X1_rounds_6] at h
      refine lv_iload_n hx hb dX1_rounds_6 rfl (lv_at hl 3 rfl) ?_
      refine lv_bipush (v := 24) hx hb dX1_rounds_7 (by decide) ?_
      refine lv_icmp_ge (tgt := 37) hx hb dX1_rounds_9 (by decide) (fun c1 => ?_) (fun c1 => ?_)
      · replace h := if_t c1 h
        refine lv_iload_n hx hb dX1_rounds_37 rfl (lv_at hl 1 rfl) ?_
        obtain rfl := Option.some.inj h
        exact retR S hr hlk rfl rfl dX1_rounds_38
      · replace h := if_f c1 h
        refine lv_iload_n hx hb dX1_rounds_12 rfl (lv_at hl 2 rfl) ?_
        refine lv_iload_n hx hb dX1_rounds_13 rfl (lv_at hl 3 rfl) ?_
        obtain ⟨r2, hr2, h⟩ := bd_t h
        refine rdN (As := [.int x2, .int x3]) (rest := []) S hK (c_X4_has l G x2 x3 r2 hr2) mX4_has 4 rfl ⟨rfl, rfl, Nat.le_of_ble_eq_true rfl, Nat.le_of_ble_eq_true rfl⟩ (ws_nil G.1 _) rfl hl.1 (Nat.le_of_ble_eq_true rfl) ⟨Nat.le_refl 0, Nat.le_refl 0⟩ dX1_rounds_14 ?_
        refine lv_if_ne (tgt := 31) hx hb dX1_rounds_17 (by decide) (fun c3 => ?_) (fun c3 => ?_)
        · replace h := if_f c3 h
          refine lv_iinc (v := x3 + 1) (lv' := [(3, .int (x3 + 1)), (0, .ref qw), (1, .int x1), (2, .int x2)]) hx hb dX1_rounds_31 hl (k := 3) rfl rfl (by decide) rfl (fun ls hl => ?_)
          refine lv_goto (tgt := 6) hx hb dX1_rounds_34 (by decide) ?_
          exact ih x1 x2 (x3 + 1)  h ls (lv_sub hl [1, 2, 3, 0] rfl)
        · replace h := if_t c3 h
          refine lv_iload_n hx hb dX1_rounds_20 rfl (lv_at hl 2 rfl) ?_
          refine lv_aload_n hx hb dX1_rounds_21 rfl (lv_at hl 0 rfl) ?_
          refine lv_iload_n hx hb dX1_rounds_22 rfl (lv_at hl 3 rfl) ?_
          obtain ⟨r4, hr4, h⟩ := bd_t h
          refine rdV (As := [.int x3]) (rest := [.int x2]) S hK (c_X1_round l G qw qt qu ft fu x3 r4 hr4) mX1_round q252 ⟨rfl, rfl, Nat.le_of_ble_eq_true rfl, Nat.le_of_ble_eq_true rfl⟩ hP rfl rfl rfl rfl hl.1 (Nat.le_of_ble_eq_true rfl) ⟨Nat.le_refl 0, Nat.le_refl 0⟩ dX1_rounds_23 ?_
          refine lv_ior hx hb dX1_rounds_26 ?_
          refine lv_istore_n (lv' := [(2, .int (x2 ||| r4)), (0, .ref qw), (1, .int x1), (3, .int x3)]) hx hb dX1_rounds_27 rfl hl (by decide) rfl (fun ls hl => ?_)
          refine lv_iinc (v := x1 + 1) (lv' := [(1, .int (x1 + 1)), (2, .int (x2 ||| r4)), (0, .ref qw), (3, .int x3)]) hx hb dX1_rounds_28 hl (k := 2) rfl rfl (by decide) rfl (fun ls hl => ?_)
          refine lv_iinc (v := x3 + 1) (lv' := [(3, .int (x3 + 1)), (1, .int (x1 + 1)), (2, .int (x2 ||| r4)), (0, .ref qw)]) hx hb dX1_rounds_31 hl (k := 3) rfl rfl (by decide) rfl (fun ls hl => ?_)
          refine lv_goto (tgt := 6) hx hb dX1_rounds_34 (by decide) ?_
          exact ih (x1 + 1) (x2 ||| r4) (x3 + 1)  h ls (lv_sub hl [3, 1, 2, 0] rfl)
  rw [F_X1_rounds] at h
  refine lv_iconst (v := 0) hx hb dX1_rounds_0 (by decide) ?_
  refine lv_istore_n (lv' := [(1, .int 0), (0, .ref qw)]) hx hb dX1_rounds_1 rfl hl (by decide) rfl (fun ls hl => ?_)
  refine lv_iconst (v := 0) hx hb dX1_rounds_2 (by decide) ?_
  refine lv_istore_n (lv' := [(2, .int 0), (1, .int 0), (0, .ref qw)]) hx hb dX1_rounds_3 rfl hl (by decide) rfl (fun ls hl => ?_)
  refine lv_iconst (v := 0) hx hb dX1_rounds_4 (by decide) ?_
  refine lv_istore_n (lv' := [(3, .int 0), (2, .int 0), (1, .int 0), (0, .ref qw)]) hx hb dX1_rounds_5 rfl hl (by decide) rfl (fun ls hl => ?_)
  exact L6 10000 0 0 0  h ls (lv_sub hl [3, 2, 1, 0] rfl)
set_option maxHeartbeats 4000000 in
set_option maxRecDepth 100000 in
theorem c_X1_fixedPlaces (l : Launch) (G : gG) (qw qt qu : Nat) (ft : Nat → Int32) (fu : Nat → Int32) (res : Int32) (h : F_X1_fixedPlaces ft = some res) : RdM l G yX1_fixedPlaces cX1_fixedPlaces 3 .int (rmk 0 0) [(qw, .inr (1, [.ref qt, .ref qu])), (qt, .inl (G.2.2.1, 24, .inl ft)), (qu, .inl (G.2.2.1, 24, .inl fu))] [.ref qw] res := by
  refine ofR (by decide) (Nat.le_of_ble_eq_true rfl) ?_
  intro p e s m below meth c ls S hr hlk hK hP hl
  have S : CallFix p m c cX1_fixedPlaces 3 s ([.ref qw] : List Value).toArray T0 RX1 := S
  obtain ⟨hx, hb, hml, hown, hts⟩ := id S
  have hl : lv_has ls 3 [(0, .ref qw)] := hl
  have L4 : ∀ (n : Nat) (x1 x2 : Int32), F_X1_fixedPlaces_4 ft n x1 x2 = some res → ∀ (ls : Array Slot), lv_has ls 3 [(0, .ref qw), (1, .int x1), (2, .int x2)] → W p l e (rmk 0 0) s m ([.ref qw] : List Value).toArray below meth c s.heap [] 0 0 (MQ below (vp_Si (fun x => x = res)) ([.ref qw] : List Value).toArray s 0 0 (fun _ => False)) (F0 m 4 ls []) := by
    intro n
    induction n with
    | zero => intro x1 x2 h; exact absurd (show (none : Option (Int32)) = some res from h) (fun q => by cases q)
    | succ n ih =>
      intro x1 x2 h ls hl
      rw [F_X1_fixedPlaces_4] at h
      refine lv_iload_n hx hb dX1_fixedPlaces_4 rfl (lv_at hl 2 rfl) ?_
      refine lv_bipush (v := 24) hx hb dX1_fixedPlaces_5 (by decide) ?_
      refine lv_icmp_ge (tgt := 29) hx hb dX1_fixedPlaces_7 (by decide) (fun c1 => ?_) (fun c1 => ?_)
      · replace h := if_t c1 h
        refine lv_iload_n hx hb dX1_fixedPlaces_29 rfl (lv_at hl 1 rfl) ?_
        obtain rfl := Option.some.inj h
        exact retR S hr hlk rfl rfl dX1_fixedPlaces_30
      · replace h := if_f c1 h
        refine lv_aload_n hx hb dX1_fixedPlaces_10 rfl (lv_at hl 0 rfl) ?_
        refine gf S hK iX1 hP 0 rfl rfl 0 (by decide) q41 rfl dX1_fixedPlaces_11 ?_
        refine lv_iload_n hx hb dX1_fixedPlaces_14 rfl (lv_at hl 2 rfl) ?_
        obtain ⟨k2, h⟩ := ck_t h
        refine ald S hK hP 1 rfl (ok_vp k2) dX1_fixedPlaces_15 ?_
        refine lv_iload_n hx hb dX1_fixedPlaces_16 rfl (lv_at hl 2 rfl) ?_
        refine lv_icmp_ne (tgt := 23) hx hb dX1_fixedPlaces_17 (by decide) (fun c3 => ?_) (fun c3 => ?_)
        · replace h := if_f c3 h
          refine lv_iinc (v := x2 + 1) (lv' := [(2, .int (x2 + 1)), (0, .ref qw), (1, .int x1)]) hx hb dX1_fixedPlaces_23 hl (k := 2) rfl rfl (by decide) rfl (fun ls hl => ?_)
          refine lv_goto (tgt := 4) hx hb dX1_fixedPlaces_26 (by decide) ?_
          exact ih x1 (x2 + 1)  h ls (lv_sub hl [1, 2, 0] rfl)
        · replace h := if_t c3 h
          refine lv_iinc (v := x1 + 1) (lv' := [(1, .int (x1 + 1)), (0, .ref qw), (2, .int x2)]) hx hb dX1_fixedPlaces_20 hl (k := 1) rfl rfl (by decide) rfl (fun ls hl => ?_)
          refine lv_iinc (v := x2 + 1) (lv' := [(2, .int (x2 + 1)), (1, .int (x1 + 1)), (0, .ref qw)]) hx hb dX1_fixedPlaces_23 hl (k := 2) rfl rfl (by decide) rfl (fun ls hl => ?_)
          refine lv_goto (tgt := 4) hx hb dX1_fixedPlaces_26 (by decide) ?_
          exact ih (x1 + 1) (x2 + 1)  h ls (lv_sub hl [2, 1, 0] rfl)
  rw [F_X1_fixedPlaces] at h
  refine lv_iconst (v := 0) hx hb dX1_fixedPlaces_0 (by decide) ?_
  refine lv_istore_n (lv' := [(1, .int 0), (0, .ref qw)]) hx hb dX1_fixedPlaces_1 rfl hl (by decide) rfl (fun ls hl => ?_)
  refine lv_iconst (v := 0) hx hb dX1_fixedPlaces_2 (by decide) ?_
  refine lv_istore_n (lv' := [(2, .int 0), (1, .int 0), (0, .ref qw)]) hx hb dX1_fixedPlaces_3 rfl hl (by decide) rfl (fun ls hl => ?_)
  exact L4 10000 0 0  h ls (lv_sub hl [2, 1, 0] rfl)
set_option maxHeartbeats 4000000 in
set_option maxRecDepth 100000 in
theorem c_X1_longestRound (l : Launch) (G : gG) (qw qt qu : Nat) (ft : Nat → Int32) (fu : Nat → Int32) (res : Int32) (h : F_X1_longestRound ft = some res) : RdM l G yX1_longestRound cX1_longestRound 3 .int (rmk 2 45) [(qw, .inr (1, [.ref qt, .ref qu])), (qt, .inl (G.2.2.1, 24, .inl ft)), (qu, .inl (G.2.2.1, 24, .inl fu))] [.ref qw] res := by
  refine ofR (by decide) (Nat.le_of_ble_eq_true rfl) ?_
  intro p e s m below meth c ls S hr hlk hK hP hl
  have S : CallFix p m c cX1_longestRound 3 s ([.ref qw] : List Value).toArray T0 RX1 := S
  obtain ⟨hx, hb, hml, hown, hts⟩ := id S
  have hl : lv_has ls 3 [(0, .ref qw)] := hl
  have L4 : ∀ (n : Nat) (x1 x2 : Int32), F_X1_longestRound_4 ft n x1 x2 = some res → ∀ (ls : Array Slot), lv_has ls 3 [(0, .ref qw), (1, .int x1), (2, .int x2)] → W p l e (rmk 2 45) s m ([.ref qw] : List Value).toArray below meth c s.heap [] 0 0 (MQ below (vp_Si (fun x => x = res)) ([.ref qw] : List Value).toArray s 0 0 (fun _ => False)) (F0 m 4 ls []) := by
    intro n
    induction n with
    | zero => intro x1 x2 h; exact absurd (show (none : Option (Int32)) = some res from h) (fun q => by cases q)
    | succ n ih =>
      intro x1 x2 h ls hl
      rw [F_X1_longestRound_4] at h
      refine lv_iload_n hx hb dX1_longestRound_4 rfl (lv_at hl 2 rfl) ?_
      refine lv_bipush (v := 24) hx hb dX1_longestRound_5 (by decide) ?_
      refine lv_icmp_ge (tgt := 29) hx hb dX1_longestRound_7 (by decide) (fun c1 => ?_) (fun c1 => ?_)
      · replace h := if_t c1 h
        refine lv_iload_n hx hb dX1_longestRound_29 rfl (lv_at hl 1 rfl) ?_
        obtain rfl := Option.some.inj h
        exact retR S hr hlk rfl rfl dX1_longestRound_30
      · replace h := if_f c1 h
        refine lv_iload_n hx hb dX1_longestRound_10 rfl (lv_at hl 1 rfl) ?_
        refine lv_aload_n hx hb dX1_longestRound_11 rfl (lv_at hl 0 rfl) ?_
        refine lv_iload_n hx hb dX1_longestRound_12 rfl (lv_at hl 2 rfl) ?_
        obtain ⟨r2, hr2, h⟩ := bd_t h
        refine rdV (As := [.int x2]) (rest := [.int x1]) S hK (c_X1_round l G qw qt qu ft fu x2 r2 hr2) mX1_round q252 ⟨rfl, rfl, Nat.le_of_ble_eq_true rfl, Nat.le_of_ble_eq_true rfl⟩ hP rfl rfl rfl rfl hl.1 (Nat.le_of_ble_eq_true rfl) ⟨Nat.le_refl 0, Nat.le_refl 0⟩ dX1_longestRound_13 ?_
        obtain ⟨r3, hr3, h⟩ := bd_t h
        refine rdS (As := [.int r2]) (rest := [.int x1]) S hK (c_J6_bitCount_0f7a4 l G r2 r3 hr3) mJ6_bitCount_0f7a4 q257 ⟨rfl, rfl, Nat.le_of_ble_eq_true rfl, Nat.le_of_ble_eq_true rfl⟩ (ws_nil G.1 _) rfl hl.1 (Nat.le_of_ble_eq_true rfl) ⟨Nat.le_refl 0, Nat.le_refl 0⟩ dX1_longestRound_16 ?_
        refine va_mmax hx hb (hml.trans hl.1.symm) hown (hts _ q375) (hts _ q376) (hts _ q19) (hts _ q377) (Nat.le_of_ble_eq_true rfl) (Nat.le_of_ble_eq_true rfl) (Nat.le_refl 0) (Nat.le_refl 0) dX1_longestRound_19 ?_
        refine lv_topi (fun v4 ev4 => ?_)
        replace h := nmd_t ev4 h
        refine lv_istore_n (lv' := [(1, .int v4), (0, .ref qw), (2, .int x2)]) hx hb dX1_longestRound_22 rfl hl (by decide) rfl (fun ls hl => ?_)
        refine lv_iinc (v := x2 + 1) (lv' := [(2, .int (x2 + 1)), (1, .int v4), (0, .ref qw)]) hx hb dX1_longestRound_23 hl (k := 2) rfl rfl (by decide) rfl (fun ls hl => ?_)
        refine lv_goto (tgt := 4) hx hb dX1_longestRound_26 (by decide) ?_
        exact ih v4 (x2 + 1)  h ls (lv_sub hl [2, 1, 0] rfl)
  rw [F_X1_longestRound] at h
  refine lv_iconst (v := 0) hx hb dX1_longestRound_0 (by decide) ?_
  refine lv_istore_n (lv' := [(1, .int 0), (0, .ref qw)]) hx hb dX1_longestRound_1 rfl hl (by decide) rfl (fun ls hl => ?_)
  refine lv_iconst (v := 0) hx hb dX1_longestRound_2 (by decide) ?_
  refine lv_istore_n (lv' := [(2, .int 0), (1, .int 0), (0, .ref qw)]) hx hb dX1_longestRound_3 rfl hl (by decide) rfl (fun ls hl => ?_)
  exact L4 10000 0 0  h ls (lv_sub hl [2, 1, 0] rfl)
set_option maxHeartbeats 4000000 in
set_option maxRecDepth 100000 in
theorem c_X1_isEven (l : Launch) (G : gG) (qw qt qu : Nat) (ft : Nat → Int32) (fu : Nat → Int32) (res : Int32) (h : F_X1_isEven ft = some res) : RdM l G yX1_isEven cX1_isEven 1 .boolean (rmk 3 68) [(qw, .inr (1, [.ref qt, .ref qu])), (qt, .inl (G.2.2.1, 24, .inl ft)), (qu, .inl (G.2.2.1, 24, .inl fu))] [.ref qw] res := by
  refine ofR (by decide) (Nat.le_of_ble_eq_true rfl) ?_
  intro p e s m below meth c ls S hr hlk hK hP hl
  have S : CallFix p m c cX1_isEven 1 s ([.ref qw] : List Value).toArray T0 RX1 := S
  obtain ⟨hx, hb, hml, hown, hts⟩ := id S
  have hl : lv_has ls 1 [(0, .ref qw)] := hl
  rw [F_X1_isEven] at h
  refine lv_bipush (v := 24) hx hb dX1_isEven_0 (by decide) ?_
  refine lv_aload_n hx hb dX1_isEven_2 rfl (lv_at hl 0 rfl) ?_
  obtain ⟨r1, hr1, h⟩ := bd_t h
  refine rdV (As := []) (rest := [.int 24]) S hK (c_X1_rounds l G qw qt qu ft fu r1 hr1) mX1_rounds q382 ⟨rfl, rfl, Nat.le_of_ble_eq_true rfl, Nat.le_of_ble_eq_true rfl⟩ hP rfl rfl rfl rfl hl.1 (Nat.le_of_ble_eq_true rfl) ⟨Nat.le_refl 0, Nat.le_refl 0⟩ dX1_isEven_3 ?_
  refine lv_isub hx hb dX1_isEven_6 ?_
  refine lv_iconst (v := 2) hx hb dX1_isEven_7 (by decide) ?_
  refine lv_irem hx hb dX1_isEven_8 (by decide) ?_
  refine lv_if_ne (tgt := 16) hx hb dX1_isEven_9 (by decide) (fun c2 => ?_) (fun c2 => ?_)
  · replace h := if_f c2 h
    refine lv_iconst (v := 0) hx hb dX1_isEven_16 (by decide) ?_
    obtain rfl := Option.some.inj h
    exact retR S hr hlk rfl rfl dX1_isEven_17
  · replace h := if_t c2 h
    refine lv_iconst (v := 1) hx hb dX1_isEven_12 (by decide) ?_
    refine lv_goto (tgt := 17) hx hb dX1_isEven_13 (by decide) ?_
    obtain rfl := Option.some.inj h
    exact retR S hr hlk rfl rfl dX1_isEven_17
set_option maxHeartbeats 4000000 in
set_option maxRecDepth 100000 in
theorem c_X1_leavesAll (l : Launch) (G : gG) (qw qt qu : Nat) (ft : Nat → Int32) (fu : Nat → Int32) (p1 : Int32) (res : Int32) (h : F_X1_leavesAll ft p1 = some res) : RdM l G yX1_leavesAll cX1_leavesAll 3 .boolean (rmk 3 69) [(qw, .inr (1, [.ref qt, .ref qu])), (qt, .inl (G.2.2.1, 24, .inl ft)), (qu, .inl (G.2.2.1, 24, .inl fu))] [.ref qw, .int p1] res := by
  refine ofR (by decide) (Nat.le_of_ble_eq_true rfl) ?_
  intro p e s m below meth c ls S hr hlk hK hP hl
  have S : CallFix p m c cX1_leavesAll 3 s ([.ref qw, .int p1] : List Value).toArray T0 RX1 := S
  obtain ⟨hx, hb, hml, hown, hts⟩ := id S
  have hl : lv_has ls 3 [(0, .ref qw), (1, .int p1)] := hl
  rw [F_X1_leavesAll] at h
  refine lv_aload_n hx hb dX1_leavesAll_0 rfl (lv_at hl 0 rfl) ?_
  obtain ⟨r1, hr1, h⟩ := bd_t h
  refine rdV (As := []) (rest := []) S hK (c_X1_order l G qw qt qu ft fu r1 hr1) mX1_order q281 ⟨rfl, rfl, Nat.le_of_ble_eq_true rfl, Nat.le_of_ble_eq_true rfl⟩ hP rfl rfl rfl rfl hl.1 (Nat.le_of_ble_eq_true rfl) ⟨Nat.le_refl 0, Nat.le_refl 0⟩ dX1_leavesAll_1 ?_
  refine lv_istore_n (lv' := [(2, .int r1), (0, .ref qw), (1, .int p1)]) hx hb dX1_leavesAll_4 rfl hl (by decide) rfl (fun ls hl => ?_)
  refine lv_iload_n hx hb dX1_leavesAll_5 rfl (lv_at hl 0 rfl) ?_
  refine lv_if_le (tgt := 19) hx hb dX1_leavesAll_6 (by decide) (fun c2 => ?_) (fun c2 => ?_)
  · replace h := if_t c2 h
    refine lv_iconst (v := 0) hx hb dX1_leavesAll_19 (by decide) ?_
    obtain rfl := Option.some.inj h
    exact retR S hr hlk rfl rfl dX1_leavesAll_20
  · replace h := if_f c2 h
    refine lv_iload_n hx hb dX1_leavesAll_9 rfl (lv_at hl 2 rfl) ?_
    refine lv_iload_n hx hb dX1_leavesAll_10 rfl (lv_at hl 0 rfl) ?_
    obtain ⟨k3, h⟩ := ck_t h
    refine lv_irem hx hb dX1_leavesAll_11 (nz_t k3) ?_
    refine lv_if_ne (tgt := 19) hx hb dX1_leavesAll_12 (by decide) (fun c4 => ?_) (fun c4 => ?_)
    · replace h := if_f c4 h
      refine lv_iconst (v := 0) hx hb dX1_leavesAll_19 (by decide) ?_
      obtain rfl := Option.some.inj h
      exact retR S hr hlk rfl rfl dX1_leavesAll_20
    · replace h := if_t c4 h
      refine lv_iconst (v := 1) hx hb dX1_leavesAll_15 (by decide) ?_
      refine lv_goto (tgt := 20) hx hb dX1_leavesAll_16 (by decide) ?_
      obtain rfl := Option.some.inj h
      exact retR S hr hlk rfl rfl dX1_leavesAll_20
set_option maxHeartbeats 4000000 in
set_option maxRecDepth 100000 in
theorem c_X1_targetBehind (l : Launch) (G : gG) (qw qt qu : Nat) (ft : Nat → Int32) (fu : Nat → Int32) (p1 p2 : Int32) (res : Int32) (h : F_X1_targetBehind ft p1 p2 = some res) : RdM l G yX1_targetBehind cX1_targetBehind 7 .int (rmk 2 45) [(qw, .inr (1, [.ref qt, .ref qu])), (qt, .inl (G.2.2.1, 24, .inl ft)), (qu, .inl (G.2.2.1, 24, .inl fu))] [.ref qw, .int p1, .int p2] res := by
  refine ofR (by decide) (Nat.le_of_ble_eq_true rfl) ?_
  intro p e s m below meth c ls S hr hlk hK hP hl
  have S : CallFix p m c cX1_targetBehind 7 s ([.ref qw, .int p1, .int p2] : List Value).toArray T0 RX1 := S
  obtain ⟨hx, hb, hml, hown, hts⟩ := id S
  have hl : lv_has ls 7 [(0, .ref qw), (1, .int p1), (2, .int p2)] := hl
  have L29 : ∀ (n : Nat) (x1 x2 x3 x4 x5 x6 : Int32), F_X1_targetBehind_29 ft n x1 x2 x3 x4 x5 x6 = some res → ∀ (ls : Array Slot), lv_has ls 7 [(0, .ref qw), (1, .int x1), (2, .int x2), (3, .int x3), (4, .int x4), (5, .int x5), (6, .int x6)] → W p l e (rmk 2 45) s m ([.ref qw, .int p1, .int p2] : List Value).toArray below meth c s.heap [] 0 0 (MQ below (vp_Si (fun x => x = res)) ([.ref qw, .int p1, .int p2] : List Value).toArray s 0 0 (fun _ => False)) (F0 m 29 ls []) := by
    intro n
    induction n with
    | zero => intro x1 x2 x3 x4 x5 x6 h; exact absurd (show (none : Option (Int32)) = some res from h) (fun q => by cases q)
    | succ n ih =>
      intro x1 x2 x3 x4 x5 x6 h ls hl
      rw [F_X1_targetBehind_29] at h
      refine lv_iload hx hb dX1_targetBehind_29 (lv_at hl 6 rfl) ?_
      refine lv_iload hx hb dX1_targetBehind_31 (lv_at hl 4 rfl) ?_
      refine lv_icmp_ge (tgt := 59) hx hb dX1_targetBehind_33 (by decide) (fun c5 => ?_) (fun c5 => ?_)
      · replace h := if_t c5 h
        refine lv_iload hx hb dX1_targetBehind_59 (lv_at hl 5 rfl) ?_
        obtain rfl := Option.some.inj h
        exact retR S hr hlk rfl rfl dX1_targetBehind_61
      · replace h := if_f c5 h
        refine lv_iload hx hb dX1_targetBehind_36 (lv_at hl 5 rfl) ?_
        obtain ⟨r6, hr6, h⟩ := bd_t h
        refine rdN (As := [.int x5]) (rest := []) S hK (c_X4_isPlace l G x5 r6 hr6) mX4_isPlace 3 rfl ⟨rfl, rfl, Nat.le_of_ble_eq_true rfl, Nat.le_of_ble_eq_true rfl⟩ (ws_nil G.1 _) rfl hl.1 (Nat.le_of_ble_eq_true rfl) ⟨Nat.le_refl 0, Nat.le_refl 0⟩ dX1_targetBehind_38 ?_
        refine lv_if_eq (tgt := 59) hx hb dX1_targetBehind_41 (by decide) (fun c7 => ?_) (fun c7 => ?_)
        · replace h := if_t c7 h
          refine lv_iload hx hb dX1_targetBehind_59 (lv_at hl 5 rfl) ?_
          obtain rfl := Option.some.inj h
          exact retR S hr hlk rfl rfl dX1_targetBehind_61
        · replace h := if_f c7 h
          refine lv_aload_n hx hb dX1_targetBehind_44 rfl (lv_at hl 0 rfl) ?_
          refine gf S hK iX1 hP 0 rfl rfl 0 (by decide) q41 rfl dX1_targetBehind_45 ?_
          refine lv_iload hx hb dX1_targetBehind_48 (lv_at hl 5 rfl) ?_
          obtain ⟨k8, h⟩ := ck_t h
          refine ald S hK hP 1 rfl (ok_vp k8) dX1_targetBehind_50 ?_
          refine lv_istore (lv' := [(5, .int (ft (Int32.toNatClampNeg x5))), (0, .ref qw), (1, .int x1), (2, .int x2), (3, .int x3), (4, .int x4), (6, .int x6)]) hx hb dX1_targetBehind_51 hl (by decide) rfl (fun ls hl => ?_)
          refine lv_iinc (v := x6 + 1) (lv' := [(6, .int (x6 + 1)), (5, .int (ft (Int32.toNatClampNeg x5))), (0, .ref qw), (1, .int x1), (2, .int x2), (3, .int x3), (4, .int x4)]) hx hb dX1_targetBehind_53 hl (k := 6) rfl rfl (by decide) rfl (fun ls hl => ?_)
          refine lv_goto (tgt := 29) hx hb dX1_targetBehind_56 (by decide) ?_
          exact ih x1 x2 x3 x4 (ft (Int32.toNatClampNeg x5)) (x6 + 1)  h ls (lv_sub hl [2, 3, 4, 5, 6, 1, 0] rfl)
  rw [F_X1_targetBehind] at h
  refine lv_aload_n hx hb dX1_targetBehind_0 rfl (lv_at hl 0 rfl) ?_
  refine lv_iload_n hx hb dX1_targetBehind_1 rfl (lv_at hl 1 rfl) ?_
  obtain ⟨r1, hr1, h⟩ := bd_t h
  refine rdV (As := [.int p1]) (rest := []) S hK (c_X1_round l G qw qt qu ft fu p1 r1 hr1) mX1_round q252 ⟨rfl, rfl, Nat.le_of_ble_eq_true rfl, Nat.le_of_ble_eq_true rfl⟩ hP rfl rfl rfl rfl hl.1 (Nat.le_of_ble_eq_true rfl) ⟨Nat.le_refl 0, Nat.le_refl 0⟩ dX1_targetBehind_2 ?_
  obtain ⟨r2, hr2, h⟩ := bd_t h
  refine rdS (As := [.int r1]) (rest := []) S hK (c_J6_bitCount_0f7a4 l G r1 r2 hr2) mJ6_bitCount_0f7a4 q257 ⟨rfl, rfl, Nat.le_of_ble_eq_true rfl, Nat.le_of_ble_eq_true rfl⟩ (ws_nil G.1 _) rfl hl.1 (Nat.le_of_ble_eq_true rfl) ⟨Nat.le_refl 0, Nat.le_refl 0⟩ dX1_targetBehind_5 ?_
  refine lv_istore_n (lv' := [(3, .int r2), (0, .ref qw), (1, .int p1), (2, .int p2)]) hx hb dX1_targetBehind_8 rfl hl (by decide) rfl (fun ls hl => ?_)
  refine lv_iload_n hx hb dX1_targetBehind_9 rfl (lv_at hl 0 rfl) ?_
  refine lv_iconst (v := 1) hx hb dX1_targetBehind_10 (by decide) ?_
  refine lv_icmp_ge (tgt := 16) hx hb dX1_targetBehind_11 (by decide) (fun c3 => ?_) (fun c3 => ?_)
  · replace h := if_t c3 h
    refine lv_iload_n hx hb dX1_targetBehind_16 rfl (lv_at hl 3 rfl) ?_
    refine lv_iload_n hx hb dX1_targetBehind_17 rfl (lv_at hl 0 rfl) ?_
    obtain ⟨r4, hr4, h⟩ := bd_t h
    refine rdS (As := [.int p2, .int r2]) (rest := []) S hK (c_J9_floorMod_7cf53 l G p2 r2 r4 hr4) mJ9_floorMod_7cf53 q303 ⟨rfl, rfl, Nat.le_of_ble_eq_true rfl, Nat.le_of_ble_eq_true rfl⟩ (ws_nil G.1 _) rfl hl.1 (Nat.le_of_ble_eq_true rfl) ⟨Nat.le_refl 0, Nat.le_refl 0⟩ dX1_targetBehind_18 ?_
    refine lv_istore (lv' := [(4, .int r4), (3, .int r2), (0, .ref qw), (1, .int p1), (2, .int p2)]) hx hb dX1_targetBehind_21 hl (by decide) rfl (fun ls hl => ?_)
    refine lv_iload_n hx hb dX1_targetBehind_23 rfl (lv_at hl 3 rfl) ?_
    refine lv_istore (lv' := [(5, .int p1), (4, .int r4), (3, .int r2), (0, .ref qw), (1, .int p1), (2, .int p2)]) hx hb dX1_targetBehind_24 hl (by decide) rfl (fun ls hl => ?_)
    refine lv_iconst (v := 0) hx hb dX1_targetBehind_26 (by decide) ?_
    refine lv_istore (lv' := [(6, .int 0), (5, .int p1), (4, .int r4), (3, .int r2), (0, .ref qw), (1, .int p1), (2, .int p2)]) hx hb dX1_targetBehind_27 hl (by decide) rfl (fun ls hl => ?_)
    exact L29 10000 p1 p2 r2 r4 p1 0  h ls (lv_sub hl [4, 5, 6, 3, 2, 1, 0] rfl)
  · replace h := if_f c3 h
    refine lv_iload_n hx hb dX1_targetBehind_14 rfl (lv_at hl 2 rfl) ?_
    obtain rfl := Option.some.inj h
    exact retR S hr hlk rfl rfl dX1_targetBehind_15
set_option maxHeartbeats 4000000 in
set_option maxRecDepth 100000 in
theorem c_X1_moved (l : Launch) (G : gG) (qw qt qu : Nat) (ft : Nat → Int32) (fu : Nat → Int32) (p1 : Int32) (res : Int32) (h : F_X1_moved ft p1 = some res) : RdM l G yX1_moved cX1_moved 4 .int (rmk 1 21) [(qw, .inr (1, [.ref qt, .ref qu])), (qt, .inl (G.2.2.1, 24, .inl ft)), (qu, .inl (G.2.2.1, 24, .inl fu))] [.ref qw, .int p1] res := by
  refine ofR (by decide) (Nat.le_of_ble_eq_true rfl) ?_
  intro p e s m below meth c ls S hr hlk hK hP hl
  have S : CallFix p m c cX1_moved 4 s ([.ref qw, .int p1] : List Value).toArray T0 RX1 := S
  obtain ⟨hx, hb, hml, hown, hts⟩ := id S
  have hl : lv_has ls 4 [(0, .ref qw), (1, .int p1)] := hl
  have L4 : ∀ (n : Nat) (x1 x2 x3 : Int32), F_X1_moved_4 ft n x1 x2 x3 = some res → ∀ (ls : Array Slot), lv_has ls 4 [(0, .ref qw), (1, .int x1), (2, .int x2), (3, .int x3)] → W p l e (rmk 1 21) s m ([.ref qw, .int p1] : List Value).toArray below meth c s.heap [] 0 0 (MQ below (vp_Si (fun x => x = res)) ([.ref qw, .int p1] : List Value).toArray s 0 0 (fun _ => False)) (F0 m 4 ls []) := by
    intro n
    induction n with
    | zero => intro x1 x2 x3 h; exact absurd (show (none : Option (Int32)) = some res from h) (fun q => by cases q)
    | succ n ih =>
      intro x1 x2 x3 h ls hl
      rw [F_X1_moved_4] at h
      refine lv_iload_n hx hb dX1_moved_4 rfl (lv_at hl 3 rfl) ?_
      refine lv_bipush (v := 24) hx hb dX1_moved_5 (by decide) ?_
      refine lv_icmp_ge (tgt := 36) hx hb dX1_moved_7 (by decide) (fun c1 => ?_) (fun c1 => ?_)
      · replace h := if_t c1 h
        refine lv_iload_n hx hb dX1_moved_36 rfl (lv_at hl 2 rfl) ?_
        obtain rfl := Option.some.inj h
        exact retR S hr hlk rfl rfl dX1_moved_37
      · replace h := if_f c1 h
        refine lv_iload_n hx hb dX1_moved_10 rfl (lv_at hl 1 rfl) ?_
        refine lv_iload_n hx hb dX1_moved_11 rfl (lv_at hl 3 rfl) ?_
        obtain ⟨r2, hr2, h⟩ := bd_t h
        refine rdN (As := [.int x1, .int x3]) (rest := []) S hK (c_X4_has l G x1 x3 r2 hr2) mX4_has 4 rfl ⟨rfl, rfl, Nat.le_of_ble_eq_true rfl, Nat.le_of_ble_eq_true rfl⟩ (ws_nil G.1 _) rfl hl.1 (Nat.le_of_ble_eq_true rfl) ⟨Nat.le_refl 0, Nat.le_refl 0⟩ dX1_moved_12 ?_
        refine lv_if_eq (tgt := 30) hx hb dX1_moved_15 (by decide) (fun c3 => ?_) (fun c3 => ?_)
        · replace h := if_t c3 h
          refine lv_iinc (v := x3 + 1) (lv' := [(3, .int (x3 + 1)), (0, .ref qw), (1, .int x1), (2, .int x2)]) hx hb dX1_moved_30 hl (k := 3) rfl rfl (by decide) rfl (fun ls hl => ?_)
          refine lv_goto (tgt := 4) hx hb dX1_moved_33 (by decide) ?_
          exact ih x1 x2 (x3 + 1)  h ls (lv_sub hl [1, 2, 3, 0] rfl)
        · replace h := if_f c3 h
          refine lv_iload_n hx hb dX1_moved_18 rfl (lv_at hl 2 rfl) ?_
          refine lv_aload_n hx hb dX1_moved_19 rfl (lv_at hl 0 rfl) ?_
          refine gf S hK iX1 hP 0 rfl rfl 0 (by decide) q41 rfl dX1_moved_20 ?_
          refine lv_iload_n hx hb dX1_moved_23 rfl (lv_at hl 3 rfl) ?_
          obtain ⟨k4, h⟩ := ck_t h
          refine ald S hK hP 1 rfl (ok_vp k4) dX1_moved_24 ?_
          obtain ⟨r5, hr5, h⟩ := bd_t h
          refine rdN (As := [.int (ft (Int32.toNatClampNeg x3))]) (rest := [.int x2]) S hK (c_X4_only l G (ft (Int32.toNatClampNeg x3)) r5 hr5) mX4_only 5 rfl ⟨rfl, rfl, Nat.le_of_ble_eq_true rfl, Nat.le_of_ble_eq_true rfl⟩ (ws_nil G.1 _) rfl hl.1 (Nat.le_of_ble_eq_true rfl) ⟨Nat.le_refl 0, Nat.le_refl 0⟩ dX1_moved_25 ?_
          refine lv_ior hx hb dX1_moved_28 ?_
          refine lv_istore_n (lv' := [(2, .int (x2 ||| r5)), (0, .ref qw), (1, .int x1), (3, .int x3)]) hx hb dX1_moved_29 rfl hl (by decide) rfl (fun ls hl => ?_)
          refine lv_iinc (v := x3 + 1) (lv' := [(3, .int (x3 + 1)), (2, .int (x2 ||| r5)), (0, .ref qw), (1, .int x1)]) hx hb dX1_moved_30 hl (k := 3) rfl rfl (by decide) rfl (fun ls hl => ?_)
          refine lv_goto (tgt := 4) hx hb dX1_moved_33 (by decide) ?_
          exact ih x1 (x2 ||| r5) (x3 + 1)  h ls (lv_sub hl [2, 3, 1, 0] rfl)
  rw [F_X1_moved] at h
  refine lv_iconst (v := 0) hx hb dX1_moved_0 (by decide) ?_
  refine lv_istore_n (lv' := [(2, .int 0), (0, .ref qw), (1, .int p1)]) hx hb dX1_moved_1 rfl hl (by decide) rfl (fun ls hl => ?_)
  refine lv_iconst (v := 0) hx hb dX1_moved_2 (by decide) ?_
  refine lv_istore_n (lv' := [(3, .int 0), (2, .int 0), (0, .ref qw), (1, .int p1)]) hx hb dX1_moved_3 rfl hl (by decide) rfl (fun ls hl => ?_)
  exact L4 10000 p1 0 0  h ls (lv_sub hl [2, 3, 1, 0] rfl)
set_option maxHeartbeats 4000000 in
set_option maxRecDepth 100000 in
theorem c_X1_movedBy (l : Launch) (G : gG) (qw qt qu : Nat) (ft : Nat → Int32) (fu : Nat → Int32) (p1 p2 : Int32) (res : Int32) (h : F_X1_movedBy ft p1 p2 = some res) : RdM l G yX1_movedBy cX1_movedBy 5 .int (rmk 3 71) [(qw, .inr (1, [.ref qt, .ref qu])), (qt, .inl (G.2.2.1, 24, .inl ft)), (qu, .inl (G.2.2.1, 24, .inl fu))] [.ref qw, .int p1, .int p2] res := by
  refine ofR (by decide) (Nat.le_of_ble_eq_true rfl) ?_
  intro p e s m below meth c ls S hr hlk hK hP hl
  have S : CallFix p m c cX1_movedBy 5 s ([.ref qw, .int p1, .int p2] : List Value).toArray T0 RX1 := S
  obtain ⟨hx, hb, hml, hown, hts⟩ := id S
  have hl : lv_has ls 5 [(0, .ref qw), (1, .int p1), (2, .int p2)] := hl
  have L5 : ∀ (n : Nat) (x1 x2 x3 x4 : Int32), F_X1_movedBy_5 ft n x1 x2 x3 x4 = some res → ∀ (ls : Array Slot), lv_has ls 5 [(0, .ref qw), (1, .int x1), (2, .int x2), (3, .int x3), (4, .int x4)] → W p l e (rmk 3 71) s m ([.ref qw, .int p1, .int p2] : List Value).toArray below meth c s.heap [] 0 0 (MQ below (vp_Si (fun x => x = res)) ([.ref qw, .int p1, .int p2] : List Value).toArray s 0 0 (fun _ => False)) (F0 m 5 ls []) := by
    intro n
    induction n with
    | zero => intro x1 x2 x3 x4 h; exact absurd (show (none : Option (Int32)) = some res from h) (fun q => by cases q)
    | succ n ih =>
      intro x1 x2 x3 x4 h ls hl
      rw [F_X1_movedBy_5] at h
      refine lv_iload hx hb dX1_movedBy_5 (lv_at hl 4 rfl) ?_
      refine lv_bipush (v := 24) hx hb dX1_movedBy_7 (by decide) ?_
      refine lv_icmp_ge (tgt := 40) hx hb dX1_movedBy_9 (by decide) (fun c1 => ?_) (fun c1 => ?_)
      · replace h := if_t c1 h
        refine lv_iload_n hx hb dX1_movedBy_40 rfl (lv_at hl 3 rfl) ?_
        obtain rfl := Option.some.inj h
        exact retR S hr hlk rfl rfl dX1_movedBy_41
      · replace h := if_f c1 h
        refine lv_iload_n hx hb dX1_movedBy_12 rfl (lv_at hl 1 rfl) ?_
        refine lv_iload hx hb dX1_movedBy_13 (lv_at hl 4 rfl) ?_
        obtain ⟨r2, hr2, h⟩ := bd_t h
        refine rdN (As := [.int x1, .int x4]) (rest := []) S hK (c_X4_has l G x1 x4 r2 hr2) mX4_has 4 rfl ⟨rfl, rfl, Nat.le_of_ble_eq_true rfl, Nat.le_of_ble_eq_true rfl⟩ (ws_nil G.1 _) rfl hl.1 (Nat.le_of_ble_eq_true rfl) ⟨Nat.le_refl 0, Nat.le_refl 0⟩ dX1_movedBy_15 ?_
        refine lv_if_eq (tgt := 34) hx hb dX1_movedBy_18 (by decide) (fun c3 => ?_) (fun c3 => ?_)
        · replace h := if_t c3 h
          refine lv_iinc (v := x4 + 1) (lv' := [(4, .int (x4 + 1)), (0, .ref qw), (1, .int x1), (2, .int x2), (3, .int x3)]) hx hb dX1_movedBy_34 hl (k := 4) rfl rfl (by decide) rfl (fun ls hl => ?_)
          refine lv_goto (tgt := 5) hx hb dX1_movedBy_37 (by decide) ?_
          exact ih x1 x2 x3 (x4 + 1)  h ls (lv_sub hl [1, 2, 3, 4, 0] rfl)
        · replace h := if_f c3 h
          refine lv_iload_n hx hb dX1_movedBy_21 rfl (lv_at hl 3 rfl) ?_
          refine lv_aload_n hx hb dX1_movedBy_22 rfl (lv_at hl 0 rfl) ?_
          refine lv_iload hx hb dX1_movedBy_23 (lv_at hl 4 rfl) ?_
          refine lv_iload_n hx hb dX1_movedBy_25 rfl (lv_at hl 2 rfl) ?_
          obtain ⟨r4, hr4, h⟩ := bd_t h
          refine rdV (As := [.int x4, .int x2]) (rest := [.int x3]) S hK (c_X1_targetBehind l G qw qt qu ft fu x4 x2 r4 hr4) mX1_targetBehind q299 ⟨rfl, rfl, Nat.le_of_ble_eq_true rfl, Nat.le_of_ble_eq_true rfl⟩ hP rfl rfl rfl rfl hl.1 (Nat.le_of_ble_eq_true rfl) ⟨Nat.le_refl 0, Nat.le_refl 0⟩ dX1_movedBy_26 ?_
          obtain ⟨r5, hr5, h⟩ := bd_t h
          refine rdN (As := [.int r4]) (rest := [.int x3]) S hK (c_X4_only l G r4 r5 hr5) mX4_only 5 rfl ⟨rfl, rfl, Nat.le_of_ble_eq_true rfl, Nat.le_of_ble_eq_true rfl⟩ (ws_nil G.1 _) rfl hl.1 (Nat.le_of_ble_eq_true rfl) ⟨Nat.le_refl 0, Nat.le_refl 0⟩ dX1_movedBy_29 ?_
          refine lv_ior hx hb dX1_movedBy_32 ?_
          refine lv_istore_n (lv' := [(3, .int (x3 ||| r5)), (0, .ref qw), (1, .int x1), (2, .int x2), (4, .int x4)]) hx hb dX1_movedBy_33 rfl hl (by decide) rfl (fun ls hl => ?_)
          refine lv_iinc (v := x4 + 1) (lv' := [(4, .int (x4 + 1)), (3, .int (x3 ||| r5)), (0, .ref qw), (1, .int x1), (2, .int x2)]) hx hb dX1_movedBy_34 hl (k := 4) rfl rfl (by decide) rfl (fun ls hl => ?_)
          refine lv_goto (tgt := 5) hx hb dX1_movedBy_37 (by decide) ?_
          exact ih x1 x2 (x3 ||| r5) (x4 + 1)  h ls (lv_sub hl [2, 3, 4, 1, 0] rfl)
  rw [F_X1_movedBy] at h
  refine lv_iconst (v := 0) hx hb dX1_movedBy_0 (by decide) ?_
  refine lv_istore_n (lv' := [(3, .int 0), (0, .ref qw), (1, .int p1), (2, .int p2)]) hx hb dX1_movedBy_1 rfl hl (by decide) rfl (fun ls hl => ?_)
  refine lv_iconst (v := 0) hx hb dX1_movedBy_2 (by decide) ?_
  refine lv_istore (lv' := [(4, .int 0), (3, .int 0), (0, .ref qw), (1, .int p1), (2, .int p2)]) hx hb dX1_movedBy_3 hl (by decide) rfl (fun ls hl => ?_)
  exact L5 10000 p1 p2 0 0  h ls (lv_sub hl [2, 3, 4, 1, 0] rfl)
set_option maxHeartbeats 4000000 in
set_option maxRecDepth 100000 in
theorem c_X1_movesUntilAlike (l : Launch) (G : gG) (qw qt qu : Nat) (ft : Nat → Int32) (fu : Nat → Int32) (p1 p2 : Int32) (res : Int32) (h : F_X1_movesUntilAlike ft p1 p2 = some res) : RdM l G yX1_movesUntilAlike cX1_movesUntilAlike 6 .int (rmk 3 69) [(qw, .inr (1, [.ref qt, .ref qu])), (qt, .inl (G.2.2.1, 24, .inl ft)), (qu, .inl (G.2.2.1, 24, .inl fu))] [.ref qw, .int p1, .int p2] res := by
  refine ofR (by decide) (Nat.le_of_ble_eq_true rfl) ?_
  intro p e s m below meth c ls S hr hlk hK hP hl
  have S : CallFix p m c cX1_movesUntilAlike 6 s ([.ref qw, .int p1, .int p2] : List Value).toArray T0 RX1 := S
  obtain ⟨hx, hb, hml, hown, hts⟩ := id S
  have hl : lv_has ls 6 [(0, .ref qw), (1, .int p1), (2, .int p2)] := hl
  have L11 : ∀ (n : Nat) (x1 x2 x3 x4 x5 : Int32), F_X1_movesUntilAlike_11 ft n x1 x2 x3 x4 x5 = some res → ∀ (ls : Array Slot), lv_has ls 6 [(0, .ref qw), (1, .int x1), (2, .int x2), (3, .int x3), (4, .int x4), (5, .int x5)] → W p l e (rmk 3 69) s m ([.ref qw, .int p1, .int p2] : List Value).toArray below meth c s.heap [] 0 0 (MQ below (vp_Si (fun x => x = res)) ([.ref qw, .int p1, .int p2] : List Value).toArray s 0 0 (fun _ => False)) (F0 m 11 ls []) := by
    intro n
    induction n with
    | zero => intro x1 x2 x3 x4 x5 h; exact absurd (show (none : Option (Int32)) = some res from h) (fun q => by cases q)
    | succ n ih =>
      intro x1 x2 x3 x4 x5 h ls hl
      rw [F_X1_movesUntilAlike_11] at h
      refine lv_iload hx hb dX1_movesUntilAlike_11 (lv_at hl 5 rfl) ?_
      refine lv_iload_n hx hb dX1_movesUntilAlike_13 rfl (lv_at hl 3 rfl) ?_
      refine lv_icmp_ge (tgt := 40) hx hb dX1_movesUntilAlike_14 (by decide) (fun c2 => ?_) (fun c2 => ?_)
      · replace h := if_t c2 h
        refine lv_bipush (v := (-5)) hx hb dX1_movesUntilAlike_40 (by decide) ?_
        obtain rfl := Option.some.inj h
        exact retR S hr hlk rfl rfl dX1_movesUntilAlike_42
      · replace h := if_f c2 h
        refine lv_iload hx hb dX1_movesUntilAlike_17 (lv_at hl 4 rfl) ?_
        refine lv_iload_n hx hb dX1_movesUntilAlike_19 rfl (lv_at hl 2 rfl) ?_
        refine lv_icmp_ne (tgt := 26) hx hb dX1_movesUntilAlike_20 (by decide) (fun c3 => ?_) (fun c3 => ?_)
        · replace h := if_f c3 h
          refine lv_aload_n hx hb dX1_movesUntilAlike_26 rfl (lv_at hl 0 rfl) ?_
          refine lv_iload hx hb dX1_movesUntilAlike_27 (lv_at hl 4 rfl) ?_
          obtain ⟨r4, hr4, h⟩ := bd_t h
          refine rdV (As := [.int x4]) (rest := []) S hK (c_X1_moved l G qw qt qu ft fu x4 r4 hr4) mX1_moved q547 ⟨rfl, rfl, Nat.le_of_ble_eq_true rfl, Nat.le_of_ble_eq_true rfl⟩ hP rfl rfl rfl rfl hl.1 (Nat.le_of_ble_eq_true rfl) ⟨Nat.le_refl 0, Nat.le_refl 0⟩ dX1_movesUntilAlike_29 ?_
          refine lv_istore (lv' := [(4, .int r4), (0, .ref qw), (1, .int x1), (2, .int x2), (3, .int x3), (5, .int x5)]) hx hb dX1_movesUntilAlike_32 hl (by decide) rfl (fun ls hl => ?_)
          refine lv_iinc (v := x5 + 1) (lv' := [(5, .int (x5 + 1)), (4, .int r4), (0, .ref qw), (1, .int x1), (2, .int x2), (3, .int x3)]) hx hb dX1_movesUntilAlike_34 hl (k := 5) rfl rfl (by decide) rfl (fun ls hl => ?_)
          refine lv_goto (tgt := 11) hx hb dX1_movesUntilAlike_37 (by decide) ?_
          exact ih x1 x2 x3 r4 (x5 + 1)  h ls (lv_sub hl [2, 3, 4, 5, 1, 0] rfl)
        · replace h := if_t c3 h
          refine lv_iload hx hb dX1_movesUntilAlike_23 (lv_at hl 5 rfl) ?_
          obtain rfl := Option.some.inj h
          exact retR S hr hlk rfl rfl dX1_movesUntilAlike_25
  rw [F_X1_movesUntilAlike] at h
  refine lv_aload_n hx hb dX1_movesUntilAlike_0 rfl (lv_at hl 0 rfl) ?_
  obtain ⟨r1, hr1, h⟩ := bd_t h
  refine rdV (As := []) (rest := []) S hK (c_X1_order l G qw qt qu ft fu r1 hr1) mX1_order q281 ⟨rfl, rfl, Nat.le_of_ble_eq_true rfl, Nat.le_of_ble_eq_true rfl⟩ hP rfl rfl rfl rfl hl.1 (Nat.le_of_ble_eq_true rfl) ⟨Nat.le_refl 0, Nat.le_refl 0⟩ dX1_movesUntilAlike_1 ?_
  refine lv_istore_n (lv' := [(3, .int r1), (0, .ref qw), (1, .int p1), (2, .int p2)]) hx hb dX1_movesUntilAlike_4 rfl hl (by decide) rfl (fun ls hl => ?_)
  refine lv_iload_n hx hb dX1_movesUntilAlike_5 rfl (lv_at hl 2 rfl) ?_
  refine lv_istore (lv' := [(4, .int p1), (3, .int r1), (0, .ref qw), (1, .int p1), (2, .int p2)]) hx hb dX1_movesUntilAlike_6 hl (by decide) rfl (fun ls hl => ?_)
  refine lv_iconst (v := 0) hx hb dX1_movesUntilAlike_8 (by decide) ?_
  refine lv_istore (lv' := [(5, .int 0), (4, .int p1), (3, .int r1), (0, .ref qw), (1, .int p1), (2, .int p2)]) hx hb dX1_movesUntilAlike_9 hl (by decide) rfl (fun ls hl => ?_)
  exact L11 10000 p1 p2 r1 p1 0  h ls (lv_sub hl [3, 4, 5, 2, 1, 0] rfl)
set_option maxHeartbeats 4000000 in
set_option maxRecDepth 100000 in
theorem c_X1_movesUntilSame (l : Launch) (G : gG) (qw qt qu : Nat) (ft : Nat → Int32) (fu : Nat → Int32) (p1 : Int32) (res : Int32) (h : F_X1_movesUntilSame ft p1 = some res) : RdM l G yX1_movesUntilSame cX1_movesUntilSame 2 .int (rmk 4 94) [(qw, .inr (1, [.ref qt, .ref qu])), (qt, .inl (G.2.2.1, 24, .inl ft)), (qu, .inl (G.2.2.1, 24, .inl fu))] [.ref qw, .int p1] res := by
  refine ofR (by decide) (Nat.le_of_ble_eq_true rfl) ?_
  intro p e s m below meth c ls S hr hlk hK hP hl
  have S : CallFix p m c cX1_movesUntilSame 2 s ([.ref qw, .int p1] : List Value).toArray T0 RX1 := S
  obtain ⟨hx, hb, hml, hown, hts⟩ := id S
  have hl : lv_has ls 2 [(0, .ref qw), (1, .int p1)] := hl
  rw [F_X1_movesUntilSame] at h
  refine lv_aload_n hx hb dX1_movesUntilSame_0 rfl (lv_at hl 0 rfl) ?_
  refine lv_aload_n hx hb dX1_movesUntilSame_1 rfl (lv_at hl 0 rfl) ?_
  refine lv_iload_n hx hb dX1_movesUntilSame_2 rfl (lv_at hl 1 rfl) ?_
  obtain ⟨r1, hr1, h⟩ := bd_t h
  refine rdV (As := [.int p1]) (rest := [.ref qw]) S hK (c_X1_moved l G qw qt qu ft fu p1 r1 hr1) mX1_moved q547 ⟨rfl, rfl, Nat.le_of_ble_eq_true rfl, Nat.le_of_ble_eq_true rfl⟩ hP rfl rfl rfl rfl hl.1 (Nat.le_of_ble_eq_true rfl) ⟨Nat.le_refl 0, Nat.le_refl 0⟩ dX1_movesUntilSame_3 ?_
  refine lv_iload_n hx hb dX1_movesUntilSame_6 rfl (lv_at hl 1 rfl) ?_
  obtain ⟨r2, hr2, h⟩ := bd_t h
  refine rdV (As := [.int r1, .int p1]) (rest := []) S hK (c_X1_movesUntilAlike l G qw qt qu ft fu r1 p1 r2 hr2) mX1_movesUntilAlike q551 ⟨rfl, rfl, Nat.le_of_ble_eq_true rfl, Nat.le_of_ble_eq_true rfl⟩ hP rfl rfl rfl rfl hl.1 (Nat.le_of_ble_eq_true rfl) ⟨Nat.le_refl 0, Nat.le_refl 0⟩ dX1_movesUntilSame_7 ?_
  refine lv_iconst (v := 1) hx hb dX1_movesUntilSame_10 (by decide) ?_
  refine lv_iadd hx hb dX1_movesUntilSame_11 ?_
  obtain rfl := Option.some.inj h
  exact retR S hr hlk rfl rfl dX1_movesUntilSame_12
set_option maxHeartbeats 4000000 in
set_option maxRecDepth 100000 in
theorem c_X1_movesUntilMeeting (l : Launch) (G : gG) (qw qt qu : Nat) (ft : Nat → Int32) (fu : Nat → Int32) (p1 p2 : Int32) (res : Int32) (h : F_X1_movesUntilMeeting ft p1 p2 = some res) : RdM l G yX1_movesUntilMeeting cX1_movesUntilMeeting 5 .int (rmk 2 44) [(qw, .inr (1, [.ref qt, .ref qu])), (qt, .inl (G.2.2.1, 24, .inl ft)), (qu, .inl (G.2.2.1, 24, .inl fu))] [.ref qw, .int p1, .int p2] res := by
  refine ofR (by decide) (Nat.le_of_ble_eq_true rfl) ?_
  intro p e s m below meth c ls S hr hlk hK hP hl
  have S : CallFix p m c cX1_movesUntilMeeting 5 s ([.ref qw, .int p1, .int p2] : List Value).toArray T0 RX1 := S
  obtain ⟨hx, hb, hml, hown, hts⟩ := id S
  have hl : lv_has ls 5 [(0, .ref qw), (1, .int p1), (2, .int p2)] := hl
  have L5 : ∀ (n : Nat) (x1 x2 x3 x4 : Int32), F_X1_movesUntilMeeting_5 ft n x1 x2 x3 x4 = some res → ∀ (ls : Array Slot), lv_has ls 5 [(0, .ref qw), (1, .int x1), (2, .int x2), (3, .int x3), (4, .int x4)] → W p l e (rmk 2 44) s m ([.ref qw, .int p1, .int p2] : List Value).toArray below meth c s.heap [] 0 0 (MQ below (vp_Si (fun x => x = res)) ([.ref qw, .int p1, .int p2] : List Value).toArray s 0 0 (fun _ => False)) (F0 m 5 ls []) := by
    intro n
    induction n with
    | zero => intro x1 x2 x3 x4 h; exact absurd (show (none : Option (Int32)) = some res from h) (fun q => by cases q)
    | succ n ih =>
      intro x1 x2 x3 x4 h ls hl
      rw [F_X1_movesUntilMeeting_5] at h
      refine lv_iload hx hb dX1_movesUntilMeeting_5 (lv_at hl 4 rfl) ?_
      refine lv_bipush (v := 24) hx hb dX1_movesUntilMeeting_7 (by decide) ?_
      refine lv_icmp_ge (tgt := 33) hx hb dX1_movesUntilMeeting_9 (by decide) (fun c1 => ?_) (fun c1 => ?_)
      · replace h := if_t c1 h
        refine lv_bipush (v := (-5)) hx hb dX1_movesUntilMeeting_33 (by decide) ?_
        obtain rfl := Option.some.inj h
        exact retR S hr hlk rfl rfl dX1_movesUntilMeeting_35
      · replace h := if_f c1 h
        refine lv_iload_n hx hb dX1_movesUntilMeeting_12 rfl (lv_at hl 3 rfl) ?_
        refine lv_iload_n hx hb dX1_movesUntilMeeting_13 rfl (lv_at hl 2 rfl) ?_
        refine lv_iand hx hb dX1_movesUntilMeeting_14 ?_
        refine lv_if_eq (tgt := 21) hx hb dX1_movesUntilMeeting_15 (by decide) (fun c2 => ?_) (fun c2 => ?_)
        · replace h := if_t c2 h
          refine lv_aload_n hx hb dX1_movesUntilMeeting_21 rfl (lv_at hl 0 rfl) ?_
          refine lv_iload_n hx hb dX1_movesUntilMeeting_22 rfl (lv_at hl 3 rfl) ?_
          obtain ⟨r3, hr3, h⟩ := bd_t h
          refine rdV (As := [.int x3]) (rest := []) S hK (c_X1_moved l G qw qt qu ft fu x3 r3 hr3) mX1_moved q547 ⟨rfl, rfl, Nat.le_of_ble_eq_true rfl, Nat.le_of_ble_eq_true rfl⟩ hP rfl rfl rfl rfl hl.1 (Nat.le_of_ble_eq_true rfl) ⟨Nat.le_refl 0, Nat.le_refl 0⟩ dX1_movesUntilMeeting_23 ?_
          refine lv_istore_n (lv' := [(3, .int r3), (0, .ref qw), (1, .int x1), (2, .int x2), (4, .int x4)]) hx hb dX1_movesUntilMeeting_26 rfl hl (by decide) rfl (fun ls hl => ?_)
          refine lv_iinc (v := x4 + 1) (lv' := [(4, .int (x4 + 1)), (3, .int r3), (0, .ref qw), (1, .int x1), (2, .int x2)]) hx hb dX1_movesUntilMeeting_27 hl (k := 4) rfl rfl (by decide) rfl (fun ls hl => ?_)
          refine lv_goto (tgt := 5) hx hb dX1_movesUntilMeeting_30 (by decide) ?_
          exact ih x1 x2 r3 (x4 + 1)  h ls (lv_sub hl [2, 3, 4, 1, 0] rfl)
        · replace h := if_f c2 h
          refine lv_iload hx hb dX1_movesUntilMeeting_18 (lv_at hl 4 rfl) ?_
          obtain rfl := Option.some.inj h
          exact retR S hr hlk rfl rfl dX1_movesUntilMeeting_20
  rw [F_X1_movesUntilMeeting] at h
  refine lv_iload_n hx hb dX1_movesUntilMeeting_0 rfl (lv_at hl 1 rfl) ?_
  refine lv_istore_n (lv' := [(3, .int p1), (0, .ref qw), (1, .int p1), (2, .int p2)]) hx hb dX1_movesUntilMeeting_1 rfl hl (by decide) rfl (fun ls hl => ?_)
  refine lv_iconst (v := 0) hx hb dX1_movesUntilMeeting_2 (by decide) ?_
  refine lv_istore (lv' := [(4, .int 0), (3, .int p1), (0, .ref qw), (1, .int p1), (2, .int p2)]) hx hb dX1_movesUntilMeeting_3 hl (by decide) rfl (fun ls hl => ?_)
  exact L5 10000 p1 p2 p1 0  h ls (lv_sub hl [2, 3, 4, 1, 0] rfl)
set_option maxHeartbeats 4000000 in
set_option maxRecDepth 100000 in
theorem c_X1_hasLikeNumbersInRounds (l : Launch) (G : gG) (qw qt qu : Nat) (ft : Nat → Int32) (fu : Nat → Int32) (p1 p2 : Int32) (res : Int32) (h : F_X1_hasLikeNumbersInRounds ft p1 p2 = some res) : RdM l G yX1_hasLikeNumbersInRounds cX1_hasLikeNumbersInRounds 5 .boolean (rmk 2 45) [(qw, .inr (1, [.ref qt, .ref qu])), (qt, .inl (G.2.2.1, 24, .inl ft)), (qu, .inl (G.2.2.1, 24, .inl fu))] [.ref qw, .int p1, .int p2] res := by
  refine ofR (by decide) (Nat.le_of_ble_eq_true rfl) ?_
  intro p e s m below meth c ls S hr hlk hK hP hl
  have S : CallFix p m c cX1_hasLikeNumbersInRounds 5 s ([.ref qw, .int p1, .int p2] : List Value).toArray T0 RX1 := S
  obtain ⟨hx, hb, hml, hown, hts⟩ := id S
  have hl : lv_has ls 5 [(0, .ref qw), (1, .int p1), (2, .int p2)] := hl
  have L2 : ∀ (n : Nat) (x1 x2 x3 : Int32), F_X1_hasLikeNumbersInRounds_2 ft n x1 x2 x3 = some res → ∀ (ls : Array Slot), lv_has ls 5 [(0, .ref qw), (1, .int x1), (2, .int x2), (3, .int x3)] → W p l e (rmk 2 45) s m ([.ref qw, .int p1, .int p2] : List Value).toArray below meth c s.heap [] 0 0 (MQ below (vp_Si (fun x => x = res)) ([.ref qw, .int p1, .int p2] : List Value).toArray s 0 0 (fun _ => False)) (F0 m 2 ls []) := by
    intro n
    induction n with
    | zero => intro x1 x2 x3 h; exact absurd (show (none : Option (Int32)) = some res from h) (fun q => by cases q)
    | succ n ih =>
      intro x1 x2 x3 h ls hl
      rw [F_X1_hasLikeNumbersInRounds_2] at h
      refine lv_iload_n hx hb dX1_hasLikeNumbersInRounds_2 rfl (lv_at hl 3 rfl) ?_
      refine lv_bipush (v := 24) hx hb dX1_hasLikeNumbersInRounds_3 (by decide) ?_
      refine lv_icmp_ge (tgt := 40) hx hb dX1_hasLikeNumbersInRounds_5 (by decide) (fun c1 => ?_) (fun c1 => ?_)
      · replace h := if_t c1 h
        refine lv_iconst (v := 1) hx hb dX1_hasLikeNumbersInRounds_40 (by decide) ?_
        obtain rfl := Option.some.inj h
        exact retR S hr hlk rfl rfl dX1_hasLikeNumbersInRounds_41
      · replace h := if_f c1 h
        refine lv_aload_n hx hb dX1_hasLikeNumbersInRounds_8 rfl (lv_at hl 0 rfl) ?_
        refine lv_iload_n hx hb dX1_hasLikeNumbersInRounds_9 rfl (lv_at hl 3 rfl) ?_
        obtain ⟨r2, hr2, h⟩ := bd_t h
        refine rdV (As := [.int x3]) (rest := []) S hK (c_X1_round l G qw qt qu ft fu x3 r2 hr2) mX1_round q252 ⟨rfl, rfl, Nat.le_of_ble_eq_true rfl, Nat.le_of_ble_eq_true rfl⟩ hP rfl rfl rfl rfl hl.1 (Nat.le_of_ble_eq_true rfl) ⟨Nat.le_refl 0, Nat.le_refl 0⟩ dX1_hasLikeNumbersInRounds_10 ?_
        refine lv_istore (lv' := [(4, .int r2), (0, .ref qw), (1, .int x1), (2, .int x2), (3, .int x3)]) hx hb dX1_hasLikeNumbersInRounds_13 hl (by decide) rfl (fun ls hl => ?_)
        refine lv_iload_n hx hb dX1_hasLikeNumbersInRounds_15 rfl (lv_at hl 2 rfl) ?_
        refine lv_iload hx hb dX1_hasLikeNumbersInRounds_16 (lv_at hl 0 rfl) ?_
        refine lv_iand hx hb dX1_hasLikeNumbersInRounds_18 ?_
        obtain ⟨r3, hr3, h⟩ := bd_t h
        refine rdS (As := [.int (x1 &&& r2)]) (rest := []) S hK (c_J6_bitCount_0f7a4 l G (x1 &&& r2) r3 hr3) mJ6_bitCount_0f7a4 q257 ⟨rfl, rfl, Nat.le_of_ble_eq_true rfl, Nat.le_of_ble_eq_true rfl⟩ (ws_nil G.1 _) rfl hl.1 (Nat.le_of_ble_eq_true rfl) ⟨Nat.le_refl 0, Nat.le_refl 0⟩ dX1_hasLikeNumbersInRounds_19 ?_
        refine lv_iload_n hx hb dX1_hasLikeNumbersInRounds_22 rfl (lv_at hl 3 rfl) ?_
        refine lv_iload hx hb dX1_hasLikeNumbersInRounds_23 (lv_at hl 0 rfl) ?_
        refine lv_iand hx hb dX1_hasLikeNumbersInRounds_25 ?_
        obtain ⟨r4, hr4, h⟩ := bd_t h
        refine rdS (As := [.int (x2 &&& r2)]) (rest := [.int r3]) S hK (c_J6_bitCount_0f7a4 l G (x2 &&& r2) r4 hr4) mJ6_bitCount_0f7a4 q257 ⟨rfl, rfl, Nat.le_of_ble_eq_true rfl, Nat.le_of_ble_eq_true rfl⟩ (ws_nil G.1 _) rfl hl.1 (Nat.le_of_ble_eq_true rfl) ⟨Nat.le_refl 0, Nat.le_refl 0⟩ dX1_hasLikeNumbersInRounds_26 ?_
        refine lv_icmp_eq (tgt := 34) hx hb dX1_hasLikeNumbersInRounds_29 (by decide) (fun c5 => ?_) (fun c5 => ?_)
        · replace h := if_t c5 h
          refine lv_iinc (v := x3 + 1) (lv' := [(3, .int (x3 + 1)), (4, .int r2), (0, .ref qw), (1, .int x1), (2, .int x2)]) hx hb dX1_hasLikeNumbersInRounds_34 hl (k := 4) rfl rfl (by decide) rfl (fun ls hl => ?_)
          refine lv_goto (tgt := 2) hx hb dX1_hasLikeNumbersInRounds_37 (by decide) ?_
          exact ih x1 x2 (x3 + 1)  h ls (lv_sub hl [2, 3, 4, 0] rfl)
        · replace h := if_f c5 h
          refine lv_iconst (v := 0) hx hb dX1_hasLikeNumbersInRounds_32 (by decide) ?_
          obtain rfl := Option.some.inj h
          exact retR S hr hlk rfl rfl dX1_hasLikeNumbersInRounds_33
  rw [F_X1_hasLikeNumbersInRounds] at h
  refine lv_iconst (v := 0) hx hb dX1_hasLikeNumbersInRounds_0 (by decide) ?_
  refine lv_istore_n (lv' := [(3, .int 0), (0, .ref qw), (1, .int p1), (2, .int p2)]) hx hb dX1_hasLikeNumbersInRounds_1 rfl hl (by decide) rfl (fun ls hl => ?_)
  exact L2 10000 p1 p2 0  h ls (lv_sub hl [1, 2, 3, 0] rfl)
set_option maxHeartbeats 4000000 in
set_option maxRecDepth 100000 in
theorem c_X1_send (l : Launch) (G : gG) (qw qt qu : Nat) (ft : Nat → Int32) (fu : Nat → Int32) (p1 p2 : Int32) (sz : Nat) (res : (Nat → Int32) × (Nat → Int32)) (h : F_X1_send ft fu p1 p2 = some res) : WrM l G yX1_send cX1_send 3 none (rmk 1 20) [(qw, .inr (1, [.ref qt, .ref qu])), (qt, .inl (G.2.2.1, 24, .inl ft)), (qu, .inl (G.2.2.1, 24, .inl fu))] sz [.ref qw, .int p1, .int p2] none [(qw, .inr (1, [.ref qt, .ref qu])), (qt, .inl (G.2.2.1, 24, .inl res.1)), (qu, .inl (G.2.2.1, 24, .inl res.2))] := by
  refine ofWr (by decide) (Nat.le_of_ble_eq_true rfl) ?_
  intro p e s m below meth c ls A S hr hlk hK hP hD hS hA hl
  have S : CallFix p m c cX1_send 3 s ([.ref qw, .int p1, .int p2] : List Value).toArray T0 RX1 := S
  obtain ⟨hx, hb, hml, hown, hts⟩ := id S
  have hl : lv_has ls 3 [(0, .ref qw), (1, .int p1), (2, .int p2)] := hl
  rw [F_X1_send] at h
  refine lv_iload_n hx hb dX1_send_0 rfl (lv_at hl 1 rfl) ?_
  obtain ⟨r1, hr1, h⟩ := bd_t h
  refine rdN (As := [.int p1]) (rest := []) S hK (c_X4_isPlace l G p1 r1 hr1) mX4_isPlace 3 rfl ⟨rfl, rfl, Nat.le_of_ble_eq_true rfl, Nat.le_of_ble_eq_true rfl⟩ (ws_nil G.1 _) rfl hl.1 (Nat.le_of_ble_eq_true rfl) ⟨Nat.le_refl 0, Nat.le_refl 0⟩ dX1_send_1 ?_
  refine lv_if_eq (tgt := 28) hx hb dX1_send_4 (by decide) (fun c2 => ?_) (fun c2 => ?_)
  · replace h := if_t c2 h
    obtain rfl := Option.some.inj h
    exact retV S hr hlk hP hD hS dX1_send_28
  · replace h := if_f c2 h
    refine lv_iload_n hx hb dX1_send_7 rfl (lv_at hl 2 rfl) ?_
    obtain ⟨r3, hr3, h⟩ := bd_t h
    refine rdN (As := [.int p2]) (rest := []) S hK (c_X4_isPlace l G p2 r3 hr3) mX4_isPlace 3 rfl ⟨rfl, rfl, Nat.le_of_ble_eq_true rfl, Nat.le_of_ble_eq_true rfl⟩ (ws_nil G.1 _) rfl hl.1 (Nat.le_of_ble_eq_true rfl) ⟨Nat.le_refl 0, Nat.le_refl 0⟩ dX1_send_8 ?_
    refine lv_if_eq (tgt := 28) hx hb dX1_send_11 (by decide) (fun c4 => ?_) (fun c4 => ?_)
    · replace h := if_t c4 h
      obtain rfl := Option.some.inj h
      exact retV S hr hlk hP hD hS dX1_send_28
    · replace h := if_f c4 h
      refine lv_aload_n hx hb dX1_send_14 rfl (lv_at hl 0 rfl) ?_
      refine gf S hK iX1 hP 0 rfl rfl 0 (by decide) q41 rfl dX1_send_15 ?_
      refine lv_iload_n hx hb dX1_send_18 rfl (lv_at hl 1 rfl) ?_
      refine lv_iload_n hx hb dX1_send_19 rfl (lv_at hl 2 rfl) ?_
      obtain ⟨k5, h⟩ := ck_t h
      refine ast S hK hP hD hS 1 rfl (ok_vp k5) [(qw, .inr (1, [.ref qt, .ref qu])), (qt, .inl (G.2.2.1, 24, .inl (upd ft (Int32.toNatClampNeg p1) p2))), (qu, .inl (G.2.2.1, 24, .inl fu))] rfl dX1_send_20 (fun H locs hP hD hS => ?_)
      refine lv_aload_n hx hb dX1_send_21 rfl (lv_at hl 0 rfl) ?_
      refine gf S hK iX1 hP 0 rfl rfl 1 (by decide) q42 rfl dX1_send_22 ?_
      refine lv_iload_n hx hb dX1_send_25 rfl (lv_at hl 2 rfl) ?_
      refine lv_iload_n hx hb dX1_send_26 rfl (lv_at hl 1 rfl) ?_
      obtain ⟨k6, h⟩ := ck_t h
      refine ast S hK hP hD hS 2 rfl (ok_vp k6) [(qw, .inr (1, [.ref qt, .ref qu])), (qt, .inl (G.2.2.1, 24, .inl (upd ft (Int32.toNatClampNeg p1) p2))), (qu, .inl (G.2.2.1, 24, .inl (upd fu (Int32.toNatClampNeg p2) p1)))] rfl dX1_send_27 (fun H locs hP hD hS => ?_)
      obtain rfl := Option.some.inj h
      exact retV S hr hlk hP hD hS dX1_send_28
set_option maxHeartbeats 4000000 in
set_option maxRecDepth 100000 in
theorem c_X1_swapTargets (l : Launch) (G : gG) (qw qt qu : Nat) (ft : Nat → Int32) (fu : Nat → Int32) (p1 p2 : Int32) (sz : Nat) (res : (Nat → Int32) × (Nat → Int32)) (h : F_X1_swapTargets ft fu p1 p2 = some res) : WrM l G yX1_swapTargets cX1_swapTargets 4 none (rmk 2 42) [(qw, .inr (1, [.ref qt, .ref qu])), (qt, .inl (G.2.2.1, 24, .inl ft)), (qu, .inl (G.2.2.1, 24, .inl fu))] sz [.ref qw, .int p1, .int p2] none [(qw, .inr (1, [.ref qt, .ref qu])), (qt, .inl (G.2.2.1, 24, .inl res.1)), (qu, .inl (G.2.2.1, 24, .inl res.2))] := by
  refine ofWr (by decide) (Nat.le_of_ble_eq_true rfl) ?_
  intro p e s m below meth c ls A S hr hlk hK hP hD hS hA hl
  have S : CallFix p m c cX1_swapTargets 4 s ([.ref qw, .int p1, .int p2] : List Value).toArray T0 RX1 := S
  obtain ⟨hx, hb, hml, hown, hts⟩ := id S
  have hl : lv_has ls 4 [(0, .ref qw), (1, .int p1), (2, .int p2)] := hl
  rw [F_X1_swapTargets] at h
  refine lv_aload_n hx hb dX1_swapTargets_0 rfl (lv_at hl 0 rfl) ?_
  refine lv_iload_n hx hb dX1_swapTargets_1 rfl (lv_at hl 1 rfl) ?_
  obtain ⟨r1, hr1, h⟩ := bd_t h
  refine rdV (As := [.int p1]) (rest := []) S hK (c_X1_target l G qw qt qu ft fu p1 r1 hr1) mX1_target q466 ⟨rfl, rfl, Nat.le_of_ble_eq_true rfl, Nat.le_of_ble_eq_true rfl⟩ hP rfl rfl rfl rfl hl.1 (Nat.le_of_ble_eq_true rfl) ⟨Nat.le_refl 0, Nat.le_refl 0⟩ dX1_swapTargets_2 ?_
  refine lv_istore_n (lv' := [(3, .int r1), (0, .ref qw), (1, .int p1), (2, .int p2)]) hx hb dX1_swapTargets_5 rfl hl (by decide) rfl (fun ls hl => ?_)
  refine lv_aload_n hx hb dX1_swapTargets_6 rfl (lv_at hl 1 rfl) ?_
  refine lv_iload_n hx hb dX1_swapTargets_7 rfl (lv_at hl 2 rfl) ?_
  refine lv_aload_n hx hb dX1_swapTargets_8 rfl (lv_at hl 1 rfl) ?_
  refine lv_iload_n hx hb dX1_swapTargets_9 rfl (lv_at hl 3 rfl) ?_
  obtain ⟨r2, hr2, h⟩ := bd_t h
  refine rdV (As := [.int p2]) (rest := [.int p1, .ref qw]) S hK (c_X1_target l G qw qt qu ft fu p2 r2 hr2) mX1_target q466 ⟨rfl, rfl, Nat.le_of_ble_eq_true rfl, Nat.le_of_ble_eq_true rfl⟩ hP rfl rfl rfl rfl hl.1 (Nat.le_of_ble_eq_true rfl) ⟨Nat.le_refl 0, Nat.le_refl 0⟩ dX1_swapTargets_10 ?_
  obtain ⟨r3, hr3, h⟩ := bd_t h
  refine wrV (As := [.int p1, .int r2]) (rest := []) (ws := [(qw, .inr (1, [.ref qt, .ref qu])), (qt, .inl (G.2.2.1, 24, .inl ft)), (qu, .inl (G.2.2.1, 24, .inl fu))]) (wr := []) (ws' := [(qw, .inr (1, [.ref qt, .ref qu])), (qt, .inl (G.2.2.1, 24, .inl r3.1)), (qu, .inl (G.2.2.1, 24, .inl r3.2))]) (ws1 := [(qw, .inr (1, [.ref qt, .ref qu])), (qt, .inl (G.2.2.1, 24, .inl r3.1)), (qu, .inl (G.2.2.1, 24, .inl r3.2))]) S hK (c_X1_send l G qw qt qu ft fu p1 r2 _ r3 hr3) mX1_send q242 ⟨rfl, rfl, Nat.le_of_ble_eq_true rfl, Nat.le_of_ble_eq_true rfl⟩ hP hD hS hA [0, 1, 2] [] [0, 1, 2] rfl rfl (by decide) (by decide) (by decide) rfl (by decide) rfl rfl rfl rfl hl.1 (Nat.le_of_ble_eq_true rfl) ⟨Nat.le_refl 0, Nat.le_refl 0⟩ dX1_swapTargets_13 (fun H locs hP hD hS => ?_)
  refine lv_aload_n hx hb dX1_swapTargets_16 rfl (lv_at hl 1 rfl) ?_
  refine lv_iload_n hx hb dX1_swapTargets_17 rfl (lv_at hl 3 rfl) ?_
  refine lv_iload_n hx hb dX1_swapTargets_18 rfl (lv_at hl 0 rfl) ?_
  obtain ⟨r4, hr4, h⟩ := bd_t h
  refine wrV (As := [.int p2, .int r1]) (rest := []) (ws := [(qw, .inr (1, [.ref qt, .ref qu])), (qt, .inl (G.2.2.1, 24, .inl r3.1)), (qu, .inl (G.2.2.1, 24, .inl r3.2))]) (wr := []) (ws' := [(qw, .inr (1, [.ref qt, .ref qu])), (qt, .inl (G.2.2.1, 24, .inl r4.1)), (qu, .inl (G.2.2.1, 24, .inl r4.2))]) (ws1 := [(qw, .inr (1, [.ref qt, .ref qu])), (qt, .inl (G.2.2.1, 24, .inl r4.1)), (qu, .inl (G.2.2.1, 24, .inl r4.2))]) S hK (c_X1_send l G qw qt qu r3.1 r3.2 p2 r1 _ r4 hr4) mX1_send q242 ⟨rfl, rfl, Nat.le_of_ble_eq_true rfl, Nat.le_of_ble_eq_true rfl⟩ hP hD hS hA [0, 1, 2] [] [0, 1, 2] rfl rfl (by decide) (by decide) (by decide) rfl (by decide) rfl rfl rfl rfl hl.1 (Nat.le_of_ble_eq_true rfl) ⟨Nat.le_refl 0, Nat.le_refl 0⟩ dX1_swapTargets_19 (fun H locs hP hD hS => ?_)
  obtain rfl := Option.some.inj h
  exact retV S hr hlk hP hD hS dX1_swapTargets_22
set_option maxHeartbeats 4000000 in
set_option maxRecDepth 100000 in
theorem c_X1_copy (l : Launch) (G : gG) (qw qt qu sqw sqt squ : Nat) (ft : Nat → Int32) (fu : Nat → Int32) (sft : Nat → Int32) (sfu : Nat → Int32) (sz : Nat) (res : (Nat → Int32) × (Nat → Int32)) (h : F_X1_copy ft fu sft sfu = some res) : WrM l G yX1_copy cX1_copy 2 none (rmk 1 40) [(qw, .inr (1, [.ref qt, .ref qu])), (qt, .inl (G.2.2.1, 24, .inl ft)), (qu, .inl (G.2.2.1, 24, .inl fu)), (sqw, .inr (1, [.ref sqt, .ref squ])), (sqt, .inl (G.2.2.1, 24, .inl sft)), (squ, .inl (G.2.2.1, 24, .inl sfu))] sz [.ref qw, .ref sqw] none [(qw, .inr (1, [.ref qt, .ref qu])), (qt, .inl (G.2.2.1, 24, .inl res.1)), (qu, .inl (G.2.2.1, 24, .inl res.2)), (sqw, .inr (1, [.ref sqt, .ref squ])), (sqt, .inl (G.2.2.1, 24, .inl sft)), (squ, .inl (G.2.2.1, 24, .inl sfu))] := by
  refine ofWr (by decide) (Nat.le_of_ble_eq_true rfl) ?_
  intro p e s m below meth c ls A S hr hlk hK hP hD hS hA hl
  have S : CallFix p m c cX1_copy 2 s ([.ref qw, .ref sqw] : List Value).toArray T0 RX1 := S
  obtain ⟨hx, hb, hml, hown, hts⟩ := id S
  have hl : lv_has ls 2 [(0, .ref qw), (1, .ref sqw)] := hl
  rw [F_X1_copy] at h
  refine lv_aload_n hx hb dX1_copy_0 rfl (lv_at hl 1 rfl) ?_
  refine gf S hK iX1 hP 3 rfl rfl 0 (by decide) q41 rfl dX1_copy_1 ?_
  refine lv_iconst (v := 0) hx hb dX1_copy_4 (by decide) ?_
  refine lv_aload_n hx hb dX1_copy_5 rfl (lv_at hl 0 rfl) ?_
  refine gf S hK iX1 hP 0 rfl rfl 0 (by decide) q41 rfl dX1_copy_6 ?_
  refine lv_iconst (v := 0) hx hb dX1_copy_9 (by decide) ?_
  refine lv_bipush (v := 24) hx hb dX1_copy_10 (by decide) ?_
  refine va_copyi hx hb (hml.trans hl.1.symm) hown (hts _ q227) (hts _ q229) (hts _ q228) (hts _ q18) hK.1 hP hD hS 4 1 1 1 rfl rfl rfl rfl rfl (by decide) (by decide) (by decide) (by decide) (by decide) (fun _ _ => rfl) (Nat.le_of_ble_eq_true rfl) (by decide) dX1_copy_12 (fun H locs hP hD hS => ?_)
  have hP : va_P G.1 vwCl [(qw, .inr (1, [.ref qt, .ref qu])), (qt, .inl (G.2.2.1, 24, .inl (va_cpy sft ft (Int32.toNatClampNeg 0) (Int32.toNatClampNeg 0) (Int32.toNatClampNeg 24)))), (qu, .inl (G.2.2.1, 24, .inl fu)), (sqw, .inr (1, [.ref sqt, .ref squ])), (sqt, .inl (G.2.2.1, 24, .inl sft)), (squ, .inl (G.2.2.1, 24, .inl sfu))] H := hP
  have hD : va_D A [(qw, .inr (1, [.ref qt, .ref qu])), (qt, .inl (G.2.2.1, 24, .inl (va_cpy sft ft (Int32.toNatClampNeg 0) (Int32.toNatClampNeg 0) (Int32.toNatClampNeg 24)))), (qu, .inl (G.2.2.1, 24, .inl fu)), (sqw, .inr (1, [.ref sqt, .ref squ])), (sqt, .inl (G.2.2.1, 24, .inl sft)), (squ, .inl (G.2.2.1, 24, .inl sfu))] := hD
  refine lv_aload_n hx hb dX1_copy_15 rfl (lv_at hl 1 rfl) ?_
  refine gf S hK iX1 hP 3 rfl rfl 1 (by decide) q42 rfl dX1_copy_16 ?_
  refine lv_iconst (v := 0) hx hb dX1_copy_19 (by decide) ?_
  refine lv_aload_n hx hb dX1_copy_20 rfl (lv_at hl 0 rfl) ?_
  refine gf S hK iX1 hP 0 rfl rfl 1 (by decide) q42 rfl dX1_copy_21 ?_
  refine lv_iconst (v := 0) hx hb dX1_copy_24 (by decide) ?_
  refine lv_bipush (v := 24) hx hb dX1_copy_25 (by decide) ?_
  refine va_copyi hx hb (hml.trans hl.1.symm) hown (hts _ q227) (hts _ q229) (hts _ q228) (hts _ q18) hK.1 hP hD hS 5 2 1 1 rfl rfl rfl rfl rfl (by decide) (by decide) (by decide) (by decide) (by decide) (fun _ _ => rfl) (Nat.le_of_ble_eq_true rfl) (by decide) dX1_copy_27 (fun H locs hP hD hS => ?_)
  have hP : va_P G.1 vwCl [(qw, .inr (1, [.ref qt, .ref qu])), (qt, .inl (G.2.2.1, 24, .inl (va_cpy sft ft (Int32.toNatClampNeg 0) (Int32.toNatClampNeg 0) (Int32.toNatClampNeg 24)))), (qu, .inl (G.2.2.1, 24, .inl (va_cpy sfu fu (Int32.toNatClampNeg 0) (Int32.toNatClampNeg 0) (Int32.toNatClampNeg 24)))), (sqw, .inr (1, [.ref sqt, .ref squ])), (sqt, .inl (G.2.2.1, 24, .inl sft)), (squ, .inl (G.2.2.1, 24, .inl sfu))] H := hP
  have hD : va_D A [(qw, .inr (1, [.ref qt, .ref qu])), (qt, .inl (G.2.2.1, 24, .inl (va_cpy sft ft (Int32.toNatClampNeg 0) (Int32.toNatClampNeg 0) (Int32.toNatClampNeg 24)))), (qu, .inl (G.2.2.1, 24, .inl (va_cpy sfu fu (Int32.toNatClampNeg 0) (Int32.toNatClampNeg 0) (Int32.toNatClampNeg 24)))), (sqw, .inr (1, [.ref sqt, .ref squ])), (sqt, .inl (G.2.2.1, 24, .inl sft)), (squ, .inl (G.2.2.1, 24, .inl sfu))] := hD
  obtain rfl := Option.some.inj h
  exact retV S hr hlk hP hD hS dX1_copy_30
set_option maxHeartbeats 4000000 in
set_option maxRecDepth 100000 in
theorem c_X1_turnBack (l : Launch) (G : gG) (qw qt qu : Nat) (ft : Nat → Int32) (fu : Nat → Int32) (sz : Nat) (res : Nat × Nat) (h : F_X1_turnBack qt qu = some res) : WrM l G yX1_turnBack cX1_turnBack 2 none (rmk 0 0) [(qw, .inr (1, [.ref qt, .ref qu])), (qt, .inl (G.2.2.1, 24, .inl ft)), (qu, .inl (G.2.2.1, 24, .inl fu))] sz [.ref qw] none [(qw, .inr (1, [.ref res.1, .ref res.2])), (qt, .inl (G.2.2.1, 24, .inl ft)), (qu, .inl (G.2.2.1, 24, .inl fu))] := by
  refine ofWr (by decide) (Nat.le_of_ble_eq_true rfl) ?_
  intro p e s m below meth c ls A S hr hlk hK hP hD hS hA hl
  have S : CallFix p m c cX1_turnBack 2 s ([.ref qw] : List Value).toArray T0 RX1 := S
  obtain ⟨hx, hb, hml, hown, hts⟩ := id S
  have hl : lv_has ls 2 [(0, .ref qw)] := hl
  rw [F_X1_turnBack] at h
  refine lv_aload_n hx hb dX1_turnBack_0 rfl (lv_at hl 0 rfl) ?_
  refine gf S hK iX1 hP 0 rfl rfl 0 (by decide) q41 rfl dX1_turnBack_1 ?_
  refine lv_astore_n (lv' := [(1, .ref qt), (0, .ref qw)]) hx hb dX1_turnBack_4 rfl hl (by decide) rfl (fun ls hl => ?_)
  refine lv_aload_n hx hb dX1_turnBack_5 rfl (lv_at hl 1 rfl) ?_
  refine lv_aload_n hx hb dX1_turnBack_6 rfl (lv_at hl 1 rfl) ?_
  refine gf S hK iX1 hP 0 rfl rfl 1 (by decide) q42 rfl dX1_turnBack_7 ?_
  refine pf S hK iX1 tyX1 tyX1_ok nmX1 hP hD hS 0 rfl rfl 0 (by decide) q41 rfl rfl rfl (Nat.le_of_ble_eq_true rfl) [(qw, .inr (1, [.ref qu, .ref qu])), (qt, .inl (G.2.2.1, 24, .inl ft)), (qu, .inl (G.2.2.1, 24, .inl fu))] rfl dX1_turnBack_10 (fun H locs hP hD hS => ?_)
  refine lv_aload_n hx hb dX1_turnBack_13 rfl (lv_at hl 1 rfl) ?_
  refine lv_aload_n hx hb dX1_turnBack_14 rfl (lv_at hl 0 rfl) ?_
  refine pf S hK iX1 tyX1 tyX1_ok nmX1 hP hD hS 0 rfl rfl 1 (by decide) q42 rfl rfl rfl (Nat.le_of_ble_eq_true rfl) [(qw, .inr (1, [.ref qu, .ref qt])), (qt, .inl (G.2.2.1, 24, .inl ft)), (qu, .inl (G.2.2.1, 24, .inl fu))] rfl dX1_turnBack_15 (fun H locs hP hD hS => ?_)
  obtain rfl := Option.some.inj h
  exact retV S hr hlk hP hD hS dX1_turnBack_18
