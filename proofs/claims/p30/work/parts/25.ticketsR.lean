set_option maxHeartbeats 4000000 in
set_option maxRecDepth 100000 in
theorem c_X4_place (l : Launch) (G : gG) (oqa kqa hqa xqa qa qw qt qu qh qd qb : Nat) (isk : Int32) (sold : Int32) (stk : Int32) (pun : Int32) (fra : Int32) (tur : Int32) (ft : Nat → Int32) (fu : Nat → Int32) (fh : Nat → Int32) (fd : Nat → Int32) (fb : Nat → Int32) (p1 p2 : Int32) (res : Int32) (h : F_X4_place sold ft fu fh p1 p2 = some res) : RdM l G yX4_place cX4_place 3 .int (rmk 3 65) [(oqa, .inr (4, [.ref qa, .ref kqa, .int isk, .ref hqa, .ref xqa])), (qa, .inr (3, [.ref qw, .ref qh, .ref qd, .ref qb, .int sold, .int stk, .int pun, .int fra, .int tur])), (qw, .inr (1, [.ref qt, .ref qu])), (qt, .inl (G.2.2.1, 24, .inl ft)), (qu, .inl (G.2.2.1, 24, .inl fu)), (qh, .inl (G.2.2.1, 12, .inl fh)), (qd, .inl (G.2.2.1, 12, .inl fd)), (qb, .inl (G.2.2.1, 12, .inl fb))] [.ref oqa, .int p1, .int p2] res := by
  refine ofR (by decide) (Nat.le_of_ble_eq_true rfl) ?_
  intro p e s m below meth c ls S hr hlk hK hP hl
  have S : CallFix p m c cX4_place 3 s ([.ref oqa, .int p1, .int p2] : List Value).toArray T0 RX4 := S
  obtain ⟨hx, hb, hml, hown, hts⟩ := id S
  have hl : lv_has ls 3 [(0, .ref oqa), (1, .int p1), (2, .int p2)] := hl
  rw [F_X4_place] at h
  refine lv_iload_n hx hb dX4_place_0 rfl (lv_at hl 1 rfl) ?_
  obtain ⟨r1, hr1, h⟩ := bd_t h
  refine rdS (As := [.int p1]) (rest := []) S hK (c_X4_isPlace l G p1 r1 hr1) mX4_isPlace q336 ⟨rfl, rfl, Nat.le_of_ble_eq_true rfl, Nat.le_of_ble_eq_true rfl⟩ (ws_nil G.1 _) rfl hl.1 (Nat.le_of_ble_eq_true rfl) ⟨Nat.le_refl 0, Nat.le_refl 0⟩ dX4_place_1 ?_
  refine lv_if_ne (tgt := 9) hx hb dX4_place_4 (by decide) (fun c2 => ?_) (fun c2 => ?_)
  · replace h := if_f c2 h
    refine lv_iload_n hx hb dX4_place_9 rfl (lv_at hl 2 rfl) ?_
    by_cases z10_0 : p2 = 0
    · replace h := if_t z10_0 h
      refine lv_tableIn (off := 34) (tgt := 44) hx hb dX4_place_10 (by rw [z10_0]; decide) (by rw [z10_0]; decide) (by rw [z10_0]; rfl) (by decide) ?_
      refine lv_aload_n hx hb dX4_place_44 rfl (lv_at hl 0 rfl) ?_
      refine gf S hK iX4 hP 0 rfl rfl 0 (by decide) q135 rfl dX4_place_45 ?_
      refine gfN S hK iX3 hP 1 rfl rfl 0 (by decide) 0 rfl rfl dX4_place_48 ?_
      refine lv_iload_n hx hb dX4_place_51 rfl (lv_at hl 1 rfl) ?_
      obtain ⟨r3, hr3, h⟩ := bd_t h
      refine rdV (As := [.int p1]) (rest := []) S hK (c_X1_target l G qw qt qu ft fu p1 r3 hr3) mX1_target q337 ⟨rfl, rfl, Nat.le_of_ble_eq_true rfl, Nat.le_of_ble_eq_true rfl⟩ (hP.sub (ws' := [(qw, .inr (1, [.ref qt, .ref qu])), (qt, .inl (G.2.2.1, 24, .inl ft)), (qu, .inl (G.2.2.1, 24, .inl fu))]) [2, 3, 4] rfl) rfl rfl rfl rfl hl.1 (Nat.le_of_ble_eq_true rfl) ⟨Nat.le_refl 0, Nat.le_refl 0⟩ dX4_place_52 ?_
      obtain rfl := Option.some.inj h
      exact retR S hr hlk rfl rfl dX4_place_55
    replace h := if_f z10_0 h
    by_cases z10_1 : p2 = 1
    · replace h := if_t z10_1 h
      refine lv_tableIn (off := 46) (tgt := 56) hx hb dX4_place_10 (by rw [z10_1]; decide) (by rw [z10_1]; decide) (by rw [z10_1]; rfl) (by decide) ?_
      refine lv_aload_n hx hb dX4_place_56 rfl (lv_at hl 0 rfl) ?_
      refine gf S hK iX4 hP 0 rfl rfl 0 (by decide) q135 rfl dX4_place_57 ?_
      refine gfN S hK iX3 hP 1 rfl rfl 0 (by decide) 0 rfl rfl dX4_place_60 ?_
      refine lv_iload_n hx hb dX4_place_63 rfl (lv_at hl 1 rfl) ?_
      obtain ⟨r4, hr4, h⟩ := bd_t h
      refine rdV (As := [.int p1]) (rest := []) S hK (c_X1_source l G qw qt qu ft fu p1 r4 hr4) mX1_source q341 ⟨rfl, rfl, Nat.le_of_ble_eq_true rfl, Nat.le_of_ble_eq_true rfl⟩ (hP.sub (ws' := [(qw, .inr (1, [.ref qt, .ref qu])), (qt, .inl (G.2.2.1, 24, .inl ft)), (qu, .inl (G.2.2.1, 24, .inl fu))]) [2, 3, 4] rfl) rfl rfl rfl rfl hl.1 (Nat.le_of_ble_eq_true rfl) ⟨Nat.le_refl 0, Nat.le_refl 0⟩ dX4_place_64 ?_
      obtain rfl := Option.some.inj h
      exact retR S hr hlk rfl rfl dX4_place_67
    replace h := if_f z10_1 h
    by_cases z10_2 : p2 = 2
    · replace h := if_t z10_2 h
      refine lv_tableIn (off := 58) (tgt := 68) hx hb dX4_place_10 (by rw [z10_2]; decide) (by rw [z10_2]; decide) (by rw [z10_2]; rfl) (by decide) ?_
      refine lv_aload_n hx hb dX4_place_68 rfl (lv_at hl 0 rfl) ?_
      refine gf S hK iX4 hP 0 rfl rfl 0 (by decide) q135 rfl dX4_place_69 ?_
      refine gfN S hK iX3 hP 1 rfl rfl 0 (by decide) 0 rfl rfl dX4_place_72 ?_
      refine lv_iload_n hx hb dX4_place_75 rfl (lv_at hl 1 rfl) ?_
      obtain ⟨r5, hr5, h⟩ := bd_t h
      refine rdV (As := [.int p1]) (rest := []) S hK (c_X1_round l G qw qt qu ft fu p1 r5 hr5) mX1_round q345 ⟨rfl, rfl, Nat.le_of_ble_eq_true rfl, Nat.le_of_ble_eq_true rfl⟩ (hP.sub (ws' := [(qw, .inr (1, [.ref qt, .ref qu])), (qt, .inl (G.2.2.1, 24, .inl ft)), (qu, .inl (G.2.2.1, 24, .inl fu))]) [2, 3, 4] rfl) rfl rfl rfl rfl hl.1 (Nat.le_of_ble_eq_true rfl) ⟨Nat.le_refl 0, Nat.le_refl 0⟩ dX4_place_76 ?_
      obtain ⟨r6, hr6, h⟩ := bd_t h
      refine rdS (As := [.int r5]) (rest := []) S hK (c_J6_bitCount_0f7a4 l G r5 r6 hr6) mJ6_bitCount_0f7a4 q306 ⟨rfl, rfl, Nat.le_of_ble_eq_true rfl, Nat.le_of_ble_eq_true rfl⟩ (ws_nil G.1 _) rfl hl.1 (Nat.le_of_ble_eq_true rfl) ⟨Nat.le_refl 0, Nat.le_refl 0⟩ dX4_place_79 ?_
      obtain rfl := Option.some.inj h
      exact retR S hr hlk rfl rfl dX4_place_82
    replace h := if_f z10_2 h
    by_cases z10_3 : p2 = 3
    · replace h := if_t z10_3 h
      refine lv_tableIn (off := 73) (tgt := 83) hx hb dX4_place_10 (by rw [z10_3]; decide) (by rw [z10_3]; decide) (by rw [z10_3]; rfl) (by decide) ?_
      refine lv_aload_n hx hb dX4_place_83 rfl (lv_at hl 0 rfl) ?_
      refine gf S hK iX4 hP 0 rfl rfl 0 (by decide) q135 rfl dX4_place_84 ?_
      refine gfN S hK iX3 hP 1 rfl rfl 0 (by decide) 0 rfl rfl dX4_place_87 ?_
      refine lv_iload_n hx hb dX4_place_90 rfl (lv_at hl 1 rfl) ?_
      obtain ⟨r7, hr7, h⟩ := bd_t h
      refine rdV (As := [.int p1]) (rest := []) S hK (c_X1_round l G qw qt qu ft fu p1 r7 hr7) mX1_round q345 ⟨rfl, rfl, Nat.le_of_ble_eq_true rfl, Nat.le_of_ble_eq_true rfl⟩ (hP.sub (ws' := [(qw, .inr (1, [.ref qt, .ref qu])), (qt, .inl (G.2.2.1, 24, .inl ft)), (qu, .inl (G.2.2.1, 24, .inl fu))]) [2, 3, 4] rfl) rfl rfl rfl rfl hl.1 (Nat.le_of_ble_eq_true rfl) ⟨Nat.le_refl 0, Nat.le_refl 0⟩ dX4_place_91 ?_
      obtain ⟨r8, hr8, h⟩ := bd_t h
      refine rdS (As := [.int r7]) (rest := []) S hK (c_X4_lowest l G r7 r8 hr8) mX4_lowest q346 ⟨rfl, rfl, Nat.le_of_ble_eq_true rfl, Nat.le_of_ble_eq_true rfl⟩ (ws_nil G.1 _) rfl hl.1 (Nat.le_of_ble_eq_true rfl) ⟨Nat.le_refl 0, Nat.le_refl 0⟩ dX4_place_94 ?_
      obtain rfl := Option.some.inj h
      exact retR S hr hlk rfl rfl dX4_place_97
    replace h := if_f z10_3 h
    by_cases z10_4 : p2 = 4
    · replace h := if_t z10_4 h
      refine lv_tableIn (off := 88) (tgt := 98) hx hb dX4_place_10 (by rw [z10_4]; decide) (by rw [z10_4]; decide) (by rw [z10_4]; rfl) (by decide) ?_
      refine lv_aload_n hx hb dX4_place_98 rfl (lv_at hl 0 rfl) ?_
      refine gf S hK iX4 hP 0 rfl rfl 0 (by decide) q135 rfl dX4_place_99 ?_
      refine lv_iload_n hx hb dX4_place_102 rfl (lv_at hl 1 rfl) ?_
      obtain ⟨r9, hr9, h⟩ := bd_t h
      refine rdV (As := [.int p1]) (rest := []) S hK (c_X3_ticketsWithHole l G qa qw qt qu qh qd qb sold stk pun fra tur ft fu fh fd fb p1 r9 hr9) mX3_ticketsWithHole q350 ⟨rfl, rfl, Nat.le_of_ble_eq_true rfl, Nat.le_of_ble_eq_true rfl⟩ (hP.sub (ws' := [(qa, .inr (3, [.ref qw, .ref qh, .ref qd, .ref qb, .int sold, .int stk, .int pun, .int fra, .int tur])), (qw, .inr (1, [.ref qt, .ref qu])), (qt, .inl (G.2.2.1, 24, .inl ft)), (qu, .inl (G.2.2.1, 24, .inl fu)), (qh, .inl (G.2.2.1, 12, .inl fh)), (qd, .inl (G.2.2.1, 12, .inl fd)), (qb, .inl (G.2.2.1, 12, .inl fb))]) [1, 2, 3, 4, 5, 6, 7] rfl) rfl rfl rfl rfl hl.1 (Nat.le_of_ble_eq_true rfl) ⟨Nat.le_refl 0, Nat.le_refl 0⟩ dX4_place_103 ?_
      obtain rfl := Option.some.inj h
      exact retR S hr hlk rfl rfl dX4_place_106
    replace h := if_f z10_4 h
    refine lv_tableOut (tgt := 107) hx hb dX4_place_10 (sw_out5 z10_0 z10_1 z10_2 z10_3 z10_4) (by decide) ?_
    refine lv_bipush (v := (-2)) hx hb dX4_place_107 (by decide) ?_
    obtain rfl := Option.some.inj h
    exact retR S hr hlk rfl rfl dX4_place_109
  · replace h := if_t c2 h
    refine lv_iconst (v := (-1)) hx hb dX4_place_7 (by decide) ?_
    obtain rfl := Option.some.inj h
    exact retR S hr hlk rfl rfl dX4_place_8
set_option maxHeartbeats 4000000 in
set_option maxRecDepth 100000 in
theorem c_X4_move (l : Launch) (G : gG) (oqa kqa hqa xqa qa qw qt qu qh qd qb : Nat) (isk : Int32) (sold : Int32) (stk : Int32) (pun : Int32) (fra : Int32) (tur : Int32) (ft : Nat → Int32) (fu : Nat → Int32) (fh : Nat → Int32) (fd : Nat → Int32) (fb : Nat → Int32) (p1 : Int32) (res : Int32) (h : F_X4_move ft p1 = some res) : RdM l G yX4_move cX4_move 2 .int (rmk 4 88) [(oqa, .inr (4, [.ref qa, .ref kqa, .int isk, .ref hqa, .ref xqa])), (qa, .inr (3, [.ref qw, .ref qh, .ref qd, .ref qb, .int sold, .int stk, .int pun, .int fra, .int tur])), (qw, .inr (1, [.ref qt, .ref qu])), (qt, .inl (G.2.2.1, 24, .inl ft)), (qu, .inl (G.2.2.1, 24, .inl fu)), (qh, .inl (G.2.2.1, 12, .inl fh)), (qd, .inl (G.2.2.1, 12, .inl fd)), (qb, .inl (G.2.2.1, 12, .inl fb))] [.ref oqa, .int p1] res := by
  refine ofR (by decide) (Nat.le_of_ble_eq_true rfl) ?_
  intro p e s m below meth c ls S hr hlk hK hP hl
  have S : CallFix p m c cX4_move 2 s ([.ref oqa, .int p1] : List Value).toArray T0 RX4 := S
  obtain ⟨hx, hb, hml, hown, hts⟩ := id S
  have hl : lv_has ls 2 [(0, .ref oqa), (1, .int p1)] := hl
  rw [F_X4_move] at h
  refine lv_iload_n hx hb dX4_move_0 rfl (lv_at hl 1 rfl) ?_
  by_cases z1_0 : p1 = 0
  · replace h := if_t z1_0 h
    refine lv_tableIn (off := 35) (tgt := 36) hx hb dX4_move_1 (by rw [z1_0]; decide) (by rw [z1_0]; decide) (by rw [z1_0]; rfl) (by decide) ?_
    refine lv_aload_n hx hb dX4_move_36 rfl (lv_at hl 0 rfl) ?_
    refine gf S hK iX4 hP 0 rfl rfl 0 (by decide) q135 rfl dX4_move_37 ?_
    refine gfN S hK iX3 hP 1 rfl rfl 0 (by decide) 0 rfl rfl dX4_move_40 ?_
    obtain ⟨r1, hr1, h⟩ := bd_t h
    refine rdV (As := []) (rest := []) S hK (c_X1_order l G qw qt qu ft fu r1 hr1) mX1_order q247 ⟨rfl, rfl, Nat.le_of_ble_eq_true rfl, Nat.le_of_ble_eq_true rfl⟩ (hP.sub (ws' := [(qw, .inr (1, [.ref qt, .ref qu])), (qt, .inl (G.2.2.1, 24, .inl ft)), (qu, .inl (G.2.2.1, 24, .inl fu))]) [2, 3, 4] rfl) rfl rfl rfl rfl hl.1 (Nat.le_of_ble_eq_true rfl) ⟨Nat.le_refl 0, Nat.le_refl 0⟩ dX4_move_43 ?_
    obtain rfl := Option.some.inj h
    exact retR S hr hlk rfl rfl dX4_move_46
  replace h := if_f z1_0 h
  by_cases z1_1 : p1 = 1
  · replace h := if_t z1_1 h
    refine lv_tableIn (off := 46) (tgt := 47) hx hb dX4_move_1 (by rw [z1_1]; decide) (by rw [z1_1]; decide) (by rw [z1_1]; rfl) (by decide) ?_
    refine lv_aload_n hx hb dX4_move_47 rfl (lv_at hl 0 rfl) ?_
    refine gf S hK iX4 hP 0 rfl rfl 0 (by decide) q135 rfl dX4_move_48 ?_
    refine gfN S hK iX3 hP 1 rfl rfl 0 (by decide) 0 rfl rfl dX4_move_51 ?_
    obtain ⟨r2, hr2, h⟩ := bd_t h
    refine rdV (As := []) (rest := []) S hK (c_X1_rounds l G qw qt qu ft fu r2 hr2) mX1_rounds q363 ⟨rfl, rfl, Nat.le_of_ble_eq_true rfl, Nat.le_of_ble_eq_true rfl⟩ (hP.sub (ws' := [(qw, .inr (1, [.ref qt, .ref qu])), (qt, .inl (G.2.2.1, 24, .inl ft)), (qu, .inl (G.2.2.1, 24, .inl fu))]) [2, 3, 4] rfl) rfl rfl rfl rfl hl.1 (Nat.le_of_ble_eq_true rfl) ⟨Nat.le_refl 0, Nat.le_refl 0⟩ dX4_move_54 ?_
    obtain rfl := Option.some.inj h
    exact retR S hr hlk rfl rfl dX4_move_57
  replace h := if_f z1_1 h
  by_cases z1_2 : p1 = 2
  · replace h := if_t z1_2 h
    refine lv_tableIn (off := 57) (tgt := 58) hx hb dX4_move_1 (by rw [z1_2]; decide) (by rw [z1_2]; decide) (by rw [z1_2]; rfl) (by decide) ?_
    refine lv_aload_n hx hb dX4_move_58 rfl (lv_at hl 0 rfl) ?_
    refine gf S hK iX4 hP 0 rfl rfl 0 (by decide) q135 rfl dX4_move_59 ?_
    refine gfN S hK iX3 hP 1 rfl rfl 0 (by decide) 0 rfl rfl dX4_move_62 ?_
    obtain ⟨r3, hr3, h⟩ := bd_t h
    refine rdV (As := []) (rest := []) S hK (c_X1_fixedPlaces l G qw qt qu ft fu r3 hr3) mX1_fixedPlaces q367 ⟨rfl, rfl, Nat.le_of_ble_eq_true rfl, Nat.le_of_ble_eq_true rfl⟩ (hP.sub (ws' := [(qw, .inr (1, [.ref qt, .ref qu])), (qt, .inl (G.2.2.1, 24, .inl ft)), (qu, .inl (G.2.2.1, 24, .inl fu))]) [2, 3, 4] rfl) rfl rfl rfl rfl hl.1 (Nat.le_of_ble_eq_true rfl) ⟨Nat.le_refl 0, Nat.le_refl 0⟩ dX4_move_65 ?_
    obtain rfl := Option.some.inj h
    exact retR S hr hlk rfl rfl dX4_move_68
  replace h := if_f z1_2 h
  by_cases z1_3 : p1 = 3
  · replace h := if_t z1_3 h
    refine lv_tableIn (off := 68) (tgt := 69) hx hb dX4_move_1 (by rw [z1_3]; decide) (by rw [z1_3]; decide) (by rw [z1_3]; rfl) (by decide) ?_
    refine lv_aload_n hx hb dX4_move_69 rfl (lv_at hl 0 rfl) ?_
    refine gf S hK iX4 hP 0 rfl rfl 0 (by decide) q135 rfl dX4_move_70 ?_
    refine gfN S hK iX3 hP 1 rfl rfl 0 (by decide) 0 rfl rfl dX4_move_73 ?_
    obtain ⟨r4, hr4, h⟩ := bd_t h
    refine rdV (As := []) (rest := []) S hK (c_X1_longestRound l G qw qt qu ft fu r4 hr4) mX1_longestRound q371 ⟨rfl, rfl, Nat.le_of_ble_eq_true rfl, Nat.le_of_ble_eq_true rfl⟩ (hP.sub (ws' := [(qw, .inr (1, [.ref qt, .ref qu])), (qt, .inl (G.2.2.1, 24, .inl ft)), (qu, .inl (G.2.2.1, 24, .inl fu))]) [2, 3, 4] rfl) rfl rfl rfl rfl hl.1 (Nat.le_of_ble_eq_true rfl) ⟨Nat.le_refl 0, Nat.le_refl 0⟩ dX4_move_76 ?_
    obtain rfl := Option.some.inj h
    exact retR S hr hlk rfl rfl dX4_move_79
  replace h := if_f z1_3 h
  by_cases z1_4 : p1 = 4
  · replace h := if_t z1_4 h
    refine lv_tableIn (off := 79) (tgt := 80) hx hb dX4_move_1 (by rw [z1_4]; decide) (by rw [z1_4]; decide) (by rw [z1_4]; rfl) (by decide) ?_
    refine lv_aload_n hx hb dX4_move_80 rfl (lv_at hl 0 rfl) ?_
    refine gf S hK iX4 hP 0 rfl rfl 0 (by decide) q135 rfl dX4_move_81 ?_
    refine gfN S hK iX3 hP 1 rfl rfl 0 (by decide) 0 rfl rfl dX4_move_84 ?_
    obtain ⟨r5, hr5, h⟩ := bd_t h
    refine rdV (As := []) (rest := []) S hK (c_X1_isEven l G qw qt qu ft fu r5 hr5) mX1_isEven q378 ⟨rfl, rfl, Nat.le_of_ble_eq_true rfl, Nat.le_of_ble_eq_true rfl⟩ (hP.sub (ws' := [(qw, .inr (1, [.ref qt, .ref qu])), (qt, .inl (G.2.2.1, 24, .inl ft)), (qu, .inl (G.2.2.1, 24, .inl fu))]) [2, 3, 4] rfl) rfl rfl rfl rfl hl.1 (Nat.le_of_ble_eq_true rfl) ⟨Nat.le_refl 0, Nat.le_refl 0⟩ dX4_move_87 ?_
    obtain ⟨r6, hr6, h⟩ := bd_t h
    refine rdS (As := [.int r5]) (rest := []) S hK (c_X4_asNumber l G r5 r6 hr6) mX4_asNumber q383 ⟨rfl, rfl, Nat.le_of_ble_eq_true rfl, Nat.le_of_ble_eq_true rfl⟩ (ws_nil G.1 _) rfl hl.1 (Nat.le_of_ble_eq_true rfl) ⟨Nat.le_refl 0, Nat.le_refl 0⟩ dX4_move_90 ?_
    obtain rfl := Option.some.inj h
    exact retR S hr hlk rfl rfl dX4_move_93
  replace h := if_f z1_4 h
  refine lv_tableOut (tgt := 94) hx hb dX4_move_1 (sw_out5 z1_0 z1_1 z1_2 z1_3 z1_4) (by decide) ?_
  refine lv_bipush (v := (-2)) hx hb dX4_move_94 (by decide) ?_
  obtain rfl := Option.some.inj h
  exact retR S hr hlk rfl rfl dX4_move_96
set_option maxHeartbeats 4000000 in
set_option maxRecDepth 100000 in
theorem c_X4_power (l : Launch) (G : gG) (oqa kqa hqa xqa qa qw qt qu qh qd qb : Nat) (isk : Int32) (sold : Int32) (stk : Int32) (pun : Int32) (fra : Int32) (tur : Int32) (ft : Nat → Int32) (fu : Nat → Int32) (fh : Nat → Int32) (fd : Nat → Int32) (fb : Nat → Int32) (p1 p2 : Int32) (res : Int32) (h : F_X4_power ft p1 p2 = some res) : RdM l G yX4_power cX4_power 3 .int (rmk 3 71) [(oqa, .inr (4, [.ref qa, .ref kqa, .int isk, .ref hqa, .ref xqa])), (qa, .inr (3, [.ref qw, .ref qh, .ref qd, .ref qb, .int sold, .int stk, .int pun, .int fra, .int tur])), (qw, .inr (1, [.ref qt, .ref qu])), (qt, .inl (G.2.2.1, 24, .inl ft)), (qu, .inl (G.2.2.1, 24, .inl fu)), (qh, .inl (G.2.2.1, 12, .inl fh)), (qd, .inl (G.2.2.1, 12, .inl fd)), (qb, .inl (G.2.2.1, 12, .inl fb))] [.ref oqa, .int p1, .int p2] res := by
  refine ofR (by decide) (Nat.le_of_ble_eq_true rfl) ?_
  intro p e s m below meth c ls S hr hlk hK hP hl
  have S : CallFix p m c cX4_power 3 s ([.ref oqa, .int p1, .int p2] : List Value).toArray T0 RX4 := S
  obtain ⟨hx, hb, hml, hown, hts⟩ := id S
  have hl : lv_has ls 3 [(0, .ref oqa), (1, .int p1), (2, .int p2)] := hl
  rw [F_X4_power] at h
  refine lv_iload_n hx hb dX4_power_0 rfl (lv_at hl 1 rfl) ?_
  obtain ⟨r1, hr1, h⟩ := bd_t h
  refine rdS (As := [.int p1]) (rest := []) S hK (c_X4_isPlace l G p1 r1 hr1) mX4_isPlace q336 ⟨rfl, rfl, Nat.le_of_ble_eq_true rfl, Nat.le_of_ble_eq_true rfl⟩ (ws_nil G.1 _) rfl hl.1 (Nat.le_of_ble_eq_true rfl) ⟨Nat.le_refl 0, Nat.le_refl 0⟩ dX4_power_1 ?_
  refine lv_if_ne (tgt := 9) hx hb dX4_power_4 (by decide) (fun c2 => ?_) (fun c2 => ?_)
  · replace h := if_f c2 h
    refine lv_iload_n hx hb dX4_power_9 rfl (lv_at hl 2 rfl) ?_
    obtain ⟨r3, hr3, h⟩ := bd_t h
    refine rdS (As := [.int p2]) (rest := []) S hK (c_X4_isPower l G p2 r3 hr3) mX4_isPower q270 ⟨rfl, rfl, Nat.le_of_ble_eq_true rfl, Nat.le_of_ble_eq_true rfl⟩ (ws_nil G.1 _) rfl hl.1 (Nat.le_of_ble_eq_true rfl) ⟨Nat.le_refl 0, Nat.le_refl 0⟩ dX4_power_10 ?_
    refine lv_if_ne (tgt := 19) hx hb dX4_power_13 (by decide) (fun c4 => ?_) (fun c4 => ?_)
    · replace h := if_f c4 h
      refine lv_aload_n hx hb dX4_power_19 rfl (lv_at hl 0 rfl) ?_
      refine gf S hK iX4 hP 0 rfl rfl 0 (by decide) q135 rfl dX4_power_20 ?_
      refine gfN S hK iX3 hP 1 rfl rfl 0 (by decide) 0 rfl rfl dX4_power_23 ?_
      refine lv_iload_n hx hb dX4_power_26 rfl (lv_at hl 1 rfl) ?_
      refine lv_iload_n hx hb dX4_power_27 rfl (lv_at hl 2 rfl) ?_
      obtain ⟨r5, hr5, h⟩ := bd_t h
      refine rdV (As := [.int p1, .int p2]) (rest := []) S hK (c_X1_targetBehind l G qw qt qu ft fu p1 p2 r5 hr5) mX1_targetBehind q622 ⟨rfl, rfl, Nat.le_of_ble_eq_true rfl, Nat.le_of_ble_eq_true rfl⟩ (hP.sub (ws' := [(qw, .inr (1, [.ref qt, .ref qu])), (qt, .inl (G.2.2.1, 24, .inl ft)), (qu, .inl (G.2.2.1, 24, .inl fu))]) [2, 3, 4] rfl) rfl rfl rfl rfl hl.1 (Nat.le_of_ble_eq_true rfl) ⟨Nat.le_refl 0, Nat.le_refl 0⟩ dX4_power_28 ?_
      obtain rfl := Option.some.inj h
      exact retR S hr hlk rfl rfl dX4_power_31
    · replace h := if_t c4 h
      refine lv_bipush (v := (-2)) hx hb dX4_power_16 (by decide) ?_
      obtain rfl := Option.some.inj h
      exact retR S hr hlk rfl rfl dX4_power_18
  · replace h := if_t c2 h
    refine lv_iconst (v := (-1)) hx hb dX4_power_7 (by decide) ?_
    obtain rfl := Option.some.inj h
    exact retR S hr hlk rfl rfl dX4_power_8
set_option maxHeartbeats 4000000 in
set_option maxRecDepth 100000 in
theorem c_X4_ticket (l : Launch) (G : gG) (oqa kqa hqa xqa qa qw qt qu qh qd qb : Nat) (isk : Int32) (sold : Int32) (stk : Int32) (pun : Int32) (fra : Int32) (tur : Int32) (ft : Nat → Int32) (fu : Nat → Int32) (fh : Nat → Int32) (fd : Nat → Int32) (fb : Nat → Int32) (p1 p2 : Int32) (res : Int32) (h : F_X4_ticket sold stk ft fh fd fb p1 p2 = some res) : RdM l G yX4_ticket cX4_ticket 5 .int (rmk 5 115) [(oqa, .inr (4, [.ref qa, .ref kqa, .int isk, .ref hqa, .ref xqa])), (qa, .inr (3, [.ref qw, .ref qh, .ref qd, .ref qb, .int sold, .int stk, .int pun, .int fra, .int tur])), (qw, .inr (1, [.ref qt, .ref qu])), (qt, .inl (G.2.2.1, 24, .inl ft)), (qu, .inl (G.2.2.1, 24, .inl fu)), (qh, .inl (G.2.2.1, 12, .inl fh)), (qd, .inl (G.2.2.1, 12, .inl fd)), (qb, .inl (G.2.2.1, 12, .inl fb))] [.ref oqa, .int p1, .int p2] res := by
  refine ofR (by decide) (Nat.le_of_ble_eq_true rfl) ?_
  intro p e s m below meth c ls S hr hlk hK hP hl
  have S : CallFix p m c cX4_ticket 5 s ([.ref oqa, .int p1, .int p2] : List Value).toArray T0 RX4 := S
  obtain ⟨hx, hb, hml, hown, hts⟩ := id S
  have hl : lv_has ls 5 [(0, .ref oqa), (1, .int p1), (2, .int p2)] := hl
  rw [F_X4_ticket] at h
  refine lv_aload_n hx hb dX4_ticket_0 rfl (lv_at hl 0 rfl) ?_
  refine gf S hK iX4 hP 0 rfl rfl 0 (by decide) q135 rfl dX4_ticket_1 ?_
  refine lv_iload_n hx hb dX4_ticket_4 rfl (lv_at hl 1 rfl) ?_
  obtain ⟨r1, hr1, h⟩ := bd_t h
  refine rdV (As := [.int p1]) (rest := []) S hK (c_X3_isTicket l G qa qw qt qu qh qd qb sold stk pun fra tur ft fu fh fd fb p1 r1 hr1) mX3_isTicket q479 ⟨rfl, rfl, Nat.le_of_ble_eq_true rfl, Nat.le_of_ble_eq_true rfl⟩ (hP.sub (ws' := [(qa, .inr (3, [.ref qw, .ref qh, .ref qd, .ref qb, .int sold, .int stk, .int pun, .int fra, .int tur])), (qw, .inr (1, [.ref qt, .ref qu])), (qt, .inl (G.2.2.1, 24, .inl ft)), (qu, .inl (G.2.2.1, 24, .inl fu)), (qh, .inl (G.2.2.1, 12, .inl fh)), (qd, .inl (G.2.2.1, 12, .inl fd)), (qb, .inl (G.2.2.1, 12, .inl fb))]) [1, 2, 3, 4, 5, 6, 7] rfl) rfl rfl rfl rfl hl.1 (Nat.le_of_ble_eq_true rfl) ⟨Nat.le_refl 0, Nat.le_refl 0⟩ dX4_ticket_5 ?_
  refine lv_if_ne (tgt := 13) hx hb dX4_ticket_8 (by decide) (fun c2 => ?_) (fun c2 => ?_)
  · replace h := if_f c2 h
    refine lv_aload_n hx hb dX4_ticket_13 rfl (lv_at hl 0 rfl) ?_
    refine gf S hK iX4 hP 0 rfl rfl 0 (by decide) q135 rfl dX4_ticket_14 ?_
    refine lv_iload_n hx hb dX4_ticket_17 rfl (lv_at hl 1 rfl) ?_
    obtain ⟨r3, hr3, h⟩ := bd_t h
    refine rdV (As := [.int p1]) (rest := []) S hK (c_X3_holes l G qa qw qt qu qh qd qb sold stk pun fra tur ft fu fh fd fb p1 r3 hr3) mX3_holes q480 ⟨rfl, rfl, Nat.le_of_ble_eq_true rfl, Nat.le_of_ble_eq_true rfl⟩ (hP.sub (ws' := [(qa, .inr (3, [.ref qw, .ref qh, .ref qd, .ref qb, .int sold, .int stk, .int pun, .int fra, .int tur])), (qw, .inr (1, [.ref qt, .ref qu])), (qt, .inl (G.2.2.1, 24, .inl ft)), (qu, .inl (G.2.2.1, 24, .inl fu)), (qh, .inl (G.2.2.1, 12, .inl fh)), (qd, .inl (G.2.2.1, 12, .inl fd)), (qb, .inl (G.2.2.1, 12, .inl fb))]) [1, 2, 3, 4, 5, 6, 7] rfl) rfl rfl rfl rfl hl.1 (Nat.le_of_ble_eq_true rfl) ⟨Nat.le_refl 0, Nat.le_refl 0⟩ dX4_ticket_18 ?_
    refine lv_istore_n (lv' := [(3, .int r3), (0, .ref oqa), (1, .int p1), (2, .int p2)]) hx hb dX4_ticket_21 rfl hl (by decide) rfl (fun ls hl => ?_)
    refine lv_aload_n hx hb dX4_ticket_22 rfl (lv_at hl 1 rfl) ?_
    refine gf S hK iX4 hP 0 rfl rfl 0 (by decide) q135 rfl dX4_ticket_23 ?_
    refine lv_iload_n hx hb dX4_ticket_26 rfl (lv_at hl 2 rfl) ?_
    obtain ⟨r4, hr4, h⟩ := bd_t h
    refine rdV (As := [.int p1]) (rest := []) S hK (c_X3_due l G qa qw qt qu qh qd qb sold stk pun fra tur ft fu fh fd fb p1 r4 hr4) mX3_due q481 ⟨rfl, rfl, Nat.le_of_ble_eq_true rfl, Nat.le_of_ble_eq_true rfl⟩ (hP.sub (ws' := [(qa, .inr (3, [.ref qw, .ref qh, .ref qd, .ref qb, .int sold, .int stk, .int pun, .int fra, .int tur])), (qw, .inr (1, [.ref qt, .ref qu])), (qt, .inl (G.2.2.1, 24, .inl ft)), (qu, .inl (G.2.2.1, 24, .inl fu)), (qh, .inl (G.2.2.1, 12, .inl fh)), (qd, .inl (G.2.2.1, 12, .inl fd)), (qb, .inl (G.2.2.1, 12, .inl fb))]) [1, 2, 3, 4, 5, 6, 7] rfl) rfl rfl rfl rfl hl.1 (Nat.le_of_ble_eq_true rfl) ⟨Nat.le_refl 0, Nat.le_refl 0⟩ dX4_ticket_27 ?_
    refine lv_istore (lv' := [(4, .int r4), (3, .int r3), (0, .ref oqa), (1, .int p1), (2, .int p2)]) hx hb dX4_ticket_30 hl (by decide) rfl (fun ls hl => ?_)
    refine lv_iload_n hx hb dX4_ticket_32 rfl (lv_at hl 4 rfl) ?_
    by_cases z33_0 : p2 = 0
    · replace h := if_t z33_0 h
      refine lv_tableIn (off := 51) (tgt := 84) hx hb dX4_ticket_33 (by rw [z33_0]; decide) (by rw [z33_0]; decide) (by rw [z33_0]; rfl) (by decide) ?_
      refine lv_iload_n hx hb dX4_ticket_84 rfl (lv_at hl 1 rfl) ?_
      obtain rfl := Option.some.inj h
      exact retR S hr hlk rfl rfl dX4_ticket_85
    replace h := if_f z33_0 h
    by_cases z33_1 : p2 = 1
    · replace h := if_t z33_1 h
      refine lv_tableIn (off := 53) (tgt := 86) hx hb dX4_ticket_33 (by rw [z33_1]; decide) (by rw [z33_1]; decide) (by rw [z33_1]; rfl) (by decide) ?_
      refine lv_iload hx hb dX4_ticket_86 (lv_at hl 0 rfl) ?_
      obtain rfl := Option.some.inj h
      exact retR S hr hlk rfl rfl dX4_ticket_88
    replace h := if_f z33_1 h
    by_cases z33_2 : p2 = 2
    · replace h := if_t z33_2 h
      refine lv_tableIn (off := 56) (tgt := 89) hx hb dX4_ticket_33 (by rw [z33_2]; decide) (by rw [z33_2]; decide) (by rw [z33_2]; rfl) (by decide) ?_
      refine lv_iload_n hx hb dX4_ticket_89 rfl (lv_at hl 1 rfl) ?_
      refine lv_iload hx hb dX4_ticket_90 (lv_at hl 0 rfl) ?_
      refine lv_iconst (v := (-1)) hx hb dX4_ticket_92 (by decide) ?_
      refine lv_ixor hx hb dX4_ticket_93 ?_
      refine lv_iand hx hb dX4_ticket_94 ?_
      obtain rfl := Option.some.inj h
      exact retR S hr hlk rfl rfl dX4_ticket_95
    replace h := if_f z33_2 h
    by_cases z33_3 : p2 = 3
    · replace h := if_t z33_3 h
      refine lv_tableIn (off := 63) (tgt := 96) hx hb dX4_ticket_33 (by rw [z33_3]; decide) (by rw [z33_3]; decide) (by rw [z33_3]; rfl) (by decide) ?_
      refine lv_iload hx hb dX4_ticket_96 (lv_at hl 0 rfl) ?_
      refine lv_iload_n hx hb dX4_ticket_98 rfl (lv_at hl 1 rfl) ?_
      refine lv_iconst (v := (-1)) hx hb dX4_ticket_99 (by decide) ?_
      refine lv_ixor hx hb dX4_ticket_100 ?_
      refine lv_iand hx hb dX4_ticket_101 ?_
      obtain rfl := Option.some.inj h
      exact retR S hr hlk rfl rfl dX4_ticket_102
    replace h := if_f z33_3 h
    by_cases z33_4 : p2 = 4
    · replace h := if_t z33_4 h
      refine lv_tableIn (off := 70) (tgt := 103) hx hb dX4_ticket_33 (by rw [z33_4]; decide) (by rw [z33_4]; decide) (by rw [z33_4]; rfl) (by decide) ?_
      refine lv_iload_n hx hb dX4_ticket_103 rfl (lv_at hl 1 rfl) ?_
      obtain ⟨r5, hr5, h⟩ := bd_t h
      refine rdS (As := [.int r3]) (rest := []) S hK (c_J6_bitCount_0f7a4 l G r3 r5 hr5) mJ6_bitCount_0f7a4 q306 ⟨rfl, rfl, Nat.le_of_ble_eq_true rfl, Nat.le_of_ble_eq_true rfl⟩ (ws_nil G.1 _) rfl hl.1 (Nat.le_of_ble_eq_true rfl) ⟨Nat.le_refl 0, Nat.le_refl 0⟩ dX4_ticket_104 ?_
      obtain rfl := Option.some.inj h
      exact retR S hr hlk rfl rfl dX4_ticket_107
    replace h := if_f z33_4 h
    by_cases z33_5 : p2 = 5
    · replace h := if_t z33_5 h
      refine lv_tableIn (off := 75) (tgt := 108) hx hb dX4_ticket_33 (by rw [z33_5]; decide) (by rw [z33_5]; decide) (by rw [z33_5]; rfl) (by decide) ?_
      refine lv_aload_n hx hb dX4_ticket_108 rfl (lv_at hl 2 rfl) ?_
      refine gf S hK iX4 hP 0 rfl rfl 0 (by decide) q135 rfl dX4_ticket_109 ?_
      refine lv_iload_n hx hb dX4_ticket_112 rfl (lv_at hl 3 rfl) ?_
      obtain ⟨r6, hr6, h⟩ := bd_t h
      refine rdV (As := [.int p1]) (rest := []) S hK (c_X3_isFalse l G qa qw qt qu qh qd qb sold stk pun fra tur ft fu fh fd fb p1 r6 hr6) mX3_isFalse q494 ⟨rfl, rfl, Nat.le_of_ble_eq_true rfl, Nat.le_of_ble_eq_true rfl⟩ (hP.sub (ws' := [(qa, .inr (3, [.ref qw, .ref qh, .ref qd, .ref qb, .int sold, .int stk, .int pun, .int fra, .int tur])), (qw, .inr (1, [.ref qt, .ref qu])), (qt, .inl (G.2.2.1, 24, .inl ft)), (qu, .inl (G.2.2.1, 24, .inl fu)), (qh, .inl (G.2.2.1, 12, .inl fh)), (qd, .inl (G.2.2.1, 12, .inl fd)), (qb, .inl (G.2.2.1, 12, .inl fb))]) [1, 2, 3, 4, 5, 6, 7] rfl) rfl rfl rfl rfl hl.1 (Nat.le_of_ble_eq_true rfl) ⟨Nat.le_refl 0, Nat.le_refl 0⟩ dX4_ticket_113 ?_
      obtain ⟨r7, hr7, h⟩ := bd_t h
      refine rdS (As := [.int r6]) (rest := []) S hK (c_X4_asNumber l G r6 r7 hr7) mX4_asNumber q383 ⟨rfl, rfl, Nat.le_of_ble_eq_true rfl, Nat.le_of_ble_eq_true rfl⟩ (ws_nil G.1 _) rfl hl.1 (Nat.le_of_ble_eq_true rfl) ⟨Nat.le_refl 0, Nat.le_refl 0⟩ dX4_ticket_116 ?_
      obtain rfl := Option.some.inj h
      exact retR S hr hlk rfl rfl dX4_ticket_119
    replace h := if_f z33_5 h
    by_cases z33_6 : p2 = 6
    · replace h := if_t z33_6 h
      refine lv_tableIn (off := 87) (tgt := 120) hx hb dX4_ticket_33 (by rw [z33_6]; decide) (by rw [z33_6]; decide) (by rw [z33_6]; rfl) (by decide) ?_
      refine lv_aload_n hx hb dX4_ticket_120 rfl (lv_at hl 2 rfl) ?_
      refine gf S hK iX4 hP 0 rfl rfl 0 (by decide) q135 rfl dX4_ticket_121 ?_
      refine gfN S hK iX3 hP 1 rfl rfl 0 (by decide) 0 rfl rfl dX4_ticket_124 ?_
      refine lv_iload_n hx hb dX4_ticket_127 rfl (lv_at hl 1 rfl) ?_
      obtain ⟨r8, hr8, h⟩ := bd_t h
      refine rdV (As := [.int r3]) (rest := []) S hK (c_X1_movesUntilSame l G qw qt qu ft fu r3 r8 hr8) mX1_movesUntilSame q543 ⟨rfl, rfl, Nat.le_of_ble_eq_true rfl, Nat.le_of_ble_eq_true rfl⟩ (hP.sub (ws' := [(qw, .inr (1, [.ref qt, .ref qu])), (qt, .inl (G.2.2.1, 24, .inl ft)), (qu, .inl (G.2.2.1, 24, .inl fu))]) [2, 3, 4] rfl) rfl rfl rfl rfl hl.1 (Nat.le_of_ble_eq_true rfl) ⟨Nat.le_refl 0, Nat.le_refl 0⟩ dX4_ticket_128 ?_
      obtain rfl := Option.some.inj h
      exact retR S hr hlk rfl rfl dX4_ticket_131
    replace h := if_f z33_6 h
    by_cases z33_7 : p2 = 7
    · replace h := if_t z33_7 h
      refine lv_tableIn (off := 99) (tgt := 132) hx hb dX4_ticket_33 (by rw [z33_7]; decide) (by rw [z33_7]; decide) (by rw [z33_7]; rfl) (by decide) ?_
      refine lv_aload_n hx hb dX4_ticket_132 rfl (lv_at hl 2 rfl) ?_
      refine gf S hK iX4 hP 0 rfl rfl 0 (by decide) q135 rfl dX4_ticket_133 ?_
      obtain ⟨r9, hr9, h⟩ := bd_t h
      refine rdV (As := []) (rest := []) S hK (c_X3_stacked l G qa qw qt qu qh qd qb sold stk pun fra tur ft fu fh fd fb r9 hr9) mX3_stacked q273 ⟨rfl, rfl, Nat.le_of_ble_eq_true rfl, Nat.le_of_ble_eq_true rfl⟩ (hP.sub (ws' := [(qa, .inr (3, [.ref qw, .ref qh, .ref qd, .ref qb, .int sold, .int stk, .int pun, .int fra, .int tur])), (qw, .inr (1, [.ref qt, .ref qu])), (qt, .inl (G.2.2.1, 24, .inl ft)), (qu, .inl (G.2.2.1, 24, .inl fu)), (qh, .inl (G.2.2.1, 12, .inl fh)), (qd, .inl (G.2.2.1, 12, .inl fd)), (qb, .inl (G.2.2.1, 12, .inl fb))]) [1, 2, 3, 4, 5, 6, 7] rfl) rfl rfl rfl rfl hl.1 (Nat.le_of_ble_eq_true rfl) ⟨Nat.le_refl 0, Nat.le_refl 0⟩ dX4_ticket_136 ?_
      refine lv_iload_n hx hb dX4_ticket_139 rfl (lv_at hl 3 rfl) ?_
      obtain ⟨r10, hr10, h⟩ := bd_t h
      refine rdS (As := [.int r9, .int p1]) (rest := []) S hK (c_X4_has l G r9 p1 r10 hr10) mX4_has q349 ⟨rfl, rfl, Nat.le_of_ble_eq_true rfl, Nat.le_of_ble_eq_true rfl⟩ (ws_nil G.1 _) rfl hl.1 (Nat.le_of_ble_eq_true rfl) ⟨Nat.le_refl 0, Nat.le_refl 0⟩ dX4_ticket_140 ?_
      obtain ⟨r11, hr11, h⟩ := bd_t h
      refine rdS (As := [.int r10]) (rest := []) S hK (c_X4_asNumber l G r10 r11 hr11) mX4_asNumber q383 ⟨rfl, rfl, Nat.le_of_ble_eq_true rfl, Nat.le_of_ble_eq_true rfl⟩ (ws_nil G.1 _) rfl hl.1 (Nat.le_of_ble_eq_true rfl) ⟨Nat.le_refl 0, Nat.le_refl 0⟩ dX4_ticket_143 ?_
      obtain rfl := Option.some.inj h
      exact retR S hr hlk rfl rfl dX4_ticket_146
    replace h := if_f z33_7 h
    by_cases z33_8 : p2 = 8
    · replace h := if_t z33_8 h
      refine lv_tableIn (off := 114) (tgt := 147) hx hb dX4_ticket_33 (by rw [z33_8]; decide) (by rw [z33_8]; decide) (by rw [z33_8]; rfl) (by decide) ?_
      refine lv_aload_n hx hb dX4_ticket_147 rfl (lv_at hl 2 rfl) ?_
      refine gf S hK iX4 hP 0 rfl rfl 0 (by decide) q135 rfl dX4_ticket_148 ?_
      refine lv_iload_n hx hb dX4_ticket_151 rfl (lv_at hl 3 rfl) ?_
      obtain ⟨r12, hr12, h⟩ := bd_t h
      refine rdV (As := [.int p1]) (rest := []) S hK (c_X3_turnedBy l G qa qw qt qu qh qd qb sold stk pun fra tur ft fu fh fd fb p1 r12 hr12) mX3_turnedBy q555 ⟨rfl, rfl, Nat.le_of_ble_eq_true rfl, Nat.le_of_ble_eq_true rfl⟩ (hP.sub (ws' := [(qa, .inr (3, [.ref qw, .ref qh, .ref qd, .ref qb, .int sold, .int stk, .int pun, .int fra, .int tur])), (qw, .inr (1, [.ref qt, .ref qu])), (qt, .inl (G.2.2.1, 24, .inl ft)), (qu, .inl (G.2.2.1, 24, .inl fu)), (qh, .inl (G.2.2.1, 12, .inl fh)), (qd, .inl (G.2.2.1, 12, .inl fd)), (qb, .inl (G.2.2.1, 12, .inl fb))]) [1, 2, 3, 4, 5, 6, 7] rfl) rfl rfl rfl rfl hl.1 (Nat.le_of_ble_eq_true rfl) ⟨Nat.le_refl 0, Nat.le_refl 0⟩ dX4_ticket_152 ?_
      obtain rfl := Option.some.inj h
      exact retR S hr hlk rfl rfl dX4_ticket_155
    replace h := if_f z33_8 h
    refine lv_tableOut (tgt := 156) hx hb dX4_ticket_33 (sw_out9 z33_0 z33_1 z33_2 z33_3 z33_4 z33_5 z33_6 z33_7 z33_8) (by decide) ?_
    refine lv_bipush (v := (-2)) hx hb dX4_ticket_156 (by decide) ?_
    obtain rfl := Option.some.inj h
    exact retR S hr hlk rfl rfl dX4_ticket_158
  · replace h := if_t c2 h
    refine lv_iconst (v := (-1)) hx hb dX4_ticket_11 (by decide) ?_
    obtain rfl := Option.some.inj h
    exact retR S hr hlk rfl rfl dX4_ticket_12
set_option maxHeartbeats 4000000 in
set_option maxRecDepth 100000 in
theorem c_X4_alikeIn (l : Launch) (G : gG) (oqa kqa hqa xqa qa qw qt qu qh qd qb : Nat) (isk : Int32) (sold : Int32) (stk : Int32) (pun : Int32) (fra : Int32) (tur : Int32) (ft : Nat → Int32) (fu : Nat → Int32) (fh : Nat → Int32) (fd : Nat → Int32) (fb : Nat → Int32) (p1 p2 : Int32) (res : Int32) (h : F_X4_alikeIn sold ft fh p1 p2 = some res) : RdM l G yX4_alikeIn cX4_alikeIn 3 .int (rmk 4 94) [(oqa, .inr (4, [.ref qa, .ref kqa, .int isk, .ref hqa, .ref xqa])), (qa, .inr (3, [.ref qw, .ref qh, .ref qd, .ref qb, .int sold, .int stk, .int pun, .int fra, .int tur])), (qw, .inr (1, [.ref qt, .ref qu])), (qt, .inl (G.2.2.1, 24, .inl ft)), (qu, .inl (G.2.2.1, 24, .inl fu)), (qh, .inl (G.2.2.1, 12, .inl fh)), (qd, .inl (G.2.2.1, 12, .inl fd)), (qb, .inl (G.2.2.1, 12, .inl fb))] [.ref oqa, .int p1, .int p2] res := by
  refine ofR (by decide) (Nat.le_of_ble_eq_true rfl) ?_
  intro p e s m below meth c ls S hr hlk hK hP hl
  have S : CallFix p m c cX4_alikeIn 3 s ([.ref oqa, .int p1, .int p2] : List Value).toArray T0 RX4 := S
  obtain ⟨hx, hb, hml, hown, hts⟩ := id S
  have hl : lv_has ls 3 [(0, .ref oqa), (1, .int p1), (2, .int p2)] := hl
  rw [F_X4_alikeIn] at h
  refine lv_aload_n hx hb dX4_alikeIn_0 rfl (lv_at hl 0 rfl) ?_
  refine gf S hK iX4 hP 0 rfl rfl 0 (by decide) q135 rfl dX4_alikeIn_1 ?_
  refine lv_iload_n hx hb dX4_alikeIn_4 rfl (lv_at hl 1 rfl) ?_
  obtain ⟨r1, hr1, h⟩ := bd_t h
  refine rdV (As := [.int p1]) (rest := []) S hK (c_X3_isTicket l G qa qw qt qu qh qd qb sold stk pun fra tur ft fu fh fd fb p1 r1 hr1) mX3_isTicket q479 ⟨rfl, rfl, Nat.le_of_ble_eq_true rfl, Nat.le_of_ble_eq_true rfl⟩ (hP.sub (ws' := [(qa, .inr (3, [.ref qw, .ref qh, .ref qd, .ref qb, .int sold, .int stk, .int pun, .int fra, .int tur])), (qw, .inr (1, [.ref qt, .ref qu])), (qt, .inl (G.2.2.1, 24, .inl ft)), (qu, .inl (G.2.2.1, 24, .inl fu)), (qh, .inl (G.2.2.1, 12, .inl fh)), (qd, .inl (G.2.2.1, 12, .inl fd)), (qb, .inl (G.2.2.1, 12, .inl fb))]) [1, 2, 3, 4, 5, 6, 7] rfl) rfl rfl rfl rfl hl.1 (Nat.le_of_ble_eq_true rfl) ⟨Nat.le_refl 0, Nat.le_refl 0⟩ dX4_alikeIn_5 ?_
  refine lv_if_eq (tgt := 22) hx hb dX4_alikeIn_8 (by decide) (fun c2 => ?_) (fun c2 => ?_)
  · replace h := if_t c2 h
    refine lv_iconst (v := (-1)) hx hb dX4_alikeIn_22 (by decide) ?_
    obtain rfl := Option.some.inj h
    exact retR S hr hlk rfl rfl dX4_alikeIn_23
  · replace h := if_f c2 h
    refine lv_aload_n hx hb dX4_alikeIn_11 rfl (lv_at hl 0 rfl) ?_
    refine gf S hK iX4 hP 0 rfl rfl 0 (by decide) q135 rfl dX4_alikeIn_12 ?_
    refine lv_iload_n hx hb dX4_alikeIn_15 rfl (lv_at hl 2 rfl) ?_
    obtain ⟨r3, hr3, h⟩ := bd_t h
    refine rdV (As := [.int p2]) (rest := []) S hK (c_X3_isTicket l G qa qw qt qu qh qd qb sold stk pun fra tur ft fu fh fd fb p2 r3 hr3) mX3_isTicket q479 ⟨rfl, rfl, Nat.le_of_ble_eq_true rfl, Nat.le_of_ble_eq_true rfl⟩ (hP.sub (ws' := [(qa, .inr (3, [.ref qw, .ref qh, .ref qd, .ref qb, .int sold, .int stk, .int pun, .int fra, .int tur])), (qw, .inr (1, [.ref qt, .ref qu])), (qt, .inl (G.2.2.1, 24, .inl ft)), (qu, .inl (G.2.2.1, 24, .inl fu)), (qh, .inl (G.2.2.1, 12, .inl fh)), (qd, .inl (G.2.2.1, 12, .inl fd)), (qb, .inl (G.2.2.1, 12, .inl fb))]) [1, 2, 3, 4, 5, 6, 7] rfl) rfl rfl rfl rfl hl.1 (Nat.le_of_ble_eq_true rfl) ⟨Nat.le_refl 0, Nat.le_refl 0⟩ dX4_alikeIn_16 ?_
    refine lv_if_ne (tgt := 24) hx hb dX4_alikeIn_19 (by decide) (fun c4 => ?_) (fun c4 => ?_)
    · replace h := if_f c4 h
      refine lv_aload_n hx hb dX4_alikeIn_24 rfl (lv_at hl 0 rfl) ?_
      refine gf S hK iX4 hP 0 rfl rfl 0 (by decide) q135 rfl dX4_alikeIn_25 ?_
      refine gfN S hK iX3 hP 1 rfl rfl 0 (by decide) 0 rfl rfl dX4_alikeIn_28 ?_
      refine lv_aload_n hx hb dX4_alikeIn_31 rfl (lv_at hl 0 rfl) ?_
      refine gf S hK iX4 hP 0 rfl rfl 0 (by decide) q135 rfl dX4_alikeIn_32 ?_
      refine lv_iload_n hx hb dX4_alikeIn_35 rfl (lv_at hl 1 rfl) ?_
      obtain ⟨r5, hr5, h⟩ := bd_t h
      refine rdV (As := [.int p1]) (rest := [.ref qw]) S hK (c_X3_holes l G qa qw qt qu qh qd qb sold stk pun fra tur ft fu fh fd fb p1 r5 hr5) mX3_holes q480 ⟨rfl, rfl, Nat.le_of_ble_eq_true rfl, Nat.le_of_ble_eq_true rfl⟩ (hP.sub (ws' := [(qa, .inr (3, [.ref qw, .ref qh, .ref qd, .ref qb, .int sold, .int stk, .int pun, .int fra, .int tur])), (qw, .inr (1, [.ref qt, .ref qu])), (qt, .inl (G.2.2.1, 24, .inl ft)), (qu, .inl (G.2.2.1, 24, .inl fu)), (qh, .inl (G.2.2.1, 12, .inl fh)), (qd, .inl (G.2.2.1, 12, .inl fd)), (qb, .inl (G.2.2.1, 12, .inl fb))]) [1, 2, 3, 4, 5, 6, 7] rfl) rfl rfl rfl rfl hl.1 (Nat.le_of_ble_eq_true rfl) ⟨Nat.le_refl 0, Nat.le_refl 0⟩ dX4_alikeIn_36 ?_
      refine lv_aload_n hx hb dX4_alikeIn_39 rfl (lv_at hl 0 rfl) ?_
      refine gf S hK iX4 hP 0 rfl rfl 0 (by decide) q135 rfl dX4_alikeIn_40 ?_
      refine lv_iload_n hx hb dX4_alikeIn_43 rfl (lv_at hl 2 rfl) ?_
      obtain ⟨r6, hr6, h⟩ := bd_t h
      refine rdV (As := [.int p2]) (rest := [.int r5, .ref qw]) S hK (c_X3_holes l G qa qw qt qu qh qd qb sold stk pun fra tur ft fu fh fd fb p2 r6 hr6) mX3_holes q480 ⟨rfl, rfl, Nat.le_of_ble_eq_true rfl, Nat.le_of_ble_eq_true rfl⟩ (hP.sub (ws' := [(qa, .inr (3, [.ref qw, .ref qh, .ref qd, .ref qb, .int sold, .int stk, .int pun, .int fra, .int tur])), (qw, .inr (1, [.ref qt, .ref qu])), (qt, .inl (G.2.2.1, 24, .inl ft)), (qu, .inl (G.2.2.1, 24, .inl fu)), (qh, .inl (G.2.2.1, 12, .inl fh)), (qd, .inl (G.2.2.1, 12, .inl fd)), (qb, .inl (G.2.2.1, 12, .inl fb))]) [1, 2, 3, 4, 5, 6, 7] rfl) rfl rfl rfl rfl hl.1 (Nat.le_of_ble_eq_true rfl) ⟨Nat.le_refl 0, Nat.le_refl 0⟩ dX4_alikeIn_44 ?_
      obtain ⟨r7, hr7, h⟩ := bd_t h
      refine rdV (As := [.int r5, .int r6]) (rest := []) S hK (c_X1_movesUntilAlike l G qw qt qu ft fu r5 r6 r7 hr7) mX1_movesUntilAlike q567 ⟨rfl, rfl, Nat.le_of_ble_eq_true rfl, Nat.le_of_ble_eq_true rfl⟩ (hP.sub (ws' := [(qw, .inr (1, [.ref qt, .ref qu])), (qt, .inl (G.2.2.1, 24, .inl ft)), (qu, .inl (G.2.2.1, 24, .inl fu))]) [2, 3, 4] rfl) rfl rfl rfl rfl hl.1 (Nat.le_of_ble_eq_true rfl) ⟨Nat.le_refl 0, Nat.le_refl 0⟩ dX4_alikeIn_47 ?_
      obtain rfl := Option.some.inj h
      exact retR S hr hlk rfl rfl dX4_alikeIn_50
    · replace h := if_t c4 h
      refine lv_iconst (v := (-1)) hx hb dX4_alikeIn_22 (by decide) ?_
      obtain rfl := Option.some.inj h
      exact retR S hr hlk rfl rfl dX4_alikeIn_23
set_option maxHeartbeats 4000000 in
set_option maxRecDepth 100000 in
theorem c_X4_meetsIn (l : Launch) (G : gG) (oqa kqa hqa xqa qa qw qt qu qh qd qb : Nat) (isk : Int32) (sold : Int32) (stk : Int32) (pun : Int32) (fra : Int32) (tur : Int32) (ft : Nat → Int32) (fu : Nat → Int32) (fh : Nat → Int32) (fd : Nat → Int32) (fb : Nat → Int32) (p1 p2 : Int32) (res : Int32) (h : F_X4_meetsIn sold ft fh p1 p2 = some res) : RdM l G yX4_meetsIn cX4_meetsIn 3 .int (rmk 3 68) [(oqa, .inr (4, [.ref qa, .ref kqa, .int isk, .ref hqa, .ref xqa])), (qa, .inr (3, [.ref qw, .ref qh, .ref qd, .ref qb, .int sold, .int stk, .int pun, .int fra, .int tur])), (qw, .inr (1, [.ref qt, .ref qu])), (qt, .inl (G.2.2.1, 24, .inl ft)), (qu, .inl (G.2.2.1, 24, .inl fu)), (qh, .inl (G.2.2.1, 12, .inl fh)), (qd, .inl (G.2.2.1, 12, .inl fd)), (qb, .inl (G.2.2.1, 12, .inl fb))] [.ref oqa, .int p1, .int p2] res := by
  refine ofR (by decide) (Nat.le_of_ble_eq_true rfl) ?_
  intro p e s m below meth c ls S hr hlk hK hP hl
  have S : CallFix p m c cX4_meetsIn 3 s ([.ref oqa, .int p1, .int p2] : List Value).toArray T0 RX4 := S
  obtain ⟨hx, hb, hml, hown, hts⟩ := id S
  have hl : lv_has ls 3 [(0, .ref oqa), (1, .int p1), (2, .int p2)] := hl
  rw [F_X4_meetsIn] at h
  refine lv_aload_n hx hb dX4_meetsIn_0 rfl (lv_at hl 0 rfl) ?_
  refine gf S hK iX4 hP 0 rfl rfl 0 (by decide) q135 rfl dX4_meetsIn_1 ?_
  refine lv_iload_n hx hb dX4_meetsIn_4 rfl (lv_at hl 1 rfl) ?_
  obtain ⟨r1, hr1, h⟩ := bd_t h
  refine rdV (As := [.int p1]) (rest := []) S hK (c_X3_isTicket l G qa qw qt qu qh qd qb sold stk pun fra tur ft fu fh fd fb p1 r1 hr1) mX3_isTicket q479 ⟨rfl, rfl, Nat.le_of_ble_eq_true rfl, Nat.le_of_ble_eq_true rfl⟩ (hP.sub (ws' := [(qa, .inr (3, [.ref qw, .ref qh, .ref qd, .ref qb, .int sold, .int stk, .int pun, .int fra, .int tur])), (qw, .inr (1, [.ref qt, .ref qu])), (qt, .inl (G.2.2.1, 24, .inl ft)), (qu, .inl (G.2.2.1, 24, .inl fu)), (qh, .inl (G.2.2.1, 12, .inl fh)), (qd, .inl (G.2.2.1, 12, .inl fd)), (qb, .inl (G.2.2.1, 12, .inl fb))]) [1, 2, 3, 4, 5, 6, 7] rfl) rfl rfl rfl rfl hl.1 (Nat.le_of_ble_eq_true rfl) ⟨Nat.le_refl 0, Nat.le_refl 0⟩ dX4_meetsIn_5 ?_
  refine lv_if_eq (tgt := 22) hx hb dX4_meetsIn_8 (by decide) (fun c2 => ?_) (fun c2 => ?_)
  · replace h := if_t c2 h
    refine lv_iconst (v := (-1)) hx hb dX4_meetsIn_22 (by decide) ?_
    obtain rfl := Option.some.inj h
    exact retR S hr hlk rfl rfl dX4_meetsIn_23
  · replace h := if_f c2 h
    refine lv_aload_n hx hb dX4_meetsIn_11 rfl (lv_at hl 0 rfl) ?_
    refine gf S hK iX4 hP 0 rfl rfl 0 (by decide) q135 rfl dX4_meetsIn_12 ?_
    refine lv_iload_n hx hb dX4_meetsIn_15 rfl (lv_at hl 2 rfl) ?_
    obtain ⟨r3, hr3, h⟩ := bd_t h
    refine rdV (As := [.int p2]) (rest := []) S hK (c_X3_isTicket l G qa qw qt qu qh qd qb sold stk pun fra tur ft fu fh fd fb p2 r3 hr3) mX3_isTicket q479 ⟨rfl, rfl, Nat.le_of_ble_eq_true rfl, Nat.le_of_ble_eq_true rfl⟩ (hP.sub (ws' := [(qa, .inr (3, [.ref qw, .ref qh, .ref qd, .ref qb, .int sold, .int stk, .int pun, .int fra, .int tur])), (qw, .inr (1, [.ref qt, .ref qu])), (qt, .inl (G.2.2.1, 24, .inl ft)), (qu, .inl (G.2.2.1, 24, .inl fu)), (qh, .inl (G.2.2.1, 12, .inl fh)), (qd, .inl (G.2.2.1, 12, .inl fd)), (qb, .inl (G.2.2.1, 12, .inl fb))]) [1, 2, 3, 4, 5, 6, 7] rfl) rfl rfl rfl rfl hl.1 (Nat.le_of_ble_eq_true rfl) ⟨Nat.le_refl 0, Nat.le_refl 0⟩ dX4_meetsIn_16 ?_
    refine lv_if_ne (tgt := 24) hx hb dX4_meetsIn_19 (by decide) (fun c4 => ?_) (fun c4 => ?_)
    · replace h := if_f c4 h
      refine lv_aload_n hx hb dX4_meetsIn_24 rfl (lv_at hl 0 rfl) ?_
      refine gf S hK iX4 hP 0 rfl rfl 0 (by decide) q135 rfl dX4_meetsIn_25 ?_
      refine gfN S hK iX3 hP 1 rfl rfl 0 (by decide) 0 rfl rfl dX4_meetsIn_28 ?_
      refine lv_aload_n hx hb dX4_meetsIn_31 rfl (lv_at hl 0 rfl) ?_
      refine gf S hK iX4 hP 0 rfl rfl 0 (by decide) q135 rfl dX4_meetsIn_32 ?_
      refine lv_iload_n hx hb dX4_meetsIn_35 rfl (lv_at hl 1 rfl) ?_
      obtain ⟨r5, hr5, h⟩ := bd_t h
      refine rdV (As := [.int p1]) (rest := [.ref qw]) S hK (c_X3_holes l G qa qw qt qu qh qd qb sold stk pun fra tur ft fu fh fd fb p1 r5 hr5) mX3_holes q480 ⟨rfl, rfl, Nat.le_of_ble_eq_true rfl, Nat.le_of_ble_eq_true rfl⟩ (hP.sub (ws' := [(qa, .inr (3, [.ref qw, .ref qh, .ref qd, .ref qb, .int sold, .int stk, .int pun, .int fra, .int tur])), (qw, .inr (1, [.ref qt, .ref qu])), (qt, .inl (G.2.2.1, 24, .inl ft)), (qu, .inl (G.2.2.1, 24, .inl fu)), (qh, .inl (G.2.2.1, 12, .inl fh)), (qd, .inl (G.2.2.1, 12, .inl fd)), (qb, .inl (G.2.2.1, 12, .inl fb))]) [1, 2, 3, 4, 5, 6, 7] rfl) rfl rfl rfl rfl hl.1 (Nat.le_of_ble_eq_true rfl) ⟨Nat.le_refl 0, Nat.le_refl 0⟩ dX4_meetsIn_36 ?_
      refine lv_aload_n hx hb dX4_meetsIn_39 rfl (lv_at hl 0 rfl) ?_
      refine gf S hK iX4 hP 0 rfl rfl 0 (by decide) q135 rfl dX4_meetsIn_40 ?_
      refine lv_iload_n hx hb dX4_meetsIn_43 rfl (lv_at hl 2 rfl) ?_
      obtain ⟨r6, hr6, h⟩ := bd_t h
      refine rdV (As := [.int p2]) (rest := [.int r5, .ref qw]) S hK (c_X3_holes l G qa qw qt qu qh qd qb sold stk pun fra tur ft fu fh fd fb p2 r6 hr6) mX3_holes q480 ⟨rfl, rfl, Nat.le_of_ble_eq_true rfl, Nat.le_of_ble_eq_true rfl⟩ (hP.sub (ws' := [(qa, .inr (3, [.ref qw, .ref qh, .ref qd, .ref qb, .int sold, .int stk, .int pun, .int fra, .int tur])), (qw, .inr (1, [.ref qt, .ref qu])), (qt, .inl (G.2.2.1, 24, .inl ft)), (qu, .inl (G.2.2.1, 24, .inl fu)), (qh, .inl (G.2.2.1, 12, .inl fh)), (qd, .inl (G.2.2.1, 12, .inl fd)), (qb, .inl (G.2.2.1, 12, .inl fb))]) [1, 2, 3, 4, 5, 6, 7] rfl) rfl rfl rfl rfl hl.1 (Nat.le_of_ble_eq_true rfl) ⟨Nat.le_refl 0, Nat.le_refl 0⟩ dX4_meetsIn_44 ?_
      obtain ⟨r7, hr7, h⟩ := bd_t h
      refine rdV (As := [.int r5, .int r6]) (rest := []) S hK (c_X1_movesUntilMeeting l G qw qt qu ft fu r5 r6 r7 hr7) mX1_movesUntilMeeting q594 ⟨rfl, rfl, Nat.le_of_ble_eq_true rfl, Nat.le_of_ble_eq_true rfl⟩ (hP.sub (ws' := [(qw, .inr (1, [.ref qt, .ref qu])), (qt, .inl (G.2.2.1, 24, .inl ft)), (qu, .inl (G.2.2.1, 24, .inl fu))]) [2, 3, 4] rfl) rfl rfl rfl rfl hl.1 (Nat.le_of_ble_eq_true rfl) ⟨Nat.le_refl 0, Nat.le_refl 0⟩ dX4_meetsIn_47 ?_
      obtain rfl := Option.some.inj h
      exact retR S hr hlk rfl rfl dX4_meetsIn_50
    · replace h := if_t c4 h
      refine lv_iconst (v := (-1)) hx hb dX4_meetsIn_22 (by decide) ?_
      obtain rfl := Option.some.inj h
      exact retR S hr hlk rfl rfl dX4_meetsIn_23
set_option maxHeartbeats 4000000 in
set_option maxRecDepth 100000 in
theorem c_X4_reason (l : Launch) (G : gG) (oqa kqa hqa xqa qa qw qt qu qh qd qb : Nat) (isk : Int32) (sold : Int32) (stk : Int32) (pun : Int32) (fra : Int32) (tur : Int32) (ft : Nat → Int32) (fu : Nat → Int32) (fh : Nat → Int32) (fd : Nat → Int32) (fb : Nat → Int32) (p1 p2 : Int32) (res : Int32) (h : F_X4_reason sold ft fh p1 p2 = some res) : RdM l G yX4_reason cX4_reason 5 .int (rmk 4 94) [(oqa, .inr (4, [.ref qa, .ref kqa, .int isk, .ref hqa, .ref xqa])), (qa, .inr (3, [.ref qw, .ref qh, .ref qd, .ref qb, .int sold, .int stk, .int pun, .int fra, .int tur])), (qw, .inr (1, [.ref qt, .ref qu])), (qt, .inl (G.2.2.1, 24, .inl ft)), (qu, .inl (G.2.2.1, 24, .inl fu)), (qh, .inl (G.2.2.1, 12, .inl fh)), (qd, .inl (G.2.2.1, 12, .inl fd)), (qb, .inl (G.2.2.1, 12, .inl fb))] [.ref oqa, .int p1, .int p2] res := by
  refine ofR (by decide) (Nat.le_of_ble_eq_true rfl) ?_
  intro p e s m below meth c ls S hr hlk hK hP hl
  have S : CallFix p m c cX4_reason 5 s ([.ref oqa, .int p1, .int p2] : List Value).toArray T0 RX4 := S
  obtain ⟨hx, hb, hml, hown, hts⟩ := id S
  have hl : lv_has ls 5 [(0, .ref oqa), (1, .int p1), (2, .int p2)] := hl
  rw [F_X4_reason] at h
  refine lv_aload_n hx hb dX4_reason_0 rfl (lv_at hl 0 rfl) ?_
  refine gf S hK iX4 hP 0 rfl rfl 0 (by decide) q135 rfl dX4_reason_1 ?_
  refine lv_iload_n hx hb dX4_reason_4 rfl (lv_at hl 1 rfl) ?_
  obtain ⟨r1, hr1, h⟩ := bd_t h
  refine rdV (As := [.int p1]) (rest := []) S hK (c_X3_isTicket l G qa qw qt qu qh qd qb sold stk pun fra tur ft fu fh fd fb p1 r1 hr1) mX3_isTicket q479 ⟨rfl, rfl, Nat.le_of_ble_eq_true rfl, Nat.le_of_ble_eq_true rfl⟩ (hP.sub (ws' := [(qa, .inr (3, [.ref qw, .ref qh, .ref qd, .ref qb, .int sold, .int stk, .int pun, .int fra, .int tur])), (qw, .inr (1, [.ref qt, .ref qu])), (qt, .inl (G.2.2.1, 24, .inl ft)), (qu, .inl (G.2.2.1, 24, .inl fu)), (qh, .inl (G.2.2.1, 12, .inl fh)), (qd, .inl (G.2.2.1, 12, .inl fd)), (qb, .inl (G.2.2.1, 12, .inl fb))]) [1, 2, 3, 4, 5, 6, 7] rfl) rfl rfl rfl rfl hl.1 (Nat.le_of_ble_eq_true rfl) ⟨Nat.le_refl 0, Nat.le_refl 0⟩ dX4_reason_5 ?_
  refine lv_if_eq (tgt := 22) hx hb dX4_reason_8 (by decide) (fun c2 => ?_) (fun c2 => ?_)
  · replace h := if_t c2 h
    refine lv_iconst (v := (-1)) hx hb dX4_reason_22 (by decide) ?_
    obtain rfl := Option.some.inj h
    exact retR S hr hlk rfl rfl dX4_reason_23
  · replace h := if_f c2 h
    refine lv_aload_n hx hb dX4_reason_11 rfl (lv_at hl 0 rfl) ?_
    refine gf S hK iX4 hP 0 rfl rfl 0 (by decide) q135 rfl dX4_reason_12 ?_
    refine lv_iload_n hx hb dX4_reason_15 rfl (lv_at hl 2 rfl) ?_
    obtain ⟨r3, hr3, h⟩ := bd_t h
    refine rdV (As := [.int p2]) (rest := []) S hK (c_X3_isTicket l G qa qw qt qu qh qd qb sold stk pun fra tur ft fu fh fd fb p2 r3 hr3) mX3_isTicket q479 ⟨rfl, rfl, Nat.le_of_ble_eq_true rfl, Nat.le_of_ble_eq_true rfl⟩ (hP.sub (ws' := [(qa, .inr (3, [.ref qw, .ref qh, .ref qd, .ref qb, .int sold, .int stk, .int pun, .int fra, .int tur])), (qw, .inr (1, [.ref qt, .ref qu])), (qt, .inl (G.2.2.1, 24, .inl ft)), (qu, .inl (G.2.2.1, 24, .inl fu)), (qh, .inl (G.2.2.1, 12, .inl fh)), (qd, .inl (G.2.2.1, 12, .inl fd)), (qb, .inl (G.2.2.1, 12, .inl fb))]) [1, 2, 3, 4, 5, 6, 7] rfl) rfl rfl rfl rfl hl.1 (Nat.le_of_ble_eq_true rfl) ⟨Nat.le_refl 0, Nat.le_refl 0⟩ dX4_reason_16 ?_
    refine lv_if_ne (tgt := 24) hx hb dX4_reason_19 (by decide) (fun c4 => ?_) (fun c4 => ?_)
    · replace h := if_f c4 h
      refine lv_aload_n hx hb dX4_reason_24 rfl (lv_at hl 0 rfl) ?_
      refine gf S hK iX4 hP 0 rfl rfl 0 (by decide) q135 rfl dX4_reason_25 ?_
      refine lv_iload_n hx hb dX4_reason_28 rfl (lv_at hl 1 rfl) ?_
      obtain ⟨r5, hr5, h⟩ := bd_t h
      refine rdV (As := [.int p1]) (rest := []) S hK (c_X3_holes l G qa qw qt qu qh qd qb sold stk pun fra tur ft fu fh fd fb p1 r5 hr5) mX3_holes q480 ⟨rfl, rfl, Nat.le_of_ble_eq_true rfl, Nat.le_of_ble_eq_true rfl⟩ (hP.sub (ws' := [(qa, .inr (3, [.ref qw, .ref qh, .ref qd, .ref qb, .int sold, .int stk, .int pun, .int fra, .int tur])), (qw, .inr (1, [.ref qt, .ref qu])), (qt, .inl (G.2.2.1, 24, .inl ft)), (qu, .inl (G.2.2.1, 24, .inl fu)), (qh, .inl (G.2.2.1, 12, .inl fh)), (qd, .inl (G.2.2.1, 12, .inl fd)), (qb, .inl (G.2.2.1, 12, .inl fb))]) [1, 2, 3, 4, 5, 6, 7] rfl) rfl rfl rfl rfl hl.1 (Nat.le_of_ble_eq_true rfl) ⟨Nat.le_refl 0, Nat.le_refl 0⟩ dX4_reason_29 ?_
      refine lv_istore_n (lv' := [(3, .int r5), (0, .ref oqa), (1, .int p1), (2, .int p2)]) hx hb dX4_reason_32 rfl hl (by decide) rfl (fun ls hl => ?_)
      refine lv_aload_n hx hb dX4_reason_33 rfl (lv_at hl 1 rfl) ?_
      refine gf S hK iX4 hP 0 rfl rfl 0 (by decide) q135 rfl dX4_reason_34 ?_
      refine lv_iload_n hx hb dX4_reason_37 rfl (lv_at hl 3 rfl) ?_
      obtain ⟨r6, hr6, h⟩ := bd_t h
      refine rdV (As := [.int p2]) (rest := []) S hK (c_X3_holes l G qa qw qt qu qh qd qb sold stk pun fra tur ft fu fh fd fb p2 r6 hr6) mX3_holes q480 ⟨rfl, rfl, Nat.le_of_ble_eq_true rfl, Nat.le_of_ble_eq_true rfl⟩ (hP.sub (ws' := [(qa, .inr (3, [.ref qw, .ref qh, .ref qd, .ref qb, .int sold, .int stk, .int pun, .int fra, .int tur])), (qw, .inr (1, [.ref qt, .ref qu])), (qt, .inl (G.2.2.1, 24, .inl ft)), (qu, .inl (G.2.2.1, 24, .inl fu)), (qh, .inl (G.2.2.1, 12, .inl fh)), (qd, .inl (G.2.2.1, 12, .inl fd)), (qb, .inl (G.2.2.1, 12, .inl fb))]) [1, 2, 3, 4, 5, 6, 7] rfl) rfl rfl rfl rfl hl.1 (Nat.le_of_ble_eq_true rfl) ⟨Nat.le_refl 0, Nat.le_refl 0⟩ dX4_reason_38 ?_
      refine lv_istore (lv' := [(4, .int r6), (3, .int r5), (0, .ref oqa), (1, .int p1), (2, .int p2)]) hx hb dX4_reason_41 hl (by decide) rfl (fun ls hl => ?_)
      refine lv_iload_n hx hb dX4_reason_43 rfl (lv_at hl 1 rfl) ?_
      obtain ⟨r7, hr7, h⟩ := bd_t h
      refine rdS (As := [.int r5]) (rest := []) S hK (c_J6_bitCount_0f7a4 l G r5 r7 hr7) mJ6_bitCount_0f7a4 q306 ⟨rfl, rfl, Nat.le_of_ble_eq_true rfl, Nat.le_of_ble_eq_true rfl⟩ (ws_nil G.1 _) rfl hl.1 (Nat.le_of_ble_eq_true rfl) ⟨Nat.le_refl 0, Nat.le_refl 0⟩ dX4_reason_44 ?_
      refine lv_iload hx hb dX4_reason_47 (lv_at hl 0 rfl) ?_
      obtain ⟨r8, hr8, h⟩ := bd_t h
      refine rdS (As := [.int r6]) (rest := [.int r7]) S hK (c_J6_bitCount_0f7a4 l G r6 r8 hr8) mJ6_bitCount_0f7a4 q306 ⟨rfl, rfl, Nat.le_of_ble_eq_true rfl, Nat.le_of_ble_eq_true rfl⟩ (ws_nil G.1 _) rfl hl.1 (Nat.le_of_ble_eq_true rfl) ⟨Nat.le_refl 0, Nat.le_refl 0⟩ dX4_reason_49 ?_
      refine lv_icmp_eq (tgt := 57) hx hb dX4_reason_52 (by decide) (fun c9 => ?_) (fun c9 => ?_)
      · replace h := if_t c9 h
        refine lv_aload_n hx hb dX4_reason_57 rfl (lv_at hl 2 rfl) ?_
        refine gf S hK iX4 hP 0 rfl rfl 0 (by decide) q135 rfl dX4_reason_58 ?_
        refine gfN S hK iX3 hP 1 rfl rfl 0 (by decide) 0 rfl rfl dX4_reason_61 ?_
        refine lv_iload_n hx hb dX4_reason_64 rfl (lv_at hl 1 rfl) ?_
        refine lv_iload hx hb dX4_reason_65 (lv_at hl 0 rfl) ?_
        obtain ⟨r10, hr10, h⟩ := bd_t h
        refine rdV (As := [.int r5, .int r6]) (rest := []) S hK (c_X1_hasLikeNumbersInRounds l G qw qt qu ft fu r5 r6 r10 hr10) mX1_hasLikeNumbersInRounds q572 ⟨rfl, rfl, Nat.le_of_ble_eq_true rfl, Nat.le_of_ble_eq_true rfl⟩ (hP.sub (ws' := [(qw, .inr (1, [.ref qt, .ref qu])), (qt, .inl (G.2.2.1, 24, .inl ft)), (qu, .inl (G.2.2.1, 24, .inl fu))]) [2, 3, 4] rfl) rfl rfl rfl rfl hl.1 (Nat.le_of_ble_eq_true rfl) ⟨Nat.le_refl 0, Nat.le_refl 0⟩ dX4_reason_67 ?_
        refine lv_if_ne (tgt := 75) hx hb dX4_reason_70 (by decide) (fun c11 => ?_) (fun c11 => ?_)
        · replace h := if_f c11 h
          refine lv_aload_n hx hb dX4_reason_75 rfl (lv_at hl 2 rfl) ?_
          refine gf S hK iX4 hP 0 rfl rfl 0 (by decide) q135 rfl dX4_reason_76 ?_
          refine gfN S hK iX3 hP 1 rfl rfl 0 (by decide) 0 rfl rfl dX4_reason_79 ?_
          refine lv_iload_n hx hb dX4_reason_82 rfl (lv_at hl 1 rfl) ?_
          refine lv_iload hx hb dX4_reason_83 (lv_at hl 0 rfl) ?_
          obtain ⟨r12, hr12, h⟩ := bd_t h
          refine rdV (As := [.int r5, .int r6]) (rest := []) S hK (c_X1_movesUntilAlike l G qw qt qu ft fu r5 r6 r12 hr12) mX1_movesUntilAlike q567 ⟨rfl, rfl, Nat.le_of_ble_eq_true rfl, Nat.le_of_ble_eq_true rfl⟩ (hP.sub (ws' := [(qw, .inr (1, [.ref qt, .ref qu])), (qt, .inl (G.2.2.1, 24, .inl ft)), (qu, .inl (G.2.2.1, 24, .inl fu))]) [2, 3, 4] rfl) rfl rfl rfl rfl hl.1 (Nat.le_of_ble_eq_true rfl) ⟨Nat.le_refl 0, Nat.le_refl 0⟩ dX4_reason_85 ?_
          refine lv_bipush (v := (-5)) hx hb dX4_reason_88 (by decide) ?_
          refine lv_icmp_ne (tgt := 97) hx hb dX4_reason_90 (by decide) (fun c13 => ?_) (fun c13 => ?_)
          · replace h := if_f c13 h
            refine lv_iconst (v := 0) hx hb dX4_reason_97 (by decide) ?_
            obtain rfl := Option.some.inj h
            exact retR S hr hlk rfl rfl dX4_reason_98
          · replace h := if_t c13 h
            refine lv_iconst (v := 3) hx hb dX4_reason_93 (by decide) ?_
            refine lv_goto (tgt := 98) hx hb dX4_reason_94 (by decide) ?_
            obtain rfl := Option.some.inj h
            exact retR S hr hlk rfl rfl dX4_reason_98
        · replace h := if_t c11 h
          refine lv_iconst (v := 2) hx hb dX4_reason_73 (by decide) ?_
          obtain rfl := Option.some.inj h
          exact retR S hr hlk rfl rfl dX4_reason_74
      · replace h := if_f c9 h
        refine lv_iconst (v := 1) hx hb dX4_reason_55 (by decide) ?_
        obtain rfl := Option.some.inj h
        exact retR S hr hlk rfl rfl dX4_reason_56
    · replace h := if_t c4 h
      refine lv_iconst (v := (-1)) hx hb dX4_reason_22 (by decide) ?_
      obtain rfl := Option.some.inj h
      exact retR S hr hlk rfl rfl dX4_reason_23
set_option maxHeartbeats 4000000 in
set_option maxRecDepth 100000 in
theorem c_X4_kin (l : Launch) (G : gG) (oqa kqa hqa xqa qa qw qt qu qh qd qb : Nat) (isk : Int32) (sold : Int32) (stk : Int32) (pun : Int32) (fra : Int32) (tur : Int32) (ft : Nat → Int32) (fu : Nat → Int32) (fh : Nat → Int32) (fd : Nat → Int32) (fb : Nat → Int32) (p1 : Int32) (res : Int32) (h : F_X4_kin sold ft fh p1 = some res) : RdM l G yX4_kin cX4_kin 2 .int (rmk 4 94) [(oqa, .inr (4, [.ref qa, .ref kqa, .int isk, .ref hqa, .ref xqa])), (qa, .inr (3, [.ref qw, .ref qh, .ref qd, .ref qb, .int sold, .int stk, .int pun, .int fra, .int tur])), (qw, .inr (1, [.ref qt, .ref qu])), (qt, .inl (G.2.2.1, 24, .inl ft)), (qu, .inl (G.2.2.1, 24, .inl fu)), (qh, .inl (G.2.2.1, 12, .inl fh)), (qd, .inl (G.2.2.1, 12, .inl fd)), (qb, .inl (G.2.2.1, 12, .inl fb))] [.ref oqa, .int p1] res := by
  refine ofR (by decide) (Nat.le_of_ble_eq_true rfl) ?_
  intro p e s m below meth c ls S hr hlk hK hP hl
  have S : CallFix p m c cX4_kin 2 s ([.ref oqa, .int p1] : List Value).toArray T0 RX4 := S
  obtain ⟨hx, hb, hml, hown, hts⟩ := id S
  have hl : lv_has ls 2 [(0, .ref oqa), (1, .int p1)] := hl
  rw [F_X4_kin] at h
  refine lv_aload_n hx hb dX4_kin_0 rfl (lv_at hl 0 rfl) ?_
  refine gf S hK iX4 hP 0 rfl rfl 0 (by decide) q135 rfl dX4_kin_1 ?_
  refine lv_iload_n hx hb dX4_kin_4 rfl (lv_at hl 1 rfl) ?_
  obtain ⟨r1, hr1, h⟩ := bd_t h
  refine rdV (As := [.int p1]) (rest := []) S hK (c_X3_isTicket l G qa qw qt qu qh qd qb sold stk pun fra tur ft fu fh fd fb p1 r1 hr1) mX3_isTicket q479 ⟨rfl, rfl, Nat.le_of_ble_eq_true rfl, Nat.le_of_ble_eq_true rfl⟩ (hP.sub (ws' := [(qa, .inr (3, [.ref qw, .ref qh, .ref qd, .ref qb, .int sold, .int stk, .int pun, .int fra, .int tur])), (qw, .inr (1, [.ref qt, .ref qu])), (qt, .inl (G.2.2.1, 24, .inl ft)), (qu, .inl (G.2.2.1, 24, .inl fu)), (qh, .inl (G.2.2.1, 12, .inl fh)), (qd, .inl (G.2.2.1, 12, .inl fd)), (qb, .inl (G.2.2.1, 12, .inl fb))]) [1, 2, 3, 4, 5, 6, 7] rfl) rfl rfl rfl rfl hl.1 (Nat.le_of_ble_eq_true rfl) ⟨Nat.le_refl 0, Nat.le_refl 0⟩ dX4_kin_5 ?_
  refine lv_if_ne (tgt := 13) hx hb dX4_kin_8 (by decide) (fun c2 => ?_) (fun c2 => ?_)
  · replace h := if_f c2 h
    refine lv_aload_n hx hb dX4_kin_13 rfl (lv_at hl 0 rfl) ?_
    refine gf S hK iX4 hP 0 rfl rfl 0 (by decide) q135 rfl dX4_kin_14 ?_
    refine lv_iload_n hx hb dX4_kin_17 rfl (lv_at hl 1 rfl) ?_
    obtain ⟨r3, hr3, h⟩ := bd_t h
    refine rdV (As := [.int p1]) (rest := []) S hK (c_X3_kinOf l G qa qw qt qu qh qd qb sold stk pun fra tur ft fu fh fd fb p1 r3 hr3) mX3_kinOf q580 ⟨rfl, rfl, Nat.le_of_ble_eq_true rfl, Nat.le_of_ble_eq_true rfl⟩ (hP.sub (ws' := [(qa, .inr (3, [.ref qw, .ref qh, .ref qd, .ref qb, .int sold, .int stk, .int pun, .int fra, .int tur])), (qw, .inr (1, [.ref qt, .ref qu])), (qt, .inl (G.2.2.1, 24, .inl ft)), (qu, .inl (G.2.2.1, 24, .inl fu)), (qh, .inl (G.2.2.1, 12, .inl fh)), (qd, .inl (G.2.2.1, 12, .inl fd)), (qb, .inl (G.2.2.1, 12, .inl fb))]) [1, 2, 3, 4, 5, 6, 7] rfl) rfl rfl rfl rfl hl.1 (Nat.le_of_ble_eq_true rfl) ⟨Nat.le_refl 0, Nat.le_refl 0⟩ dX4_kin_18 ?_
    obtain rfl := Option.some.inj h
    exact retR S hr hlk rfl rfl dX4_kin_21
  · replace h := if_t c2 h
    refine lv_iconst (v := (-1)) hx hb dX4_kin_11 (by decide) ?_
    obtain rfl := Option.some.inj h
    exact retR S hr hlk rfl rfl dX4_kin_12
set_option maxHeartbeats 4000000 in
set_option maxRecDepth 100000 in
theorem c_X4_light (l : Launch) (G : gG) (oqa kqa hqa xqa qa qw qt qu qh qd qb : Nat) (isk : Int32) (sold : Int32) (stk : Int32) (pun : Int32) (fra : Int32) (tur : Int32) (ft : Nat → Int32) (fu : Nat → Int32) (fh : Nat → Int32) (fd : Nat → Int32) (fb : Nat → Int32) (res : Int32) (h : F_X4_light sold stk fh = some res) : RdM l G yX4_light cX4_light 1 .int (rmk 4 85) [(oqa, .inr (4, [.ref qa, .ref kqa, .int isk, .ref hqa, .ref xqa])), (qa, .inr (3, [.ref qw, .ref qh, .ref qd, .ref qb, .int sold, .int stk, .int pun, .int fra, .int tur])), (qw, .inr (1, [.ref qt, .ref qu])), (qt, .inl (G.2.2.1, 24, .inl ft)), (qu, .inl (G.2.2.1, 24, .inl fu)), (qh, .inl (G.2.2.1, 12, .inl fh)), (qd, .inl (G.2.2.1, 12, .inl fd)), (qb, .inl (G.2.2.1, 12, .inl fb))] [.ref oqa] res := by
  refine ofR (by decide) (Nat.le_of_ble_eq_true rfl) ?_
  intro p e s m below meth c ls S hr hlk hK hP hl
  have S : CallFix p m c cX4_light 1 s ([.ref oqa] : List Value).toArray T0 RX4 := S
  obtain ⟨hx, hb, hml, hown, hts⟩ := id S
  have hl : lv_has ls 1 [(0, .ref oqa)] := hl
  rw [F_X4_light] at h
  refine lv_aload_n hx hb dX4_light_0 rfl (lv_at hl 0 rfl) ?_
  refine gf S hK iX4 hP 0 rfl rfl 0 (by decide) q135 rfl dX4_light_1 ?_
  obtain ⟨r1, hr1, h⟩ := bd_t h
  refine rdV (As := []) (rest := []) S hK (c_X3_lightPlaces l G qa qw qt qu qh qd qb sold stk pun fra tur ft fu fh fd fb r1 hr1) mX3_lightPlaces q390 ⟨rfl, rfl, Nat.le_of_ble_eq_true rfl, Nat.le_of_ble_eq_true rfl⟩ (hP.sub (ws' := [(qa, .inr (3, [.ref qw, .ref qh, .ref qd, .ref qb, .int sold, .int stk, .int pun, .int fra, .int tur])), (qw, .inr (1, [.ref qt, .ref qu])), (qt, .inl (G.2.2.1, 24, .inl ft)), (qu, .inl (G.2.2.1, 24, .inl fu)), (qh, .inl (G.2.2.1, 12, .inl fh)), (qd, .inl (G.2.2.1, 12, .inl fd)), (qb, .inl (G.2.2.1, 12, .inl fb))]) [1, 2, 3, 4, 5, 6, 7] rfl) rfl rfl rfl rfl hl.1 (Nat.le_of_ble_eq_true rfl) ⟨Nat.le_refl 0, Nat.le_refl 0⟩ dX4_light_4 ?_
  obtain rfl := Option.some.inj h
  exact retR S hr hlk rfl rfl dX4_light_7
set_option maxHeartbeats 4000000 in
set_option maxRecDepth 100000 in
theorem c_X4_bestTurn (l : Launch) (G : gG) (oqa kqa hqa xqa qa qw qt qu qh qd qb : Nat) (isk : Int32) (sold : Int32) (stk : Int32) (pun : Int32) (fra : Int32) (tur : Int32) (ft : Nat → Int32) (fu : Nat → Int32) (fh : Nat → Int32) (fd : Nat → Int32) (fb : Nat → Int32) (p1 p2 : Int32) (res : Int32) (h : F_X4_bestTurn sold stk ft fh p1 p2 = some res) : RdM l G yX4_bestTurn cX4_bestTurn 3 .int (rmk 5 119) [(oqa, .inr (4, [.ref qa, .ref kqa, .int isk, .ref hqa, .ref xqa])), (qa, .inr (3, [.ref qw, .ref qh, .ref qd, .ref qb, .int sold, .int stk, .int pun, .int fra, .int tur])), (qw, .inr (1, [.ref qt, .ref qu])), (qt, .inl (G.2.2.1, 24, .inl ft)), (qu, .inl (G.2.2.1, 24, .inl fu)), (qh, .inl (G.2.2.1, 12, .inl fh)), (qd, .inl (G.2.2.1, 12, .inl fd)), (qb, .inl (G.2.2.1, 12, .inl fb))] [.ref oqa, .int p1, .int p2] res := by
  refine ofR (by decide) (Nat.le_of_ble_eq_true rfl) ?_
  intro p e s m below meth c ls S hr hlk hK hP hl
  have S : CallFix p m c cX4_bestTurn 3 s ([.ref oqa, .int p1, .int p2] : List Value).toArray T0 RX4 := S
  obtain ⟨hx, hb, hml, hown, hts⟩ := id S
  have hl : lv_has ls 3 [(0, .ref oqa), (1, .int p1), (2, .int p2)] := hl
  rw [F_X4_bestTurn] at h
  refine lv_aload_n hx hb dX4_bestTurn_0 rfl (lv_at hl 0 rfl) ?_
  refine gf S hK iX4 hP 0 rfl rfl 0 (by decide) q135 rfl dX4_bestTurn_1 ?_
  refine lv_iload_n hx hb dX4_bestTurn_4 rfl (lv_at hl 1 rfl) ?_
  obtain ⟨r1, hr1, h⟩ := bd_t h
  refine rdV (As := [.int p1]) (rest := []) S hK (c_X3_isTicket l G qa qw qt qu qh qd qb sold stk pun fra tur ft fu fh fd fb p1 r1 hr1) mX3_isTicket q479 ⟨rfl, rfl, Nat.le_of_ble_eq_true rfl, Nat.le_of_ble_eq_true rfl⟩ (hP.sub (ws' := [(qa, .inr (3, [.ref qw, .ref qh, .ref qd, .ref qb, .int sold, .int stk, .int pun, .int fra, .int tur])), (qw, .inr (1, [.ref qt, .ref qu])), (qt, .inl (G.2.2.1, 24, .inl ft)), (qu, .inl (G.2.2.1, 24, .inl fu)), (qh, .inl (G.2.2.1, 12, .inl fh)), (qd, .inl (G.2.2.1, 12, .inl fd)), (qb, .inl (G.2.2.1, 12, .inl fb))]) [1, 2, 3, 4, 5, 6, 7] rfl) rfl rfl rfl rfl hl.1 (Nat.le_of_ble_eq_true rfl) ⟨Nat.le_refl 0, Nat.le_refl 0⟩ dX4_bestTurn_5 ?_
  refine lv_if_ne (tgt := 13) hx hb dX4_bestTurn_8 (by decide) (fun c2 => ?_) (fun c2 => ?_)
  · replace h := if_f c2 h
    refine lv_iload_n hx hb dX4_bestTurn_13 rfl (lv_at hl 2 rfl) ?_
    refine lv_if_lt (tgt := 22) hx hb dX4_bestTurn_14 (by decide) (fun c3 => ?_) (fun c3 => ?_)
    · replace h := if_t c3 h
      refine lv_bipush (v := (-2)) hx hb dX4_bestTurn_22 (by decide) ?_
      obtain rfl := Option.some.inj h
      exact retR S hr hlk rfl rfl dX4_bestTurn_24
    · replace h := if_f c3 h
      refine lv_iload_n hx hb dX4_bestTurn_17 rfl (lv_at hl 2 rfl) ?_
      refine lv_iconst (v := 1) hx hb dX4_bestTurn_18 (by decide) ?_
      refine lv_icmp_le (tgt := 25) hx hb dX4_bestTurn_19 (by decide) (fun c4 => ?_) (fun c4 => ?_)
      · replace h := if_t c4 h
        refine lv_aload_n hx hb dX4_bestTurn_25 rfl (lv_at hl 0 rfl) ?_
        refine gf S hK iX4 hP 0 rfl rfl 0 (by decide) q135 rfl dX4_bestTurn_26 ?_
        obtain ⟨r5, hr5, h⟩ := bd_t h
        refine rdV (As := []) (rest := []) S hK (c_X3_stacked l G qa qw qt qu qh qd qb sold stk pun fra tur ft fu fh fd fb r5 hr5) mX3_stacked q273 ⟨rfl, rfl, Nat.le_of_ble_eq_true rfl, Nat.le_of_ble_eq_true rfl⟩ (hP.sub (ws' := [(qa, .inr (3, [.ref qw, .ref qh, .ref qd, .ref qb, .int sold, .int stk, .int pun, .int fra, .int tur])), (qw, .inr (1, [.ref qt, .ref qu])), (qt, .inl (G.2.2.1, 24, .inl ft)), (qu, .inl (G.2.2.1, 24, .inl fu)), (qh, .inl (G.2.2.1, 12, .inl fh)), (qd, .inl (G.2.2.1, 12, .inl fd)), (qb, .inl (G.2.2.1, 12, .inl fb))]) [1, 2, 3, 4, 5, 6, 7] rfl) rfl rfl rfl rfl hl.1 (Nat.le_of_ble_eq_true rfl) ⟨Nat.le_refl 0, Nat.le_refl 0⟩ dX4_bestTurn_29 ?_
        refine lv_iload_n hx hb dX4_bestTurn_32 rfl (lv_at hl 1 rfl) ?_
        obtain ⟨r6, hr6, h⟩ := bd_t h
        refine rdS (As := [.int r5, .int p1]) (rest := []) S hK (c_X4_has l G r5 p1 r6 hr6) mX4_has q349 ⟨rfl, rfl, Nat.le_of_ble_eq_true rfl, Nat.le_of_ble_eq_true rfl⟩ (ws_nil G.1 _) rfl hl.1 (Nat.le_of_ble_eq_true rfl) ⟨Nat.le_refl 0, Nat.le_refl 0⟩ dX4_bestTurn_33 ?_
        refine lv_if_ne (tgt := 42) hx hb dX4_bestTurn_36 (by decide) (fun c7 => ?_) (fun c7 => ?_)
        · replace h := if_f c7 h
          refine lv_iload_n hx hb dX4_bestTurn_42 rfl (lv_at hl 2 rfl) ?_
          refine lv_if_ne (tgt := 57) hx hb dX4_bestTurn_43 (by decide) (fun c8 => ?_) (fun c8 => ?_)
          · replace h := if_f c8 h
            refine lv_aload_n hx hb dX4_bestTurn_57 rfl (lv_at hl 0 rfl) ?_
            refine gf S hK iX4 hP 0 rfl rfl 0 (by decide) q135 rfl dX4_bestTurn_58 ?_
            refine lv_iload_n hx hb dX4_bestTurn_61 rfl (lv_at hl 1 rfl) ?_
            obtain ⟨r9, hr9, h⟩ := bd_t h
            refine rdV (As := [.int p1]) (rest := []) S hK (c_X3_mostLight l G qa qw qt qu qh qd qb sold stk pun fra tur ft fu fh fd fb p1 r9 hr9) mX3_mostLight q606 ⟨rfl, rfl, Nat.le_of_ble_eq_true rfl, Nat.le_of_ble_eq_true rfl⟩ (hP.sub (ws' := [(qa, .inr (3, [.ref qw, .ref qh, .ref qd, .ref qb, .int sold, .int stk, .int pun, .int fra, .int tur])), (qw, .inr (1, [.ref qt, .ref qu])), (qt, .inl (G.2.2.1, 24, .inl ft)), (qu, .inl (G.2.2.1, 24, .inl fu)), (qh, .inl (G.2.2.1, 12, .inl fh)), (qd, .inl (G.2.2.1, 12, .inl fd)), (qb, .inl (G.2.2.1, 12, .inl fb))]) [1, 2, 3, 4, 5, 6, 7] rfl) rfl rfl rfl rfl hl.1 (Nat.le_of_ble_eq_true rfl) ⟨Nat.le_refl 0, Nat.le_refl 0⟩ dX4_bestTurn_62 ?_
            obtain rfl := Option.some.inj h
            exact retR S hr hlk rfl rfl dX4_bestTurn_65
          · replace h := if_t c8 h
            refine lv_aload_n hx hb dX4_bestTurn_46 rfl (lv_at hl 0 rfl) ?_
            refine gf S hK iX4 hP 0 rfl rfl 0 (by decide) q135 rfl dX4_bestTurn_47 ?_
            refine lv_iload_n hx hb dX4_bestTurn_50 rfl (lv_at hl 1 rfl) ?_
            obtain ⟨r10, hr10, h⟩ := bd_t h
            refine rdV (As := [.int p1]) (rest := []) S hK (c_X3_bestPower l G qa qw qt qu qh qd qb sold stk pun fra tur ft fu fh fd fb p1 r10 hr10) mX3_bestPower q602 ⟨rfl, rfl, Nat.le_of_ble_eq_true rfl, Nat.le_of_ble_eq_true rfl⟩ (hP.sub (ws' := [(qa, .inr (3, [.ref qw, .ref qh, .ref qd, .ref qb, .int sold, .int stk, .int pun, .int fra, .int tur])), (qw, .inr (1, [.ref qt, .ref qu])), (qt, .inl (G.2.2.1, 24, .inl ft)), (qu, .inl (G.2.2.1, 24, .inl fu)), (qh, .inl (G.2.2.1, 12, .inl fh)), (qd, .inl (G.2.2.1, 12, .inl fd)), (qb, .inl (G.2.2.1, 12, .inl fb))]) [1, 2, 3, 4, 5, 6, 7] rfl) rfl rfl rfl rfl hl.1 (Nat.le_of_ble_eq_true rfl) ⟨Nat.le_refl 0, Nat.le_refl 0⟩ dX4_bestTurn_51 ?_
            refine lv_goto (tgt := 65) hx hb dX4_bestTurn_54 (by decide) ?_
            obtain rfl := Option.some.inj h
            exact retR S hr hlk rfl rfl dX4_bestTurn_65
        · replace h := if_t c7 h
          refine lv_bipush (v := (-4)) hx hb dX4_bestTurn_39 (by decide) ?_
          obtain rfl := Option.some.inj h
          exact retR S hr hlk rfl rfl dX4_bestTurn_41
      · replace h := if_f c4 h
        refine lv_bipush (v := (-2)) hx hb dX4_bestTurn_22 (by decide) ?_
        obtain rfl := Option.some.inj h
        exact retR S hr hlk rfl rfl dX4_bestTurn_24
  · replace h := if_t c2 h
    refine lv_iconst (v := (-1)) hx hb dX4_bestTurn_11 (by decide) ?_
    obtain rfl := Option.some.inj h
    exact retR S hr hlk rfl rfl dX4_bestTurn_12
set_option maxHeartbeats 4000000 in
set_option maxRecDepth 100000 in
theorem c_X4_count (l : Launch) (G : gG) (oqa kqa qa qw qt qu qh qd qb hqa hqr xqa xqc xqt : Nat) (isk : Int32) (sold : Int32) (stk : Int32) (pun : Int32) (fra : Int32) (tur : Int32) (ft : Nat → Int32) (fu : Nat → Int32) (fh : Nat → Int32) (fd : Nat → Int32) (fb : Nat → Int32) (hnx : Int32) (hsz : Int32) (fr : Nat → Option Nat) (xlen : Int32) (xidx : Int32) (xknd : Int32) (xawt : Int32) (xnum : Int32) (xcam : Int32) (xfst : Int32) (xlst : Int32) (xfc : Nat → Int32) (xft : Nat → Int32) (p1 : Int32) (res : Int32) (h : F_X4_count sold stk pun fra tur fh fd hsz xlen p1 = some res) : RdM l G yX4_count cX4_count 2 .int (rmk 4 85) [(oqa, .inr (4, [.ref qa, .ref kqa, .int isk, .ref hqa, .ref xqa])), (qa, .inr (3, [.ref qw, .ref qh, .ref qd, .ref qb, .int sold, .int stk, .int pun, .int fra, .int tur])), (qw, .inr (1, [.ref qt, .ref qu])), (qt, .inl (G.2.2.1, 24, .inl ft)), (qu, .inl (G.2.2.1, 24, .inl fu)), (qh, .inl (G.2.2.1, 12, .inl fh)), (qd, .inl (G.2.2.1, 12, .inl fd)), (qb, .inl (G.2.2.1, 12, .inl fb)), (hqa, .inr (0, [.ref hqr, .int hnx, .int hsz])), (hqr, .inl (G.2.2.2, 4, .inr (.inr (.inr (.inr fr))))), (xqa, .inr (2, [.ref xqc, .int xlen, .ref xqt, .int xidx, .int xknd, .int xawt, .int xnum, .int xcam, .int xfst, .int xlst])), (xqc, .inl (G.2.1, 80, .inl xfc)), (xqt, .inl (G.2.2.1, 24, .inl xft))] [.ref oqa, .int p1] res := by
  refine ofR (by decide) (Nat.le_of_ble_eq_true rfl) ?_
  intro p e s m below meth c ls S hr hlk hK hP hl
  have S : CallFix p m c cX4_count 2 s ([.ref oqa, .int p1] : List Value).toArray T0 RX4 := S
  obtain ⟨hx, hb, hml, hown, hts⟩ := id S
  have hl : lv_has ls 2 [(0, .ref oqa), (1, .int p1)] := hl
  rw [F_X4_count] at h
  refine lv_iload_n hx hb dX4_count_0 rfl (lv_at hl 1 rfl) ?_
  by_cases z1_0 : p1 = 0
  · replace h := if_t z1_0 h
    refine lv_tableIn (off := 59) (tgt := 60) hx hb dX4_count_1 (by rw [z1_0]; decide) (by rw [z1_0]; decide) (by rw [z1_0]; rfl) (by decide) ?_
    refine lv_aload_n hx hb dX4_count_60 rfl (lv_at hl 0 rfl) ?_
    refine gf S hK iX4 hP 0 rfl rfl 0 (by decide) q135 rfl dX4_count_61 ?_
    obtain ⟨r1, hr1, h⟩ := bd_t h
    refine rdV (As := []) (rest := []) S hK (c_X3_sold l G qa qw qt qu qh qd qb sold stk pun fra tur ft fu fh fd fb r1 hr1) mX3_sold q328 ⟨rfl, rfl, Nat.le_of_ble_eq_true rfl, Nat.le_of_ble_eq_true rfl⟩ (hP.sub (ws' := [(qa, .inr (3, [.ref qw, .ref qh, .ref qd, .ref qb, .int sold, .int stk, .int pun, .int fra, .int tur])), (qw, .inr (1, [.ref qt, .ref qu])), (qt, .inl (G.2.2.1, 24, .inl ft)), (qu, .inl (G.2.2.1, 24, .inl fu)), (qh, .inl (G.2.2.1, 12, .inl fh)), (qd, .inl (G.2.2.1, 12, .inl fd)), (qb, .inl (G.2.2.1, 12, .inl fb))]) [1, 2, 3, 4, 5, 6, 7] rfl) rfl rfl rfl rfl hl.1 (Nat.le_of_ble_eq_true rfl) ⟨Nat.le_refl 0, Nat.le_refl 0⟩ dX4_count_64 ?_
    obtain rfl := Option.some.inj h
    exact retR S hr hlk rfl rfl dX4_count_67
  replace h := if_f z1_0 h
  by_cases z1_1 : p1 = 1
  · replace h := if_t z1_1 h
    refine lv_tableIn (off := 67) (tgt := 68) hx hb dX4_count_1 (by rw [z1_1]; decide) (by rw [z1_1]; decide) (by rw [z1_1]; rfl) (by decide) ?_
    refine lv_aload_n hx hb dX4_count_68 rfl (lv_at hl 0 rfl) ?_
    refine gf S hK iX4 hP 0 rfl rfl 0 (by decide) q135 rfl dX4_count_69 ?_
    obtain ⟨r2, hr2, h⟩ := bd_t h
    refine rdV (As := []) (rest := []) S hK (c_X3_stacked l G qa qw qt qu qh qd qb sold stk pun fra tur ft fu fh fd fb r2 hr2) mX3_stacked q273 ⟨rfl, rfl, Nat.le_of_ble_eq_true rfl, Nat.le_of_ble_eq_true rfl⟩ (hP.sub (ws' := [(qa, .inr (3, [.ref qw, .ref qh, .ref qd, .ref qb, .int sold, .int stk, .int pun, .int fra, .int tur])), (qw, .inr (1, [.ref qt, .ref qu])), (qt, .inl (G.2.2.1, 24, .inl ft)), (qu, .inl (G.2.2.1, 24, .inl fu)), (qh, .inl (G.2.2.1, 12, .inl fh)), (qd, .inl (G.2.2.1, 12, .inl fd)), (qb, .inl (G.2.2.1, 12, .inl fb))]) [1, 2, 3, 4, 5, 6, 7] rfl) rfl rfl rfl rfl hl.1 (Nat.le_of_ble_eq_true rfl) ⟨Nat.le_refl 0, Nat.le_refl 0⟩ dX4_count_72 ?_
    obtain ⟨r3, hr3, h⟩ := bd_t h
    refine rdS (As := [.int r2]) (rest := []) S hK (c_J6_bitCount_0f7a4 l G r2 r3 hr3) mJ6_bitCount_0f7a4 q306 ⟨rfl, rfl, Nat.le_of_ble_eq_true rfl, Nat.le_of_ble_eq_true rfl⟩ (ws_nil G.1 _) rfl hl.1 (Nat.le_of_ble_eq_true rfl) ⟨Nat.le_refl 0, Nat.le_refl 0⟩ dX4_count_75 ?_
    obtain rfl := Option.some.inj h
    exact retR S hr hlk rfl rfl dX4_count_78
  replace h := if_f z1_1 h
  by_cases z1_2 : p1 = 2
  · replace h := if_t z1_2 h
    refine lv_tableIn (off := 78) (tgt := 79) hx hb dX4_count_1 (by rw [z1_2]; decide) (by rw [z1_2]; decide) (by rw [z1_2]; rfl) (by decide) ?_
    refine lv_aload_n hx hb dX4_count_79 rfl (lv_at hl 0 rfl) ?_
    refine gf S hK iX4 hP 0 rfl rfl 0 (by decide) q135 rfl dX4_count_80 ?_
    obtain ⟨r4, hr4, h⟩ := bd_t h
    refine rdV (As := []) (rest := []) S hK (c_X3_falseTickets l G qa qw qt qu qh qd qb sold stk pun fra tur ft fu fh fd fb r4 hr4) mX3_falseTickets q403 ⟨rfl, rfl, Nat.le_of_ble_eq_true rfl, Nat.le_of_ble_eq_true rfl⟩ (hP.sub (ws' := [(qa, .inr (3, [.ref qw, .ref qh, .ref qd, .ref qb, .int sold, .int stk, .int pun, .int fra, .int tur])), (qw, .inr (1, [.ref qt, .ref qu])), (qt, .inl (G.2.2.1, 24, .inl ft)), (qu, .inl (G.2.2.1, 24, .inl fu)), (qh, .inl (G.2.2.1, 12, .inl fh)), (qd, .inl (G.2.2.1, 12, .inl fd)), (qb, .inl (G.2.2.1, 12, .inl fb))]) [1, 2, 3, 4, 5, 6, 7] rfl) rfl rfl rfl rfl hl.1 (Nat.le_of_ble_eq_true rfl) ⟨Nat.le_refl 0, Nat.le_refl 0⟩ dX4_count_83 ?_
    obtain rfl := Option.some.inj h
    exact retR S hr hlk rfl rfl dX4_count_86
  replace h := if_f z1_2 h
  by_cases z1_3 : p1 = 3
  · replace h := if_t z1_3 h
    refine lv_tableIn (off := 86) (tgt := 87) hx hb dX4_count_1 (by rw [z1_3]; decide) (by rw [z1_3]; decide) (by rw [z1_3]; rfl) (by decide) ?_
    refine lv_aload_n hx hb dX4_count_87 rfl (lv_at hl 0 rfl) ?_
    refine gf S hK iX4 hP 0 rfl rfl 0 (by decide) q135 rfl dX4_count_88 ?_
    obtain ⟨r5, hr5, h⟩ := bd_t h
    refine rdV (As := []) (rest := []) S hK (c_X3_allHoles l G qa qw qt qu qh qd qb sold stk pun fra tur ft fu fh fd fb r5 hr5) mX3_allHoles q415 ⟨rfl, rfl, Nat.le_of_ble_eq_true rfl, Nat.le_of_ble_eq_true rfl⟩ (hP.sub (ws' := [(qa, .inr (3, [.ref qw, .ref qh, .ref qd, .ref qb, .int sold, .int stk, .int pun, .int fra, .int tur])), (qw, .inr (1, [.ref qt, .ref qu])), (qt, .inl (G.2.2.1, 24, .inl ft)), (qu, .inl (G.2.2.1, 24, .inl fu)), (qh, .inl (G.2.2.1, 12, .inl fh)), (qd, .inl (G.2.2.1, 12, .inl fd)), (qb, .inl (G.2.2.1, 12, .inl fb))]) [1, 2, 3, 4, 5, 6, 7] rfl) rfl rfl rfl rfl hl.1 (Nat.le_of_ble_eq_true rfl) ⟨Nat.le_refl 0, Nat.le_refl 0⟩ dX4_count_91 ?_
    obtain rfl := Option.some.inj h
    exact retR S hr hlk rfl rfl dX4_count_94
  replace h := if_f z1_3 h
  by_cases z1_4 : p1 = 4
  · replace h := if_t z1_4 h
    refine lv_tableIn (off := 94) (tgt := 95) hx hb dX4_count_1 (by rw [z1_4]; decide) (by rw [z1_4]; decide) (by rw [z1_4]; rfl) (by decide) ?_
    refine lv_aload_n hx hb dX4_count_95 rfl (lv_at hl 0 rfl) ?_
    refine gf S hK iX4 hP 0 rfl rfl 0 (by decide) q135 rfl dX4_count_96 ?_
    obtain ⟨r6, hr6, h⟩ := bd_t h
    refine rdV (As := []) (rest := []) S hK (c_X3_allDue l G qa qw qt qu qh qd qb sold stk pun fra tur ft fu fh fd fb r6 hr6) mX3_allDue q420 ⟨rfl, rfl, Nat.le_of_ble_eq_true rfl, Nat.le_of_ble_eq_true rfl⟩ (hP.sub (ws' := [(qa, .inr (3, [.ref qw, .ref qh, .ref qd, .ref qb, .int sold, .int stk, .int pun, .int fra, .int tur])), (qw, .inr (1, [.ref qt, .ref qu])), (qt, .inl (G.2.2.1, 24, .inl ft)), (qu, .inl (G.2.2.1, 24, .inl fu)), (qh, .inl (G.2.2.1, 12, .inl fh)), (qd, .inl (G.2.2.1, 12, .inl fd)), (qb, .inl (G.2.2.1, 12, .inl fb))]) [1, 2, 3, 4, 5, 6, 7] rfl) rfl rfl rfl rfl hl.1 (Nat.le_of_ble_eq_true rfl) ⟨Nat.le_refl 0, Nat.le_refl 0⟩ dX4_count_99 ?_
    obtain rfl := Option.some.inj h
    exact retR S hr hlk rfl rfl dX4_count_102
  replace h := if_f z1_4 h
  by_cases z1_5 : p1 = 5
  · replace h := if_t z1_5 h
    refine lv_tableIn (off := 102) (tgt := 103) hx hb dX4_count_1 (by rw [z1_5]; decide) (by rw [z1_5]; decide) (by rw [z1_5]; rfl) (by decide) ?_
    refine lv_aload_n hx hb dX4_count_103 rfl (lv_at hl 0 rfl) ?_
    refine gf S hK iX4 hP 0 rfl rfl 0 (by decide) q135 rfl dX4_count_104 ?_
    obtain ⟨r7, hr7, h⟩ := bd_t h
    refine rdV (As := []) (rest := []) S hK (c_X3_lightPlaces l G qa qw qt qu qh qd qb sold stk pun fra tur ft fu fh fd fb r7 hr7) mX3_lightPlaces q390 ⟨rfl, rfl, Nat.le_of_ble_eq_true rfl, Nat.le_of_ble_eq_true rfl⟩ (hP.sub (ws' := [(qa, .inr (3, [.ref qw, .ref qh, .ref qd, .ref qb, .int sold, .int stk, .int pun, .int fra, .int tur])), (qw, .inr (1, [.ref qt, .ref qu])), (qt, .inl (G.2.2.1, 24, .inl ft)), (qu, .inl (G.2.2.1, 24, .inl fu)), (qh, .inl (G.2.2.1, 12, .inl fh)), (qd, .inl (G.2.2.1, 12, .inl fd)), (qb, .inl (G.2.2.1, 12, .inl fb))]) [1, 2, 3, 4, 5, 6, 7] rfl) rfl rfl rfl rfl hl.1 (Nat.le_of_ble_eq_true rfl) ⟨Nat.le_refl 0, Nat.le_refl 0⟩ dX4_count_107 ?_
    obtain ⟨r8, hr8, h⟩ := bd_t h
    refine rdS (As := [.int r7]) (rest := []) S hK (c_J6_bitCount_0f7a4 l G r7 r8 hr8) mJ6_bitCount_0f7a4 q306 ⟨rfl, rfl, Nat.le_of_ble_eq_true rfl, Nat.le_of_ble_eq_true rfl⟩ (ws_nil G.1 _) rfl hl.1 (Nat.le_of_ble_eq_true rfl) ⟨Nat.le_refl 0, Nat.le_refl 0⟩ dX4_count_110 ?_
    obtain rfl := Option.some.inj h
    exact retR S hr hlk rfl rfl dX4_count_113
  replace h := if_f z1_5 h
  by_cases z1_6 : p1 = 6
  · replace h := if_t z1_6 h
    refine lv_tableIn (off := 113) (tgt := 114) hx hb dX4_count_1 (by rw [z1_6]; decide) (by rw [z1_6]; decide) (by rw [z1_6]; rfl) (by decide) ?_
    refine lv_aload_n hx hb dX4_count_114 rfl (lv_at hl 0 rfl) ?_
    refine gf S hK iX4 hP 0 rfl rfl 0 (by decide) q135 rfl dX4_count_115 ?_
    obtain ⟨r9, hr9, h⟩ := bd_t h
    refine rdV (As := []) (rest := []) S hK (c_X3_punched l G qa qw qt qu qh qd qb sold stk pun fra tur ft fu fh fd fb r9 hr9) mX3_punched q424 ⟨rfl, rfl, Nat.le_of_ble_eq_true rfl, Nat.le_of_ble_eq_true rfl⟩ (hP.sub (ws' := [(qa, .inr (3, [.ref qw, .ref qh, .ref qd, .ref qb, .int sold, .int stk, .int pun, .int fra, .int tur])), (qw, .inr (1, [.ref qt, .ref qu])), (qt, .inl (G.2.2.1, 24, .inl ft)), (qu, .inl (G.2.2.1, 24, .inl fu)), (qh, .inl (G.2.2.1, 12, .inl fh)), (qd, .inl (G.2.2.1, 12, .inl fd)), (qb, .inl (G.2.2.1, 12, .inl fb))]) [1, 2, 3, 4, 5, 6, 7] rfl) rfl rfl rfl rfl hl.1 (Nat.le_of_ble_eq_true rfl) ⟨Nat.le_refl 0, Nat.le_refl 0⟩ dX4_count_118 ?_
    obtain rfl := Option.some.inj h
    exact retR S hr hlk rfl rfl dX4_count_121
  replace h := if_f z1_6 h
  by_cases z1_7 : p1 = 7
  · replace h := if_t z1_7 h
    refine lv_tableIn (off := 121) (tgt := 122) hx hb dX4_count_1 (by rw [z1_7]; decide) (by rw [z1_7]; decide) (by rw [z1_7]; rfl) (by decide) ?_
    refine lv_aload_n hx hb dX4_count_122 rfl (lv_at hl 0 rfl) ?_
    refine gf S hK iX4 hP 0 rfl rfl 0 (by decide) q135 rfl dX4_count_123 ?_
    obtain ⟨r10, hr10, h⟩ := bd_t h
    refine rdV (As := []) (rest := []) S hK (c_X3_frauds l G qa qw qt qu qh qd qb sold stk pun fra tur ft fu fh fd fb r10 hr10) mX3_frauds q428 ⟨rfl, rfl, Nat.le_of_ble_eq_true rfl, Nat.le_of_ble_eq_true rfl⟩ (hP.sub (ws' := [(qa, .inr (3, [.ref qw, .ref qh, .ref qd, .ref qb, .int sold, .int stk, .int pun, .int fra, .int tur])), (qw, .inr (1, [.ref qt, .ref qu])), (qt, .inl (G.2.2.1, 24, .inl ft)), (qu, .inl (G.2.2.1, 24, .inl fu)), (qh, .inl (G.2.2.1, 12, .inl fh)), (qd, .inl (G.2.2.1, 12, .inl fd)), (qb, .inl (G.2.2.1, 12, .inl fb))]) [1, 2, 3, 4, 5, 6, 7] rfl) rfl rfl rfl rfl hl.1 (Nat.le_of_ble_eq_true rfl) ⟨Nat.le_refl 0, Nat.le_refl 0⟩ dX4_count_126 ?_
    obtain rfl := Option.some.inj h
    exact retR S hr hlk rfl rfl dX4_count_129
  replace h := if_f z1_7 h
  by_cases z1_8 : p1 = 8
  · replace h := if_t z1_8 h
    refine lv_tableIn (off := 129) (tgt := 130) hx hb dX4_count_1 (by rw [z1_8]; decide) (by rw [z1_8]; decide) (by rw [z1_8]; rfl) (by decide) ?_
    refine lv_aload_n hx hb dX4_count_130 rfl (lv_at hl 0 rfl) ?_
    refine gf S hK iX4 hP 0 rfl rfl 0 (by decide) q135 rfl dX4_count_131 ?_
    obtain ⟨r11, hr11, h⟩ := bd_t h
    refine rdV (As := []) (rest := []) S hK (c_X3_turns l G qa qw qt qu qh qd qb sold stk pun fra tur ft fu fh fd fb r11 hr11) mX3_turns q432 ⟨rfl, rfl, Nat.le_of_ble_eq_true rfl, Nat.le_of_ble_eq_true rfl⟩ (hP.sub (ws' := [(qa, .inr (3, [.ref qw, .ref qh, .ref qd, .ref qb, .int sold, .int stk, .int pun, .int fra, .int tur])), (qw, .inr (1, [.ref qt, .ref qu])), (qt, .inl (G.2.2.1, 24, .inl ft)), (qu, .inl (G.2.2.1, 24, .inl fu)), (qh, .inl (G.2.2.1, 12, .inl fh)), (qd, .inl (G.2.2.1, 12, .inl fd)), (qb, .inl (G.2.2.1, 12, .inl fb))]) [1, 2, 3, 4, 5, 6, 7] rfl) rfl rfl rfl rfl hl.1 (Nat.le_of_ble_eq_true rfl) ⟨Nat.le_refl 0, Nat.le_refl 0⟩ dX4_count_134 ?_
    obtain rfl := Option.some.inj h
    exact retR S hr hlk rfl rfl dX4_count_137
  replace h := if_f z1_8 h
  by_cases z1_9 : p1 = 9
  · replace h := if_t z1_9 h
    refine lv_tableIn (off := 137) (tgt := 138) hx hb dX4_count_1 (by rw [z1_9]; decide) (by rw [z1_9]; decide) (by rw [z1_9]; rfl) (by decide) ?_
    refine lv_aload_n hx hb dX4_count_138 rfl (lv_at hl 0 rfl) ?_
    refine gf S hK iX4 hP 0 rfl rfl 3 (by decide) q138 rfl dX4_count_139 ?_
    obtain ⟨r12, hr12, h⟩ := bd_t h
    refine rdV (As := []) (rest := []) S hK (c_X0_size l G hqa hqr hnx hsz fr r12 hr12) mX0_size q315 ⟨rfl, rfl, Nat.le_of_ble_eq_true rfl, Nat.le_of_ble_eq_true rfl⟩ (hP.sub (ws' := [(hqa, .inr (0, [.ref hqr, .int hnx, .int hsz])), (hqr, .inl (G.2.2.2, 4, .inr (.inr (.inr (.inr fr)))))]) [8, 9] rfl) rfl rfl rfl rfl hl.1 (Nat.le_of_ble_eq_true rfl) ⟨Nat.le_refl 0, Nat.le_refl 0⟩ dX4_count_142 ?_
    obtain rfl := Option.some.inj h
    exact retR S hr hlk rfl rfl dX4_count_145
  replace h := if_f z1_9 h
  by_cases z1_10 : p1 = 10
  · replace h := if_t z1_10 h
    refine lv_tableIn (off := 145) (tgt := 146) hx hb dX4_count_1 (by rw [z1_10]; decide) (by rw [z1_10]; decide) (by rw [z1_10]; rfl) (by decide) ?_
    refine lv_aload_n hx hb dX4_count_146 rfl (lv_at hl 0 rfl) ?_
    refine gf S hK iX4 hP 0 rfl rfl 4 (by decide) q139 rfl dX4_count_147 ?_
    obtain ⟨r13, hr13, h⟩ := bd_t h
    refine rdV (As := []) (rest := []) S hK (c_X2_length l G xqa xqc xqt xlen xidx xknd xawt xnum xcam xfst xlst xfc xft r13 hr13) mX2_length q436 ⟨rfl, rfl, Nat.le_of_ble_eq_true rfl, Nat.le_of_ble_eq_true rfl⟩ (hP.sub (ws' := [(xqa, .inr (2, [.ref xqc, .int xlen, .ref xqt, .int xidx, .int xknd, .int xawt, .int xnum, .int xcam, .int xfst, .int xlst])), (xqc, .inl (G.2.1, 80, .inl xfc)), (xqt, .inl (G.2.2.1, 24, .inl xft))]) [10, 11, 12] rfl) rfl rfl rfl rfl hl.1 (Nat.le_of_ble_eq_true rfl) ⟨Nat.le_refl 0, Nat.le_refl 0⟩ dX4_count_150 ?_
    obtain rfl := Option.some.inj h
    exact retR S hr hlk rfl rfl dX4_count_153
  replace h := if_f z1_10 h
  refine lv_tableOut (tgt := 154) hx hb dX4_count_1 (sw_out11 z1_0 z1_1 z1_2 z1_3 z1_4 z1_5 z1_6 z1_7 z1_8 z1_9 z1_10) (by decide) ?_
  refine lv_bipush (v := (-2)) hx hb dX4_count_154 (by decide) ?_
  obtain rfl := Option.some.inj h
  exact retR S hr hlk rfl rfl dX4_count_156
