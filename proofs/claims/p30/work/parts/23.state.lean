set_option maxHeartbeats 4000000 in
set_option maxRecDepth 100000 in
theorem c_X3_isTicket (l : Launch) (G : gG) (qa qw qt qu qh qd qb : Nat) (sold : Int32) (stk : Int32) (pun : Int32) (fra : Int32) (tur : Int32) (ft : Nat → Int32) (fu : Nat → Int32) (fh : Nat → Int32) (fd : Nat → Int32) (fb : Nat → Int32) (p1 : Int32) (res : Int32) (h : F_X3_isTicket sold p1 = some res) : RdM l G yX3_isTicket cX3_isTicket 2 .boolean (rmk 0 0) [(qa, .inr (3, [.ref qw, .ref qh, .ref qd, .ref qb, .int sold, .int stk, .int pun, .int fra, .int tur])), (qw, .inr (1, [.ref qt, .ref qu])), (qt, .inl (G.2.2.1, 24, .inl ft)), (qu, .inl (G.2.2.1, 24, .inl fu)), (qh, .inl (G.2.2.1, 12, .inl fh)), (qd, .inl (G.2.2.1, 12, .inl fd)), (qb, .inl (G.2.2.1, 12, .inl fb))] [.ref qa, .int p1] res := by
  refine ofR (by decide) (Nat.le_of_ble_eq_true rfl) ?_
  intro p e s m below meth c ls S hr hlk hK hP hl
  have S : CallFix p m c cX3_isTicket 2 s ([.ref qa, .int p1] : List Value).toArray T0 RX3 := S
  obtain ⟨hx, hb, hml, hown, hts⟩ := id S
  have hl : lv_has ls 2 [(0, .ref qa), (1, .int p1)] := hl
  rw [F_X3_isTicket] at h
  refine lv_iload_n hx hb dX3_isTicket_0 rfl (lv_at hl 1 rfl) ?_
  refine lv_if_lt (tgt := 22) hx hb dX3_isTicket_1 (by decide) (fun c1 => ?_) (fun c1 => ?_)
  · replace h := if_t c1 h
    refine lv_iconst (v := 0) hx hb dX3_isTicket_22 (by decide) ?_
    obtain rfl := Option.some.inj h
    exact retR S hr hlk rfl rfl dX3_isTicket_23
  · replace h := if_f c1 h
    refine lv_iload_n hx hb dX3_isTicket_4 rfl (lv_at hl 1 rfl) ?_
    refine lv_aload_n hx hb dX3_isTicket_5 rfl (lv_at hl 0 rfl) ?_
    refine gf S hK iX3 hP 0 rfl rfl 4 (by decide) q54 rfl dX3_isTicket_6 ?_
    refine lv_icmp_ge (tgt := 22) hx hb dX3_isTicket_9 (by decide) (fun c2 => ?_) (fun c2 => ?_)
    · replace h := if_t c2 h
      refine lv_iconst (v := 0) hx hb dX3_isTicket_22 (by decide) ?_
      obtain rfl := Option.some.inj h
      exact retR S hr hlk rfl rfl dX3_isTicket_23
    · replace h := if_f c2 h
      refine lv_iload_n hx hb dX3_isTicket_12 rfl (lv_at hl 1 rfl) ?_
      refine lv_bipush (v := 12) hx hb dX3_isTicket_13 (by decide) ?_
      refine lv_icmp_ge (tgt := 22) hx hb dX3_isTicket_15 (by decide) (fun c3 => ?_) (fun c3 => ?_)
      · replace h := if_t c3 h
        refine lv_iconst (v := 0) hx hb dX3_isTicket_22 (by decide) ?_
        obtain rfl := Option.some.inj h
        exact retR S hr hlk rfl rfl dX3_isTicket_23
      · replace h := if_f c3 h
        refine lv_iconst (v := 1) hx hb dX3_isTicket_18 (by decide) ?_
        refine lv_goto (tgt := 23) hx hb dX3_isTicket_19 (by decide) ?_
        obtain rfl := Option.some.inj h
        exact retR S hr hlk rfl rfl dX3_isTicket_23
set_option maxHeartbeats 4000000 in
set_option maxRecDepth 100000 in
theorem c_X3_holes (l : Launch) (G : gG) (qa qw qt qu qh qd qb : Nat) (sold : Int32) (stk : Int32) (pun : Int32) (fra : Int32) (tur : Int32) (ft : Nat → Int32) (fu : Nat → Int32) (fh : Nat → Int32) (fd : Nat → Int32) (fb : Nat → Int32) (p1 : Int32) (res : Int32) (h : F_X3_holes sold fh p1 = some res) : RdM l G yX3_holes cX3_holes 2 .int (rmk 1 21) [(qa, .inr (3, [.ref qw, .ref qh, .ref qd, .ref qb, .int sold, .int stk, .int pun, .int fra, .int tur])), (qw, .inr (1, [.ref qt, .ref qu])), (qt, .inl (G.2.2.1, 24, .inl ft)), (qu, .inl (G.2.2.1, 24, .inl fu)), (qh, .inl (G.2.2.1, 12, .inl fh)), (qd, .inl (G.2.2.1, 12, .inl fd)), (qb, .inl (G.2.2.1, 12, .inl fb))] [.ref qa, .int p1] res := by
  refine ofR (by decide) (Nat.le_of_ble_eq_true rfl) ?_
  intro p e s m below meth c ls S hr hlk hK hP hl
  have S : CallFix p m c cX3_holes 2 s ([.ref qa, .int p1] : List Value).toArray T0 RX3 := S
  obtain ⟨hx, hb, hml, hown, hts⟩ := id S
  have hl : lv_has ls 2 [(0, .ref qa), (1, .int p1)] := hl
  rw [F_X3_holes] at h
  refine lv_aload_n hx hb dX3_holes_0 rfl (lv_at hl 0 rfl) ?_
  refine lv_iload_n hx hb dX3_holes_1 rfl (lv_at hl 1 rfl) ?_
  obtain ⟨r1, hr1, h⟩ := bd_t h
  refine rdV (As := [.int p1]) (rest := []) S hK (c_X3_isTicket l G qa qw qt qu qh qd qb sold stk pun fra tur ft fu fh fd fb p1 r1 hr1) mX3_isTicket q291 ⟨rfl, rfl, Nat.le_of_ble_eq_true rfl, Nat.le_of_ble_eq_true rfl⟩ hP rfl rfl rfl rfl hl.1 (Nat.le_of_ble_eq_true rfl) ⟨Nat.le_refl 0, Nat.le_refl 0⟩ dX3_holes_2 ?_
  refine lv_if_eq (tgt := 17) hx hb dX3_holes_5 (by decide) (fun c2 => ?_) (fun c2 => ?_)
  · replace h := if_t c2 h
    refine lv_iconst (v := 0) hx hb dX3_holes_17 (by decide) ?_
    obtain rfl := Option.some.inj h
    exact retR S hr hlk rfl rfl dX3_holes_18
  · replace h := if_f c2 h
    refine lv_aload_n hx hb dX3_holes_8 rfl (lv_at hl 0 rfl) ?_
    refine gf S hK iX3 hP 0 rfl rfl 1 (by decide) q51 rfl dX3_holes_9 ?_
    refine lv_iload_n hx hb dX3_holes_12 rfl (lv_at hl 1 rfl) ?_
    obtain ⟨k3, h⟩ := ck_t h
    refine ald S hK hP 4 rfl (ok_vp k3) dX3_holes_13 ?_
    refine lv_goto (tgt := 18) hx hb dX3_holes_14 (by decide) ?_
    obtain rfl := Option.some.inj h
    exact retR S hr hlk rfl rfl dX3_holes_18
set_option maxHeartbeats 4000000 in
set_option maxRecDepth 100000 in
theorem c_X3_due (l : Launch) (G : gG) (qa qw qt qu qh qd qb : Nat) (sold : Int32) (stk : Int32) (pun : Int32) (fra : Int32) (tur : Int32) (ft : Nat → Int32) (fu : Nat → Int32) (fh : Nat → Int32) (fd : Nat → Int32) (fb : Nat → Int32) (p1 : Int32) (res : Int32) (h : F_X3_due sold fd p1 = some res) : RdM l G yX3_due cX3_due 2 .int (rmk 1 21) [(qa, .inr (3, [.ref qw, .ref qh, .ref qd, .ref qb, .int sold, .int stk, .int pun, .int fra, .int tur])), (qw, .inr (1, [.ref qt, .ref qu])), (qt, .inl (G.2.2.1, 24, .inl ft)), (qu, .inl (G.2.2.1, 24, .inl fu)), (qh, .inl (G.2.2.1, 12, .inl fh)), (qd, .inl (G.2.2.1, 12, .inl fd)), (qb, .inl (G.2.2.1, 12, .inl fb))] [.ref qa, .int p1] res := by
  refine ofR (by decide) (Nat.le_of_ble_eq_true rfl) ?_
  intro p e s m below meth c ls S hr hlk hK hP hl
  have S : CallFix p m c cX3_due 2 s ([.ref qa, .int p1] : List Value).toArray T0 RX3 := S
  obtain ⟨hx, hb, hml, hown, hts⟩ := id S
  have hl : lv_has ls 2 [(0, .ref qa), (1, .int p1)] := hl
  rw [F_X3_due] at h
  refine lv_aload_n hx hb dX3_due_0 rfl (lv_at hl 0 rfl) ?_
  refine lv_iload_n hx hb dX3_due_1 rfl (lv_at hl 1 rfl) ?_
  obtain ⟨r1, hr1, h⟩ := bd_t h
  refine rdV (As := [.int p1]) (rest := []) S hK (c_X3_isTicket l G qa qw qt qu qh qd qb sold stk pun fra tur ft fu fh fd fb p1 r1 hr1) mX3_isTicket q291 ⟨rfl, rfl, Nat.le_of_ble_eq_true rfl, Nat.le_of_ble_eq_true rfl⟩ hP rfl rfl rfl rfl hl.1 (Nat.le_of_ble_eq_true rfl) ⟨Nat.le_refl 0, Nat.le_refl 0⟩ dX3_due_2 ?_
  refine lv_if_eq (tgt := 17) hx hb dX3_due_5 (by decide) (fun c2 => ?_) (fun c2 => ?_)
  · replace h := if_t c2 h
    refine lv_iconst (v := 0) hx hb dX3_due_17 (by decide) ?_
    obtain rfl := Option.some.inj h
    exact retR S hr hlk rfl rfl dX3_due_18
  · replace h := if_f c2 h
    refine lv_aload_n hx hb dX3_due_8 rfl (lv_at hl 0 rfl) ?_
    refine gf S hK iX3 hP 0 rfl rfl 2 (by decide) q52 rfl dX3_due_9 ?_
    refine lv_iload_n hx hb dX3_due_12 rfl (lv_at hl 1 rfl) ?_
    obtain ⟨k3, h⟩ := ck_t h
    refine ald S hK hP 5 rfl (ok_vp k3) dX3_due_13 ?_
    refine lv_goto (tgt := 18) hx hb dX3_due_14 (by decide) ?_
    obtain rfl := Option.some.inj h
    exact retR S hr hlk rfl rfl dX3_due_18
set_option maxHeartbeats 4000000 in
set_option maxRecDepth 100000 in
theorem c_X3_turnedBy (l : Launch) (G : gG) (qa qw qt qu qh qd qb : Nat) (sold : Int32) (stk : Int32) (pun : Int32) (fra : Int32) (tur : Int32) (ft : Nat → Int32) (fu : Nat → Int32) (fh : Nat → Int32) (fd : Nat → Int32) (fb : Nat → Int32) (p1 : Int32) (res : Int32) (h : F_X3_turnedBy sold fb p1 = some res) : RdM l G yX3_turnedBy cX3_turnedBy 2 .int (rmk 1 21) [(qa, .inr (3, [.ref qw, .ref qh, .ref qd, .ref qb, .int sold, .int stk, .int pun, .int fra, .int tur])), (qw, .inr (1, [.ref qt, .ref qu])), (qt, .inl (G.2.2.1, 24, .inl ft)), (qu, .inl (G.2.2.1, 24, .inl fu)), (qh, .inl (G.2.2.1, 12, .inl fh)), (qd, .inl (G.2.2.1, 12, .inl fd)), (qb, .inl (G.2.2.1, 12, .inl fb))] [.ref qa, .int p1] res := by
  refine ofR (by decide) (Nat.le_of_ble_eq_true rfl) ?_
  intro p e s m below meth c ls S hr hlk hK hP hl
  have S : CallFix p m c cX3_turnedBy 2 s ([.ref qa, .int p1] : List Value).toArray T0 RX3 := S
  obtain ⟨hx, hb, hml, hown, hts⟩ := id S
  have hl : lv_has ls 2 [(0, .ref qa), (1, .int p1)] := hl
  rw [F_X3_turnedBy] at h
  refine lv_aload_n hx hb dX3_turnedBy_0 rfl (lv_at hl 0 rfl) ?_
  refine lv_iload_n hx hb dX3_turnedBy_1 rfl (lv_at hl 1 rfl) ?_
  obtain ⟨r1, hr1, h⟩ := bd_t h
  refine rdV (As := [.int p1]) (rest := []) S hK (c_X3_isTicket l G qa qw qt qu qh qd qb sold stk pun fra tur ft fu fh fd fb p1 r1 hr1) mX3_isTicket q291 ⟨rfl, rfl, Nat.le_of_ble_eq_true rfl, Nat.le_of_ble_eq_true rfl⟩ hP rfl rfl rfl rfl hl.1 (Nat.le_of_ble_eq_true rfl) ⟨Nat.le_refl 0, Nat.le_refl 0⟩ dX3_turnedBy_2 ?_
  refine lv_if_eq (tgt := 17) hx hb dX3_turnedBy_5 (by decide) (fun c2 => ?_) (fun c2 => ?_)
  · replace h := if_t c2 h
    refine lv_iconst (v := 0) hx hb dX3_turnedBy_17 (by decide) ?_
    obtain rfl := Option.some.inj h
    exact retR S hr hlk rfl rfl dX3_turnedBy_18
  · replace h := if_f c2 h
    refine lv_aload_n hx hb dX3_turnedBy_8 rfl (lv_at hl 0 rfl) ?_
    refine gf S hK iX3 hP 0 rfl rfl 3 (by decide) q53 rfl dX3_turnedBy_9 ?_
    refine lv_iload_n hx hb dX3_turnedBy_12 rfl (lv_at hl 1 rfl) ?_
    obtain ⟨k3, h⟩ := ck_t h
    refine ald S hK hP 6 rfl (ok_vp k3) dX3_turnedBy_13 ?_
    refine lv_goto (tgt := 18) hx hb dX3_turnedBy_14 (by decide) ?_
    obtain rfl := Option.some.inj h
    exact retR S hr hlk rfl rfl dX3_turnedBy_18
set_option maxHeartbeats 4000000 in
set_option maxRecDepth 100000 in
theorem c_X3_sold (l : Launch) (G : gG) (qa qw qt qu qh qd qb : Nat) (sold : Int32) (stk : Int32) (pun : Int32) (fra : Int32) (tur : Int32) (ft : Nat → Int32) (fu : Nat → Int32) (fh : Nat → Int32) (fd : Nat → Int32) (fb : Nat → Int32) (res : Int32) (h : F_X3_sold sold = some res) : RdM l G yX3_sold cX3_sold 1 .int (rmk 0 0) [(qa, .inr (3, [.ref qw, .ref qh, .ref qd, .ref qb, .int sold, .int stk, .int pun, .int fra, .int tur])), (qw, .inr (1, [.ref qt, .ref qu])), (qt, .inl (G.2.2.1, 24, .inl ft)), (qu, .inl (G.2.2.1, 24, .inl fu)), (qh, .inl (G.2.2.1, 12, .inl fh)), (qd, .inl (G.2.2.1, 12, .inl fd)), (qb, .inl (G.2.2.1, 12, .inl fb))] [.ref qa] res := by
  refine ofR (by decide) (Nat.le_of_ble_eq_true rfl) ?_
  intro p e s m below meth c ls S hr hlk hK hP hl
  have S : CallFix p m c cX3_sold 1 s ([.ref qa] : List Value).toArray T0 RX3 := S
  obtain ⟨hx, hb, hml, hown, hts⟩ := id S
  have hl : lv_has ls 1 [(0, .ref qa)] := hl
  rw [F_X3_sold] at h
  refine lv_aload_n hx hb dX3_sold_0 rfl (lv_at hl 0 rfl) ?_
  refine gf S hK iX3 hP 0 rfl rfl 4 (by decide) q54 rfl dX3_sold_1 ?_
  obtain rfl := Option.some.inj h
  exact retR S hr hlk rfl rfl dX3_sold_4
set_option maxHeartbeats 4000000 in
set_option maxRecDepth 100000 in
theorem c_X3_stacked (l : Launch) (G : gG) (qa qw qt qu qh qd qb : Nat) (sold : Int32) (stk : Int32) (pun : Int32) (fra : Int32) (tur : Int32) (ft : Nat → Int32) (fu : Nat → Int32) (fh : Nat → Int32) (fd : Nat → Int32) (fb : Nat → Int32) (res : Int32) (h : F_X3_stacked stk = some res) : RdM l G yX3_stacked cX3_stacked 1 .int (rmk 0 0) [(qa, .inr (3, [.ref qw, .ref qh, .ref qd, .ref qb, .int sold, .int stk, .int pun, .int fra, .int tur])), (qw, .inr (1, [.ref qt, .ref qu])), (qt, .inl (G.2.2.1, 24, .inl ft)), (qu, .inl (G.2.2.1, 24, .inl fu)), (qh, .inl (G.2.2.1, 12, .inl fh)), (qd, .inl (G.2.2.1, 12, .inl fd)), (qb, .inl (G.2.2.1, 12, .inl fb))] [.ref qa] res := by
  refine ofR (by decide) (Nat.le_of_ble_eq_true rfl) ?_
  intro p e s m below meth c ls S hr hlk hK hP hl
  have S : CallFix p m c cX3_stacked 1 s ([.ref qa] : List Value).toArray T0 RX3 := S
  obtain ⟨hx, hb, hml, hown, hts⟩ := id S
  have hl : lv_has ls 1 [(0, .ref qa)] := hl
  rw [F_X3_stacked] at h
  refine lv_aload_n hx hb dX3_stacked_0 rfl (lv_at hl 0 rfl) ?_
  refine gf S hK iX3 hP 0 rfl rfl 5 (by decide) q55 rfl dX3_stacked_1 ?_
  obtain rfl := Option.some.inj h
  exact retR S hr hlk rfl rfl dX3_stacked_4
set_option maxHeartbeats 4000000 in
set_option maxRecDepth 100000 in
theorem c_X3_punched (l : Launch) (G : gG) (qa qw qt qu qh qd qb : Nat) (sold : Int32) (stk : Int32) (pun : Int32) (fra : Int32) (tur : Int32) (ft : Nat → Int32) (fu : Nat → Int32) (fh : Nat → Int32) (fd : Nat → Int32) (fb : Nat → Int32) (res : Int32) (h : F_X3_punched pun = some res) : RdM l G yX3_punched cX3_punched 1 .int (rmk 0 0) [(qa, .inr (3, [.ref qw, .ref qh, .ref qd, .ref qb, .int sold, .int stk, .int pun, .int fra, .int tur])), (qw, .inr (1, [.ref qt, .ref qu])), (qt, .inl (G.2.2.1, 24, .inl ft)), (qu, .inl (G.2.2.1, 24, .inl fu)), (qh, .inl (G.2.2.1, 12, .inl fh)), (qd, .inl (G.2.2.1, 12, .inl fd)), (qb, .inl (G.2.2.1, 12, .inl fb))] [.ref qa] res := by
  refine ofR (by decide) (Nat.le_of_ble_eq_true rfl) ?_
  intro p e s m below meth c ls S hr hlk hK hP hl
  have S : CallFix p m c cX3_punched 1 s ([.ref qa] : List Value).toArray T0 RX3 := S
  obtain ⟨hx, hb, hml, hown, hts⟩ := id S
  have hl : lv_has ls 1 [(0, .ref qa)] := hl
  rw [F_X3_punched] at h
  refine lv_aload_n hx hb dX3_punched_0 rfl (lv_at hl 0 rfl) ?_
  refine gf S hK iX3 hP 0 rfl rfl 6 (by decide) q56 rfl dX3_punched_1 ?_
  obtain rfl := Option.some.inj h
  exact retR S hr hlk rfl rfl dX3_punched_4
set_option maxHeartbeats 4000000 in
set_option maxRecDepth 100000 in
theorem c_X3_frauds (l : Launch) (G : gG) (qa qw qt qu qh qd qb : Nat) (sold : Int32) (stk : Int32) (pun : Int32) (fra : Int32) (tur : Int32) (ft : Nat → Int32) (fu : Nat → Int32) (fh : Nat → Int32) (fd : Nat → Int32) (fb : Nat → Int32) (res : Int32) (h : F_X3_frauds fra = some res) : RdM l G yX3_frauds cX3_frauds 1 .int (rmk 0 0) [(qa, .inr (3, [.ref qw, .ref qh, .ref qd, .ref qb, .int sold, .int stk, .int pun, .int fra, .int tur])), (qw, .inr (1, [.ref qt, .ref qu])), (qt, .inl (G.2.2.1, 24, .inl ft)), (qu, .inl (G.2.2.1, 24, .inl fu)), (qh, .inl (G.2.2.1, 12, .inl fh)), (qd, .inl (G.2.2.1, 12, .inl fd)), (qb, .inl (G.2.2.1, 12, .inl fb))] [.ref qa] res := by
  refine ofR (by decide) (Nat.le_of_ble_eq_true rfl) ?_
  intro p e s m below meth c ls S hr hlk hK hP hl
  have S : CallFix p m c cX3_frauds 1 s ([.ref qa] : List Value).toArray T0 RX3 := S
  obtain ⟨hx, hb, hml, hown, hts⟩ := id S
  have hl : lv_has ls 1 [(0, .ref qa)] := hl
  rw [F_X3_frauds] at h
  refine lv_aload_n hx hb dX3_frauds_0 rfl (lv_at hl 0 rfl) ?_
  refine gf S hK iX3 hP 0 rfl rfl 7 (by decide) q57 rfl dX3_frauds_1 ?_
  obtain rfl := Option.some.inj h
  exact retR S hr hlk rfl rfl dX3_frauds_4
set_option maxHeartbeats 4000000 in
set_option maxRecDepth 100000 in
theorem c_X3_turns (l : Launch) (G : gG) (qa qw qt qu qh qd qb : Nat) (sold : Int32) (stk : Int32) (pun : Int32) (fra : Int32) (tur : Int32) (ft : Nat → Int32) (fu : Nat → Int32) (fh : Nat → Int32) (fd : Nat → Int32) (fb : Nat → Int32) (res : Int32) (h : F_X3_turns tur = some res) : RdM l G yX3_turns cX3_turns 1 .int (rmk 0 0) [(qa, .inr (3, [.ref qw, .ref qh, .ref qd, .ref qb, .int sold, .int stk, .int pun, .int fra, .int tur])), (qw, .inr (1, [.ref qt, .ref qu])), (qt, .inl (G.2.2.1, 24, .inl ft)), (qu, .inl (G.2.2.1, 24, .inl fu)), (qh, .inl (G.2.2.1, 12, .inl fh)), (qd, .inl (G.2.2.1, 12, .inl fd)), (qb, .inl (G.2.2.1, 12, .inl fb))] [.ref qa] res := by
  refine ofR (by decide) (Nat.le_of_ble_eq_true rfl) ?_
  intro p e s m below meth c ls S hr hlk hK hP hl
  have S : CallFix p m c cX3_turns 1 s ([.ref qa] : List Value).toArray T0 RX3 := S
  obtain ⟨hx, hb, hml, hown, hts⟩ := id S
  have hl : lv_has ls 1 [(0, .ref qa)] := hl
  rw [F_X3_turns] at h
  refine lv_aload_n hx hb dX3_turns_0 rfl (lv_at hl 0 rfl) ?_
  refine gf S hK iX3 hP 0 rfl rfl 8 (by decide) q58 rfl dX3_turns_1 ?_
  obtain rfl := Option.some.inj h
  exact retR S hr hlk rfl rfl dX3_turns_4
set_option maxHeartbeats 4000000 in
set_option maxRecDepth 100000 in
theorem c_X3_isFalse (l : Launch) (G : gG) (qa qw qt qu qh qd qb : Nat) (sold : Int32) (stk : Int32) (pun : Int32) (fra : Int32) (tur : Int32) (ft : Nat → Int32) (fu : Nat → Int32) (fh : Nat → Int32) (fd : Nat → Int32) (fb : Nat → Int32) (p1 : Int32) (res : Int32) (h : F_X3_isFalse sold fh fd p1 = some res) : RdM l G yX3_isFalse cX3_isFalse 2 .boolean (rmk 2 42) [(qa, .inr (3, [.ref qw, .ref qh, .ref qd, .ref qb, .int sold, .int stk, .int pun, .int fra, .int tur])), (qw, .inr (1, [.ref qt, .ref qu])), (qt, .inl (G.2.2.1, 24, .inl ft)), (qu, .inl (G.2.2.1, 24, .inl fu)), (qh, .inl (G.2.2.1, 12, .inl fh)), (qd, .inl (G.2.2.1, 12, .inl fd)), (qb, .inl (G.2.2.1, 12, .inl fb))] [.ref qa, .int p1] res := by
  refine ofR (by decide) (Nat.le_of_ble_eq_true rfl) ?_
  intro p e s m below meth c ls S hr hlk hK hP hl
  have S : CallFix p m c cX3_isFalse 2 s ([.ref qa, .int p1] : List Value).toArray T0 RX3 := S
  obtain ⟨hx, hb, hml, hown, hts⟩ := id S
  have hl : lv_has ls 2 [(0, .ref qa), (1, .int p1)] := hl
  rw [F_X3_isFalse] at h
  refine lv_aload_n hx hb dX3_isFalse_0 rfl (lv_at hl 0 rfl) ?_
  refine lv_iload_n hx hb dX3_isFalse_1 rfl (lv_at hl 1 rfl) ?_
  obtain ⟨r1, hr1, h⟩ := bd_t h
  refine rdV (As := [.int p1]) (rest := []) S hK (c_X3_holes l G qa qw qt qu qh qd qb sold stk pun fra tur ft fu fh fd fb p1 r1 hr1) mX3_holes q354 ⟨rfl, rfl, Nat.le_of_ble_eq_true rfl, Nat.le_of_ble_eq_true rfl⟩ hP rfl rfl rfl rfl hl.1 (Nat.le_of_ble_eq_true rfl) ⟨Nat.le_refl 0, Nat.le_refl 0⟩ dX3_isFalse_2 ?_
  refine lv_aload_n hx hb dX3_isFalse_5 rfl (lv_at hl 0 rfl) ?_
  refine lv_iload_n hx hb dX3_isFalse_6 rfl (lv_at hl 1 rfl) ?_
  obtain ⟨r2, hr2, h⟩ := bd_t h
  refine rdV (As := [.int p1]) (rest := [.int r1]) S hK (c_X3_due l G qa qw qt qu qh qd qb sold stk pun fra tur ft fu fh fd fb p1 r2 hr2) mX3_due q411 ⟨rfl, rfl, Nat.le_of_ble_eq_true rfl, Nat.le_of_ble_eq_true rfl⟩ hP rfl rfl rfl rfl hl.1 (Nat.le_of_ble_eq_true rfl) ⟨Nat.le_refl 0, Nat.le_refl 0⟩ dX3_isFalse_7 ?_
  refine lv_icmp_eq (tgt := 17) hx hb dX3_isFalse_10 (by decide) (fun c3 => ?_) (fun c3 => ?_)
  · replace h := if_t c3 h
    refine lv_iconst (v := 0) hx hb dX3_isFalse_17 (by decide) ?_
    obtain rfl := Option.some.inj h
    exact retR S hr hlk rfl rfl dX3_isFalse_18
  · replace h := if_f c3 h
    refine lv_iconst (v := 1) hx hb dX3_isFalse_13 (by decide) ?_
    refine lv_goto (tgt := 18) hx hb dX3_isFalse_14 (by decide) ?_
    obtain rfl := Option.some.inj h
    exact retR S hr hlk rfl rfl dX3_isFalse_18
set_option maxHeartbeats 4000000 in
set_option maxRecDepth 100000 in
theorem c_X3_ticketsWithHole (l : Launch) (G : gG) (qa qw qt qu qh qd qb : Nat) (sold : Int32) (stk : Int32) (pun : Int32) (fra : Int32) (tur : Int32) (ft : Nat → Int32) (fu : Nat → Int32) (fh : Nat → Int32) (fd : Nat → Int32) (fb : Nat → Int32) (p1 : Int32) (res : Int32) (h : F_X3_ticketsWithHole sold fh p1 = some res) : RdM l G yX3_ticketsWithHole cX3_ticketsWithHole 4 .int (rmk 2 42) [(qa, .inr (3, [.ref qw, .ref qh, .ref qd, .ref qb, .int sold, .int stk, .int pun, .int fra, .int tur])), (qw, .inr (1, [.ref qt, .ref qu])), (qt, .inl (G.2.2.1, 24, .inl ft)), (qu, .inl (G.2.2.1, 24, .inl fu)), (qh, .inl (G.2.2.1, 12, .inl fh)), (qd, .inl (G.2.2.1, 12, .inl fd)), (qb, .inl (G.2.2.1, 12, .inl fb))] [.ref qa, .int p1] res := by
  refine ofR (by decide) (Nat.le_of_ble_eq_true rfl) ?_
  intro p e s m below meth c ls S hr hlk hK hP hl
  have S : CallFix p m c cX3_ticketsWithHole 4 s ([.ref qa, .int p1] : List Value).toArray T0 RX3 := S
  obtain ⟨hx, hb, hml, hown, hts⟩ := id S
  have hl : lv_has ls 4 [(0, .ref qa), (1, .int p1)] := hl
  have L4 : ∀ (n : Nat) (x1 x2 x3 : Int32), F_X3_ticketsWithHole_4 sold fh n x1 x2 x3 = some res → ∀ (ls : Array Slot), lv_has ls 4 [(0, .ref qa), (1, .int x1), (2, .int x2), (3, .int x3)] → W p l e (rmk 2 42) s m ([.ref qa, .int p1] : List Value).toArray below meth c s.heap [] 0 0 (MQ below (vp_Si (fun x => x = res)) ([.ref qa, .int p1] : List Value).toArray s 0 0 (fun _ => False)) (F0 m 4 ls []) := by
    intro n
    induction n with
    | zero => intro x1 x2 x3 h; exact absurd (show (none : Option (Int32)) = some res from h) (fun q => by cases q)
    | succ n ih =>
      intro x1 x2 x3 h ls hl
      rw [F_X3_ticketsWithHole_4] at h
      refine lv_iload_n hx hb dX3_ticketsWithHole_4 rfl (lv_at hl 3 rfl) ?_
      refine lv_bipush (v := 12) hx hb dX3_ticketsWithHole_5 (by decide) ?_
      refine lv_icmp_ge (tgt := 35) hx hb dX3_ticketsWithHole_7 (by decide) (fun c1 => ?_) (fun c1 => ?_)
      · replace h := if_t c1 h
        refine lv_iload_n hx hb dX3_ticketsWithHole_35 rfl (lv_at hl 2 rfl) ?_
        obtain rfl := Option.some.inj h
        exact retR S hr hlk rfl rfl dX3_ticketsWithHole_36
      · replace h := if_f c1 h
        refine lv_aload_n hx hb dX3_ticketsWithHole_10 rfl (lv_at hl 0 rfl) ?_
        refine lv_iload_n hx hb dX3_ticketsWithHole_11 rfl (lv_at hl 3 rfl) ?_
        obtain ⟨r2, hr2, h⟩ := bd_t h
        refine rdV (As := [.int x3]) (rest := []) S hK (c_X3_holes l G qa qw qt qu qh qd qb sold stk pun fra tur ft fu fh fd fb x3 r2 hr2) mX3_holes q354 ⟨rfl, rfl, Nat.le_of_ble_eq_true rfl, Nat.le_of_ble_eq_true rfl⟩ hP rfl rfl rfl rfl hl.1 (Nat.le_of_ble_eq_true rfl) ⟨Nat.le_refl 0, Nat.le_refl 0⟩ dX3_ticketsWithHole_12 ?_
        refine lv_iload_n hx hb dX3_ticketsWithHole_15 rfl (lv_at hl 1 rfl) ?_
        obtain ⟨r3, hr3, h⟩ := bd_t h
        refine rdN (As := [.int r2, .int x1]) (rest := []) S hK (c_X4_has l G r2 x1 r3 hr3) mX4_has 7 rfl ⟨rfl, rfl, Nat.le_of_ble_eq_true rfl, Nat.le_of_ble_eq_true rfl⟩ (ws_nil G.1 _) rfl hl.1 (Nat.le_of_ble_eq_true rfl) ⟨Nat.le_refl 0, Nat.le_refl 0⟩ dX3_ticketsWithHole_16 ?_
        refine lv_if_eq (tgt := 29) hx hb dX3_ticketsWithHole_19 (by decide) (fun c4 => ?_) (fun c4 => ?_)
        · replace h := if_t c4 h
          refine lv_iinc (v := x3 + 1) (lv' := [(3, .int (x3 + 1)), (0, .ref qa), (1, .int x1), (2, .int x2)]) hx hb dX3_ticketsWithHole_29 hl (k := 3) rfl rfl (by decide) rfl (fun ls hl => ?_)
          refine lv_goto (tgt := 4) hx hb dX3_ticketsWithHole_32 (by decide) ?_
          exact ih x1 x2 (x3 + 1)  h ls (lv_sub hl [1, 2, 3, 0] rfl)
        · replace h := if_f c4 h
          refine lv_iload_n hx hb dX3_ticketsWithHole_22 rfl (lv_at hl 2 rfl) ?_
          refine lv_iload_n hx hb dX3_ticketsWithHole_23 rfl (lv_at hl 3 rfl) ?_
          obtain ⟨r5, hr5, h⟩ := bd_t h
          refine rdN (As := [.int x3]) (rest := [.int x2]) S hK (c_X4_only l G x3 r5 hr5) mX4_only 8 rfl ⟨rfl, rfl, Nat.le_of_ble_eq_true rfl, Nat.le_of_ble_eq_true rfl⟩ (ws_nil G.1 _) rfl hl.1 (Nat.le_of_ble_eq_true rfl) ⟨Nat.le_refl 0, Nat.le_refl 0⟩ dX3_ticketsWithHole_24 ?_
          refine lv_ior hx hb dX3_ticketsWithHole_27 ?_
          refine lv_istore_n (lv' := [(2, .int (x2 ||| r5)), (0, .ref qa), (1, .int x1), (3, .int x3)]) hx hb dX3_ticketsWithHole_28 rfl hl (by decide) rfl (fun ls hl => ?_)
          refine lv_iinc (v := x3 + 1) (lv' := [(3, .int (x3 + 1)), (2, .int (x2 ||| r5)), (0, .ref qa), (1, .int x1)]) hx hb dX3_ticketsWithHole_29 hl (k := 3) rfl rfl (by decide) rfl (fun ls hl => ?_)
          refine lv_goto (tgt := 4) hx hb dX3_ticketsWithHole_32 (by decide) ?_
          exact ih x1 (x2 ||| r5) (x3 + 1)  h ls (lv_sub hl [2, 3, 1, 0] rfl)
  rw [F_X3_ticketsWithHole] at h
  refine lv_iconst (v := 0) hx hb dX3_ticketsWithHole_0 (by decide) ?_
  refine lv_istore_n (lv' := [(2, .int 0), (0, .ref qa), (1, .int p1)]) hx hb dX3_ticketsWithHole_1 rfl hl (by decide) rfl (fun ls hl => ?_)
  refine lv_iconst (v := 0) hx hb dX3_ticketsWithHole_2 (by decide) ?_
  refine lv_istore_n (lv' := [(3, .int 0), (2, .int 0), (0, .ref qa), (1, .int p1)]) hx hb dX3_ticketsWithHole_3 rfl hl (by decide) rfl (fun ls hl => ?_)
  exact L4 10000 p1 0 0  h ls (lv_sub hl [2, 3, 1, 0] rfl)
set_option maxHeartbeats 4000000 in
set_option maxRecDepth 100000 in
theorem c_X3_falseTickets (l : Launch) (G : gG) (qa qw qt qu qh qd qb : Nat) (sold : Int32) (stk : Int32) (pun : Int32) (fra : Int32) (tur : Int32) (ft : Nat → Int32) (fu : Nat → Int32) (fh : Nat → Int32) (fd : Nat → Int32) (fb : Nat → Int32) (res : Int32) (h : F_X3_falseTickets sold fh fd = some res) : RdM l G yX3_falseTickets cX3_falseTickets 3 .int (rmk 3 63) [(qa, .inr (3, [.ref qw, .ref qh, .ref qd, .ref qb, .int sold, .int stk, .int pun, .int fra, .int tur])), (qw, .inr (1, [.ref qt, .ref qu])), (qt, .inl (G.2.2.1, 24, .inl ft)), (qu, .inl (G.2.2.1, 24, .inl fu)), (qh, .inl (G.2.2.1, 12, .inl fh)), (qd, .inl (G.2.2.1, 12, .inl fd)), (qb, .inl (G.2.2.1, 12, .inl fb))] [.ref qa] res := by
  refine ofR (by decide) (Nat.le_of_ble_eq_true rfl) ?_
  intro p e s m below meth c ls S hr hlk hK hP hl
  have S : CallFix p m c cX3_falseTickets 3 s ([.ref qa] : List Value).toArray T0 RX3 := S
  obtain ⟨hx, hb, hml, hown, hts⟩ := id S
  have hl : lv_has ls 3 [(0, .ref qa)] := hl
  have L4 : ∀ (n : Nat) (x1 x2 : Int32), F_X3_falseTickets_4 sold fh fd n x1 x2 = some res → ∀ (ls : Array Slot), lv_has ls 3 [(0, .ref qa), (1, .int x1), (2, .int x2)] → W p l e (rmk 3 63) s m ([.ref qa] : List Value).toArray below meth c s.heap [] 0 0 (MQ below (vp_Si (fun x => x = res)) ([.ref qa] : List Value).toArray s 0 0 (fun _ => False)) (F0 m 4 ls []) := by
    intro n
    induction n with
    | zero => intro x1 x2 h; exact absurd (show (none : Option (Int32)) = some res from h) (fun q => by cases q)
    | succ n ih =>
      intro x1 x2 h ls hl
      rw [F_X3_falseTickets_4] at h
      refine lv_iload_n hx hb dX3_falseTickets_4 rfl (lv_at hl 2 rfl) ?_
      refine lv_bipush (v := 12) hx hb dX3_falseTickets_5 (by decide) ?_
      refine lv_icmp_ge (tgt := 27) hx hb dX3_falseTickets_7 (by decide) (fun c1 => ?_) (fun c1 => ?_)
      · replace h := if_t c1 h
        refine lv_iload_n hx hb dX3_falseTickets_27 rfl (lv_at hl 1 rfl) ?_
        obtain rfl := Option.some.inj h
        exact retR S hr hlk rfl rfl dX3_falseTickets_28
      · replace h := if_f c1 h
        refine lv_aload_n hx hb dX3_falseTickets_10 rfl (lv_at hl 0 rfl) ?_
        refine lv_iload_n hx hb dX3_falseTickets_11 rfl (lv_at hl 2 rfl) ?_
        obtain ⟨r2, hr2, h⟩ := bd_t h
        refine rdV (As := [.int x2]) (rest := []) S hK (c_X3_isFalse l G qa qw qt qu qh qd qb sold stk pun fra tur ft fu fh fd fb x2 r2 hr2) mX3_isFalse q407 ⟨rfl, rfl, Nat.le_of_ble_eq_true rfl, Nat.le_of_ble_eq_true rfl⟩ hP rfl rfl rfl rfl hl.1 (Nat.le_of_ble_eq_true rfl) ⟨Nat.le_refl 0, Nat.le_refl 0⟩ dX3_falseTickets_12 ?_
        refine lv_if_eq (tgt := 21) hx hb dX3_falseTickets_15 (by decide) (fun c3 => ?_) (fun c3 => ?_)
        · replace h := if_t c3 h
          refine lv_iinc (v := x2 + 1) (lv' := [(2, .int (x2 + 1)), (0, .ref qa), (1, .int x1)]) hx hb dX3_falseTickets_21 hl (k := 2) rfl rfl (by decide) rfl (fun ls hl => ?_)
          refine lv_goto (tgt := 4) hx hb dX3_falseTickets_24 (by decide) ?_
          exact ih x1 (x2 + 1)  h ls (lv_sub hl [1, 2, 0] rfl)
        · replace h := if_f c3 h
          refine lv_iinc (v := x1 + 1) (lv' := [(1, .int (x1 + 1)), (0, .ref qa), (2, .int x2)]) hx hb dX3_falseTickets_18 hl (k := 1) rfl rfl (by decide) rfl (fun ls hl => ?_)
          refine lv_iinc (v := x2 + 1) (lv' := [(2, .int (x2 + 1)), (1, .int (x1 + 1)), (0, .ref qa)]) hx hb dX3_falseTickets_21 hl (k := 2) rfl rfl (by decide) rfl (fun ls hl => ?_)
          refine lv_goto (tgt := 4) hx hb dX3_falseTickets_24 (by decide) ?_
          exact ih (x1 + 1) (x2 + 1)  h ls (lv_sub hl [2, 1, 0] rfl)
  rw [F_X3_falseTickets] at h
  refine lv_iconst (v := 0) hx hb dX3_falseTickets_0 (by decide) ?_
  refine lv_istore_n (lv' := [(1, .int 0), (0, .ref qa)]) hx hb dX3_falseTickets_1 rfl hl (by decide) rfl (fun ls hl => ?_)
  refine lv_iconst (v := 0) hx hb dX3_falseTickets_2 (by decide) ?_
  refine lv_istore_n (lv' := [(2, .int 0), (1, .int 0), (0, .ref qa)]) hx hb dX3_falseTickets_3 rfl hl (by decide) rfl (fun ls hl => ?_)
  exact L4 10000 0 0  h ls (lv_sub hl [2, 1, 0] rfl)
set_option maxHeartbeats 4000000 in
set_option maxRecDepth 100000 in
theorem c_X3_allHoles (l : Launch) (G : gG) (qa qw qt qu qh qd qb : Nat) (sold : Int32) (stk : Int32) (pun : Int32) (fra : Int32) (tur : Int32) (ft : Nat → Int32) (fu : Nat → Int32) (fh : Nat → Int32) (fd : Nat → Int32) (fb : Nat → Int32) (res : Int32) (h : F_X3_allHoles sold fh = some res) : RdM l G yX3_allHoles cX3_allHoles 3 .int (rmk 2 42) [(qa, .inr (3, [.ref qw, .ref qh, .ref qd, .ref qb, .int sold, .int stk, .int pun, .int fra, .int tur])), (qw, .inr (1, [.ref qt, .ref qu])), (qt, .inl (G.2.2.1, 24, .inl ft)), (qu, .inl (G.2.2.1, 24, .inl fu)), (qh, .inl (G.2.2.1, 12, .inl fh)), (qd, .inl (G.2.2.1, 12, .inl fd)), (qb, .inl (G.2.2.1, 12, .inl fb))] [.ref qa] res := by
  refine ofR (by decide) (Nat.le_of_ble_eq_true rfl) ?_
  intro p e s m below meth c ls S hr hlk hK hP hl
  have S : CallFix p m c cX3_allHoles 3 s ([.ref qa] : List Value).toArray T0 RX3 := S
  obtain ⟨hx, hb, hml, hown, hts⟩ := id S
  have hl : lv_has ls 3 [(0, .ref qa)] := hl
  have L4 : ∀ (n : Nat) (x1 x2 : Int32), F_X3_allHoles_4 sold fh n x1 x2 = some res → ∀ (ls : Array Slot), lv_has ls 3 [(0, .ref qa), (1, .int x1), (2, .int x2)] → W p l e (rmk 2 42) s m ([.ref qa] : List Value).toArray below meth c s.heap [] 0 0 (MQ below (vp_Si (fun x => x = res)) ([.ref qa] : List Value).toArray s 0 0 (fun _ => False)) (F0 m 4 ls []) := by
    intro n
    induction n with
    | zero => intro x1 x2 h; exact absurd (show (none : Option (Int32)) = some res from h) (fun q => by cases q)
    | succ n ih =>
      intro x1 x2 h ls hl
      rw [F_X3_allHoles_4] at h
      refine lv_iload_n hx hb dX3_allHoles_4 rfl (lv_at hl 2 rfl) ?_
      refine lv_bipush (v := 12) hx hb dX3_allHoles_5 (by decide) ?_
      refine lv_icmp_ge (tgt := 27) hx hb dX3_allHoles_7 (by decide) (fun c1 => ?_) (fun c1 => ?_)
      · replace h := if_t c1 h
        refine lv_iload_n hx hb dX3_allHoles_27 rfl (lv_at hl 1 rfl) ?_
        obtain rfl := Option.some.inj h
        exact retR S hr hlk rfl rfl dX3_allHoles_28
      · replace h := if_f c1 h
        refine lv_iload_n hx hb dX3_allHoles_10 rfl (lv_at hl 1 rfl) ?_
        refine lv_aload_n hx hb dX3_allHoles_11 rfl (lv_at hl 0 rfl) ?_
        refine lv_iload_n hx hb dX3_allHoles_12 rfl (lv_at hl 2 rfl) ?_
        obtain ⟨r2, hr2, h⟩ := bd_t h
        refine rdV (As := [.int x2]) (rest := [.int x1]) S hK (c_X3_holes l G qa qw qt qu qh qd qb sold stk pun fra tur ft fu fh fd fb x2 r2 hr2) mX3_holes q354 ⟨rfl, rfl, Nat.le_of_ble_eq_true rfl, Nat.le_of_ble_eq_true rfl⟩ hP rfl rfl rfl rfl hl.1 (Nat.le_of_ble_eq_true rfl) ⟨Nat.le_refl 0, Nat.le_refl 0⟩ dX3_allHoles_13 ?_
        obtain ⟨r3, hr3, h⟩ := bd_t h
        refine rdS (As := [.int r2]) (rest := [.int x1]) S hK (c_J6_bitCount_0f7a4 l G r2 r3 hr3) mJ6_bitCount_0f7a4 q419 ⟨rfl, rfl, Nat.le_of_ble_eq_true rfl, Nat.le_of_ble_eq_true rfl⟩ (ws_nil G.1 _) rfl hl.1 (Nat.le_of_ble_eq_true rfl) ⟨Nat.le_refl 0, Nat.le_refl 0⟩ dX3_allHoles_16 ?_
        refine lv_iadd hx hb dX3_allHoles_19 ?_
        refine lv_istore_n (lv' := [(1, .int (x1 + r3)), (0, .ref qa), (2, .int x2)]) hx hb dX3_allHoles_20 rfl hl (by decide) rfl (fun ls hl => ?_)
        refine lv_iinc (v := x2 + 1) (lv' := [(2, .int (x2 + 1)), (1, .int (x1 + r3)), (0, .ref qa)]) hx hb dX3_allHoles_21 hl (k := 2) rfl rfl (by decide) rfl (fun ls hl => ?_)
        refine lv_goto (tgt := 4) hx hb dX3_allHoles_24 (by decide) ?_
        exact ih (x1 + r3) (x2 + 1)  h ls (lv_sub hl [2, 1, 0] rfl)
  rw [F_X3_allHoles] at h
  refine lv_iconst (v := 0) hx hb dX3_allHoles_0 (by decide) ?_
  refine lv_istore_n (lv' := [(1, .int 0), (0, .ref qa)]) hx hb dX3_allHoles_1 rfl hl (by decide) rfl (fun ls hl => ?_)
  refine lv_iconst (v := 0) hx hb dX3_allHoles_2 (by decide) ?_
  refine lv_istore_n (lv' := [(2, .int 0), (1, .int 0), (0, .ref qa)]) hx hb dX3_allHoles_3 rfl hl (by decide) rfl (fun ls hl => ?_)
  exact L4 10000 0 0  h ls (lv_sub hl [2, 1, 0] rfl)
set_option maxHeartbeats 4000000 in
set_option maxRecDepth 100000 in
theorem c_X3_allDue (l : Launch) (G : gG) (qa qw qt qu qh qd qb : Nat) (sold : Int32) (stk : Int32) (pun : Int32) (fra : Int32) (tur : Int32) (ft : Nat → Int32) (fu : Nat → Int32) (fh : Nat → Int32) (fd : Nat → Int32) (fb : Nat → Int32) (res : Int32) (h : F_X3_allDue sold fd = some res) : RdM l G yX3_allDue cX3_allDue 3 .int (rmk 2 42) [(qa, .inr (3, [.ref qw, .ref qh, .ref qd, .ref qb, .int sold, .int stk, .int pun, .int fra, .int tur])), (qw, .inr (1, [.ref qt, .ref qu])), (qt, .inl (G.2.2.1, 24, .inl ft)), (qu, .inl (G.2.2.1, 24, .inl fu)), (qh, .inl (G.2.2.1, 12, .inl fh)), (qd, .inl (G.2.2.1, 12, .inl fd)), (qb, .inl (G.2.2.1, 12, .inl fb))] [.ref qa] res := by
  refine ofR (by decide) (Nat.le_of_ble_eq_true rfl) ?_
  intro p e s m below meth c ls S hr hlk hK hP hl
  have S : CallFix p m c cX3_allDue 3 s ([.ref qa] : List Value).toArray T0 RX3 := S
  obtain ⟨hx, hb, hml, hown, hts⟩ := id S
  have hl : lv_has ls 3 [(0, .ref qa)] := hl
  have L4 : ∀ (n : Nat) (x1 x2 : Int32), F_X3_allDue_4 sold fd n x1 x2 = some res → ∀ (ls : Array Slot), lv_has ls 3 [(0, .ref qa), (1, .int x1), (2, .int x2)] → W p l e (rmk 2 42) s m ([.ref qa] : List Value).toArray below meth c s.heap [] 0 0 (MQ below (vp_Si (fun x => x = res)) ([.ref qa] : List Value).toArray s 0 0 (fun _ => False)) (F0 m 4 ls []) := by
    intro n
    induction n with
    | zero => intro x1 x2 h; exact absurd (show (none : Option (Int32)) = some res from h) (fun q => by cases q)
    | succ n ih =>
      intro x1 x2 h ls hl
      rw [F_X3_allDue_4] at h
      refine lv_iload_n hx hb dX3_allDue_4 rfl (lv_at hl 2 rfl) ?_
      refine lv_bipush (v := 12) hx hb dX3_allDue_5 (by decide) ?_
      refine lv_icmp_ge (tgt := 27) hx hb dX3_allDue_7 (by decide) (fun c1 => ?_) (fun c1 => ?_)
      · replace h := if_t c1 h
        refine lv_iload_n hx hb dX3_allDue_27 rfl (lv_at hl 1 rfl) ?_
        obtain rfl := Option.some.inj h
        exact retR S hr hlk rfl rfl dX3_allDue_28
      · replace h := if_f c1 h
        refine lv_iload_n hx hb dX3_allDue_10 rfl (lv_at hl 1 rfl) ?_
        refine lv_aload_n hx hb dX3_allDue_11 rfl (lv_at hl 0 rfl) ?_
        refine lv_iload_n hx hb dX3_allDue_12 rfl (lv_at hl 2 rfl) ?_
        obtain ⟨r2, hr2, h⟩ := bd_t h
        refine rdV (As := [.int x2]) (rest := [.int x1]) S hK (c_X3_due l G qa qw qt qu qh qd qb sold stk pun fra tur ft fu fh fd fb x2 r2 hr2) mX3_due q411 ⟨rfl, rfl, Nat.le_of_ble_eq_true rfl, Nat.le_of_ble_eq_true rfl⟩ hP rfl rfl rfl rfl hl.1 (Nat.le_of_ble_eq_true rfl) ⟨Nat.le_refl 0, Nat.le_refl 0⟩ dX3_allDue_13 ?_
        obtain ⟨r3, hr3, h⟩ := bd_t h
        refine rdS (As := [.int r2]) (rest := [.int x1]) S hK (c_J6_bitCount_0f7a4 l G r2 r3 hr3) mJ6_bitCount_0f7a4 q419 ⟨rfl, rfl, Nat.le_of_ble_eq_true rfl, Nat.le_of_ble_eq_true rfl⟩ (ws_nil G.1 _) rfl hl.1 (Nat.le_of_ble_eq_true rfl) ⟨Nat.le_refl 0, Nat.le_refl 0⟩ dX3_allDue_16 ?_
        refine lv_iadd hx hb dX3_allDue_19 ?_
        refine lv_istore_n (lv' := [(1, .int (x1 + r3)), (0, .ref qa), (2, .int x2)]) hx hb dX3_allDue_20 rfl hl (by decide) rfl (fun ls hl => ?_)
        refine lv_iinc (v := x2 + 1) (lv' := [(2, .int (x2 + 1)), (1, .int (x1 + r3)), (0, .ref qa)]) hx hb dX3_allDue_21 hl (k := 2) rfl rfl (by decide) rfl (fun ls hl => ?_)
        refine lv_goto (tgt := 4) hx hb dX3_allDue_24 (by decide) ?_
        exact ih (x1 + r3) (x2 + 1)  h ls (lv_sub hl [2, 1, 0] rfl)
  rw [F_X3_allDue] at h
  refine lv_iconst (v := 0) hx hb dX3_allDue_0 (by decide) ?_
  refine lv_istore_n (lv' := [(1, .int 0), (0, .ref qa)]) hx hb dX3_allDue_1 rfl hl (by decide) rfl (fun ls hl => ?_)
  refine lv_iconst (v := 0) hx hb dX3_allDue_2 (by decide) ?_
  refine lv_istore_n (lv' := [(2, .int 0), (1, .int 0), (0, .ref qa)]) hx hb dX3_allDue_3 rfl hl (by decide) rfl (fun ls hl => ?_)
  exact L4 10000 0 0  h ls (lv_sub hl [2, 1, 0] rfl)
set_option maxHeartbeats 4000000 in
set_option maxRecDepth 100000 in
theorem c_X3_ticketsWithHoles (l : Launch) (G : gG) (qa qw qt qu qh qd qb : Nat) (sold : Int32) (stk : Int32) (pun : Int32) (fra : Int32) (tur : Int32) (ft : Nat → Int32) (fu : Nat → Int32) (fh : Nat → Int32) (fd : Nat → Int32) (fb : Nat → Int32) (p1 : Int32) (res : Int32) (h : F_X3_ticketsWithHoles sold fh p1 = some res) : RdM l G yX3_ticketsWithHoles cX3_ticketsWithHoles 4 .int (rmk 1 21) [(qa, .inr (3, [.ref qw, .ref qh, .ref qd, .ref qb, .int sold, .int stk, .int pun, .int fra, .int tur])), (qw, .inr (1, [.ref qt, .ref qu])), (qt, .inl (G.2.2.1, 24, .inl ft)), (qu, .inl (G.2.2.1, 24, .inl fu)), (qh, .inl (G.2.2.1, 12, .inl fh)), (qd, .inl (G.2.2.1, 12, .inl fd)), (qb, .inl (G.2.2.1, 12, .inl fb))] [.ref qa, .int p1] res := by
  refine ofR (by decide) (Nat.le_of_ble_eq_true rfl) ?_
  intro p e s m below meth c ls S hr hlk hK hP hl
  have S : CallFix p m c cX3_ticketsWithHoles 4 s ([.ref qa, .int p1] : List Value).toArray T0 RX3 := S
  obtain ⟨hx, hb, hml, hown, hts⟩ := id S
  have hl : lv_has ls 4 [(0, .ref qa), (1, .int p1)] := hl
  have L4 : ∀ (n : Nat) (x1 x2 x3 : Int32), F_X3_ticketsWithHoles_4 sold fh n x1 x2 x3 = some res → ∀ (ls : Array Slot), lv_has ls 4 [(0, .ref qa), (1, .int x1), (2, .int x2), (3, .int x3)] → W p l e (rmk 1 21) s m ([.ref qa, .int p1] : List Value).toArray below meth c s.heap [] 0 0 (MQ below (vp_Si (fun x => x = res)) ([.ref qa, .int p1] : List Value).toArray s 0 0 (fun _ => False)) (F0 m 4 ls []) := by
    intro n
    induction n with
    | zero => intro x1 x2 x3 h; exact absurd (show (none : Option (Int32)) = some res from h) (fun q => by cases q)
    | succ n ih =>
      intro x1 x2 x3 h ls hl
      rw [F_X3_ticketsWithHoles_4] at h
      refine lv_iload_n hx hb dX3_ticketsWithHoles_4 rfl (lv_at hl 3 rfl) ?_
      refine lv_bipush (v := 12) hx hb dX3_ticketsWithHoles_5 (by decide) ?_
      refine lv_icmp_ge (tgt := 41) hx hb dX3_ticketsWithHoles_7 (by decide) (fun c1 => ?_) (fun c1 => ?_)
      · replace h := if_t c1 h
        refine lv_iload_n hx hb dX3_ticketsWithHoles_41 rfl (lv_at hl 2 rfl) ?_
        obtain rfl := Option.some.inj h
        exact retR S hr hlk rfl rfl dX3_ticketsWithHoles_42
      · replace h := if_f c1 h
        refine lv_aload_n hx hb dX3_ticketsWithHoles_10 rfl (lv_at hl 0 rfl) ?_
        refine lv_iload_n hx hb dX3_ticketsWithHoles_11 rfl (lv_at hl 3 rfl) ?_
        obtain ⟨r2, hr2, h⟩ := bd_t h
        refine rdV (As := [.int x3]) (rest := []) S hK (c_X3_isTicket l G qa qw qt qu qh qd qb sold stk pun fra tur ft fu fh fd fb x3 r2 hr2) mX3_isTicket q291 ⟨rfl, rfl, Nat.le_of_ble_eq_true rfl, Nat.le_of_ble_eq_true rfl⟩ hP rfl rfl rfl rfl hl.1 (Nat.le_of_ble_eq_true rfl) ⟨Nat.le_refl 0, Nat.le_refl 0⟩ dX3_ticketsWithHoles_12 ?_
        refine lv_if_eq (tgt := 35) hx hb dX3_ticketsWithHoles_15 (by decide) (fun c3 => ?_) (fun c3 => ?_)
        · replace h := if_t c3 h
          refine lv_iinc (v := x3 + 1) (lv' := [(3, .int (x3 + 1)), (0, .ref qa), (1, .int x1), (2, .int x2)]) hx hb dX3_ticketsWithHoles_35 hl (k := 3) rfl rfl (by decide) rfl (fun ls hl => ?_)
          refine lv_goto (tgt := 4) hx hb dX3_ticketsWithHoles_38 (by decide) ?_
          exact ih x1 x2 (x3 + 1)  h ls (lv_sub hl [1, 2, 3, 0] rfl)
        · replace h := if_f c3 h
          refine lv_aload_n hx hb dX3_ticketsWithHoles_18 rfl (lv_at hl 0 rfl) ?_
          refine gf S hK iX3 hP 0 rfl rfl 1 (by decide) q51 rfl dX3_ticketsWithHoles_19 ?_
          refine lv_iload_n hx hb dX3_ticketsWithHoles_22 rfl (lv_at hl 3 rfl) ?_
          obtain ⟨k4, h⟩ := ck_t h
          refine ald S hK hP 4 rfl (ok_vp k4) dX3_ticketsWithHoles_23 ?_
          refine lv_iload_n hx hb dX3_ticketsWithHoles_24 rfl (lv_at hl 1 rfl) ?_
          refine lv_icmp_ne (tgt := 35) hx hb dX3_ticketsWithHoles_25 (by decide) (fun c5 => ?_) (fun c5 => ?_)
          · replace h := if_f c5 h
            refine lv_iinc (v := x3 + 1) (lv' := [(3, .int (x3 + 1)), (0, .ref qa), (1, .int x1), (2, .int x2)]) hx hb dX3_ticketsWithHoles_35 hl (k := 3) rfl rfl (by decide) rfl (fun ls hl => ?_)
            refine lv_goto (tgt := 4) hx hb dX3_ticketsWithHoles_38 (by decide) ?_
            exact ih x1 x2 (x3 + 1)  h ls (lv_sub hl [1, 2, 3, 0] rfl)
          · replace h := if_t c5 h
            refine lv_iload_n hx hb dX3_ticketsWithHoles_28 rfl (lv_at hl 2 rfl) ?_
            refine lv_iload_n hx hb dX3_ticketsWithHoles_29 rfl (lv_at hl 3 rfl) ?_
            obtain ⟨r6, hr6, h⟩ := bd_t h
            refine rdN (As := [.int x3]) (rest := [.int x2]) S hK (c_X4_only l G x3 r6 hr6) mX4_only 8 rfl ⟨rfl, rfl, Nat.le_of_ble_eq_true rfl, Nat.le_of_ble_eq_true rfl⟩ (ws_nil G.1 _) rfl hl.1 (Nat.le_of_ble_eq_true rfl) ⟨Nat.le_refl 0, Nat.le_refl 0⟩ dX3_ticketsWithHoles_30 ?_
            refine lv_ior hx hb dX3_ticketsWithHoles_33 ?_
            refine lv_istore_n (lv' := [(2, .int (x2 ||| r6)), (0, .ref qa), (1, .int x1), (3, .int x3)]) hx hb dX3_ticketsWithHoles_34 rfl hl (by decide) rfl (fun ls hl => ?_)
            refine lv_iinc (v := x3 + 1) (lv' := [(3, .int (x3 + 1)), (2, .int (x2 ||| r6)), (0, .ref qa), (1, .int x1)]) hx hb dX3_ticketsWithHoles_35 hl (k := 3) rfl rfl (by decide) rfl (fun ls hl => ?_)
            refine lv_goto (tgt := 4) hx hb dX3_ticketsWithHoles_38 (by decide) ?_
            exact ih x1 (x2 ||| r6) (x3 + 1)  h ls (lv_sub hl [2, 3, 1, 0] rfl)
  rw [F_X3_ticketsWithHoles] at h
  refine lv_iconst (v := 0) hx hb dX3_ticketsWithHoles_0 (by decide) ?_
  refine lv_istore_n (lv' := [(2, .int 0), (0, .ref qa), (1, .int p1)]) hx hb dX3_ticketsWithHoles_1 rfl hl (by decide) rfl (fun ls hl => ?_)
  refine lv_iconst (v := 0) hx hb dX3_ticketsWithHoles_2 (by decide) ?_
  refine lv_istore_n (lv' := [(3, .int 0), (2, .int 0), (0, .ref qa), (1, .int p1)]) hx hb dX3_ticketsWithHoles_3 rfl hl (by decide) rfl (fun ls hl => ?_)
  exact L4 10000 p1 0 0  h ls (lv_sub hl [2, 3, 1, 0] rfl)
set_option maxHeartbeats 4000000 in
set_option maxRecDepth 100000 in
theorem c_X3_kinOf (l : Launch) (G : gG) (qa qw qt qu qh qd qb : Nat) (sold : Int32) (stk : Int32) (pun : Int32) (fra : Int32) (tur : Int32) (ft : Nat → Int32) (fu : Nat → Int32) (fh : Nat → Int32) (fd : Nat → Int32) (fb : Nat → Int32) (p1 : Int32) (res : Int32) (h : F_X3_kinOf sold ft fh p1 = some res) : RdM l G yX3_kinOf cX3_kinOf 6 .int (rmk 3 69) [(qa, .inr (3, [.ref qw, .ref qh, .ref qd, .ref qb, .int sold, .int stk, .int pun, .int fra, .int tur])), (qw, .inr (1, [.ref qt, .ref qu])), (qt, .inl (G.2.2.1, 24, .inl ft)), (qu, .inl (G.2.2.1, 24, .inl fu)), (qh, .inl (G.2.2.1, 12, .inl fh)), (qd, .inl (G.2.2.1, 12, .inl fd)), (qb, .inl (G.2.2.1, 12, .inl fb))] [.ref qa, .int p1] res := by
  refine ofR (by decide) (Nat.le_of_ble_eq_true rfl) ?_
  intro p e s m below meth c ls S hr hlk hK hP hl
  have S : CallFix p m c cX3_kinOf 6 s ([.ref qa, .int p1] : List Value).toArray T0 RX3 := S
  obtain ⟨hx, hb, hml, hown, hts⟩ := id S
  have hl : lv_has ls 6 [(0, .ref qa), (1, .int p1)] := hl
  have L20 : ∀ (n : Nat) (x1 x2 x3 x4 x5 : Int32), F_X3_kinOf_20 sold ft fh n x1 x2 x3 x4 x5 = some res → ∀ (ls : Array Slot), lv_has ls 6 [(0, .ref qa), (1, .int x1), (2, .int x2), (3, .int x3), (4, .int x4), (5, .int x5)] → W p l e (rmk 3 69) s m ([.ref qa, .int p1] : List Value).toArray below meth c s.heap [] 0 0 (MQ below (vp_Si (fun x => x = res)) ([.ref qa, .int p1] : List Value).toArray s 0 0 (fun _ => False)) (F0 m 20 ls []) := by
    intro n
    induction n with
    | zero => intro x1 x2 x3 x4 x5 h; exact absurd (show (none : Option (Int32)) = some res from h) (fun q => by cases q)
    | succ n ih =>
      intro x1 x2 x3 x4 x5 h ls hl
      rw [F_X3_kinOf_20] at h
      refine lv_iload hx hb dX3_kinOf_20 (lv_at hl 5 rfl) ?_
      refine lv_iload hx hb dX3_kinOf_22 (lv_at hl 4 rfl) ?_
      refine lv_icmp_ge (tgt := 50) hx hb dX3_kinOf_24 (by decide) (fun c3 => ?_) (fun c3 => ?_)
      · replace h := if_t c3 h
        refine lv_iload_n hx hb dX3_kinOf_50 rfl (lv_at hl 2 rfl) ?_
        obtain rfl := Option.some.inj h
        exact retR S hr hlk rfl rfl dX3_kinOf_51
      · replace h := if_f c3 h
        refine lv_iload_n hx hb dX3_kinOf_27 rfl (lv_at hl 2 rfl) ?_
        refine lv_aload_n hx hb dX3_kinOf_28 rfl (lv_at hl 0 rfl) ?_
        refine lv_iload_n hx hb dX3_kinOf_29 rfl (lv_at hl 3 rfl) ?_
        obtain ⟨r4, hr4, h⟩ := bd_t h
        refine rdV (As := [.int x3]) (rest := [.int x2]) S hK (c_X3_ticketsWithHoles l G qa qw qt qu qh qd qb sold stk pun fra tur ft fu fh fd fb x3 r4 hr4) mX3_ticketsWithHoles q585 ⟨rfl, rfl, Nat.le_of_ble_eq_true rfl, Nat.le_of_ble_eq_true rfl⟩ hP rfl rfl rfl rfl hl.1 (Nat.le_of_ble_eq_true rfl) ⟨Nat.le_refl 0, Nat.le_refl 0⟩ dX3_kinOf_30 ?_
        refine lv_ior hx hb dX3_kinOf_33 ?_
        refine lv_istore_n (lv' := [(2, .int (x2 ||| r4)), (0, .ref qa), (1, .int x1), (3, .int x3), (4, .int x4), (5, .int x5)]) hx hb dX3_kinOf_34 rfl hl (by decide) rfl (fun ls hl => ?_)
        refine lv_aload_n hx hb dX3_kinOf_35 rfl (lv_at hl 1 rfl) ?_
        refine gf S hK iX3 hP 0 rfl rfl 0 (by decide) q49 rfl dX3_kinOf_36 ?_
        refine lv_iload_n hx hb dX3_kinOf_39 rfl (lv_at hl 3 rfl) ?_
        obtain ⟨r5, hr5, h⟩ := bd_t h
        refine rdV (As := [.int x3]) (rest := []) S hK (c_X1_moved l G qw qt qu ft fu x3 r5 hr5) mX1_moved q589 ⟨rfl, rfl, Nat.le_of_ble_eq_true rfl, Nat.le_of_ble_eq_true rfl⟩ (hP.sub (ws' := [(qw, .inr (1, [.ref qt, .ref qu])), (qt, .inl (G.2.2.1, 24, .inl ft)), (qu, .inl (G.2.2.1, 24, .inl fu))]) [1, 2, 3] rfl) rfl rfl rfl rfl hl.1 (Nat.le_of_ble_eq_true rfl) ⟨Nat.le_refl 0, Nat.le_refl 0⟩ dX3_kinOf_40 ?_
        refine lv_istore_n (lv' := [(3, .int r5), (2, .int (x2 ||| r4)), (0, .ref qa), (1, .int x1), (4, .int x4), (5, .int x5)]) hx hb dX3_kinOf_43 rfl hl (by decide) rfl (fun ls hl => ?_)
        refine lv_iinc (v := x5 + 1) (lv' := [(5, .int (x5 + 1)), (3, .int r5), (2, .int (x2 ||| r4)), (0, .ref qa), (1, .int x1), (4, .int x4)]) hx hb dX3_kinOf_44 hl (k := 5) rfl rfl (by decide) rfl (fun ls hl => ?_)
        refine lv_goto (tgt := 20) hx hb dX3_kinOf_47 (by decide) ?_
        exact ih x1 (x2 ||| r4) r5 x4 (x5 + 1)  h ls (lv_sub hl [3, 4, 2, 1, 5, 0] rfl)
  rw [F_X3_kinOf] at h
  refine lv_iconst (v := 0) hx hb dX3_kinOf_0 (by decide) ?_
  refine lv_istore_n (lv' := [(2, .int 0), (0, .ref qa), (1, .int p1)]) hx hb dX3_kinOf_1 rfl hl (by decide) rfl (fun ls hl => ?_)
  refine lv_aload_n hx hb dX3_kinOf_2 rfl (lv_at hl 1 rfl) ?_
  refine lv_iload_n hx hb dX3_kinOf_3 rfl (lv_at hl 2 rfl) ?_
  obtain ⟨r1, hr1, h⟩ := bd_t h
  refine rdV (As := [.int p1]) (rest := []) S hK (c_X3_holes l G qa qw qt qu qh qd qb sold stk pun fra tur ft fu fh fd fb p1 r1 hr1) mX3_holes q354 ⟨rfl, rfl, Nat.le_of_ble_eq_true rfl, Nat.le_of_ble_eq_true rfl⟩ hP rfl rfl rfl rfl hl.1 (Nat.le_of_ble_eq_true rfl) ⟨Nat.le_refl 0, Nat.le_refl 0⟩ dX3_kinOf_4 ?_
  refine lv_istore_n (lv' := [(3, .int r1), (2, .int 0), (0, .ref qa), (1, .int p1)]) hx hb dX3_kinOf_7 rfl hl (by decide) rfl (fun ls hl => ?_)
  refine lv_aload_n hx hb dX3_kinOf_8 rfl (lv_at hl 2 rfl) ?_
  refine gf S hK iX3 hP 0 rfl rfl 0 (by decide) q49 rfl dX3_kinOf_9 ?_
  obtain ⟨r2, hr2, h⟩ := bd_t h
  refine rdV (As := []) (rest := []) S hK (c_X1_order l G qw qt qu ft fu r2 hr2) mX1_order q584 ⟨rfl, rfl, Nat.le_of_ble_eq_true rfl, Nat.le_of_ble_eq_true rfl⟩ (hP.sub (ws' := [(qw, .inr (1, [.ref qt, .ref qu])), (qt, .inl (G.2.2.1, 24, .inl ft)), (qu, .inl (G.2.2.1, 24, .inl fu))]) [1, 2, 3] rfl) rfl rfl rfl rfl hl.1 (Nat.le_of_ble_eq_true rfl) ⟨Nat.le_refl 0, Nat.le_refl 0⟩ dX3_kinOf_12 ?_
  refine lv_istore (lv' := [(4, .int r2), (3, .int r1), (2, .int 0), (0, .ref qa), (1, .int p1)]) hx hb dX3_kinOf_15 hl (by decide) rfl (fun ls hl => ?_)
  refine lv_iconst (v := 0) hx hb dX3_kinOf_17 (by decide) ?_
  refine lv_istore (lv' := [(5, .int 0), (4, .int r2), (3, .int r1), (2, .int 0), (0, .ref qa), (1, .int p1)]) hx hb dX3_kinOf_18 hl (by decide) rfl (fun ls hl => ?_)
  exact L20 10000 p1 0 r1 r2 0  h ls (lv_sub hl [4, 5, 3, 2, 1, 0] rfl)
set_option maxHeartbeats 4000000 in
set_option maxRecDepth 100000 in
theorem c_X3_commonHoles (l : Launch) (G : gG) (qa qw qt qu qh qd qb : Nat) (sold : Int32) (stk : Int32) (pun : Int32) (fra : Int32) (tur : Int32) (ft : Nat → Int32) (fu : Nat → Int32) (fh : Nat → Int32) (fd : Nat → Int32) (fb : Nat → Int32) (p1 : Int32) (res : Int32) (h : F_X3_commonHoles sold fh p1 = some res) : RdM l G yX3_commonHoles cX3_commonHoles 4 .int (rmk 2 42) [(qa, .inr (3, [.ref qw, .ref qh, .ref qd, .ref qb, .int sold, .int stk, .int pun, .int fra, .int tur])), (qw, .inr (1, [.ref qt, .ref qu])), (qt, .inl (G.2.2.1, 24, .inl ft)), (qu, .inl (G.2.2.1, 24, .inl fu)), (qh, .inl (G.2.2.1, 12, .inl fh)), (qd, .inl (G.2.2.1, 12, .inl fd)), (qb, .inl (G.2.2.1, 12, .inl fb))] [.ref qa, .int p1] res := by
  refine ofR (by decide) (Nat.le_of_ble_eq_true rfl) ?_
  intro p e s m below meth c ls S hr hlk hK hP hl
  have S : CallFix p m c cX3_commonHoles 4 s ([.ref qa, .int p1] : List Value).toArray T0 RX3 := S
  obtain ⟨hx, hb, hml, hown, hts⟩ := id S
  have hl : lv_has ls 4 [(0, .ref qa), (1, .int p1)] := hl
  have L5 : ∀ (n : Nat) (x1 x2 x3 : Int32), F_X3_commonHoles_5 sold fh n x1 x2 x3 = some res → ∀ (ls : Array Slot), lv_has ls 4 [(0, .ref qa), (1, .int x1), (2, .int x2), (3, .int x3)] → W p l e (rmk 2 42) s m ([.ref qa, .int p1] : List Value).toArray below meth c s.heap [] 0 0 (MQ below (vp_Si (fun x => x = res)) ([.ref qa, .int p1] : List Value).toArray s 0 0 (fun _ => False)) (F0 m 5 ls []) := by
    intro n
    induction n with
    | zero => intro x1 x2 x3 h; exact absurd (show (none : Option (Int32)) = some res from h) (fun q => by cases q)
    | succ n ih =>
      intro x1 x2 x3 h ls hl
      rw [F_X3_commonHoles_5] at h
      refine lv_iload_n hx hb dX3_commonHoles_5 rfl (lv_at hl 3 rfl) ?_
      refine lv_bipush (v := 12) hx hb dX3_commonHoles_6 (by decide) ?_
      refine lv_icmp_ge (tgt := 33) hx hb dX3_commonHoles_8 (by decide) (fun c1 => ?_) (fun c1 => ?_)
      · replace h := if_t c1 h
        refine lv_iload_n hx hb dX3_commonHoles_33 rfl (lv_at hl 2 rfl) ?_
        obtain rfl := Option.some.inj h
        exact retR S hr hlk rfl rfl dX3_commonHoles_34
      · replace h := if_f c1 h
        refine lv_iload_n hx hb dX3_commonHoles_11 rfl (lv_at hl 1 rfl) ?_
        refine lv_iload_n hx hb dX3_commonHoles_12 rfl (lv_at hl 3 rfl) ?_
        obtain ⟨r2, hr2, h⟩ := bd_t h
        refine rdN (As := [.int x1, .int x3]) (rest := []) S hK (c_X4_has l G x1 x3 r2 hr2) mX4_has 7 rfl ⟨rfl, rfl, Nat.le_of_ble_eq_true rfl, Nat.le_of_ble_eq_true rfl⟩ (ws_nil G.1 _) rfl hl.1 (Nat.le_of_ble_eq_true rfl) ⟨Nat.le_refl 0, Nat.le_refl 0⟩ dX3_commonHoles_13 ?_
        refine lv_if_eq (tgt := 27) hx hb dX3_commonHoles_16 (by decide) (fun c3 => ?_) (fun c3 => ?_)
        · replace h := if_t c3 h
          refine lv_iinc (v := x3 + 1) (lv' := [(3, .int (x3 + 1)), (0, .ref qa), (1, .int x1), (2, .int x2)]) hx hb dX3_commonHoles_27 hl (k := 3) rfl rfl (by decide) rfl (fun ls hl => ?_)
          refine lv_goto (tgt := 5) hx hb dX3_commonHoles_30 (by decide) ?_
          exact ih x1 x2 (x3 + 1)  h ls (lv_sub hl [1, 2, 3, 0] rfl)
        · replace h := if_f c3 h
          refine lv_iload_n hx hb dX3_commonHoles_19 rfl (lv_at hl 2 rfl) ?_
          refine lv_aload_n hx hb dX3_commonHoles_20 rfl (lv_at hl 0 rfl) ?_
          refine lv_iload_n hx hb dX3_commonHoles_21 rfl (lv_at hl 3 rfl) ?_
          obtain ⟨r4, hr4, h⟩ := bd_t h
          refine rdV (As := [.int x3]) (rest := [.int x2]) S hK (c_X3_holes l G qa qw qt qu qh qd qb sold stk pun fra tur ft fu fh fd fb x3 r4 hr4) mX3_holes q354 ⟨rfl, rfl, Nat.le_of_ble_eq_true rfl, Nat.le_of_ble_eq_true rfl⟩ hP rfl rfl rfl rfl hl.1 (Nat.le_of_ble_eq_true rfl) ⟨Nat.le_refl 0, Nat.le_refl 0⟩ dX3_commonHoles_22 ?_
          refine lv_iand hx hb dX3_commonHoles_25 ?_
          refine lv_istore_n (lv' := [(2, .int (x2 &&& r4)), (0, .ref qa), (1, .int x1), (3, .int x3)]) hx hb dX3_commonHoles_26 rfl hl (by decide) rfl (fun ls hl => ?_)
          refine lv_iinc (v := x3 + 1) (lv' := [(3, .int (x3 + 1)), (2, .int (x2 &&& r4)), (0, .ref qa), (1, .int x1)]) hx hb dX3_commonHoles_27 hl (k := 3) rfl rfl (by decide) rfl (fun ls hl => ?_)
          refine lv_goto (tgt := 5) hx hb dX3_commonHoles_30 (by decide) ?_
          exact ih x1 (x2 &&& r4) (x3 + 1)  h ls (lv_sub hl [2, 3, 1, 0] rfl)
  rw [F_X3_commonHoles] at h
  refine lv_ldc (v := 16777215) hx hb hown (hts _ q398) dX3_commonHoles_0 ?_
  refine lv_istore_n (lv' := [(2, .int 16777215), (0, .ref qa), (1, .int p1)]) hx hb dX3_commonHoles_2 rfl hl (by decide) rfl (fun ls hl => ?_)
  refine lv_iconst (v := 0) hx hb dX3_commonHoles_3 (by decide) ?_
  refine lv_istore_n (lv' := [(3, .int 0), (2, .int 16777215), (0, .ref qa), (1, .int p1)]) hx hb dX3_commonHoles_4 rfl hl (by decide) rfl (fun ls hl => ?_)
  exact L5 10000 p1 16777215 0  h ls (lv_sub hl [2, 3, 1, 0] rfl)
set_option maxHeartbeats 4000000 in
set_option maxRecDepth 100000 in
theorem c_X3_lightPlaces (l : Launch) (G : gG) (qa qw qt qu qh qd qb : Nat) (sold : Int32) (stk : Int32) (pun : Int32) (fra : Int32) (tur : Int32) (ft : Nat → Int32) (fu : Nat → Int32) (fh : Nat → Int32) (fd : Nat → Int32) (fb : Nat → Int32) (res : Int32) (h : F_X3_lightPlaces sold stk fh = some res) : RdM l G yX3_lightPlaces cX3_lightPlaces 1 .int (rmk 3 65) [(qa, .inr (3, [.ref qw, .ref qh, .ref qd, .ref qb, .int sold, .int stk, .int pun, .int fra, .int tur])), (qw, .inr (1, [.ref qt, .ref qu])), (qt, .inl (G.2.2.1, 24, .inl ft)), (qu, .inl (G.2.2.1, 24, .inl fu)), (qh, .inl (G.2.2.1, 12, .inl fh)), (qd, .inl (G.2.2.1, 12, .inl fd)), (qb, .inl (G.2.2.1, 12, .inl fb))] [.ref qa] res := by
  refine ofR (by decide) (Nat.le_of_ble_eq_true rfl) ?_
  intro p e s m below meth c ls S hr hlk hK hP hl
  have S : CallFix p m c cX3_lightPlaces 1 s ([.ref qa] : List Value).toArray T0 RX3 := S
  obtain ⟨hx, hb, hml, hown, hts⟩ := id S
  have hl : lv_has ls 1 [(0, .ref qa)] := hl
  rw [F_X3_lightPlaces] at h
  refine lv_aload_n hx hb dX3_lightPlaces_0 rfl (lv_at hl 0 rfl) ?_
  refine gf S hK iX3 hP 0 rfl rfl 5 (by decide) q55 rfl dX3_lightPlaces_1 ?_
  refine lv_if_ne (tgt := 11) hx hb dX3_lightPlaces_4 (by decide) (fun c1 => ?_) (fun c1 => ?_)
  · replace h := if_f c1 h
    refine lv_aload_n hx hb dX3_lightPlaces_11 rfl (lv_at hl 0 rfl) ?_
    refine lv_aload_n hx hb dX3_lightPlaces_12 rfl (lv_at hl 0 rfl) ?_
    refine gf S hK iX3 hP 0 rfl rfl 5 (by decide) q55 rfl dX3_lightPlaces_13 ?_
    obtain ⟨r2, hr2, h⟩ := bd_t h
    refine rdV (As := [.int stk]) (rest := []) S hK (c_X3_commonHoles l G qa qw qt qu qh qd qb sold stk pun fra tur ft fu fh fd fb stk r2 hr2) mX3_commonHoles q394 ⟨rfl, rfl, Nat.le_of_ble_eq_true rfl, Nat.le_of_ble_eq_true rfl⟩ hP rfl rfl rfl rfl hl.1 (Nat.le_of_ble_eq_true rfl) ⟨Nat.le_refl 0, Nat.le_refl 0⟩ dX3_lightPlaces_16 ?_
    obtain rfl := Option.some.inj h
    exact retR S hr hlk rfl rfl dX3_lightPlaces_19
  · replace h := if_t c1 h
    refine lv_iconst (v := 0) hx hb dX3_lightPlaces_7 (by decide) ?_
    refine lv_goto (tgt := 19) hx hb dX3_lightPlaces_8 (by decide) ?_
    obtain rfl := Option.some.inj h
    exact retR S hr hlk rfl rfl dX3_lightPlaces_19
set_option maxHeartbeats 4000000 in
set_option maxRecDepth 100000 in
theorem c_X3_bestPower (l : Launch) (G : gG) (qa qw qt qu qh qd qb : Nat) (sold : Int32) (stk : Int32) (pun : Int32) (fra : Int32) (tur : Int32) (ft : Nat → Int32) (fu : Nat → Int32) (fh : Nat → Int32) (fd : Nat → Int32) (fb : Nat → Int32) (p1 : Int32) (res : Int32) (h : F_X3_bestPower sold stk ft fh p1 = some res) : RdM l G yX3_bestPower cX3_bestPower 9 .int (rmk 3 69) [(qa, .inr (3, [.ref qw, .ref qh, .ref qd, .ref qb, .int sold, .int stk, .int pun, .int fra, .int tur])), (qw, .inr (1, [.ref qt, .ref qu])), (qt, .inl (G.2.2.1, 24, .inl ft)), (qu, .inl (G.2.2.1, 24, .inl fu)), (qh, .inl (G.2.2.1, 12, .inl fh)), (qd, .inl (G.2.2.1, 12, .inl fd)), (qb, .inl (G.2.2.1, 12, .inl fb))] [.ref qa, .int p1] res := by
  refine ofR (by decide) (Nat.le_of_ble_eq_true rfl) ?_
  intro p e s m below meth c ls S hr hlk hK hP hl
  have S : CallFix p m c cX3_bestPower 9 s ([.ref qa, .int p1] : List Value).toArray T0 RX3 := S
  obtain ⟨hx, hb, hml, hown, hts⟩ := id S
  have hl : lv_has ls 9 [(0, .ref qa), (1, .int p1)] := hl
  have L45 : ∀ (n : Nat) (x1 x2 x3 x4 x5 x6 x7 : Int32), F_X3_bestPower_45 sold stk ft fh n x1 x2 x3 x4 x5 x6 x7 = some res → ∀ (ls : Array Slot), lv_has ls 9 [(0, .ref qa), (1, .int x1), (2, .int x2), (3, .int x3), (4, .int x4), (5, .int x5), (6, .int x6), (7, .int x7)] → W p l e (rmk 3 69) s m ([.ref qa, .int p1] : List Value).toArray below meth c s.heap [] 0 0 (MQ below (vp_Si (fun x => x = res)) ([.ref qa, .int p1] : List Value).toArray s 0 0 (fun _ => False)) (F0 m 45 ls []) := by
    intro n
    induction n with
    | zero => intro x1 x2 x3 x4 x5 x6 x7 h; exact absurd (show (none : Option (Int32)) = some res from h) (fun q => by cases q)
    | succ n ih =>
      intro x1 x2 x3 x4 x5 x6 x7 h ls hl
      rw [F_X3_bestPower_45] at h
      refine lv_iload hx hb dX3_bestPower_45 (lv_at hl 7 rfl) ?_
      refine lv_iload hx hb dX3_bestPower_47 (lv_at hl 4 rfl) ?_
      refine lv_icmp_ge (tgt := 90) hx hb dX3_bestPower_49 (by decide) (fun c6 => ?_) (fun c6 => ?_)
      · replace h := if_t c6 h
        refine lv_iload hx hb dX3_bestPower_90 (lv_at hl 5 rfl) ?_
        obtain rfl := Option.some.inj h
        exact retR S hr hlk rfl rfl dX3_bestPower_92
      · replace h := if_f c6 h
        refine lv_aload_n hx hb dX3_bestPower_52 rfl (lv_at hl 0 rfl) ?_
        refine gf S hK iX3 hP 0 rfl rfl 0 (by decide) q49 rfl dX3_bestPower_53 ?_
        refine lv_iload_n hx hb dX3_bestPower_56 rfl (lv_at hl 3 rfl) ?_
        obtain ⟨r7, hr7, h⟩ := bd_t h
        refine rdV (As := [.int x3]) (rest := []) S hK (c_X1_moved l G qw qt qu ft fu x3 r7 hr7) mX1_moved q589 ⟨rfl, rfl, Nat.le_of_ble_eq_true rfl, Nat.le_of_ble_eq_true rfl⟩ (hP.sub (ws' := [(qw, .inr (1, [.ref qt, .ref qu])), (qt, .inl (G.2.2.1, 24, .inl ft)), (qu, .inl (G.2.2.1, 24, .inl fu))]) [1, 2, 3] rfl) rfl rfl rfl rfl hl.1 (Nat.le_of_ble_eq_true rfl) ⟨Nat.le_refl 0, Nat.le_refl 0⟩ dX3_bestPower_57 ?_
        refine lv_istore_n (lv' := [(3, .int r7), (0, .ref qa), (1, .int x1), (2, .int x2), (4, .int x4), (5, .int x5), (6, .int x6), (7, .int x7)]) hx hb dX3_bestPower_60 rfl hl (by decide) rfl (fun ls hl => ?_)
        refine lv_iload_n hx hb dX3_bestPower_61 rfl (lv_at hl 0 rfl) ?_
        refine lv_iload_n hx hb dX3_bestPower_62 rfl (lv_at hl 3 rfl) ?_
        refine lv_iand hx hb dX3_bestPower_63 ?_
        obtain ⟨r8, hr8, h⟩ := bd_t h
        refine rdS (As := [.int (r7 &&& x2)]) (rest := []) S hK (c_J6_bitCount_0f7a4 l G (r7 &&& x2) r8 hr8) mJ6_bitCount_0f7a4 q419 ⟨rfl, rfl, Nat.le_of_ble_eq_true rfl, Nat.le_of_ble_eq_true rfl⟩ (ws_nil G.1 _) rfl hl.1 (Nat.le_of_ble_eq_true rfl) ⟨Nat.le_refl 0, Nat.le_refl 0⟩ dX3_bestPower_64 ?_
        refine lv_istore (lv' := [(8, .int r8), (3, .int r7), (0, .ref qa), (1, .int x1), (2, .int x2), (4, .int x4), (5, .int x5), (6, .int x6), (7, .int x7)]) hx hb dX3_bestPower_67 hl (by decide) rfl (fun ls hl => ?_)
        refine lv_iload hx hb dX3_bestPower_69 (lv_at hl 0 rfl) ?_
        refine lv_iload hx hb dX3_bestPower_71 (lv_at hl 7 rfl) ?_
        refine lv_icmp_le (tgt := 84) hx hb dX3_bestPower_73 (by decide) (fun c9 => ?_) (fun c9 => ?_)
        · replace h := if_t c9 h
          refine lv_iinc (v := x7 + 1) (lv' := [(7, .int (x7 + 1)), (8, .int r8), (3, .int r7), (0, .ref qa), (1, .int x1), (2, .int x2), (4, .int x4), (5, .int x5), (6, .int x6)]) hx hb dX3_bestPower_84 hl (k := 8) rfl rfl (by decide) rfl (fun ls hl => ?_)
          refine lv_goto (tgt := 45) hx hb dX3_bestPower_87 (by decide) ?_
          exact ih x1 x2 r7 x4 x5 x6 (x7 + 1)  h ls (lv_sub hl [3, 4, 5, 2, 6, 7, 8, 0] rfl)
        · replace h := if_f c9 h
          refine lv_iload hx hb dX3_bestPower_76 (lv_at hl 0 rfl) ?_
          refine lv_istore (lv' := [(6, .int r8), (8, .int r8), (3, .int r7), (0, .ref qa), (1, .int x1), (2, .int x2), (4, .int x4), (5, .int x5), (7, .int x7)]) hx hb dX3_bestPower_78 hl (by decide) rfl (fun ls hl => ?_)
          refine lv_iload hx hb dX3_bestPower_80 (lv_at hl 8 rfl) ?_
          refine lv_istore (lv' := [(5, .int x7), (6, .int r8), (8, .int r8), (3, .int r7), (0, .ref qa), (1, .int x1), (2, .int x2), (4, .int x4), (7, .int x7)]) hx hb dX3_bestPower_82 hl (by decide) rfl (fun ls hl => ?_)
          refine lv_iinc (v := x7 + 1) (lv' := [(7, .int (x7 + 1)), (5, .int x7), (6, .int r8), (8, .int r8), (3, .int r7), (0, .ref qa), (1, .int x1), (2, .int x2), (4, .int x4)]) hx hb dX3_bestPower_84 hl (k := 8) rfl rfl (by decide) rfl (fun ls hl => ?_)
          refine lv_goto (tgt := 45) hx hb dX3_bestPower_87 (by decide) ?_
          exact ih x1 x2 r7 x4 x7 r8 (x7 + 1)  h ls (lv_sub hl [5, 6, 7, 4, 8, 1, 2, 0] rfl)
  rw [F_X3_bestPower] at h
  refine lv_aload_n hx hb dX3_bestPower_0 rfl (lv_at hl 0 rfl) ?_
  refine lv_aload_n hx hb dX3_bestPower_1 rfl (lv_at hl 0 rfl) ?_
  refine gf S hK iX3 hP 0 rfl rfl 5 (by decide) q55 rfl dX3_bestPower_2 ?_
  refine lv_iload_n hx hb dX3_bestPower_5 rfl (lv_at hl 1 rfl) ?_
  obtain ⟨r1, hr1, h⟩ := bd_t h
  refine rdN (As := [.int p1]) (rest := [.int stk, .ref qa]) S hK (c_X4_only l G p1 r1 hr1) mX4_only 8 rfl ⟨rfl, rfl, Nat.le_of_ble_eq_true rfl, Nat.le_of_ble_eq_true rfl⟩ (ws_nil G.1 _) rfl hl.1 (Nat.le_of_ble_eq_true rfl) ⟨Nat.le_refl 0, Nat.le_refl 0⟩ dX3_bestPower_6 ?_
  refine lv_iconst (v := (-1)) hx hb dX3_bestPower_9 (by decide) ?_
  refine lv_ixor hx hb dX3_bestPower_10 ?_
  refine lv_iand hx hb dX3_bestPower_11 ?_
  obtain ⟨r2, hr2, h⟩ := bd_t h
  refine rdV (As := [.int (stk &&& (r1 ^^^ (-1)))]) (rest := []) S hK (c_X3_commonHoles l G qa qw qt qu qh qd qb sold stk pun fra tur ft fu fh fd fb (stk &&& (r1 ^^^ (-1))) r2 hr2) mX3_commonHoles q394 ⟨rfl, rfl, Nat.le_of_ble_eq_true rfl, Nat.le_of_ble_eq_true rfl⟩ hP rfl rfl rfl rfl hl.1 (Nat.le_of_ble_eq_true rfl) ⟨Nat.le_refl 0, Nat.le_refl 0⟩ dX3_bestPower_12 ?_
  refine lv_istore_n (lv' := [(2, .int r2), (0, .ref qa), (1, .int p1)]) hx hb dX3_bestPower_15 rfl hl (by decide) rfl (fun ls hl => ?_)
  refine lv_aload_n hx hb dX3_bestPower_16 rfl (lv_at hl 1 rfl) ?_
  refine lv_iload_n hx hb dX3_bestPower_17 rfl (lv_at hl 2 rfl) ?_
  obtain ⟨r3, hr3, h⟩ := bd_t h
  refine rdV (As := [.int p1]) (rest := []) S hK (c_X3_holes l G qa qw qt qu qh qd qb sold stk pun fra tur ft fu fh fd fb p1 r3 hr3) mX3_holes q354 ⟨rfl, rfl, Nat.le_of_ble_eq_true rfl, Nat.le_of_ble_eq_true rfl⟩ hP rfl rfl rfl rfl hl.1 (Nat.le_of_ble_eq_true rfl) ⟨Nat.le_refl 0, Nat.le_refl 0⟩ dX3_bestPower_18 ?_
  refine lv_istore_n (lv' := [(3, .int r3), (2, .int r2), (0, .ref qa), (1, .int p1)]) hx hb dX3_bestPower_21 rfl hl (by decide) rfl (fun ls hl => ?_)
  refine lv_aload_n hx hb dX3_bestPower_22 rfl (lv_at hl 2 rfl) ?_
  refine gf S hK iX3 hP 0 rfl rfl 0 (by decide) q49 rfl dX3_bestPower_23 ?_
  obtain ⟨r4, hr4, h⟩ := bd_t h
  refine rdV (As := []) (rest := []) S hK (c_X1_order l G qw qt qu ft fu r4 hr4) mX1_order q584 ⟨rfl, rfl, Nat.le_of_ble_eq_true rfl, Nat.le_of_ble_eq_true rfl⟩ (hP.sub (ws' := [(qw, .inr (1, [.ref qt, .ref qu])), (qt, .inl (G.2.2.1, 24, .inl ft)), (qu, .inl (G.2.2.1, 24, .inl fu))]) [1, 2, 3] rfl) rfl rfl rfl rfl hl.1 (Nat.le_of_ble_eq_true rfl) ⟨Nat.le_refl 0, Nat.le_refl 0⟩ dX3_bestPower_26 ?_
  refine lv_istore (lv' := [(4, .int r4), (3, .int r3), (2, .int r2), (0, .ref qa), (1, .int p1)]) hx hb dX3_bestPower_29 hl (by decide) rfl (fun ls hl => ?_)
  refine lv_iconst (v := 0) hx hb dX3_bestPower_31 (by decide) ?_
  refine lv_istore (lv' := [(5, .int 0), (4, .int r4), (3, .int r3), (2, .int r2), (0, .ref qa), (1, .int p1)]) hx hb dX3_bestPower_32 hl (by decide) rfl (fun ls hl => ?_)
  refine lv_iload_n hx hb dX3_bestPower_34 rfl (lv_at hl 2 rfl) ?_
  refine lv_iload_n hx hb dX3_bestPower_35 rfl (lv_at hl 3 rfl) ?_
  refine lv_iand hx hb dX3_bestPower_36 ?_
  obtain ⟨r5, hr5, h⟩ := bd_t h
  refine rdS (As := [.int (r3 &&& r2)]) (rest := []) S hK (c_J6_bitCount_0f7a4 l G (r3 &&& r2) r5 hr5) mJ6_bitCount_0f7a4 q419 ⟨rfl, rfl, Nat.le_of_ble_eq_true rfl, Nat.le_of_ble_eq_true rfl⟩ (ws_nil G.1 _) rfl hl.1 (Nat.le_of_ble_eq_true rfl) ⟨Nat.le_refl 0, Nat.le_refl 0⟩ dX3_bestPower_37 ?_
  refine lv_istore (lv' := [(6, .int r5), (5, .int 0), (4, .int r4), (3, .int r3), (2, .int r2), (0, .ref qa), (1, .int p1)]) hx hb dX3_bestPower_40 hl (by decide) rfl (fun ls hl => ?_)
  refine lv_iconst (v := 1) hx hb dX3_bestPower_42 (by decide) ?_
  refine lv_istore (lv' := [(7, .int 1), (6, .int r5), (5, .int 0), (4, .int r4), (3, .int r3), (2, .int r2), (0, .ref qa), (1, .int p1)]) hx hb dX3_bestPower_43 hl (by decide) rfl (fun ls hl => ?_)
  exact L45 10000 p1 r2 r3 r4 0 r5 1  h ls (lv_sub hl [6, 7, 5, 4, 3, 2, 1, 0] rfl)
set_option maxHeartbeats 4000000 in
set_option maxRecDepth 100000 in
theorem c_X3_mostLight (l : Launch) (G : gG) (qa qw qt qu qh qd qb : Nat) (sold : Int32) (stk : Int32) (pun : Int32) (fra : Int32) (tur : Int32) (ft : Nat → Int32) (fu : Nat → Int32) (fh : Nat → Int32) (fd : Nat → Int32) (fb : Nat → Int32) (p1 : Int32) (res : Int32) (h : F_X3_mostLight sold stk ft fh p1 = some res) : RdM l G yX3_mostLight cX3_mostLight 3 .int (rmk 4 97) [(qa, .inr (3, [.ref qw, .ref qh, .ref qd, .ref qb, .int sold, .int stk, .int pun, .int fra, .int tur])), (qw, .inr (1, [.ref qt, .ref qu])), (qt, .inl (G.2.2.1, 24, .inl ft)), (qu, .inl (G.2.2.1, 24, .inl fu)), (qh, .inl (G.2.2.1, 12, .inl fh)), (qd, .inl (G.2.2.1, 12, .inl fd)), (qb, .inl (G.2.2.1, 12, .inl fb))] [.ref qa, .int p1] res := by
  refine ofR (by decide) (Nat.le_of_ble_eq_true rfl) ?_
  intro p e s m below meth c ls S hr hlk hK hP hl
  have S : CallFix p m c cX3_mostLight 3 s ([.ref qa, .int p1] : List Value).toArray T0 RX3 := S
  obtain ⟨hx, hb, hml, hown, hts⟩ := id S
  have hl : lv_has ls 3 [(0, .ref qa), (1, .int p1)] := hl
  rw [F_X3_mostLight] at h
  refine lv_aload_n hx hb dX3_mostLight_0 rfl (lv_at hl 0 rfl) ?_
  refine lv_aload_n hx hb dX3_mostLight_1 rfl (lv_at hl 0 rfl) ?_
  refine gf S hK iX3 hP 0 rfl rfl 5 (by decide) q55 rfl dX3_mostLight_2 ?_
  refine lv_iload_n hx hb dX3_mostLight_5 rfl (lv_at hl 1 rfl) ?_
  obtain ⟨r1, hr1, h⟩ := bd_t h
  refine rdN (As := [.int p1]) (rest := [.int stk, .ref qa]) S hK (c_X4_only l G p1 r1 hr1) mX4_only 8 rfl ⟨rfl, rfl, Nat.le_of_ble_eq_true rfl, Nat.le_of_ble_eq_true rfl⟩ (ws_nil G.1 _) rfl hl.1 (Nat.le_of_ble_eq_true rfl) ⟨Nat.le_refl 0, Nat.le_refl 0⟩ dX3_mostLight_6 ?_
  refine lv_iconst (v := (-1)) hx hb dX3_mostLight_9 (by decide) ?_
  refine lv_ixor hx hb dX3_mostLight_10 ?_
  refine lv_iand hx hb dX3_mostLight_11 ?_
  obtain ⟨r2, hr2, h⟩ := bd_t h
  refine rdV (As := [.int (stk &&& (r1 ^^^ (-1)))]) (rest := []) S hK (c_X3_commonHoles l G qa qw qt qu qh qd qb sold stk pun fra tur ft fu fh fd fb (stk &&& (r1 ^^^ (-1))) r2 hr2) mX3_commonHoles q394 ⟨rfl, rfl, Nat.le_of_ble_eq_true rfl, Nat.le_of_ble_eq_true rfl⟩ hP rfl rfl rfl rfl hl.1 (Nat.le_of_ble_eq_true rfl) ⟨Nat.le_refl 0, Nat.le_refl 0⟩ dX3_mostLight_12 ?_
  refine lv_istore_n (lv' := [(2, .int r2), (0, .ref qa), (1, .int p1)]) hx hb dX3_mostLight_15 rfl hl (by decide) rfl (fun ls hl => ?_)
  refine lv_aload_n hx hb dX3_mostLight_16 rfl (lv_at hl 1 rfl) ?_
  refine gf S hK iX3 hP 0 rfl rfl 0 (by decide) q49 rfl dX3_mostLight_17 ?_
  refine lv_aload_n hx hb dX3_mostLight_20 rfl (lv_at hl 1 rfl) ?_
  refine lv_iload_n hx hb dX3_mostLight_21 rfl (lv_at hl 2 rfl) ?_
  obtain ⟨r3, hr3, h⟩ := bd_t h
  refine rdV (As := [.int p1]) (rest := [.ref qw]) S hK (c_X3_holes l G qa qw qt qu qh qd qb sold stk pun fra tur ft fu fh fd fb p1 r3 hr3) mX3_holes q354 ⟨rfl, rfl, Nat.le_of_ble_eq_true rfl, Nat.le_of_ble_eq_true rfl⟩ hP rfl rfl rfl rfl hl.1 (Nat.le_of_ble_eq_true rfl) ⟨Nat.le_refl 0, Nat.le_refl 0⟩ dX3_mostLight_22 ?_
  refine lv_aload_n hx hb dX3_mostLight_25 rfl (lv_at hl 1 rfl) ?_
  refine lv_iload_n hx hb dX3_mostLight_26 rfl (lv_at hl 2 rfl) ?_
  obtain ⟨r4, hr4, h⟩ := bd_t h
  refine rdV (As := [.int p1]) (rest := [.int r3, .ref qw]) S hK (c_X3_bestPower l G qa qw qt qu qh qd qb sold stk pun fra tur ft fu fh fd fb p1 r4 hr4) mX3_bestPower q610 ⟨rfl, rfl, Nat.le_of_ble_eq_true rfl, Nat.le_of_ble_eq_true rfl⟩ hP rfl rfl rfl rfl hl.1 (Nat.le_of_ble_eq_true rfl) ⟨Nat.le_refl 0, Nat.le_refl 0⟩ dX3_mostLight_27 ?_
  obtain ⟨r5, hr5, h⟩ := bd_t h
  refine rdV (As := [.int r3, .int r4]) (rest := []) S hK (c_X1_movedBy l G qw qt qu ft fu r3 r4 r5 hr5) mX1_movedBy q295 ⟨rfl, rfl, Nat.le_of_ble_eq_true rfl, Nat.le_of_ble_eq_true rfl⟩ (hP.sub (ws' := [(qw, .inr (1, [.ref qt, .ref qu])), (qt, .inl (G.2.2.1, 24, .inl ft)), (qu, .inl (G.2.2.1, 24, .inl fu))]) [1, 2, 3] rfl) rfl rfl rfl rfl hl.1 (Nat.le_of_ble_eq_true rfl) ⟨Nat.le_refl 0, Nat.le_refl 0⟩ dX3_mostLight_30 ?_
  refine lv_iload_n hx hb dX3_mostLight_33 rfl (lv_at hl 0 rfl) ?_
  refine lv_iand hx hb dX3_mostLight_34 ?_
  obtain ⟨r6, hr6, h⟩ := bd_t h
  refine rdS (As := [.int (r5 &&& r2)]) (rest := []) S hK (c_J6_bitCount_0f7a4 l G (r5 &&& r2) r6 hr6) mJ6_bitCount_0f7a4 q419 ⟨rfl, rfl, Nat.le_of_ble_eq_true rfl, Nat.le_of_ble_eq_true rfl⟩ (ws_nil G.1 _) rfl hl.1 (Nat.le_of_ble_eq_true rfl) ⟨Nat.le_refl 0, Nat.le_refl 0⟩ dX3_mostLight_35 ?_
  obtain rfl := Option.some.inj h
  exact retR S hr hlk rfl rfl dX3_mostLight_38
set_option maxHeartbeats 4000000 in
set_option maxRecDepth 100000 in
theorem c_X3_copy (l : Launch) (G : gG) (qa qw qt qu qh qd qb sqa sqw sqt squ sqh sqd sqb : Nat) (sold : Int32) (stk : Int32) (pun : Int32) (fra : Int32) (tur : Int32) (ft : Nat → Int32) (fu : Nat → Int32) (fh : Nat → Int32) (fd : Nat → Int32) (fb : Nat → Int32) (ssold : Int32) (sstk : Int32) (spun : Int32) (sfra : Int32) (stur : Int32) (sft : Nat → Int32) (sfu : Nat → Int32) (sfh : Nat → Int32) (sfd : Nat → Int32) (sfb : Nat → Int32) (sz : Nat) (res : Int32 × Int32 × Int32 × Int32 × Int32 × (Nat → Int32) × (Nat → Int32) × (Nat → Int32) × (Nat → Int32) × (Nat → Int32)) (h : F_X3_copy sold stk pun fra tur ft fu fh fd fb ssold sstk spun sfra stur sft sfu sfh sfd sfb = some res) : WrM l G yX3_copy cX3_copy 2 none (rmk 2 61) [(qa, .inr (3, [.ref qw, .ref qh, .ref qd, .ref qb, .int sold, .int stk, .int pun, .int fra, .int tur])), (qw, .inr (1, [.ref qt, .ref qu])), (qt, .inl (G.2.2.1, 24, .inl ft)), (qu, .inl (G.2.2.1, 24, .inl fu)), (qh, .inl (G.2.2.1, 12, .inl fh)), (qd, .inl (G.2.2.1, 12, .inl fd)), (qb, .inl (G.2.2.1, 12, .inl fb)), (sqa, .inr (3, [.ref sqw, .ref sqh, .ref sqd, .ref sqb, .int ssold, .int sstk, .int spun, .int sfra, .int stur])), (sqw, .inr (1, [.ref sqt, .ref squ])), (sqt, .inl (G.2.2.1, 24, .inl sft)), (squ, .inl (G.2.2.1, 24, .inl sfu)), (sqh, .inl (G.2.2.1, 12, .inl sfh)), (sqd, .inl (G.2.2.1, 12, .inl sfd)), (sqb, .inl (G.2.2.1, 12, .inl sfb))] sz [.ref qa, .ref sqa] none [(qa, .inr (3, [.ref qw, .ref qh, .ref qd, .ref qb, .int res.1, .int res.2.1, .int res.2.2.1, .int res.2.2.2.1, .int res.2.2.2.2.1])), (qw, .inr (1, [.ref qt, .ref qu])), (qt, .inl (G.2.2.1, 24, .inl res.2.2.2.2.2.1)), (qu, .inl (G.2.2.1, 24, .inl res.2.2.2.2.2.2.1)), (qh, .inl (G.2.2.1, 12, .inl res.2.2.2.2.2.2.2.1)), (qd, .inl (G.2.2.1, 12, .inl res.2.2.2.2.2.2.2.2.1)), (qb, .inl (G.2.2.1, 12, .inl res.2.2.2.2.2.2.2.2.2)), (sqa, .inr (3, [.ref sqw, .ref sqh, .ref sqd, .ref sqb, .int ssold, .int sstk, .int spun, .int sfra, .int stur])), (sqw, .inr (1, [.ref sqt, .ref squ])), (sqt, .inl (G.2.2.1, 24, .inl sft)), (squ, .inl (G.2.2.1, 24, .inl sfu)), (sqh, .inl (G.2.2.1, 12, .inl sfh)), (sqd, .inl (G.2.2.1, 12, .inl sfd)), (sqb, .inl (G.2.2.1, 12, .inl sfb))] := by
  refine ofWr (by decide) (Nat.le_of_ble_eq_true rfl) ?_
  intro p e s m below meth c ls A S hr hlk hK hP hD hS hA hl
  have S : CallFix p m c cX3_copy 2 s ([.ref qa, .ref sqa] : List Value).toArray T0 RX3 := S
  obtain ⟨hx, hb, hml, hown, hts⟩ := id S
  have hl : lv_has ls 2 [(0, .ref qa), (1, .ref sqa)] := hl
  rw [F_X3_copy] at h
  refine lv_aload_n hx hb dX3_copy_0 rfl (lv_at hl 0 rfl) ?_
  refine gf S hK iX3 hP 0 rfl rfl 0 (by decide) q49 rfl dX3_copy_1 ?_
  refine lv_aload_n hx hb dX3_copy_4 rfl (lv_at hl 1 rfl) ?_
  refine gf S hK iX3 hP 7 rfl rfl 0 (by decide) q49 rfl dX3_copy_5 ?_
  obtain ⟨r1, hr1, h⟩ := bd_t h
  refine wrV (As := [.ref sqw]) (rest := []) (ws := [(qw, .inr (1, [.ref qt, .ref qu])), (qt, .inl (G.2.2.1, 24, .inl ft)), (qu, .inl (G.2.2.1, 24, .inl fu)), (sqw, .inr (1, [.ref sqt, .ref squ])), (sqt, .inl (G.2.2.1, 24, .inl sft)), (squ, .inl (G.2.2.1, 24, .inl sfu))]) (wr := [(qa, .inr (3, [.ref qw, .ref qh, .ref qd, .ref qb, .int sold, .int stk, .int pun, .int fra, .int tur])), (qh, .inl (G.2.2.1, 12, .inl fh)), (qd, .inl (G.2.2.1, 12, .inl fd)), (qb, .inl (G.2.2.1, 12, .inl fb)), (sqa, .inr (3, [.ref sqw, .ref sqh, .ref sqd, .ref sqb, .int ssold, .int sstk, .int spun, .int sfra, .int stur])), (sqh, .inl (G.2.2.1, 12, .inl sfh)), (sqd, .inl (G.2.2.1, 12, .inl sfd)), (sqb, .inl (G.2.2.1, 12, .inl sfb))]) (ws' := [(qw, .inr (1, [.ref qt, .ref qu])), (qt, .inl (G.2.2.1, 24, .inl r1.1)), (qu, .inl (G.2.2.1, 24, .inl r1.2)), (sqw, .inr (1, [.ref sqt, .ref squ])), (sqt, .inl (G.2.2.1, 24, .inl sft)), (squ, .inl (G.2.2.1, 24, .inl sfu))]) (ws1 := [(qa, .inr (3, [.ref qw, .ref qh, .ref qd, .ref qb, .int sold, .int stk, .int pun, .int fra, .int tur])), (qw, .inr (1, [.ref qt, .ref qu])), (qt, .inl (G.2.2.1, 24, .inl r1.1)), (qu, .inl (G.2.2.1, 24, .inl r1.2)), (qh, .inl (G.2.2.1, 12, .inl fh)), (qd, .inl (G.2.2.1, 12, .inl fd)), (qb, .inl (G.2.2.1, 12, .inl fb)), (sqa, .inr (3, [.ref sqw, .ref sqh, .ref sqd, .ref sqb, .int ssold, .int sstk, .int spun, .int sfra, .int stur])), (sqw, .inr (1, [.ref sqt, .ref squ])), (sqt, .inl (G.2.2.1, 24, .inl sft)), (squ, .inl (G.2.2.1, 24, .inl sfu)), (sqh, .inl (G.2.2.1, 12, .inl sfh)), (sqd, .inl (G.2.2.1, 12, .inl sfd)), (sqb, .inl (G.2.2.1, 12, .inl sfb))]) S hK (c_X1_copy l G qw qt qu sqw sqt squ ft fu sft sfu _ r1 hr1) mX1_copy q223 ⟨rfl, rfl, Nat.le_of_ble_eq_true rfl, Nat.le_of_ble_eq_true rfl⟩ hP hD hS hA [1, 2, 3, 8, 9, 10] [0, 4, 5, 6, 7, 11, 12, 13] [0, 8, 9, 10, 1, 2, 3, 4, 11, 12, 13, 5, 6, 7] rfl rfl (by decide) (by decide) (by decide) rfl (by decide) rfl rfl rfl rfl hl.1 (Nat.le_of_ble_eq_true rfl) ⟨Nat.le_refl 0, Nat.le_refl 0⟩ dX3_copy_8 (fun H locs hP hD hS => ?_)
  refine lv_aload_n hx hb dX3_copy_11 rfl (lv_at hl 1 rfl) ?_
  refine gf S hK iX3 hP 7 rfl rfl 1 (by decide) q51 rfl dX3_copy_12 ?_
  refine lv_iconst (v := 0) hx hb dX3_copy_15 (by decide) ?_
  refine lv_aload_n hx hb dX3_copy_16 rfl (lv_at hl 0 rfl) ?_
  refine gf S hK iX3 hP 0 rfl rfl 1 (by decide) q51 rfl dX3_copy_17 ?_
  refine lv_iconst (v := 0) hx hb dX3_copy_20 (by decide) ?_
  refine lv_bipush (v := 12) hx hb dX3_copy_21 (by decide) ?_
  refine va_copyi hx hb (hml.trans hl.1.symm) hown (hts _ q230) (hts _ q229) (hts _ q228) (hts _ q18) hK.1 hP hD hS 11 4 1 1 rfl rfl rfl rfl rfl (by decide) (by decide) (by decide) (by decide) (by decide) (fun _ _ => rfl) (Nat.le_of_ble_eq_true rfl) (by decide) dX3_copy_23 (fun H locs hP hD hS => ?_)
  have hP : va_P G.1 vwCl [(qa, .inr (3, [.ref qw, .ref qh, .ref qd, .ref qb, .int sold, .int stk, .int pun, .int fra, .int tur])), (qw, .inr (1, [.ref qt, .ref qu])), (qt, .inl (G.2.2.1, 24, .inl r1.1)), (qu, .inl (G.2.2.1, 24, .inl r1.2)), (qh, .inl (G.2.2.1, 12, .inl (va_cpy sfh fh (Int32.toNatClampNeg 0) (Int32.toNatClampNeg 0) (Int32.toNatClampNeg 12)))), (qd, .inl (G.2.2.1, 12, .inl fd)), (qb, .inl (G.2.2.1, 12, .inl fb)), (sqa, .inr (3, [.ref sqw, .ref sqh, .ref sqd, .ref sqb, .int ssold, .int sstk, .int spun, .int sfra, .int stur])), (sqw, .inr (1, [.ref sqt, .ref squ])), (sqt, .inl (G.2.2.1, 24, .inl sft)), (squ, .inl (G.2.2.1, 24, .inl sfu)), (sqh, .inl (G.2.2.1, 12, .inl sfh)), (sqd, .inl (G.2.2.1, 12, .inl sfd)), (sqb, .inl (G.2.2.1, 12, .inl sfb))] H := hP
  have hD : va_D A [(qa, .inr (3, [.ref qw, .ref qh, .ref qd, .ref qb, .int sold, .int stk, .int pun, .int fra, .int tur])), (qw, .inr (1, [.ref qt, .ref qu])), (qt, .inl (G.2.2.1, 24, .inl r1.1)), (qu, .inl (G.2.2.1, 24, .inl r1.2)), (qh, .inl (G.2.2.1, 12, .inl (va_cpy sfh fh (Int32.toNatClampNeg 0) (Int32.toNatClampNeg 0) (Int32.toNatClampNeg 12)))), (qd, .inl (G.2.2.1, 12, .inl fd)), (qb, .inl (G.2.2.1, 12, .inl fb)), (sqa, .inr (3, [.ref sqw, .ref sqh, .ref sqd, .ref sqb, .int ssold, .int sstk, .int spun, .int sfra, .int stur])), (sqw, .inr (1, [.ref sqt, .ref squ])), (sqt, .inl (G.2.2.1, 24, .inl sft)), (squ, .inl (G.2.2.1, 24, .inl sfu)), (sqh, .inl (G.2.2.1, 12, .inl sfh)), (sqd, .inl (G.2.2.1, 12, .inl sfd)), (sqb, .inl (G.2.2.1, 12, .inl sfb))] := hD
  refine lv_aload_n hx hb dX3_copy_26 rfl (lv_at hl 1 rfl) ?_
  refine gf S hK iX3 hP 7 rfl rfl 2 (by decide) q52 rfl dX3_copy_27 ?_
  refine lv_iconst (v := 0) hx hb dX3_copy_30 (by decide) ?_
  refine lv_aload_n hx hb dX3_copy_31 rfl (lv_at hl 0 rfl) ?_
  refine gf S hK iX3 hP 0 rfl rfl 2 (by decide) q52 rfl dX3_copy_32 ?_
  refine lv_iconst (v := 0) hx hb dX3_copy_35 (by decide) ?_
  refine lv_bipush (v := 12) hx hb dX3_copy_36 (by decide) ?_
  refine va_copyi hx hb (hml.trans hl.1.symm) hown (hts _ q230) (hts _ q229) (hts _ q228) (hts _ q18) hK.1 hP hD hS 12 5 1 1 rfl rfl rfl rfl rfl (by decide) (by decide) (by decide) (by decide) (by decide) (fun _ _ => rfl) (Nat.le_of_ble_eq_true rfl) (by decide) dX3_copy_38 (fun H locs hP hD hS => ?_)
  have hP : va_P G.1 vwCl [(qa, .inr (3, [.ref qw, .ref qh, .ref qd, .ref qb, .int sold, .int stk, .int pun, .int fra, .int tur])), (qw, .inr (1, [.ref qt, .ref qu])), (qt, .inl (G.2.2.1, 24, .inl r1.1)), (qu, .inl (G.2.2.1, 24, .inl r1.2)), (qh, .inl (G.2.2.1, 12, .inl (va_cpy sfh fh (Int32.toNatClampNeg 0) (Int32.toNatClampNeg 0) (Int32.toNatClampNeg 12)))), (qd, .inl (G.2.2.1, 12, .inl (va_cpy sfd fd (Int32.toNatClampNeg 0) (Int32.toNatClampNeg 0) (Int32.toNatClampNeg 12)))), (qb, .inl (G.2.2.1, 12, .inl fb)), (sqa, .inr (3, [.ref sqw, .ref sqh, .ref sqd, .ref sqb, .int ssold, .int sstk, .int spun, .int sfra, .int stur])), (sqw, .inr (1, [.ref sqt, .ref squ])), (sqt, .inl (G.2.2.1, 24, .inl sft)), (squ, .inl (G.2.2.1, 24, .inl sfu)), (sqh, .inl (G.2.2.1, 12, .inl sfh)), (sqd, .inl (G.2.2.1, 12, .inl sfd)), (sqb, .inl (G.2.2.1, 12, .inl sfb))] H := hP
  have hD : va_D A [(qa, .inr (3, [.ref qw, .ref qh, .ref qd, .ref qb, .int sold, .int stk, .int pun, .int fra, .int tur])), (qw, .inr (1, [.ref qt, .ref qu])), (qt, .inl (G.2.2.1, 24, .inl r1.1)), (qu, .inl (G.2.2.1, 24, .inl r1.2)), (qh, .inl (G.2.2.1, 12, .inl (va_cpy sfh fh (Int32.toNatClampNeg 0) (Int32.toNatClampNeg 0) (Int32.toNatClampNeg 12)))), (qd, .inl (G.2.2.1, 12, .inl (va_cpy sfd fd (Int32.toNatClampNeg 0) (Int32.toNatClampNeg 0) (Int32.toNatClampNeg 12)))), (qb, .inl (G.2.2.1, 12, .inl fb)), (sqa, .inr (3, [.ref sqw, .ref sqh, .ref sqd, .ref sqb, .int ssold, .int sstk, .int spun, .int sfra, .int stur])), (sqw, .inr (1, [.ref sqt, .ref squ])), (sqt, .inl (G.2.2.1, 24, .inl sft)), (squ, .inl (G.2.2.1, 24, .inl sfu)), (sqh, .inl (G.2.2.1, 12, .inl sfh)), (sqd, .inl (G.2.2.1, 12, .inl sfd)), (sqb, .inl (G.2.2.1, 12, .inl sfb))] := hD
  refine lv_aload_n hx hb dX3_copy_41 rfl (lv_at hl 1 rfl) ?_
  refine gf S hK iX3 hP 7 rfl rfl 3 (by decide) q53 rfl dX3_copy_42 ?_
  refine lv_iconst (v := 0) hx hb dX3_copy_45 (by decide) ?_
  refine lv_aload_n hx hb dX3_copy_46 rfl (lv_at hl 0 rfl) ?_
  refine gf S hK iX3 hP 0 rfl rfl 3 (by decide) q53 rfl dX3_copy_47 ?_
  refine lv_iconst (v := 0) hx hb dX3_copy_50 (by decide) ?_
  refine lv_bipush (v := 12) hx hb dX3_copy_51 (by decide) ?_
  refine va_copyi hx hb (hml.trans hl.1.symm) hown (hts _ q230) (hts _ q229) (hts _ q228) (hts _ q18) hK.1 hP hD hS 13 6 1 1 rfl rfl rfl rfl rfl (by decide) (by decide) (by decide) (by decide) (by decide) (fun _ _ => rfl) (Nat.le_of_ble_eq_true rfl) (by decide) dX3_copy_53 (fun H locs hP hD hS => ?_)
  have hP : va_P G.1 vwCl [(qa, .inr (3, [.ref qw, .ref qh, .ref qd, .ref qb, .int sold, .int stk, .int pun, .int fra, .int tur])), (qw, .inr (1, [.ref qt, .ref qu])), (qt, .inl (G.2.2.1, 24, .inl r1.1)), (qu, .inl (G.2.2.1, 24, .inl r1.2)), (qh, .inl (G.2.2.1, 12, .inl (va_cpy sfh fh (Int32.toNatClampNeg 0) (Int32.toNatClampNeg 0) (Int32.toNatClampNeg 12)))), (qd, .inl (G.2.2.1, 12, .inl (va_cpy sfd fd (Int32.toNatClampNeg 0) (Int32.toNatClampNeg 0) (Int32.toNatClampNeg 12)))), (qb, .inl (G.2.2.1, 12, .inl (va_cpy sfb fb (Int32.toNatClampNeg 0) (Int32.toNatClampNeg 0) (Int32.toNatClampNeg 12)))), (sqa, .inr (3, [.ref sqw, .ref sqh, .ref sqd, .ref sqb, .int ssold, .int sstk, .int spun, .int sfra, .int stur])), (sqw, .inr (1, [.ref sqt, .ref squ])), (sqt, .inl (G.2.2.1, 24, .inl sft)), (squ, .inl (G.2.2.1, 24, .inl sfu)), (sqh, .inl (G.2.2.1, 12, .inl sfh)), (sqd, .inl (G.2.2.1, 12, .inl sfd)), (sqb, .inl (G.2.2.1, 12, .inl sfb))] H := hP
  have hD : va_D A [(qa, .inr (3, [.ref qw, .ref qh, .ref qd, .ref qb, .int sold, .int stk, .int pun, .int fra, .int tur])), (qw, .inr (1, [.ref qt, .ref qu])), (qt, .inl (G.2.2.1, 24, .inl r1.1)), (qu, .inl (G.2.2.1, 24, .inl r1.2)), (qh, .inl (G.2.2.1, 12, .inl (va_cpy sfh fh (Int32.toNatClampNeg 0) (Int32.toNatClampNeg 0) (Int32.toNatClampNeg 12)))), (qd, .inl (G.2.2.1, 12, .inl (va_cpy sfd fd (Int32.toNatClampNeg 0) (Int32.toNatClampNeg 0) (Int32.toNatClampNeg 12)))), (qb, .inl (G.2.2.1, 12, .inl (va_cpy sfb fb (Int32.toNatClampNeg 0) (Int32.toNatClampNeg 0) (Int32.toNatClampNeg 12)))), (sqa, .inr (3, [.ref sqw, .ref sqh, .ref sqd, .ref sqb, .int ssold, .int sstk, .int spun, .int sfra, .int stur])), (sqw, .inr (1, [.ref sqt, .ref squ])), (sqt, .inl (G.2.2.1, 24, .inl sft)), (squ, .inl (G.2.2.1, 24, .inl sfu)), (sqh, .inl (G.2.2.1, 12, .inl sfh)), (sqd, .inl (G.2.2.1, 12, .inl sfd)), (sqb, .inl (G.2.2.1, 12, .inl sfb))] := hD
  refine lv_aload_n hx hb dX3_copy_56 rfl (lv_at hl 0 rfl) ?_
  refine lv_aload_n hx hb dX3_copy_57 rfl (lv_at hl 1 rfl) ?_
  refine gf S hK iX3 hP 7 rfl rfl 4 (by decide) q54 rfl dX3_copy_58 ?_
  refine pf S hK iX3 tyX3 tyX3_ok nmX3 hP hD hS 0 rfl rfl 4 (by decide) q54 rfl rfl rfl (Nat.le_of_ble_eq_true rfl) [(qa, .inr (3, [.ref qw, .ref qh, .ref qd, .ref qb, .int ssold, .int stk, .int pun, .int fra, .int tur])), (qw, .inr (1, [.ref qt, .ref qu])), (qt, .inl (G.2.2.1, 24, .inl r1.1)), (qu, .inl (G.2.2.1, 24, .inl r1.2)), (qh, .inl (G.2.2.1, 12, .inl (va_cpy sfh fh (Int32.toNatClampNeg 0) (Int32.toNatClampNeg 0) (Int32.toNatClampNeg 12)))), (qd, .inl (G.2.2.1, 12, .inl (va_cpy sfd fd (Int32.toNatClampNeg 0) (Int32.toNatClampNeg 0) (Int32.toNatClampNeg 12)))), (qb, .inl (G.2.2.1, 12, .inl (va_cpy sfb fb (Int32.toNatClampNeg 0) (Int32.toNatClampNeg 0) (Int32.toNatClampNeg 12)))), (sqa, .inr (3, [.ref sqw, .ref sqh, .ref sqd, .ref sqb, .int ssold, .int sstk, .int spun, .int sfra, .int stur])), (sqw, .inr (1, [.ref sqt, .ref squ])), (sqt, .inl (G.2.2.1, 24, .inl sft)), (squ, .inl (G.2.2.1, 24, .inl sfu)), (sqh, .inl (G.2.2.1, 12, .inl sfh)), (sqd, .inl (G.2.2.1, 12, .inl sfd)), (sqb, .inl (G.2.2.1, 12, .inl sfb))] rfl dX3_copy_61 (fun H locs hP hD hS => ?_)
  refine lv_aload_n hx hb dX3_copy_64 rfl (lv_at hl 0 rfl) ?_
  refine lv_aload_n hx hb dX3_copy_65 rfl (lv_at hl 1 rfl) ?_
  refine gf S hK iX3 hP 7 rfl rfl 5 (by decide) q55 rfl dX3_copy_66 ?_
  refine pf S hK iX3 tyX3 tyX3_ok nmX3 hP hD hS 0 rfl rfl 5 (by decide) q55 rfl rfl rfl (Nat.le_of_ble_eq_true rfl) [(qa, .inr (3, [.ref qw, .ref qh, .ref qd, .ref qb, .int ssold, .int sstk, .int pun, .int fra, .int tur])), (qw, .inr (1, [.ref qt, .ref qu])), (qt, .inl (G.2.2.1, 24, .inl r1.1)), (qu, .inl (G.2.2.1, 24, .inl r1.2)), (qh, .inl (G.2.2.1, 12, .inl (va_cpy sfh fh (Int32.toNatClampNeg 0) (Int32.toNatClampNeg 0) (Int32.toNatClampNeg 12)))), (qd, .inl (G.2.2.1, 12, .inl (va_cpy sfd fd (Int32.toNatClampNeg 0) (Int32.toNatClampNeg 0) (Int32.toNatClampNeg 12)))), (qb, .inl (G.2.2.1, 12, .inl (va_cpy sfb fb (Int32.toNatClampNeg 0) (Int32.toNatClampNeg 0) (Int32.toNatClampNeg 12)))), (sqa, .inr (3, [.ref sqw, .ref sqh, .ref sqd, .ref sqb, .int ssold, .int sstk, .int spun, .int sfra, .int stur])), (sqw, .inr (1, [.ref sqt, .ref squ])), (sqt, .inl (G.2.2.1, 24, .inl sft)), (squ, .inl (G.2.2.1, 24, .inl sfu)), (sqh, .inl (G.2.2.1, 12, .inl sfh)), (sqd, .inl (G.2.2.1, 12, .inl sfd)), (sqb, .inl (G.2.2.1, 12, .inl sfb))] rfl dX3_copy_69 (fun H locs hP hD hS => ?_)
  refine lv_aload_n hx hb dX3_copy_72 rfl (lv_at hl 0 rfl) ?_
  refine lv_aload_n hx hb dX3_copy_73 rfl (lv_at hl 1 rfl) ?_
  refine gf S hK iX3 hP 7 rfl rfl 6 (by decide) q56 rfl dX3_copy_74 ?_
  refine pf S hK iX3 tyX3 tyX3_ok nmX3 hP hD hS 0 rfl rfl 6 (by decide) q56 rfl rfl rfl (Nat.le_of_ble_eq_true rfl) [(qa, .inr (3, [.ref qw, .ref qh, .ref qd, .ref qb, .int ssold, .int sstk, .int spun, .int fra, .int tur])), (qw, .inr (1, [.ref qt, .ref qu])), (qt, .inl (G.2.2.1, 24, .inl r1.1)), (qu, .inl (G.2.2.1, 24, .inl r1.2)), (qh, .inl (G.2.2.1, 12, .inl (va_cpy sfh fh (Int32.toNatClampNeg 0) (Int32.toNatClampNeg 0) (Int32.toNatClampNeg 12)))), (qd, .inl (G.2.2.1, 12, .inl (va_cpy sfd fd (Int32.toNatClampNeg 0) (Int32.toNatClampNeg 0) (Int32.toNatClampNeg 12)))), (qb, .inl (G.2.2.1, 12, .inl (va_cpy sfb fb (Int32.toNatClampNeg 0) (Int32.toNatClampNeg 0) (Int32.toNatClampNeg 12)))), (sqa, .inr (3, [.ref sqw, .ref sqh, .ref sqd, .ref sqb, .int ssold, .int sstk, .int spun, .int sfra, .int stur])), (sqw, .inr (1, [.ref sqt, .ref squ])), (sqt, .inl (G.2.2.1, 24, .inl sft)), (squ, .inl (G.2.2.1, 24, .inl sfu)), (sqh, .inl (G.2.2.1, 12, .inl sfh)), (sqd, .inl (G.2.2.1, 12, .inl sfd)), (sqb, .inl (G.2.2.1, 12, .inl sfb))] rfl dX3_copy_77 (fun H locs hP hD hS => ?_)
  refine lv_aload_n hx hb dX3_copy_80 rfl (lv_at hl 0 rfl) ?_
  refine lv_aload_n hx hb dX3_copy_81 rfl (lv_at hl 1 rfl) ?_
  refine gf S hK iX3 hP 7 rfl rfl 7 (by decide) q57 rfl dX3_copy_82 ?_
  refine pf S hK iX3 tyX3 tyX3_ok nmX3 hP hD hS 0 rfl rfl 7 (by decide) q57 rfl rfl rfl (Nat.le_of_ble_eq_true rfl) [(qa, .inr (3, [.ref qw, .ref qh, .ref qd, .ref qb, .int ssold, .int sstk, .int spun, .int sfra, .int tur])), (qw, .inr (1, [.ref qt, .ref qu])), (qt, .inl (G.2.2.1, 24, .inl r1.1)), (qu, .inl (G.2.2.1, 24, .inl r1.2)), (qh, .inl (G.2.2.1, 12, .inl (va_cpy sfh fh (Int32.toNatClampNeg 0) (Int32.toNatClampNeg 0) (Int32.toNatClampNeg 12)))), (qd, .inl (G.2.2.1, 12, .inl (va_cpy sfd fd (Int32.toNatClampNeg 0) (Int32.toNatClampNeg 0) (Int32.toNatClampNeg 12)))), (qb, .inl (G.2.2.1, 12, .inl (va_cpy sfb fb (Int32.toNatClampNeg 0) (Int32.toNatClampNeg 0) (Int32.toNatClampNeg 12)))), (sqa, .inr (3, [.ref sqw, .ref sqh, .ref sqd, .ref sqb, .int ssold, .int sstk, .int spun, .int sfra, .int stur])), (sqw, .inr (1, [.ref sqt, .ref squ])), (sqt, .inl (G.2.2.1, 24, .inl sft)), (squ, .inl (G.2.2.1, 24, .inl sfu)), (sqh, .inl (G.2.2.1, 12, .inl sfh)), (sqd, .inl (G.2.2.1, 12, .inl sfd)), (sqb, .inl (G.2.2.1, 12, .inl sfb))] rfl dX3_copy_85 (fun H locs hP hD hS => ?_)
  refine lv_aload_n hx hb dX3_copy_88 rfl (lv_at hl 0 rfl) ?_
  refine lv_aload_n hx hb dX3_copy_89 rfl (lv_at hl 1 rfl) ?_
  refine gf S hK iX3 hP 7 rfl rfl 8 (by decide) q58 rfl dX3_copy_90 ?_
  refine pf S hK iX3 tyX3 tyX3_ok nmX3 hP hD hS 0 rfl rfl 8 (by decide) q58 rfl rfl rfl (Nat.le_of_ble_eq_true rfl) [(qa, .inr (3, [.ref qw, .ref qh, .ref qd, .ref qb, .int ssold, .int sstk, .int spun, .int sfra, .int stur])), (qw, .inr (1, [.ref qt, .ref qu])), (qt, .inl (G.2.2.1, 24, .inl r1.1)), (qu, .inl (G.2.2.1, 24, .inl r1.2)), (qh, .inl (G.2.2.1, 12, .inl (va_cpy sfh fh (Int32.toNatClampNeg 0) (Int32.toNatClampNeg 0) (Int32.toNatClampNeg 12)))), (qd, .inl (G.2.2.1, 12, .inl (va_cpy sfd fd (Int32.toNatClampNeg 0) (Int32.toNatClampNeg 0) (Int32.toNatClampNeg 12)))), (qb, .inl (G.2.2.1, 12, .inl (va_cpy sfb fb (Int32.toNatClampNeg 0) (Int32.toNatClampNeg 0) (Int32.toNatClampNeg 12)))), (sqa, .inr (3, [.ref sqw, .ref sqh, .ref sqd, .ref sqb, .int ssold, .int sstk, .int spun, .int sfra, .int stur])), (sqw, .inr (1, [.ref sqt, .ref squ])), (sqt, .inl (G.2.2.1, 24, .inl sft)), (squ, .inl (G.2.2.1, 24, .inl sfu)), (sqh, .inl (G.2.2.1, 12, .inl sfh)), (sqd, .inl (G.2.2.1, 12, .inl sfd)), (sqb, .inl (G.2.2.1, 12, .inl sfb))] rfl dX3_copy_93 (fun H locs hP hD hS => ?_)
  obtain rfl := Option.some.inj h
  exact retV S hr hlk hP hD hS dX3_copy_96
set_option maxHeartbeats 4000000 in
set_option maxRecDepth 100000 in
theorem c_X3_add (l : Launch) (G : gG) (qa qw qt qu qh qd qb : Nat) (sold : Int32) (stk : Int32) (pun : Int32) (fra : Int32) (tur : Int32) (ft : Nat → Int32) (fu : Nat → Int32) (fh : Nat → Int32) (fd : Nat → Int32) (fb : Nat → Int32) (p1 : Int32) (sz : Nat) (res : Int32 × Int32 × Int32 × (Nat → Int32) × (Nat → Int32) × (Nat → Int32)) (h : F_X3_add sold pun fh fd fb p1 = some res) : WrM l G yX3_add cX3_add 3 (some .int) (rmk 1 20) [(qa, .inr (3, [.ref qw, .ref qh, .ref qd, .ref qb, .int sold, .int stk, .int pun, .int fra, .int tur])), (qw, .inr (1, [.ref qt, .ref qu])), (qt, .inl (G.2.2.1, 24, .inl ft)), (qu, .inl (G.2.2.1, 24, .inl fu)), (qh, .inl (G.2.2.1, 12, .inl fh)), (qd, .inl (G.2.2.1, 12, .inl fd)), (qb, .inl (G.2.2.1, 12, .inl fb))] sz [.ref qa, .int p1] (some res.1) [(qa, .inr (3, [.ref qw, .ref qh, .ref qd, .ref qb, .int res.2.1, .int stk, .int res.2.2.1, .int fra, .int tur])), (qw, .inr (1, [.ref qt, .ref qu])), (qt, .inl (G.2.2.1, 24, .inl ft)), (qu, .inl (G.2.2.1, 24, .inl fu)), (qh, .inl (G.2.2.1, 12, .inl res.2.2.2.1)), (qd, .inl (G.2.2.1, 12, .inl res.2.2.2.2.1)), (qb, .inl (G.2.2.1, 12, .inl res.2.2.2.2.2))] := by
  refine ofWr (by decide) (Nat.le_of_ble_eq_true rfl) ?_
  intro p e s m below meth c ls A S hr hlk hK hP hD hS hA hl
  have S : CallFix p m c cX3_add 3 s ([.ref qa, .int p1] : List Value).toArray T0 RX3 := S
  obtain ⟨hx, hb, hml, hown, hts⟩ := id S
  have hl : lv_has ls 3 [(0, .ref qa), (1, .int p1)] := hl
  rw [F_X3_add] at h
  refine lv_aload_n hx hb dX3_add_0 rfl (lv_at hl 0 rfl) ?_
  refine gf S hK iX3 hP 0 rfl rfl 4 (by decide) q54 rfl dX3_add_1 ?_
  refine lv_if_lt (tgt := 16) hx hb dX3_add_4 (by decide) (fun c1 => ?_) (fun c1 => ?_)
  · replace h := if_t c1 h
    refine lv_bipush (v := (-3)) hx hb dX3_add_16 (by decide) ?_
    obtain rfl := Option.some.inj h
    exact retW S hr hlk rfl rfl hP hD hS dX3_add_18
  · replace h := if_f c1 h
    refine lv_aload_n hx hb dX3_add_7 rfl (lv_at hl 0 rfl) ?_
    refine gf S hK iX3 hP 0 rfl rfl 4 (by decide) q54 rfl dX3_add_8 ?_
    refine lv_bipush (v := 12) hx hb dX3_add_11 (by decide) ?_
    refine lv_icmp_lt (tgt := 19) hx hb dX3_add_13 (by decide) (fun c2 => ?_) (fun c2 => ?_)
    · replace h := if_t c2 h
      refine lv_aload_n hx hb dX3_add_19 rfl (lv_at hl 0 rfl) ?_
      refine gf S hK iX3 hP 0 rfl rfl 4 (by decide) q54 rfl dX3_add_20 ?_
      refine lv_istore_n (lv' := [(2, .int sold), (0, .ref qa), (1, .int p1)]) hx hb dX3_add_23 rfl hl (by decide) rfl (fun ls hl => ?_)
      refine lv_aload_n hx hb dX3_add_24 rfl (lv_at hl 1 rfl) ?_
      refine gf S hK iX3 hP 0 rfl rfl 1 (by decide) q51 rfl dX3_add_25 ?_
      refine lv_iload_n hx hb dX3_add_28 rfl (lv_at hl 0 rfl) ?_
      refine lv_iload_n hx hb dX3_add_29 rfl (lv_at hl 2 rfl) ?_
      obtain ⟨k3, h⟩ := ck_t h
      refine ast S hK hP hD hS 4 rfl (ok_vp k3) [(qa, .inr (3, [.ref qw, .ref qh, .ref qd, .ref qb, .int sold, .int stk, .int pun, .int fra, .int tur])), (qw, .inr (1, [.ref qt, .ref qu])), (qt, .inl (G.2.2.1, 24, .inl ft)), (qu, .inl (G.2.2.1, 24, .inl fu)), (qh, .inl (G.2.2.1, 12, .inl (upd fh (Int32.toNatClampNeg sold) p1))), (qd, .inl (G.2.2.1, 12, .inl fd)), (qb, .inl (G.2.2.1, 12, .inl fb))] rfl dX3_add_30 (fun H locs hP hD hS => ?_)
      refine lv_aload_n hx hb dX3_add_31 rfl (lv_at hl 1 rfl) ?_
      refine gf S hK iX3 hP 0 rfl rfl 2 (by decide) q52 rfl dX3_add_32 ?_
      refine lv_iload_n hx hb dX3_add_35 rfl (lv_at hl 0 rfl) ?_
      refine lv_iload_n hx hb dX3_add_36 rfl (lv_at hl 2 rfl) ?_
      obtain ⟨k4, h⟩ := ck_t h
      refine ast S hK hP hD hS 5 rfl (ok_vp k4) [(qa, .inr (3, [.ref qw, .ref qh, .ref qd, .ref qb, .int sold, .int stk, .int pun, .int fra, .int tur])), (qw, .inr (1, [.ref qt, .ref qu])), (qt, .inl (G.2.2.1, 24, .inl ft)), (qu, .inl (G.2.2.1, 24, .inl fu)), (qh, .inl (G.2.2.1, 12, .inl (upd fh (Int32.toNatClampNeg sold) p1))), (qd, .inl (G.2.2.1, 12, .inl (upd fd (Int32.toNatClampNeg sold) p1))), (qb, .inl (G.2.2.1, 12, .inl fb))] rfl dX3_add_37 (fun H locs hP hD hS => ?_)
      refine lv_aload_n hx hb dX3_add_38 rfl (lv_at hl 1 rfl) ?_
      refine gf S hK iX3 hP 0 rfl rfl 3 (by decide) q53 rfl dX3_add_39 ?_
      refine lv_iload_n hx hb dX3_add_42 rfl (lv_at hl 0 rfl) ?_
      refine lv_iconst (v := 0) hx hb dX3_add_43 (by decide) ?_
      obtain ⟨k5, h⟩ := ck_t h
      refine ast S hK hP hD hS 6 rfl (ok_vp k5) [(qa, .inr (3, [.ref qw, .ref qh, .ref qd, .ref qb, .int sold, .int stk, .int pun, .int fra, .int tur])), (qw, .inr (1, [.ref qt, .ref qu])), (qt, .inl (G.2.2.1, 24, .inl ft)), (qu, .inl (G.2.2.1, 24, .inl fu)), (qh, .inl (G.2.2.1, 12, .inl (upd fh (Int32.toNatClampNeg sold) p1))), (qd, .inl (G.2.2.1, 12, .inl (upd fd (Int32.toNatClampNeg sold) p1))), (qb, .inl (G.2.2.1, 12, .inl (upd fb (Int32.toNatClampNeg sold) 0)))] rfl dX3_add_44 (fun H locs hP hD hS => ?_)
      refine lv_aload_n hx hb dX3_add_45 rfl (lv_at hl 1 rfl) ?_
      refine lv_dup hx hb dX3_add_46 rfl ?_
      refine gf S hK iX3 hP 0 rfl rfl 4 (by decide) q54 rfl dX3_add_47 ?_
      refine lv_iconst (v := 1) hx hb dX3_add_50 (by decide) ?_
      refine lv_iadd hx hb dX3_add_51 ?_
      refine pf S hK iX3 tyX3 tyX3_ok nmX3 hP hD hS 0 rfl rfl 4 (by decide) q54 rfl rfl rfl (Nat.le_of_ble_eq_true rfl) [(qa, .inr (3, [.ref qw, .ref qh, .ref qd, .ref qb, .int (sold + 1), .int stk, .int pun, .int fra, .int tur])), (qw, .inr (1, [.ref qt, .ref qu])), (qt, .inl (G.2.2.1, 24, .inl ft)), (qu, .inl (G.2.2.1, 24, .inl fu)), (qh, .inl (G.2.2.1, 12, .inl (upd fh (Int32.toNatClampNeg sold) p1))), (qd, .inl (G.2.2.1, 12, .inl (upd fd (Int32.toNatClampNeg sold) p1))), (qb, .inl (G.2.2.1, 12, .inl (upd fb (Int32.toNatClampNeg sold) 0)))] rfl dX3_add_52 (fun H locs hP hD hS => ?_)
      refine lv_aload_n hx hb dX3_add_55 rfl (lv_at hl 1 rfl) ?_
      refine lv_dup hx hb dX3_add_56 rfl ?_
      refine gf S hK iX3 hP 0 rfl rfl 6 (by decide) q56 rfl dX3_add_57 ?_
      refine lv_iload_n hx hb dX3_add_60 rfl (lv_at hl 2 rfl) ?_
      obtain ⟨r6, hr6, h⟩ := bd_t h
      refine rdS (As := [.int p1]) (rest := [.int pun, .ref qa]) S hK (c_J6_bitCount_0f7a4 l G p1 r6 hr6) mJ6_bitCount_0f7a4 q419 ⟨rfl, rfl, Nat.le_of_ble_eq_true rfl, Nat.le_of_ble_eq_true rfl⟩ (ws_nil G.1 _) rfl hl.1 (Nat.le_of_ble_eq_true rfl) ⟨Nat.le_refl 0, Nat.le_refl 0⟩ dX3_add_61 ?_
      refine lv_iadd hx hb dX3_add_64 ?_
      refine pf S hK iX3 tyX3 tyX3_ok nmX3 hP hD hS 0 rfl rfl 6 (by decide) q56 rfl rfl rfl (Nat.le_of_ble_eq_true rfl) [(qa, .inr (3, [.ref qw, .ref qh, .ref qd, .ref qb, .int (sold + 1), .int stk, .int (pun + r6), .int fra, .int tur])), (qw, .inr (1, [.ref qt, .ref qu])), (qt, .inl (G.2.2.1, 24, .inl ft)), (qu, .inl (G.2.2.1, 24, .inl fu)), (qh, .inl (G.2.2.1, 12, .inl (upd fh (Int32.toNatClampNeg sold) p1))), (qd, .inl (G.2.2.1, 12, .inl (upd fd (Int32.toNatClampNeg sold) p1))), (qb, .inl (G.2.2.1, 12, .inl (upd fb (Int32.toNatClampNeg sold) 0)))] rfl dX3_add_65 (fun H locs hP hD hS => ?_)
      refine lv_iload_n hx hb dX3_add_68 rfl (lv_at hl 0 rfl) ?_
      obtain rfl := Option.some.inj h
      exact retW S hr hlk rfl rfl hP hD hS dX3_add_69
    · replace h := if_f c2 h
      refine lv_bipush (v := (-3)) hx hb dX3_add_16 (by decide) ?_
      obtain rfl := Option.some.inj h
      exact retW S hr hlk rfl rfl hP hD hS dX3_add_18
set_option maxHeartbeats 4000000 in
set_option maxRecDepth 100000 in
theorem c_X3_punchByRight (l : Launch) (G : gG) (qa qw qt qu qh qd qb : Nat) (sold : Int32) (stk : Int32) (pun : Int32) (fra : Int32) (tur : Int32) (ft : Nat → Int32) (fu : Nat → Int32) (fh : Nat → Int32) (fd : Nat → Int32) (fb : Nat → Int32) (p1 p2 : Int32) (sz : Nat) (res : Int32 × (Nat → Int32) × (Nat → Int32)) (h : F_X3_punchByRight sold pun fh fd p1 p2 = some res) : WrM l G yX3_punchByRight cX3_punchByRight 3 none (rmk 1 21) [(qa, .inr (3, [.ref qw, .ref qh, .ref qd, .ref qb, .int sold, .int stk, .int pun, .int fra, .int tur])), (qw, .inr (1, [.ref qt, .ref qu])), (qt, .inl (G.2.2.1, 24, .inl ft)), (qu, .inl (G.2.2.1, 24, .inl fu)), (qh, .inl (G.2.2.1, 12, .inl fh)), (qd, .inl (G.2.2.1, 12, .inl fd)), (qb, .inl (G.2.2.1, 12, .inl fb))] sz [.ref qa, .int p1, .int p2] none [(qa, .inr (3, [.ref qw, .ref qh, .ref qd, .ref qb, .int sold, .int stk, .int res.1, .int fra, .int tur])), (qw, .inr (1, [.ref qt, .ref qu])), (qt, .inl (G.2.2.1, 24, .inl ft)), (qu, .inl (G.2.2.1, 24, .inl fu)), (qh, .inl (G.2.2.1, 12, .inl res.2.1)), (qd, .inl (G.2.2.1, 12, .inl res.2.2)), (qb, .inl (G.2.2.1, 12, .inl fb))] := by
  refine ofWr (by decide) (Nat.le_of_ble_eq_true rfl) ?_
  intro p e s m below meth c ls A S hr hlk hK hP hD hS hA hl
  have S : CallFix p m c cX3_punchByRight 3 s ([.ref qa, .int p1, .int p2] : List Value).toArray T0 RX3 := S
  obtain ⟨hx, hb, hml, hown, hts⟩ := id S
  have hl : lv_has ls 3 [(0, .ref qa), (1, .int p1), (2, .int p2)] := hl
  rw [F_X3_punchByRight] at h
  refine lv_aload_n hx hb dX3_punchByRight_0 rfl (lv_at hl 0 rfl) ?_
  refine lv_iload_n hx hb dX3_punchByRight_1 rfl (lv_at hl 1 rfl) ?_
  obtain ⟨r1, hr1, h⟩ := bd_t h
  refine rdV (As := [.int p1]) (rest := []) S hK (c_X3_isTicket l G qa qw qt qu qh qd qb sold stk pun fra tur ft fu fh fd fb p1 r1 hr1) mX3_isTicket q291 ⟨rfl, rfl, Nat.le_of_ble_eq_true rfl, Nat.le_of_ble_eq_true rfl⟩ hP rfl rfl rfl rfl hl.1 (Nat.le_of_ble_eq_true rfl) ⟨Nat.le_refl 0, Nat.le_refl 0⟩ dX3_punchByRight_2 ?_
  refine lv_if_eq (tgt := 44) hx hb dX3_punchByRight_5 (by decide) (fun c2 => ?_) (fun c2 => ?_)
  · replace h := if_t c2 h
    obtain rfl := Option.some.inj h
    exact retV S hr hlk hP hD hS dX3_punchByRight_44
  · replace h := if_f c2 h
    refine lv_aload_n hx hb dX3_punchByRight_8 rfl (lv_at hl 0 rfl) ?_
    refine gf S hK iX3 hP 0 rfl rfl 1 (by decide) q51 rfl dX3_punchByRight_9 ?_
    refine lv_iload_n hx hb dX3_punchByRight_12 rfl (lv_at hl 1 rfl) ?_
    refine lv_dup2_11 hx hb dX3_punchByRight_13 rfl rfl ?_
    obtain ⟨k3, h⟩ := ck_t h
    refine ald S hK hP 4 rfl (ok_vp k3) dX3_punchByRight_14 ?_
    refine lv_iload_n hx hb dX3_punchByRight_15 rfl (lv_at hl 2 rfl) ?_
    obtain ⟨r4, hr4, h⟩ := bd_t h
    refine rdN (As := [.int p2]) (rest := [.int (fh (Int32.toNatClampNeg p1)), .int p1, .ref qh]) S hK (c_X4_only l G p2 r4 hr4) mX4_only 8 rfl ⟨rfl, rfl, Nat.le_of_ble_eq_true rfl, Nat.le_of_ble_eq_true rfl⟩ (ws_nil G.1 _) rfl hl.1 (Nat.le_of_ble_eq_true rfl) ⟨Nat.le_refl 0, Nat.le_refl 0⟩ dX3_punchByRight_16 ?_
    refine lv_ior hx hb dX3_punchByRight_19 ?_
    obtain ⟨k5, h⟩ := ck_t h
    refine ast S hK hP hD hS 4 rfl (ok_vp k5) [(qa, .inr (3, [.ref qw, .ref qh, .ref qd, .ref qb, .int sold, .int stk, .int pun, .int fra, .int tur])), (qw, .inr (1, [.ref qt, .ref qu])), (qt, .inl (G.2.2.1, 24, .inl ft)), (qu, .inl (G.2.2.1, 24, .inl fu)), (qh, .inl (G.2.2.1, 12, .inl (upd fh (Int32.toNatClampNeg p1) ((fh (Int32.toNatClampNeg p1)) ||| r4)))), (qd, .inl (G.2.2.1, 12, .inl fd)), (qb, .inl (G.2.2.1, 12, .inl fb))] rfl dX3_punchByRight_20 (fun H locs hP hD hS => ?_)
    refine lv_aload_n hx hb dX3_punchByRight_21 rfl (lv_at hl 0 rfl) ?_
    refine gf S hK iX3 hP 0 rfl rfl 2 (by decide) q52 rfl dX3_punchByRight_22 ?_
    refine lv_iload_n hx hb dX3_punchByRight_25 rfl (lv_at hl 1 rfl) ?_
    refine lv_dup2_11 hx hb dX3_punchByRight_26 rfl rfl ?_
    obtain ⟨k6, h⟩ := ck_t h
    refine ald S hK hP 5 rfl (ok_vp k6) dX3_punchByRight_27 ?_
    refine lv_iload_n hx hb dX3_punchByRight_28 rfl (lv_at hl 2 rfl) ?_
    obtain ⟨r7, hr7, h⟩ := bd_t h
    refine rdN (As := [.int p2]) (rest := [.int (fd (Int32.toNatClampNeg p1)), .int p1, .ref qd]) S hK (c_X4_only l G p2 r7 hr7) mX4_only 8 rfl ⟨rfl, rfl, Nat.le_of_ble_eq_true rfl, Nat.le_of_ble_eq_true rfl⟩ (ws_nil G.1 _) rfl hl.1 (Nat.le_of_ble_eq_true rfl) ⟨Nat.le_refl 0, Nat.le_refl 0⟩ dX3_punchByRight_29 ?_
    refine lv_ior hx hb dX3_punchByRight_32 ?_
    obtain ⟨k8, h⟩ := ck_t h
    refine ast S hK hP hD hS 5 rfl (ok_vp k8) [(qa, .inr (3, [.ref qw, .ref qh, .ref qd, .ref qb, .int sold, .int stk, .int pun, .int fra, .int tur])), (qw, .inr (1, [.ref qt, .ref qu])), (qt, .inl (G.2.2.1, 24, .inl ft)), (qu, .inl (G.2.2.1, 24, .inl fu)), (qh, .inl (G.2.2.1, 12, .inl (upd fh (Int32.toNatClampNeg p1) ((fh (Int32.toNatClampNeg p1)) ||| r4)))), (qd, .inl (G.2.2.1, 12, .inl (upd fd (Int32.toNatClampNeg p1) ((fd (Int32.toNatClampNeg p1)) ||| r7)))), (qb, .inl (G.2.2.1, 12, .inl fb))] rfl dX3_punchByRight_33 (fun H locs hP hD hS => ?_)
    refine lv_aload_n hx hb dX3_punchByRight_34 rfl (lv_at hl 0 rfl) ?_
    refine lv_dup hx hb dX3_punchByRight_35 rfl ?_
    refine gf S hK iX3 hP 0 rfl rfl 6 (by decide) q56 rfl dX3_punchByRight_36 ?_
    refine lv_iconst (v := 1) hx hb dX3_punchByRight_39 (by decide) ?_
    refine lv_iadd hx hb dX3_punchByRight_40 ?_
    refine pf S hK iX3 tyX3 tyX3_ok nmX3 hP hD hS 0 rfl rfl 6 (by decide) q56 rfl rfl rfl (Nat.le_of_ble_eq_true rfl) [(qa, .inr (3, [.ref qw, .ref qh, .ref qd, .ref qb, .int sold, .int stk, .int (pun + 1), .int fra, .int tur])), (qw, .inr (1, [.ref qt, .ref qu])), (qt, .inl (G.2.2.1, 24, .inl ft)), (qu, .inl (G.2.2.1, 24, .inl fu)), (qh, .inl (G.2.2.1, 12, .inl (upd fh (Int32.toNatClampNeg p1) ((fh (Int32.toNatClampNeg p1)) ||| r4)))), (qd, .inl (G.2.2.1, 12, .inl (upd fd (Int32.toNatClampNeg p1) ((fd (Int32.toNatClampNeg p1)) ||| r7)))), (qb, .inl (G.2.2.1, 12, .inl fb))] rfl dX3_punchByRight_41 (fun H locs hP hD hS => ?_)
    obtain rfl := Option.some.inj h
    exact retV S hr hlk hP hD hS dX3_punchByRight_44
set_option maxHeartbeats 4000000 in
set_option maxRecDepth 100000 in
theorem c_X3_changeByFraud (l : Launch) (G : gG) (qa qw qt qu qh qd qb : Nat) (sold : Int32) (stk : Int32) (pun : Int32) (fra : Int32) (tur : Int32) (ft : Nat → Int32) (fu : Nat → Int32) (fh : Nat → Int32) (fd : Nat → Int32) (fb : Nat → Int32) (p1 p2 : Int32) (sz : Nat) (res : Int32 × (Nat → Int32)) (h : F_X3_changeByFraud sold fra fh p1 p2 = some res) : WrM l G yX3_changeByFraud cX3_changeByFraud 3 none (rmk 1 21) [(qa, .inr (3, [.ref qw, .ref qh, .ref qd, .ref qb, .int sold, .int stk, .int pun, .int fra, .int tur])), (qw, .inr (1, [.ref qt, .ref qu])), (qt, .inl (G.2.2.1, 24, .inl ft)), (qu, .inl (G.2.2.1, 24, .inl fu)), (qh, .inl (G.2.2.1, 12, .inl fh)), (qd, .inl (G.2.2.1, 12, .inl fd)), (qb, .inl (G.2.2.1, 12, .inl fb))] sz [.ref qa, .int p1, .int p2] none [(qa, .inr (3, [.ref qw, .ref qh, .ref qd, .ref qb, .int sold, .int stk, .int pun, .int res.1, .int tur])), (qw, .inr (1, [.ref qt, .ref qu])), (qt, .inl (G.2.2.1, 24, .inl ft)), (qu, .inl (G.2.2.1, 24, .inl fu)), (qh, .inl (G.2.2.1, 12, .inl res.2)), (qd, .inl (G.2.2.1, 12, .inl fd)), (qb, .inl (G.2.2.1, 12, .inl fb))] := by
  refine ofWr (by decide) (Nat.le_of_ble_eq_true rfl) ?_
  intro p e s m below meth c ls A S hr hlk hK hP hD hS hA hl
  have S : CallFix p m c cX3_changeByFraud 3 s ([.ref qa, .int p1, .int p2] : List Value).toArray T0 RX3 := S
  obtain ⟨hx, hb, hml, hown, hts⟩ := id S
  have hl : lv_has ls 3 [(0, .ref qa), (1, .int p1), (2, .int p2)] := hl
  rw [F_X3_changeByFraud] at h
  refine lv_aload_n hx hb dX3_changeByFraud_0 rfl (lv_at hl 0 rfl) ?_
  refine lv_iload_n hx hb dX3_changeByFraud_1 rfl (lv_at hl 1 rfl) ?_
  obtain ⟨r1, hr1, h⟩ := bd_t h
  refine rdV (As := [.int p1]) (rest := []) S hK (c_X3_isTicket l G qa qw qt qu qh qd qb sold stk pun fra tur ft fu fh fd fb p1 r1 hr1) mX3_isTicket q291 ⟨rfl, rfl, Nat.le_of_ble_eq_true rfl, Nat.le_of_ble_eq_true rfl⟩ hP rfl rfl rfl rfl hl.1 (Nat.le_of_ble_eq_true rfl) ⟨Nat.le_refl 0, Nat.le_refl 0⟩ dX3_changeByFraud_2 ?_
  refine lv_if_eq (tgt := 31) hx hb dX3_changeByFraud_5 (by decide) (fun c2 => ?_) (fun c2 => ?_)
  · replace h := if_t c2 h
    obtain rfl := Option.some.inj h
    exact retV S hr hlk hP hD hS dX3_changeByFraud_31
  · replace h := if_f c2 h
    refine lv_aload_n hx hb dX3_changeByFraud_8 rfl (lv_at hl 0 rfl) ?_
    refine gf S hK iX3 hP 0 rfl rfl 1 (by decide) q51 rfl dX3_changeByFraud_9 ?_
    refine lv_iload_n hx hb dX3_changeByFraud_12 rfl (lv_at hl 1 rfl) ?_
    refine lv_dup2_11 hx hb dX3_changeByFraud_13 rfl rfl ?_
    obtain ⟨k3, h⟩ := ck_t h
    refine ald S hK hP 4 rfl (ok_vp k3) dX3_changeByFraud_14 ?_
    refine lv_iload_n hx hb dX3_changeByFraud_15 rfl (lv_at hl 2 rfl) ?_
    obtain ⟨r4, hr4, h⟩ := bd_t h
    refine rdN (As := [.int p2]) (rest := [.int (fh (Int32.toNatClampNeg p1)), .int p1, .ref qh]) S hK (c_X4_only l G p2 r4 hr4) mX4_only 8 rfl ⟨rfl, rfl, Nat.le_of_ble_eq_true rfl, Nat.le_of_ble_eq_true rfl⟩ (ws_nil G.1 _) rfl hl.1 (Nat.le_of_ble_eq_true rfl) ⟨Nat.le_refl 0, Nat.le_refl 0⟩ dX3_changeByFraud_16 ?_
    refine lv_ixor hx hb dX3_changeByFraud_19 ?_
    obtain ⟨k5, h⟩ := ck_t h
    refine ast S hK hP hD hS 4 rfl (ok_vp k5) [(qa, .inr (3, [.ref qw, .ref qh, .ref qd, .ref qb, .int sold, .int stk, .int pun, .int fra, .int tur])), (qw, .inr (1, [.ref qt, .ref qu])), (qt, .inl (G.2.2.1, 24, .inl ft)), (qu, .inl (G.2.2.1, 24, .inl fu)), (qh, .inl (G.2.2.1, 12, .inl (upd fh (Int32.toNatClampNeg p1) ((fh (Int32.toNatClampNeg p1)) ^^^ r4)))), (qd, .inl (G.2.2.1, 12, .inl fd)), (qb, .inl (G.2.2.1, 12, .inl fb))] rfl dX3_changeByFraud_20 (fun H locs hP hD hS => ?_)
    refine lv_aload_n hx hb dX3_changeByFraud_21 rfl (lv_at hl 0 rfl) ?_
    refine lv_dup hx hb dX3_changeByFraud_22 rfl ?_
    refine gf S hK iX3 hP 0 rfl rfl 7 (by decide) q57 rfl dX3_changeByFraud_23 ?_
    refine lv_iconst (v := 1) hx hb dX3_changeByFraud_26 (by decide) ?_
    refine lv_iadd hx hb dX3_changeByFraud_27 ?_
    refine pf S hK iX3 tyX3 tyX3_ok nmX3 hP hD hS 0 rfl rfl 7 (by decide) q57 rfl rfl rfl (Nat.le_of_ble_eq_true rfl) [(qa, .inr (3, [.ref qw, .ref qh, .ref qd, .ref qb, .int sold, .int stk, .int pun, .int (fra + 1), .int tur])), (qw, .inr (1, [.ref qt, .ref qu])), (qt, .inl (G.2.2.1, 24, .inl ft)), (qu, .inl (G.2.2.1, 24, .inl fu)), (qh, .inl (G.2.2.1, 12, .inl (upd fh (Int32.toNatClampNeg p1) ((fh (Int32.toNatClampNeg p1)) ^^^ r4)))), (qd, .inl (G.2.2.1, 12, .inl fd)), (qb, .inl (G.2.2.1, 12, .inl fb))] rfl dX3_changeByFraud_28 (fun H locs hP hD hS => ?_)
    obtain rfl := Option.some.inj h
    exact retV S hr hlk hP hD hS dX3_changeByFraud_31
set_option maxHeartbeats 4000000 in
set_option maxRecDepth 100000 in
theorem c_X3_makeRight (l : Launch) (G : gG) (qa qw qt qu qh qd qb : Nat) (sold : Int32) (stk : Int32) (pun : Int32) (fra : Int32) (tur : Int32) (ft : Nat → Int32) (fu : Nat → Int32) (fh : Nat → Int32) (fd : Nat → Int32) (fb : Nat → Int32) (p1 : Int32) (sz : Nat) (res : (Nat → Int32)) (h : F_X3_makeRight sold fh fd p1 = some res) : WrM l G yX3_makeRight cX3_makeRight 2 none (rmk 1 21) [(qa, .inr (3, [.ref qw, .ref qh, .ref qd, .ref qb, .int sold, .int stk, .int pun, .int fra, .int tur])), (qw, .inr (1, [.ref qt, .ref qu])), (qt, .inl (G.2.2.1, 24, .inl ft)), (qu, .inl (G.2.2.1, 24, .inl fu)), (qh, .inl (G.2.2.1, 12, .inl fh)), (qd, .inl (G.2.2.1, 12, .inl fd)), (qb, .inl (G.2.2.1, 12, .inl fb))] sz [.ref qa, .int p1] none [(qa, .inr (3, [.ref qw, .ref qh, .ref qd, .ref qb, .int sold, .int stk, .int pun, .int fra, .int tur])), (qw, .inr (1, [.ref qt, .ref qu])), (qt, .inl (G.2.2.1, 24, .inl ft)), (qu, .inl (G.2.2.1, 24, .inl fu)), (qh, .inl (G.2.2.1, 12, .inl res)), (qd, .inl (G.2.2.1, 12, .inl fd)), (qb, .inl (G.2.2.1, 12, .inl fb))] := by
  refine ofWr (by decide) (Nat.le_of_ble_eq_true rfl) ?_
  intro p e s m below meth c ls A S hr hlk hK hP hD hS hA hl
  have S : CallFix p m c cX3_makeRight 2 s ([.ref qa, .int p1] : List Value).toArray T0 RX3 := S
  obtain ⟨hx, hb, hml, hown, hts⟩ := id S
  have hl : lv_has ls 2 [(0, .ref qa), (1, .int p1)] := hl
  rw [F_X3_makeRight] at h
  refine lv_aload_n hx hb dX3_makeRight_0 rfl (lv_at hl 0 rfl) ?_
  refine lv_iload_n hx hb dX3_makeRight_1 rfl (lv_at hl 1 rfl) ?_
  obtain ⟨r1, hr1, h⟩ := bd_t h
  refine rdV (As := [.int p1]) (rest := []) S hK (c_X3_isTicket l G qa qw qt qu qh qd qb sold stk pun fra tur ft fu fh fd fb p1 r1 hr1) mX3_isTicket q291 ⟨rfl, rfl, Nat.le_of_ble_eq_true rfl, Nat.le_of_ble_eq_true rfl⟩ hP rfl rfl rfl rfl hl.1 (Nat.le_of_ble_eq_true rfl) ⟨Nat.le_refl 0, Nat.le_refl 0⟩ dX3_makeRight_2 ?_
  refine lv_if_eq (tgt := 20) hx hb dX3_makeRight_5 (by decide) (fun c2 => ?_) (fun c2 => ?_)
  · replace h := if_t c2 h
    obtain rfl := Option.some.inj h
    exact retV S hr hlk hP hD hS dX3_makeRight_20
  · replace h := if_f c2 h
    refine lv_aload_n hx hb dX3_makeRight_8 rfl (lv_at hl 0 rfl) ?_
    refine gf S hK iX3 hP 0 rfl rfl 1 (by decide) q51 rfl dX3_makeRight_9 ?_
    refine lv_iload_n hx hb dX3_makeRight_12 rfl (lv_at hl 1 rfl) ?_
    refine lv_aload_n hx hb dX3_makeRight_13 rfl (lv_at hl 0 rfl) ?_
    refine gf S hK iX3 hP 0 rfl rfl 2 (by decide) q52 rfl dX3_makeRight_14 ?_
    refine lv_iload_n hx hb dX3_makeRight_17 rfl (lv_at hl 1 rfl) ?_
    obtain ⟨k3, h⟩ := ck_t h
    refine ald S hK hP 5 rfl (ok_vp k3) dX3_makeRight_18 ?_
    obtain ⟨k4, h⟩ := ck_t h
    refine ast S hK hP hD hS 4 rfl (ok_vp k4) [(qa, .inr (3, [.ref qw, .ref qh, .ref qd, .ref qb, .int sold, .int stk, .int pun, .int fra, .int tur])), (qw, .inr (1, [.ref qt, .ref qu])), (qt, .inl (G.2.2.1, 24, .inl ft)), (qu, .inl (G.2.2.1, 24, .inl fu)), (qh, .inl (G.2.2.1, 12, .inl (upd fh (Int32.toNatClampNeg p1) (fd (Int32.toNatClampNeg p1))))), (qd, .inl (G.2.2.1, 12, .inl fd)), (qb, .inl (G.2.2.1, 12, .inl fb))] rfl dX3_makeRight_19 (fun H locs hP hD hS => ?_)
    obtain rfl := Option.some.inj h
    exact retV S hr hlk hP hD hS dX3_makeRight_20
set_option maxHeartbeats 4000000 in
set_option maxRecDepth 100000 in
theorem c_X3_changeStack (l : Launch) (G : gG) (qa qw qt qu qh qd qb : Nat) (sold : Int32) (stk : Int32) (pun : Int32) (fra : Int32) (tur : Int32) (ft : Nat → Int32) (fu : Nat → Int32) (fh : Nat → Int32) (fd : Nat → Int32) (fb : Nat → Int32) (p1 : Int32) (sz : Nat) (res : Int32) (h : F_X3_changeStack stk p1 = some res) : WrM l G yX3_changeStack cX3_changeStack 2 none (rmk 1 20) [(qa, .inr (3, [.ref qw, .ref qh, .ref qd, .ref qb, .int sold, .int stk, .int pun, .int fra, .int tur])), (qw, .inr (1, [.ref qt, .ref qu])), (qt, .inl (G.2.2.1, 24, .inl ft)), (qu, .inl (G.2.2.1, 24, .inl fu)), (qh, .inl (G.2.2.1, 12, .inl fh)), (qd, .inl (G.2.2.1, 12, .inl fd)), (qb, .inl (G.2.2.1, 12, .inl fb))] sz [.ref qa, .int p1] none [(qa, .inr (3, [.ref qw, .ref qh, .ref qd, .ref qb, .int sold, .int res, .int pun, .int fra, .int tur])), (qw, .inr (1, [.ref qt, .ref qu])), (qt, .inl (G.2.2.1, 24, .inl ft)), (qu, .inl (G.2.2.1, 24, .inl fu)), (qh, .inl (G.2.2.1, 12, .inl fh)), (qd, .inl (G.2.2.1, 12, .inl fd)), (qb, .inl (G.2.2.1, 12, .inl fb))] := by
  refine ofWr (by decide) (Nat.le_of_ble_eq_true rfl) ?_
  intro p e s m below meth c ls A S hr hlk hK hP hD hS hA hl
  have S : CallFix p m c cX3_changeStack 2 s ([.ref qa, .int p1] : List Value).toArray T0 RX3 := S
  obtain ⟨hx, hb, hml, hown, hts⟩ := id S
  have hl : lv_has ls 2 [(0, .ref qa), (1, .int p1)] := hl
  rw [F_X3_changeStack] at h
  refine lv_aload_n hx hb dX3_changeStack_0 rfl (lv_at hl 0 rfl) ?_
  refine lv_dup hx hb dX3_changeStack_1 rfl ?_
  refine gf S hK iX3 hP 0 rfl rfl 5 (by decide) q55 rfl dX3_changeStack_2 ?_
  refine lv_iload_n hx hb dX3_changeStack_5 rfl (lv_at hl 1 rfl) ?_
  obtain ⟨r1, hr1, h⟩ := bd_t h
  refine rdN (As := [.int p1]) (rest := [.int stk, .ref qa]) S hK (c_X4_only l G p1 r1 hr1) mX4_only 8 rfl ⟨rfl, rfl, Nat.le_of_ble_eq_true rfl, Nat.le_of_ble_eq_true rfl⟩ (ws_nil G.1 _) rfl hl.1 (Nat.le_of_ble_eq_true rfl) ⟨Nat.le_refl 0, Nat.le_refl 0⟩ dX3_changeStack_6 ?_
  refine lv_ixor hx hb dX3_changeStack_9 ?_
  refine pf S hK iX3 tyX3 tyX3_ok nmX3 hP hD hS 0 rfl rfl 5 (by decide) q55 rfl rfl rfl (Nat.le_of_ble_eq_true rfl) [(qa, .inr (3, [.ref qw, .ref qh, .ref qd, .ref qb, .int sold, .int (stk ^^^ r1), .int pun, .int fra, .int tur])), (qw, .inr (1, [.ref qt, .ref qu])), (qt, .inl (G.2.2.1, 24, .inl ft)), (qu, .inl (G.2.2.1, 24, .inl fu)), (qh, .inl (G.2.2.1, 12, .inl fh)), (qd, .inl (G.2.2.1, 12, .inl fd)), (qb, .inl (G.2.2.1, 12, .inl fb))] rfl dX3_changeStack_10 (fun H locs hP hD hS => ?_)
  obtain rfl := Option.some.inj h
  exact retV S hr hlk hP hD hS dX3_changeStack_13
set_option maxHeartbeats 4000000 in
set_option maxRecDepth 100000 in
theorem c_X3_turnTicket (l : Launch) (G : gG) (qa qw qt qu qh qd qb : Nat) (sold : Int32) (stk : Int32) (pun : Int32) (fra : Int32) (tur : Int32) (ft : Nat → Int32) (fu : Nat → Int32) (fh : Nat → Int32) (fd : Nat → Int32) (fb : Nat → Int32) (p1 p2 : Int32) (sz : Nat) (res : Int32 × (Nat → Int32) × (Nat → Int32) × (Nat → Int32)) (h : F_X3_turnTicket sold tur ft fh fd fb p1 p2 = some res) : WrM l G yX3_turnTicket cX3_turnTicket 3 none (rmk 4 95) [(qa, .inr (3, [.ref qw, .ref qh, .ref qd, .ref qb, .int sold, .int stk, .int pun, .int fra, .int tur])), (qw, .inr (1, [.ref qt, .ref qu])), (qt, .inl (G.2.2.1, 24, .inl ft)), (qu, .inl (G.2.2.1, 24, .inl fu)), (qh, .inl (G.2.2.1, 12, .inl fh)), (qd, .inl (G.2.2.1, 12, .inl fd)), (qb, .inl (G.2.2.1, 12, .inl fb))] sz [.ref qa, .int p1, .int p2] none [(qa, .inr (3, [.ref qw, .ref qh, .ref qd, .ref qb, .int sold, .int stk, .int pun, .int fra, .int res.1])), (qw, .inr (1, [.ref qt, .ref qu])), (qt, .inl (G.2.2.1, 24, .inl ft)), (qu, .inl (G.2.2.1, 24, .inl fu)), (qh, .inl (G.2.2.1, 12, .inl res.2.1)), (qd, .inl (G.2.2.1, 12, .inl res.2.2.1)), (qb, .inl (G.2.2.1, 12, .inl res.2.2.2))] := by
  refine ofWr (by decide) (Nat.le_of_ble_eq_true rfl) ?_
  intro p e s m below meth c ls A S hr hlk hK hP hD hS hA hl
  have S : CallFix p m c cX3_turnTicket 3 s ([.ref qa, .int p1, .int p2] : List Value).toArray T0 RX3 := S
  obtain ⟨hx, hb, hml, hown, hts⟩ := id S
  have hl : lv_has ls 3 [(0, .ref qa), (1, .int p1), (2, .int p2)] := hl
  rw [F_X3_turnTicket] at h
  refine lv_aload_n hx hb dX3_turnTicket_0 rfl (lv_at hl 0 rfl) ?_
  refine lv_iload_n hx hb dX3_turnTicket_1 rfl (lv_at hl 1 rfl) ?_
  obtain ⟨r1, hr1, h⟩ := bd_t h
  refine rdV (As := [.int p1]) (rest := []) S hK (c_X3_isTicket l G qa qw qt qu qh qd qb sold stk pun fra tur ft fu fh fd fb p1 r1 hr1) mX3_isTicket q291 ⟨rfl, rfl, Nat.le_of_ble_eq_true rfl, Nat.le_of_ble_eq_true rfl⟩ hP rfl rfl rfl rfl hl.1 (Nat.le_of_ble_eq_true rfl) ⟨Nat.le_refl 0, Nat.le_refl 0⟩ dX3_turnTicket_2 ?_
  refine lv_if_eq (tgt := 68) hx hb dX3_turnTicket_5 (by decide) (fun c2 => ?_) (fun c2 => ?_)
  · replace h := if_t c2 h
    obtain rfl := Option.some.inj h
    exact retV S hr hlk hP hD hS dX3_turnTicket_68
  · replace h := if_f c2 h
    refine lv_aload_n hx hb dX3_turnTicket_8 rfl (lv_at hl 0 rfl) ?_
    refine gf S hK iX3 hP 0 rfl rfl 1 (by decide) q51 rfl dX3_turnTicket_9 ?_
    refine lv_iload_n hx hb dX3_turnTicket_12 rfl (lv_at hl 1 rfl) ?_
    refine lv_aload_n hx hb dX3_turnTicket_13 rfl (lv_at hl 0 rfl) ?_
    refine gf S hK iX3 hP 0 rfl rfl 0 (by decide) q49 rfl dX3_turnTicket_14 ?_
    refine lv_aload_n hx hb dX3_turnTicket_17 rfl (lv_at hl 0 rfl) ?_
    refine gf S hK iX3 hP 0 rfl rfl 1 (by decide) q51 rfl dX3_turnTicket_18 ?_
    refine lv_iload_n hx hb dX3_turnTicket_21 rfl (lv_at hl 1 rfl) ?_
    obtain ⟨k3, h⟩ := ck_t h
    refine ald S hK hP 4 rfl (ok_vp k3) dX3_turnTicket_22 ?_
    refine lv_iload_n hx hb dX3_turnTicket_23 rfl (lv_at hl 2 rfl) ?_
    obtain ⟨r4, hr4, h⟩ := bd_t h
    refine rdV (As := [.int (fh (Int32.toNatClampNeg p1)), .int p2]) (rest := [.int p1, .ref qh]) S hK (c_X1_movedBy l G qw qt qu ft fu (fh (Int32.toNatClampNeg p1)) p2 r4 hr4) mX1_movedBy q295 ⟨rfl, rfl, Nat.le_of_ble_eq_true rfl, Nat.le_of_ble_eq_true rfl⟩ (hP.sub (ws' := [(qw, .inr (1, [.ref qt, .ref qu])), (qt, .inl (G.2.2.1, 24, .inl ft)), (qu, .inl (G.2.2.1, 24, .inl fu))]) [1, 2, 3] rfl) rfl rfl rfl rfl hl.1 (Nat.le_of_ble_eq_true rfl) ⟨Nat.le_refl 0, Nat.le_refl 0⟩ dX3_turnTicket_24 ?_
    obtain ⟨k5, h⟩ := ck_t h
    refine ast S hK hP hD hS 4 rfl (ok_vp k5) [(qa, .inr (3, [.ref qw, .ref qh, .ref qd, .ref qb, .int sold, .int stk, .int pun, .int fra, .int tur])), (qw, .inr (1, [.ref qt, .ref qu])), (qt, .inl (G.2.2.1, 24, .inl ft)), (qu, .inl (G.2.2.1, 24, .inl fu)), (qh, .inl (G.2.2.1, 12, .inl (upd fh (Int32.toNatClampNeg p1) r4))), (qd, .inl (G.2.2.1, 12, .inl fd)), (qb, .inl (G.2.2.1, 12, .inl fb))] rfl dX3_turnTicket_27 (fun H locs hP hD hS => ?_)
    refine lv_aload_n hx hb dX3_turnTicket_28 rfl (lv_at hl 0 rfl) ?_
    refine gf S hK iX3 hP 0 rfl rfl 2 (by decide) q52 rfl dX3_turnTicket_29 ?_
    refine lv_iload_n hx hb dX3_turnTicket_32 rfl (lv_at hl 1 rfl) ?_
    refine lv_aload_n hx hb dX3_turnTicket_33 rfl (lv_at hl 0 rfl) ?_
    refine gf S hK iX3 hP 0 rfl rfl 0 (by decide) q49 rfl dX3_turnTicket_34 ?_
    refine lv_aload_n hx hb dX3_turnTicket_37 rfl (lv_at hl 0 rfl) ?_
    refine gf S hK iX3 hP 0 rfl rfl 2 (by decide) q52 rfl dX3_turnTicket_38 ?_
    refine lv_iload_n hx hb dX3_turnTicket_41 rfl (lv_at hl 1 rfl) ?_
    obtain ⟨k6, h⟩ := ck_t h
    refine ald S hK hP 5 rfl (ok_vp k6) dX3_turnTicket_42 ?_
    refine lv_iload_n hx hb dX3_turnTicket_43 rfl (lv_at hl 2 rfl) ?_
    obtain ⟨r7, hr7, h⟩ := bd_t h
    refine rdV (As := [.int (fd (Int32.toNatClampNeg p1)), .int p2]) (rest := [.int p1, .ref qd]) S hK (c_X1_movedBy l G qw qt qu ft fu (fd (Int32.toNatClampNeg p1)) p2 r7 hr7) mX1_movedBy q295 ⟨rfl, rfl, Nat.le_of_ble_eq_true rfl, Nat.le_of_ble_eq_true rfl⟩ (hP.sub (ws' := [(qw, .inr (1, [.ref qt, .ref qu])), (qt, .inl (G.2.2.1, 24, .inl ft)), (qu, .inl (G.2.2.1, 24, .inl fu))]) [1, 2, 3] rfl) rfl rfl rfl rfl hl.1 (Nat.le_of_ble_eq_true rfl) ⟨Nat.le_refl 0, Nat.le_refl 0⟩ dX3_turnTicket_44 ?_
    obtain ⟨k8, h⟩ := ck_t h
    refine ast S hK hP hD hS 5 rfl (ok_vp k8) [(qa, .inr (3, [.ref qw, .ref qh, .ref qd, .ref qb, .int sold, .int stk, .int pun, .int fra, .int tur])), (qw, .inr (1, [.ref qt, .ref qu])), (qt, .inl (G.2.2.1, 24, .inl ft)), (qu, .inl (G.2.2.1, 24, .inl fu)), (qh, .inl (G.2.2.1, 12, .inl (upd fh (Int32.toNatClampNeg p1) r4))), (qd, .inl (G.2.2.1, 12, .inl (upd fd (Int32.toNatClampNeg p1) r7))), (qb, .inl (G.2.2.1, 12, .inl fb))] rfl dX3_turnTicket_47 (fun H locs hP hD hS => ?_)
    refine lv_aload_n hx hb dX3_turnTicket_48 rfl (lv_at hl 0 rfl) ?_
    refine gf S hK iX3 hP 0 rfl rfl 3 (by decide) q53 rfl dX3_turnTicket_49 ?_
    refine lv_iload_n hx hb dX3_turnTicket_52 rfl (lv_at hl 1 rfl) ?_
    refine lv_dup2_11 hx hb dX3_turnTicket_53 rfl rfl ?_
    obtain ⟨k9, h⟩ := ck_t h
    refine ald S hK hP 6 rfl (ok_vp k9) dX3_turnTicket_54 ?_
    refine lv_iload_n hx hb dX3_turnTicket_55 rfl (lv_at hl 2 rfl) ?_
    refine lv_iadd hx hb dX3_turnTicket_56 ?_
    obtain ⟨k10, h⟩ := ck_t h
    refine ast S hK hP hD hS 6 rfl (ok_vp k10) [(qa, .inr (3, [.ref qw, .ref qh, .ref qd, .ref qb, .int sold, .int stk, .int pun, .int fra, .int tur])), (qw, .inr (1, [.ref qt, .ref qu])), (qt, .inl (G.2.2.1, 24, .inl ft)), (qu, .inl (G.2.2.1, 24, .inl fu)), (qh, .inl (G.2.2.1, 12, .inl (upd fh (Int32.toNatClampNeg p1) r4))), (qd, .inl (G.2.2.1, 12, .inl (upd fd (Int32.toNatClampNeg p1) r7))), (qb, .inl (G.2.2.1, 12, .inl (upd fb (Int32.toNatClampNeg p1) ((fb (Int32.toNatClampNeg p1)) + p2))))] rfl dX3_turnTicket_57 (fun H locs hP hD hS => ?_)
    refine lv_aload_n hx hb dX3_turnTicket_58 rfl (lv_at hl 0 rfl) ?_
    refine lv_dup hx hb dX3_turnTicket_59 rfl ?_
    refine gf S hK iX3 hP 0 rfl rfl 8 (by decide) q58 rfl dX3_turnTicket_60 ?_
    refine lv_iconst (v := 1) hx hb dX3_turnTicket_63 (by decide) ?_
    refine lv_iadd hx hb dX3_turnTicket_64 ?_
    refine pf S hK iX3 tyX3 tyX3_ok nmX3 hP hD hS 0 rfl rfl 8 (by decide) q58 rfl rfl rfl (Nat.le_of_ble_eq_true rfl) [(qa, .inr (3, [.ref qw, .ref qh, .ref qd, .ref qb, .int sold, .int stk, .int pun, .int fra, .int (tur + 1)])), (qw, .inr (1, [.ref qt, .ref qu])), (qt, .inl (G.2.2.1, 24, .inl ft)), (qu, .inl (G.2.2.1, 24, .inl fu)), (qh, .inl (G.2.2.1, 12, .inl (upd fh (Int32.toNatClampNeg p1) r4))), (qd, .inl (G.2.2.1, 12, .inl (upd fd (Int32.toNatClampNeg p1) r7))), (qb, .inl (G.2.2.1, 12, .inl (upd fb (Int32.toNatClampNeg p1) ((fb (Int32.toNatClampNeg p1)) + p2))))] rfl dX3_turnTicket_65 (fun H locs hP hD hS => ?_)
    obtain rfl := Option.some.inj h
    exact retV S hr hlk hP hD hS dX3_turnTicket_68
set_option maxHeartbeats 4000000 in
set_option maxRecDepth 100000 in
theorem c_X3_turnStacked (l : Launch) (G : gG) (qa qw qt qu qh qd qb : Nat) (sold : Int32) (stk : Int32) (pun : Int32) (fra : Int32) (tur : Int32) (ft : Nat → Int32) (fu : Nat → Int32) (fh : Nat → Int32) (fd : Nat → Int32) (fb : Nat → Int32) (p1 : Int32) (sz : Nat) (res : Int32 × (Nat → Int32) × (Nat → Int32) × (Nat → Int32)) (h : F_X3_turnStacked sold stk tur ft fh fd fb p1 = some res) : WrM l G yX3_turnStacked cX3_turnStacked 3 none (rmk 5 117) [(qa, .inr (3, [.ref qw, .ref qh, .ref qd, .ref qb, .int sold, .int stk, .int pun, .int fra, .int tur])), (qw, .inr (1, [.ref qt, .ref qu])), (qt, .inl (G.2.2.1, 24, .inl ft)), (qu, .inl (G.2.2.1, 24, .inl fu)), (qh, .inl (G.2.2.1, 12, .inl fh)), (qd, .inl (G.2.2.1, 12, .inl fd)), (qb, .inl (G.2.2.1, 12, .inl fb))] sz [.ref qa, .int p1] none [(qa, .inr (3, [.ref qw, .ref qh, .ref qd, .ref qb, .int sold, .int stk, .int pun, .int fra, .int res.1])), (qw, .inr (1, [.ref qt, .ref qu])), (qt, .inl (G.2.2.1, 24, .inl ft)), (qu, .inl (G.2.2.1, 24, .inl fu)), (qh, .inl (G.2.2.1, 12, .inl res.2.1)), (qd, .inl (G.2.2.1, 12, .inl res.2.2.1)), (qb, .inl (G.2.2.1, 12, .inl res.2.2.2))] := by
  refine ofWr (by decide) (Nat.le_of_ble_eq_true rfl) ?_
  intro p e s m below meth c ls A S hr hlk hK hP hD hS hA hl
  have S : CallFix p m c cX3_turnStacked 3 s ([.ref qa, .int p1] : List Value).toArray T0 RX3 := S
  obtain ⟨hx, hb, hml, hown, hts⟩ := id S
  have hl : lv_has ls 3 [(0, .ref qa), (1, .int p1)] := hl
  have L2 : ∀ (n : Nat) (x1 x2 : Int32) (tur : Int32) (fh : Nat → Int32) (fd : Nat → Int32) (fb : Nat → Int32), F_X3_turnStacked_2 sold stk ft n x1 x2 tur fh fd fb = some res → ∀ (H : Heap) (locs : List Loc), va_P G.1 vwCl [(qa, .inr (3, [.ref qw, .ref qh, .ref qd, .ref qb, .int sold, .int stk, .int pun, .int fra, .int tur])), (qw, .inr (1, [.ref qt, .ref qu])), (qt, .inl (G.2.2.1, 24, .inl ft)), (qu, .inl (G.2.2.1, 24, .inl fu)), (qh, .inl (G.2.2.1, 12, .inl fh)), (qd, .inl (G.2.2.1, 12, .inl fd)), (qb, .inl (G.2.2.1, 12, .inl fb))] H → va_D A [(qa, .inr (3, [.ref qw, .ref qh, .ref qd, .ref qb, .int sold, .int stk, .int pun, .int fra, .int tur])), (qw, .inr (1, [.ref qt, .ref qu])), (qt, .inl (G.2.2.1, 24, .inl ft)), (qu, .inl (G.2.2.1, 24, .inl fu)), (qh, .inl (G.2.2.1, 12, .inl fh)), (qd, .inl (G.2.2.1, 12, .inl fd)), (qb, .inl (G.2.2.1, 12, .inl fb))] → va_S A s.heap H locs → ∀ (ls : Array Slot), lv_has ls 3 [(0, .ref qa), (1, .int x1), (2, .int x2)] → W p l e (rmk 5 117) s m ([.ref qa, .int p1] : List Value).toArray below meth c H locs 0 0 (MQ below (gQw G none [(qa, .inr (3, [.ref qw, .ref qh, .ref qd, .ref qb, .int sold, .int stk, .int pun, .int fra, .int res.1])), (qw, .inr (1, [.ref qt, .ref qu])), (qt, .inl (G.2.2.1, 24, .inl ft)), (qu, .inl (G.2.2.1, 24, .inl fu)), (qh, .inl (G.2.2.1, 12, .inl res.2.1)), (qd, .inl (G.2.2.1, 12, .inl res.2.2.1)), (qb, .inl (G.2.2.1, 12, .inl res.2.2.2))] A) ([.ref qa, .int p1] : List Value).toArray s 0 0 A) (F0 m 2 ls []) := by
    intro n
    induction n with
    | zero => intro x1 x2 tur fh fd fb h; exact absurd (show (none : Option (Int32 × (Nat → Int32) × (Nat → Int32) × (Nat → Int32))) = some res from h) (fun q => by cases q)
    | succ n ih =>
      intro x1 x2 tur fh fd fb h H locs hP hD hS ls hl
      rw [F_X3_turnStacked_2] at h
      refine lv_iload_n hx hb dX3_turnStacked_2 rfl (lv_at hl 2 rfl) ?_
      refine lv_bipush (v := 12) hx hb dX3_turnStacked_3 (by decide) ?_
      refine lv_icmp_ge (tgt := 31) hx hb dX3_turnStacked_5 (by decide) (fun c1 => ?_) (fun c1 => ?_)
      · replace h := if_t c1 h
        obtain rfl := Option.some.inj h
        exact retV S hr hlk hP hD hS dX3_turnStacked_31
      · replace h := if_f c1 h
        refine lv_aload_n hx hb dX3_turnStacked_8 rfl (lv_at hl 0 rfl) ?_
        refine gf S hK iX3 hP 0 rfl rfl 5 (by decide) q55 rfl dX3_turnStacked_9 ?_
        refine lv_iload_n hx hb dX3_turnStacked_12 rfl (lv_at hl 2 rfl) ?_
        obtain ⟨r2, hr2, h⟩ := bd_t h
        refine rdN (As := [.int stk, .int x2]) (rest := []) S hK (c_X4_has l G stk x2 r2 hr2) mX4_has 7 rfl ⟨rfl, rfl, Nat.le_of_ble_eq_true rfl, Nat.le_of_ble_eq_true rfl⟩ (ws_nil G.1 _) rfl hl.1 (Nat.le_of_ble_eq_true rfl) ⟨Nat.le_refl 0, Nat.le_refl 0⟩ dX3_turnStacked_13 ?_
        refine lv_if_eq (tgt := 25) hx hb dX3_turnStacked_16 (by decide) (fun c3 => ?_) (fun c3 => ?_)
        · replace h := if_t c3 h
          refine lv_iinc (v := x2 + 1) (lv' := [(2, .int (x2 + 1)), (0, .ref qa), (1, .int x1)]) hx hb dX3_turnStacked_25 hl (k := 2) rfl rfl (by decide) rfl (fun ls hl => ?_)
          refine lv_goto (tgt := 2) hx hb dX3_turnStacked_28 (by decide) ?_
          exact ih x1 (x2 + 1) tur fh fd fb h _ _ hP hD hS ls (lv_sub hl [1, 2, 0] rfl)
        · replace h := if_f c3 h
          refine lv_aload_n hx hb dX3_turnStacked_19 rfl (lv_at hl 0 rfl) ?_
          refine lv_iload_n hx hb dX3_turnStacked_20 rfl (lv_at hl 2 rfl) ?_
          refine lv_iload_n hx hb dX3_turnStacked_21 rfl (lv_at hl 1 rfl) ?_
          obtain ⟨r4, hr4, h⟩ := bd_t h
          refine wrV (As := [.int x2, .int x1]) (rest := []) (ws := [(qa, .inr (3, [.ref qw, .ref qh, .ref qd, .ref qb, .int sold, .int stk, .int pun, .int fra, .int tur])), (qw, .inr (1, [.ref qt, .ref qu])), (qt, .inl (G.2.2.1, 24, .inl ft)), (qu, .inl (G.2.2.1, 24, .inl fu)), (qh, .inl (G.2.2.1, 12, .inl fh)), (qd, .inl (G.2.2.1, 12, .inl fd)), (qb, .inl (G.2.2.1, 12, .inl fb))]) (wr := []) (ws' := [(qa, .inr (3, [.ref qw, .ref qh, .ref qd, .ref qb, .int sold, .int stk, .int pun, .int fra, .int r4.1])), (qw, .inr (1, [.ref qt, .ref qu])), (qt, .inl (G.2.2.1, 24, .inl ft)), (qu, .inl (G.2.2.1, 24, .inl fu)), (qh, .inl (G.2.2.1, 12, .inl r4.2.1)), (qd, .inl (G.2.2.1, 12, .inl r4.2.2.1)), (qb, .inl (G.2.2.1, 12, .inl r4.2.2.2))]) (ws1 := [(qa, .inr (3, [.ref qw, .ref qh, .ref qd, .ref qb, .int sold, .int stk, .int pun, .int fra, .int r4.1])), (qw, .inr (1, [.ref qt, .ref qu])), (qt, .inl (G.2.2.1, 24, .inl ft)), (qu, .inl (G.2.2.1, 24, .inl fu)), (qh, .inl (G.2.2.1, 12, .inl r4.2.1)), (qd, .inl (G.2.2.1, 12, .inl r4.2.2.1)), (qb, .inl (G.2.2.1, 12, .inl r4.2.2.2))]) S hK (c_X3_turnTicket l G qa qw qt qu qh qd qb sold stk pun fra tur ft fu fh fd fb x2 x1 _ r4 hr4) mX3_turnTicket q287 ⟨rfl, rfl, Nat.le_of_ble_eq_true rfl, Nat.le_of_ble_eq_true rfl⟩ hP hD hS hA [0, 1, 2, 3, 4, 5, 6] [] [0, 1, 2, 3, 4, 5, 6] rfl rfl (by decide) (by decide) (by decide) rfl (by decide) rfl rfl rfl rfl hl.1 (Nat.le_of_ble_eq_true rfl) ⟨Nat.le_refl 0, Nat.le_refl 0⟩ dX3_turnStacked_22 (fun H locs hP hD hS => ?_)
          refine lv_iinc (v := x2 + 1) (lv' := [(2, .int (x2 + 1)), (0, .ref qa), (1, .int x1)]) hx hb dX3_turnStacked_25 hl (k := 2) rfl rfl (by decide) rfl (fun ls hl => ?_)
          refine lv_goto (tgt := 2) hx hb dX3_turnStacked_28 (by decide) ?_
          exact ih x1 (x2 + 1) r4.1 r4.2.1 r4.2.2.1 r4.2.2.2 h _ _ hP hD hS ls (lv_sub hl [1, 2, 0] rfl)
  rw [F_X3_turnStacked] at h
  refine lv_iconst (v := 0) hx hb dX3_turnStacked_0 (by decide) ?_
  refine lv_istore_n (lv' := [(2, .int 0), (0, .ref qa), (1, .int p1)]) hx hb dX3_turnStacked_1 rfl hl (by decide) rfl (fun ls hl => ?_)
  exact L2 10000 p1 0 tur fh fd fb h _ _ hP hD hS ls (lv_sub hl [1, 2, 0] rfl)
