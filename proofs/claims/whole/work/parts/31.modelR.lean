set_option maxHeartbeats 4000000 in
set_option maxRecDepth 100000 in
theorem c_X5_isTicket (l : Launch) (G : gG) (mqa mqs mqp mqn mqx mqm : Nat) (pas : Int32) (misk : Int32) (len : Int32) (spo : Int32) (kin : Int32) (cam : Int32) (fst : Int32) (lst : Int32) (inr : Int32) (fs : Nat → Int32) (fp : Nat → Int32) (fn : Nat → Int32) (fx : Nat → Int32) (fm : Nat → Int32) (p1 : Int32) (res : Int32) (h : F_X5_isTicket fs p1 = some res) : RdM l G yX5_isTicket cX5_isTicket 2 .boolean (rmk 1 22) [(mqa, .inr (5, [.ref mqs, .ref mqp, .int pas, .ref mqn, .int misk, .ref mqx, .int len, .ref mqm, .int spo, .int kin, .int cam, .int fst, .int lst, .int inr])), (mqs, .inl (G.2.2.1, 65, .inl fs)), (mqp, .inl (G.2.2.1, 260, .inl fp)), (mqn, .inl (G.2.2.1, 65, .inl fn)), (mqx, .inl (G.2.1, 80, .inl fx)), (mqm, .inl (G.2.2.1, 24, .inl fm))] [.ref mqa, .int p1] res := by
  refine ofR (by decide) (Nat.le_of_ble_eq_true rfl) ?_
  intro p e s m below meth c ls S hr hlk hK hP hl
  have S : CallFix p m c cX5_isTicket 2 s ([.ref mqa, .int p1] : List Value).toArray T0 RX5 := S
  obtain ⟨hx, hb, hml, hown, hts⟩ := id S
  have hl : lv_has ls 2 [(0, .ref mqa), (1, .int p1)] := hl
  rw [F_X5_isTicket] at h
  refine lv_iload_n hx hb dX5_isTicket_0 rfl (lv_at hl 1 rfl) ?_
  refine lv_iconst (v := 0) hx hb dX5_isTicket_1 (by decide) ?_
  refine lv_aload_n hx hb dX5_isTicket_2 rfl (lv_at hl 0 rfl) ?_
  refine gf S hK iX5 hP 0 rfl rfl 0 (by decide) q636 rfl dX5_isTicket_3 ?_
  refine lv_bipush (v := 24) hx hb dX5_isTicket_6 (by decide) ?_
  obtain ⟨k1, h⟩ := ck_t h
  refine ald S hK hP 1 rfl (ok_vp k1) dX5_isTicket_8 ?_
  refine lv_iconst (v := 1) hx hb dX5_isTicket_9 (by decide) ?_
  refine lv_isub hx hb dX5_isTicket_10 ?_
  obtain ⟨r2, hr2, h⟩ := bd_t h
  refine rdS (As := [.int p1, .int 0, .int ((fs (Int32.toNatClampNeg (24 : Int32))) - 1)]) (rest := []) S hK (c_X5_in l G p1 0 ((fs (Int32.toNatClampNeg (24 : Int32))) - 1) r2 hr2) mX5_in q686 ⟨rfl, rfl, Nat.le_of_ble_eq_true rfl, Nat.le_of_ble_eq_true rfl⟩ (ws_nil G.1 _) rfl hl.1 (Nat.le_of_ble_eq_true rfl) ⟨Nat.le_refl 0, Nat.le_refl 0⟩ dX5_isTicket_11 ?_
  obtain rfl := Option.some.inj h
  exact retR S hr hlk (nb_in hr2) rfl dX5_isTicket_14
set_option maxHeartbeats 4000000 in
set_option maxRecDepth 100000 in
theorem c_X5_longOf (l : Launch) (G : gG) (mqa mqs mqp mqn mqx mqm : Nat) (pas : Int32) (misk : Int32) (len : Int32) (spo : Int32) (kin : Int32) (cam : Int32) (fst : Int32) (lst : Int32) (inr : Int32) (fs : Nat → Int32) (fp : Nat → Int32) (fn : Nat → Int32) (fx : Nat → Int32) (fm : Nat → Int32) (p1 : Int32) (res : Int32) (h : F_X5_longOf fs p1 = some res) : RdM l G yX5_longOf cX5_longOf 4 .int (rmk 0 0) [(mqa, .inr (5, [.ref mqs, .ref mqp, .int pas, .ref mqn, .int misk, .ref mqx, .int len, .ref mqm, .int spo, .int kin, .int cam, .int fst, .int lst, .int inr])), (mqs, .inl (G.2.2.1, 65, .inl fs)), (mqp, .inl (G.2.2.1, 260, .inl fp)), (mqn, .inl (G.2.2.1, 65, .inl fn)), (mqx, .inl (G.2.1, 80, .inl fx)), (mqm, .inl (G.2.2.1, 24, .inl fm))] [.ref mqa, .int p1] res := by
  refine ofR (by decide) (Nat.le_of_ble_eq_true rfl) ?_
  intro p e s m below meth c ls S hr hlk hK hP hl
  have S : CallFix p m c cX5_longOf 4 s ([.ref mqa, .int p1] : List Value).toArray T0 RX5 := S
  obtain ⟨hx, hb, hml, hown, hts⟩ := id S
  have hl : lv_has ls 4 [(0, .ref mqa), (1, .int p1)] := hl
  have L11 : ∀ (n : Nat) (x1 x2 x3 : Int32), F_X5_longOf_11 fs n x1 x2 x3 = some res → ∀ (ls : Array Slot), lv_has ls 4 [(0, .ref mqa), (1, .int x1), (2, .int x2), (3, .int x3)] → W p l e (rmk 0 0) s m ([.ref mqa, .int p1] : List Value).toArray below meth c s.heap [] 0 0 (MQ below (vp_Si (fun x => x = res)) ([.ref mqa, .int p1] : List Value).toArray s 0 0 (fun _ => False)) (F0 m 11 ls []) := by
    intro n
    induction n with
    | zero => intro x1 x2 x3 h; exact absurd (show (none : Option (Int32)) = some res from h) (fun q => by cases q)
    | succ n ih =>
      intro x1 x2 x3 h ls hl
      rw [F_X5_longOf_11] at h
      refine lv_iload_n hx hb dX5_longOf_11 rfl (lv_at hl 3 rfl) ?_
      refine lv_iload_n hx hb dX5_longOf_12 rfl (lv_at hl 1 rfl) ?_
      refine lv_icmp_eq (tgt := 31) hx hb dX5_longOf_13 (by decide) (fun c2 => ?_) (fun c2 => ?_)
      · replace h := if_t c2 h
        refine lv_iload_n hx hb dX5_longOf_31 rfl (lv_at hl 2 rfl) ?_
        obtain rfl := Option.some.inj h
        exact retR S hr hlk rfl rfl dX5_longOf_32
      · replace h := if_f c2 h
        refine lv_iinc (v := x2 + 1) (lv' := [(2, .int (x2 + 1)), (0, .ref mqa), (1, .int x1), (3, .int x3)]) hx hb dX5_longOf_16 hl (k := 2) rfl rfl (by decide) rfl (fun ls hl => ?_)
        refine lv_aload_n hx hb dX5_longOf_19 rfl (lv_at hl 1 rfl) ?_
        refine gf S hK iX5 hP 0 rfl rfl 0 (by decide) q636 rfl dX5_longOf_20 ?_
        refine lv_iconst (v := 0) hx hb dX5_longOf_23 (by decide) ?_
        refine lv_iload_n hx hb dX5_longOf_24 rfl (lv_at hl 3 rfl) ?_
        refine lv_iadd hx hb dX5_longOf_25 ?_
        obtain ⟨k3, h⟩ := ck_t h
        refine ald S hK hP 1 rfl (ok_vp k3) dX5_longOf_26 ?_
        refine lv_istore_n (lv' := [(3, .int (fs (Int32.toNatClampNeg ((0 : Int32) + x3)))), (2, .int (x2 + 1)), (0, .ref mqa), (1, .int x1)]) hx hb dX5_longOf_27 rfl hl (by decide) rfl (fun ls hl => ?_)
        refine lv_goto (tgt := 11) hx hb dX5_longOf_28 (by decide) ?_
        exact ih x1 (x2 + 1) (fs (Int32.toNatClampNeg ((0 : Int32) + x3)))  h ls (lv_sub hl [2, 3, 1, 0] rfl)
  rw [F_X5_longOf] at h
  refine lv_iconst (v := 1) hx hb dX5_longOf_0 (by decide) ?_
  refine lv_istore_n (lv' := [(2, .int 1), (0, .ref mqa), (1, .int p1)]) hx hb dX5_longOf_1 rfl hl (by decide) rfl (fun ls hl => ?_)
  refine lv_aload_n hx hb dX5_longOf_2 rfl (lv_at hl 1 rfl) ?_
  refine gf S hK iX5 hP 0 rfl rfl 0 (by decide) q636 rfl dX5_longOf_3 ?_
  refine lv_iconst (v := 0) hx hb dX5_longOf_6 (by decide) ?_
  refine lv_iload_n hx hb dX5_longOf_7 rfl (lv_at hl 2 rfl) ?_
  refine lv_iadd hx hb dX5_longOf_8 ?_
  obtain ⟨k1, h⟩ := ck_t h
  refine ald S hK hP 1 rfl (ok_vp k1) dX5_longOf_9 ?_
  refine lv_istore_n (lv' := [(3, .int (fs (Int32.toNatClampNeg ((0 : Int32) + p1)))), (2, .int 1), (0, .ref mqa), (1, .int p1)]) hx hb dX5_longOf_10 rfl hl (by decide) rfl (fun ls hl => ?_)
  exact L11 10000 p1 1 (fs (Int32.toNatClampNeg ((0 : Int32) + p1)))  h ls (lv_sub hl [2, 3, 1, 0] rfl)
set_option maxHeartbeats 4000000 in
set_option maxRecDepth 100000 in
theorem c_X5_lowestOf (l : Launch) (G : gG) (mqa mqs mqp mqn mqx mqm : Nat) (pas : Int32) (misk : Int32) (len : Int32) (spo : Int32) (kin : Int32) (cam : Int32) (fst : Int32) (lst : Int32) (inr : Int32) (fs : Nat → Int32) (fp : Nat → Int32) (fn : Nat → Int32) (fx : Nat → Int32) (fm : Nat → Int32) (p1 : Int32) (res : Int32) (h : F_X5_lowestOf fs p1 = some res) : RdM l G yX5_lowestOf cX5_lowestOf 4 .int (rmk 0 0) [(mqa, .inr (5, [.ref mqs, .ref mqp, .int pas, .ref mqn, .int misk, .ref mqx, .int len, .ref mqm, .int spo, .int kin, .int cam, .int fst, .int lst, .int inr])), (mqs, .inl (G.2.2.1, 65, .inl fs)), (mqp, .inl (G.2.2.1, 260, .inl fp)), (mqn, .inl (G.2.2.1, 65, .inl fn)), (mqx, .inl (G.2.1, 80, .inl fx)), (mqm, .inl (G.2.2.1, 24, .inl fm))] [.ref mqa, .int p1] res := by
  refine ofR (by decide) (Nat.le_of_ble_eq_true rfl) ?_
  intro p e s m below meth c ls S hr hlk hK hP hl
  have S : CallFix p m c cX5_lowestOf 4 s ([.ref mqa, .int p1] : List Value).toArray T0 RX5 := S
  obtain ⟨hx, hb, hml, hown, hts⟩ := id S
  have hl : lv_has ls 4 [(0, .ref mqa), (1, .int p1)] := hl
  have L11 : ∀ (n : Nat) (x1 x2 x3 : Int32), F_X5_lowestOf_11 fs n x1 x2 x3 = some res → ∀ (ls : Array Slot), lv_has ls 4 [(0, .ref mqa), (1, .int x1), (2, .int x2), (3, .int x3)] → W p l e (rmk 0 0) s m ([.ref mqa, .int p1] : List Value).toArray below meth c s.heap [] 0 0 (MQ below (vp_Si (fun x => x = res)) ([.ref mqa, .int p1] : List Value).toArray s 0 0 (fun _ => False)) (F0 m 11 ls []) := by
    intro n
    induction n with
    | zero => intro x1 x2 x3 h; exact absurd (show (none : Option (Int32)) = some res from h) (fun q => by cases q)
    | succ n ih =>
      intro x1 x2 x3 h ls hl
      rw [F_X5_lowestOf_11] at h
      refine lv_iload_n hx hb dX5_lowestOf_11 rfl (lv_at hl 3 rfl) ?_
      refine lv_iload_n hx hb dX5_lowestOf_12 rfl (lv_at hl 1 rfl) ?_
      refine lv_icmp_eq (tgt := 39) hx hb dX5_lowestOf_13 (by decide) (fun c2 => ?_) (fun c2 => ?_)
      · replace h := if_t c2 h
        refine lv_iload_n hx hb dX5_lowestOf_39 rfl (lv_at hl 2 rfl) ?_
        obtain rfl := Option.some.inj h
        exact retR S hr hlk rfl rfl dX5_lowestOf_40
      · replace h := if_f c2 h
        refine lv_iload_n hx hb dX5_lowestOf_16 rfl (lv_at hl 3 rfl) ?_
        refine lv_iload_n hx hb dX5_lowestOf_17 rfl (lv_at hl 2 rfl) ?_
        refine lv_icmp_ge (tgt := 25) hx hb dX5_lowestOf_18 (by decide) (fun c3 => ?_) (fun c3 => ?_)
        · replace h := if_t c3 h
          refine lv_iload_n hx hb dX5_lowestOf_25 rfl (lv_at hl 2 rfl) ?_
          refine lv_istore_n (lv' := [(2, .int x2), (0, .ref mqa), (1, .int x1), (3, .int x3)]) hx hb dX5_lowestOf_26 rfl hl (by decide) rfl (fun ls hl => ?_)
          refine lv_aload_n hx hb dX5_lowestOf_27 rfl (lv_at hl 1 rfl) ?_
          refine gf S hK iX5 hP 0 rfl rfl 0 (by decide) q636 rfl dX5_lowestOf_28 ?_
          refine lv_iconst (v := 0) hx hb dX5_lowestOf_31 (by decide) ?_
          refine lv_iload_n hx hb dX5_lowestOf_32 rfl (lv_at hl 3 rfl) ?_
          refine lv_iadd hx hb dX5_lowestOf_33 ?_
          obtain ⟨k4, h⟩ := ck_t h
          refine ald S hK hP 1 rfl (ok_vp k4) dX5_lowestOf_34 ?_
          refine lv_istore_n (lv' := [(3, .int (fs (Int32.toNatClampNeg ((0 : Int32) + x3)))), (2, .int x2), (0, .ref mqa), (1, .int x1)]) hx hb dX5_lowestOf_35 rfl hl (by decide) rfl (fun ls hl => ?_)
          refine lv_goto (tgt := 11) hx hb dX5_lowestOf_36 (by decide) ?_
          exact ih x1 x2 (fs (Int32.toNatClampNeg ((0 : Int32) + x3)))  h ls (lv_sub hl [2, 3, 1, 0] rfl)
        · replace h := if_f c3 h
          refine lv_iload_n hx hb dX5_lowestOf_21 rfl (lv_at hl 3 rfl) ?_
          refine lv_goto (tgt := 26) hx hb dX5_lowestOf_22 (by decide) ?_
          refine lv_istore_n (lv' := [(2, .int x3), (0, .ref mqa), (1, .int x1), (3, .int x3)]) hx hb dX5_lowestOf_26 rfl hl (by decide) rfl (fun ls hl => ?_)
          refine lv_aload_n hx hb dX5_lowestOf_27 rfl (lv_at hl 1 rfl) ?_
          refine gf S hK iX5 hP 0 rfl rfl 0 (by decide) q636 rfl dX5_lowestOf_28 ?_
          refine lv_iconst (v := 0) hx hb dX5_lowestOf_31 (by decide) ?_
          refine lv_iload_n hx hb dX5_lowestOf_32 rfl (lv_at hl 3 rfl) ?_
          refine lv_iadd hx hb dX5_lowestOf_33 ?_
          obtain ⟨k5, h⟩ := ck_t h
          refine ald S hK hP 1 rfl (ok_vp k5) dX5_lowestOf_34 ?_
          refine lv_istore_n (lv' := [(3, .int (fs (Int32.toNatClampNeg ((0 : Int32) + x3)))), (2, .int x3), (0, .ref mqa), (1, .int x1)]) hx hb dX5_lowestOf_35 rfl hl (by decide) rfl (fun ls hl => ?_)
          refine lv_goto (tgt := 11) hx hb dX5_lowestOf_36 (by decide) ?_
          exact ih x1 x3 (fs (Int32.toNatClampNeg ((0 : Int32) + x3)))  h ls (lv_sub hl [2, 3, 1, 0] rfl)
  rw [F_X5_lowestOf] at h
  refine lv_iload_n hx hb dX5_lowestOf_0 rfl (lv_at hl 1 rfl) ?_
  refine lv_istore_n (lv' := [(2, .int p1), (0, .ref mqa), (1, .int p1)]) hx hb dX5_lowestOf_1 rfl hl (by decide) rfl (fun ls hl => ?_)
  refine lv_aload_n hx hb dX5_lowestOf_2 rfl (lv_at hl 1 rfl) ?_
  refine gf S hK iX5 hP 0 rfl rfl 0 (by decide) q636 rfl dX5_lowestOf_3 ?_
  refine lv_iconst (v := 0) hx hb dX5_lowestOf_6 (by decide) ?_
  refine lv_iload_n hx hb dX5_lowestOf_7 rfl (lv_at hl 2 rfl) ?_
  refine lv_iadd hx hb dX5_lowestOf_8 ?_
  obtain ⟨k1, h⟩ := ck_t h
  refine ald S hK hP 1 rfl (ok_vp k1) dX5_lowestOf_9 ?_
  refine lv_istore_n (lv' := [(3, .int (fs (Int32.toNatClampNeg ((0 : Int32) + p1)))), (2, .int p1), (0, .ref mqa), (1, .int p1)]) hx hb dX5_lowestOf_10 rfl hl (by decide) rfl (fun ls hl => ?_)
  exact L11 10000 p1 p1 (fs (Int32.toNatClampNeg ((0 : Int32) + p1)))  h ls (lv_sub hl [2, 3, 1, 0] rfl)
set_option maxHeartbeats 4000000 in
set_option maxRecDepth 100000 in
theorem c_X5_roundOf (l : Launch) (G : gG) (mqa mqs mqp mqn mqx mqm : Nat) (pas : Int32) (misk : Int32) (len : Int32) (spo : Int32) (kin : Int32) (cam : Int32) (fst : Int32) (lst : Int32) (inr : Int32) (fs : Nat → Int32) (fp : Nat → Int32) (fn : Nat → Int32) (fx : Nat → Int32) (fm : Nat → Int32) (p1 : Int32) (res : Int32) (h : F_X5_roundOf fs p1 = some res) : RdM l G yX5_roundOf cX5_roundOf 4 .int (rmk 0 0) [(mqa, .inr (5, [.ref mqs, .ref mqp, .int pas, .ref mqn, .int misk, .ref mqx, .int len, .ref mqm, .int spo, .int kin, .int cam, .int fst, .int lst, .int inr])), (mqs, .inl (G.2.2.1, 65, .inl fs)), (mqp, .inl (G.2.2.1, 260, .inl fp)), (mqn, .inl (G.2.2.1, 65, .inl fn)), (mqx, .inl (G.2.1, 80, .inl fx)), (mqm, .inl (G.2.2.1, 24, .inl fm))] [.ref mqa, .int p1] res := by
  refine ofR (by decide) (Nat.le_of_ble_eq_true rfl) ?_
  intro p e s m below meth c ls S hr hlk hK hP hl
  have S : CallFix p m c cX5_roundOf 4 s ([.ref mqa, .int p1] : List Value).toArray T0 RX5 := S
  obtain ⟨hx, hb, hml, hown, hts⟩ := id S
  have hl : lv_has ls 4 [(0, .ref mqa), (1, .int p1)] := hl
  have L13 : ∀ (n : Nat) (x1 x2 x3 : Int32), F_X5_roundOf_13 fs n x1 x2 x3 = some res → ∀ (ls : Array Slot), lv_has ls 4 [(0, .ref mqa), (1, .int x1), (2, .int x2), (3, .int x3)] → W p l e (rmk 0 0) s m ([.ref mqa, .int p1] : List Value).toArray below meth c s.heap [] 0 0 (MQ below (vp_Si (fun x => x = res)) ([.ref mqa, .int p1] : List Value).toArray s 0 0 (fun _ => False)) (F0 m 13 ls []) := by
    intro n
    induction n with
    | zero => intro x1 x2 x3 h; exact absurd (show (none : Option (Int32)) = some res from h) (fun q => by cases q)
    | succ n ih =>
      intro x1 x2 x3 h ls hl
      rw [F_X5_roundOf_13] at h
      refine lv_iload_n hx hb dX5_roundOf_13 rfl (lv_at hl 3 rfl) ?_
      refine lv_iload_n hx hb dX5_roundOf_14 rfl (lv_at hl 1 rfl) ?_
      refine lv_icmp_eq (tgt := 36) hx hb dX5_roundOf_15 (by decide) (fun c2 => ?_) (fun c2 => ?_)
      · replace h := if_t c2 h
        refine lv_iload_n hx hb dX5_roundOf_36 rfl (lv_at hl 2 rfl) ?_
        obtain rfl := Option.some.inj h
        exact retR S hr hlk rfl rfl dX5_roundOf_37
      · replace h := if_f c2 h
        refine lv_iload_n hx hb dX5_roundOf_18 rfl (lv_at hl 2 rfl) ?_
        refine lv_iconst (v := 1) hx hb dX5_roundOf_19 (by decide) ?_
        refine lv_iload_n hx hb dX5_roundOf_20 rfl (lv_at hl 3 rfl) ?_
        refine lv_ishl hx hb dX5_roundOf_21 ?_
        refine lv_ior hx hb dX5_roundOf_22 ?_
        refine lv_istore_n (lv' := [(2, .int (x2 ||| ((1 : Int32) <<< (x3 &&& 31)))), (0, .ref mqa), (1, .int x1), (3, .int x3)]) hx hb dX5_roundOf_23 rfl hl (by decide) rfl (fun ls hl => ?_)
        refine lv_aload_n hx hb dX5_roundOf_24 rfl (lv_at hl 1 rfl) ?_
        refine gf S hK iX5 hP 0 rfl rfl 0 (by decide) q636 rfl dX5_roundOf_25 ?_
        refine lv_iconst (v := 0) hx hb dX5_roundOf_28 (by decide) ?_
        refine lv_iload_n hx hb dX5_roundOf_29 rfl (lv_at hl 3 rfl) ?_
        refine lv_iadd hx hb dX5_roundOf_30 ?_
        obtain ⟨k3, h⟩ := ck_t h
        refine ald S hK hP 1 rfl (ok_vp k3) dX5_roundOf_31 ?_
        refine lv_istore_n (lv' := [(3, .int (fs (Int32.toNatClampNeg ((0 : Int32) + x3)))), (2, .int (x2 ||| ((1 : Int32) <<< (x3 &&& 31)))), (0, .ref mqa), (1, .int x1)]) hx hb dX5_roundOf_32 rfl hl (by decide) rfl (fun ls hl => ?_)
        refine lv_goto (tgt := 13) hx hb dX5_roundOf_33 (by decide) ?_
        exact ih x1 (x2 ||| ((1 : Int32) <<< (x3 &&& 31))) (fs (Int32.toNatClampNeg ((0 : Int32) + x3)))  h ls (lv_sub hl [2, 3, 1, 0] rfl)
  rw [F_X5_roundOf] at h
  refine lv_iconst (v := 1) hx hb dX5_roundOf_0 (by decide) ?_
  refine lv_iload_n hx hb dX5_roundOf_1 rfl (lv_at hl 1 rfl) ?_
  refine lv_ishl hx hb dX5_roundOf_2 ?_
  refine lv_istore_n (lv' := [(2, .int ((1 : Int32) <<< (p1 &&& 31))), (0, .ref mqa), (1, .int p1)]) hx hb dX5_roundOf_3 rfl hl (by decide) rfl (fun ls hl => ?_)
  refine lv_aload_n hx hb dX5_roundOf_4 rfl (lv_at hl 1 rfl) ?_
  refine gf S hK iX5 hP 0 rfl rfl 0 (by decide) q636 rfl dX5_roundOf_5 ?_
  refine lv_iconst (v := 0) hx hb dX5_roundOf_8 (by decide) ?_
  refine lv_iload_n hx hb dX5_roundOf_9 rfl (lv_at hl 2 rfl) ?_
  refine lv_iadd hx hb dX5_roundOf_10 ?_
  obtain ⟨k1, h⟩ := ck_t h
  refine ald S hK hP 1 rfl (ok_vp k1) dX5_roundOf_11 ?_
  refine lv_istore_n (lv' := [(3, .int (fs (Int32.toNatClampNeg ((0 : Int32) + p1)))), (2, .int ((1 : Int32) <<< (p1 &&& 31))), (0, .ref mqa), (1, .int p1)]) hx hb dX5_roundOf_12 rfl hl (by decide) rfl (fun ls hl => ?_)
  exact L13 10000 p1 ((1 : Int32) <<< (p1 &&& 31)) (fs (Int32.toNatClampNeg ((0 : Int32) + p1)))  h ls (lv_sub hl [2, 3, 1, 0] rfl)
set_option maxHeartbeats 4000000 in
set_option maxRecDepth 100000 in
theorem c_X5_sourceOf (l : Launch) (G : gG) (mqa mqs mqp mqn mqx mqm : Nat) (pas : Int32) (misk : Int32) (len : Int32) (spo : Int32) (kin : Int32) (cam : Int32) (fst : Int32) (lst : Int32) (inr : Int32) (fs : Nat → Int32) (fp : Nat → Int32) (fn : Nat → Int32) (fx : Nat → Int32) (fm : Nat → Int32) (p1 : Int32) (res : Int32) (h : F_X5_sourceOf fs p1 = some res) : RdM l G yX5_sourceOf cX5_sourceOf 4 .int (rmk 0 0) [(mqa, .inr (5, [.ref mqs, .ref mqp, .int pas, .ref mqn, .int misk, .ref mqx, .int len, .ref mqm, .int spo, .int kin, .int cam, .int fst, .int lst, .int inr])), (mqs, .inl (G.2.2.1, 65, .inl fs)), (mqp, .inl (G.2.2.1, 260, .inl fp)), (mqn, .inl (G.2.2.1, 65, .inl fn)), (mqx, .inl (G.2.1, 80, .inl fx)), (mqm, .inl (G.2.2.1, 24, .inl fm))] [.ref mqa, .int p1] res := by
  refine ofR (by decide) (Nat.le_of_ble_eq_true rfl) ?_
  intro p e s m below meth c ls S hr hlk hK hP hl
  have S : CallFix p m c cX5_sourceOf 4 s ([.ref mqa, .int p1] : List Value).toArray T0 RX5 := S
  obtain ⟨hx, hb, hml, hown, hts⟩ := id S
  have hl : lv_has ls 4 [(0, .ref mqa), (1, .int p1)] := hl
  have L4 : ∀ (n : Nat) (x1 x2 x3 : Int32), F_X5_sourceOf_4 fs n x1 x2 x3 = some res → ∀ (ls : Array Slot), lv_has ls 4 [(0, .ref mqa), (1, .int x1), (2, .int x2), (3, .int x3)] → W p l e (rmk 0 0) s m ([.ref mqa, .int p1] : List Value).toArray below meth c s.heap [] 0 0 (MQ below (vp_Si (fun x => x = res)) ([.ref mqa, .int p1] : List Value).toArray s 0 0 (fun _ => False)) (F0 m 4 ls []) := by
    intro n
    induction n with
    | zero => intro x1 x2 x3 h; exact absurd (show (none : Option (Int32)) = some res from h) (fun q => by cases q)
    | succ n ih =>
      intro x1 x2 x3 h ls hl
      rw [F_X5_sourceOf_4] at h
      refine lv_iload_n hx hb dX5_sourceOf_4 rfl (lv_at hl 3 rfl) ?_
      refine lv_bipush (v := 24) hx hb dX5_sourceOf_5 (by decide) ?_
      refine lv_icmp_ge (tgt := 34) hx hb dX5_sourceOf_7 (by decide) (fun c1 => ?_) (fun c1 => ?_)
      · replace h := if_t c1 h
        refine lv_iload_n hx hb dX5_sourceOf_34 rfl (lv_at hl 2 rfl) ?_
        obtain rfl := Option.some.inj h
        exact retR S hr hlk rfl rfl dX5_sourceOf_35
      · replace h := if_f c1 h
        refine lv_aload_n hx hb dX5_sourceOf_10 rfl (lv_at hl 0 rfl) ?_
        refine gf S hK iX5 hP 0 rfl rfl 0 (by decide) q636 rfl dX5_sourceOf_11 ?_
        refine lv_iconst (v := 0) hx hb dX5_sourceOf_14 (by decide) ?_
        refine lv_iload_n hx hb dX5_sourceOf_15 rfl (lv_at hl 3 rfl) ?_
        refine lv_iadd hx hb dX5_sourceOf_16 ?_
        obtain ⟨k2, h⟩ := ck_t h
        refine ald S hK hP 1 rfl (ok_vp k2) dX5_sourceOf_17 ?_
        refine lv_iload_n hx hb dX5_sourceOf_18 rfl (lv_at hl 1 rfl) ?_
        refine lv_icmp_ne (tgt := 26) hx hb dX5_sourceOf_19 (by decide) (fun c3 => ?_) (fun c3 => ?_)
        · replace h := if_f c3 h
          refine lv_iload_n hx hb dX5_sourceOf_26 rfl (lv_at hl 2 rfl) ?_
          refine lv_istore_n (lv' := [(2, .int x2), (0, .ref mqa), (1, .int x1), (3, .int x3)]) hx hb dX5_sourceOf_27 rfl hl (by decide) rfl (fun ls hl => ?_)
          refine lv_iinc (v := x3 + 1) (lv' := [(3, .int (x3 + 1)), (2, .int x2), (0, .ref mqa), (1, .int x1)]) hx hb dX5_sourceOf_28 hl (k := 3) rfl rfl (by decide) rfl (fun ls hl => ?_)
          refine lv_goto (tgt := 4) hx hb dX5_sourceOf_31 (by decide) ?_
          exact ih x1 x2 (x3 + 1)  h ls (lv_sub hl [2, 3, 1, 0] rfl)
        · replace h := if_t c3 h
          refine lv_iload_n hx hb dX5_sourceOf_22 rfl (lv_at hl 3 rfl) ?_
          refine lv_goto (tgt := 27) hx hb dX5_sourceOf_23 (by decide) ?_
          refine lv_istore_n (lv' := [(2, .int x3), (0, .ref mqa), (1, .int x1), (3, .int x3)]) hx hb dX5_sourceOf_27 rfl hl (by decide) rfl (fun ls hl => ?_)
          refine lv_iinc (v := x3 + 1) (lv' := [(3, .int (x3 + 1)), (2, .int x3), (0, .ref mqa), (1, .int x1)]) hx hb dX5_sourceOf_28 hl (k := 3) rfl rfl (by decide) rfl (fun ls hl => ?_)
          refine lv_goto (tgt := 4) hx hb dX5_sourceOf_31 (by decide) ?_
          exact ih x1 x3 (x3 + 1)  h ls (lv_sub hl [2, 3, 1, 0] rfl)
  rw [F_X5_sourceOf] at h
  refine lv_iconst (v := 0) hx hb dX5_sourceOf_0 (by decide) ?_
  refine lv_istore_n (lv' := [(2, .int 0), (0, .ref mqa), (1, .int p1)]) hx hb dX5_sourceOf_1 rfl hl (by decide) rfl (fun ls hl => ?_)
  refine lv_iconst (v := 0) hx hb dX5_sourceOf_2 (by decide) ?_
  refine lv_istore_n (lv' := [(3, .int 0), (2, .int 0), (0, .ref mqa), (1, .int p1)]) hx hb dX5_sourceOf_3 rfl hl (by decide) rfl (fun ls hl => ?_)
  exact L4 10000 p1 0 0  h ls (lv_sub hl [2, 3, 1, 0] rfl)
set_option maxHeartbeats 4000000 in
set_option maxRecDepth 100000 in
theorem c_X5_order (l : Launch) (G : gG) (mqa mqs mqp mqn mqx mqm : Nat) (pas : Int32) (misk : Int32) (len : Int32) (spo : Int32) (kin : Int32) (cam : Int32) (fst : Int32) (lst : Int32) (inr : Int32) (fs : Nat → Int32) (fp : Nat → Int32) (fn : Nat → Int32) (fx : Nat → Int32) (fm : Nat → Int32) (res : Int32) (h : F_X5_order fs = some res) : RdM l G yX5_order cX5_order 5 .int (rmk 1 23) [(mqa, .inr (5, [.ref mqs, .ref mqp, .int pas, .ref mqn, .int misk, .ref mqx, .int len, .ref mqm, .int spo, .int kin, .int cam, .int fst, .int lst, .int inr])), (mqs, .inl (G.2.2.1, 65, .inl fs)), (mqp, .inl (G.2.2.1, 260, .inl fp)), (mqn, .inl (G.2.2.1, 65, .inl fn)), (mqx, .inl (G.2.1, 80, .inl fx)), (mqm, .inl (G.2.2.1, 24, .inl fm))] [.ref mqa] res := by
  refine ofR (by decide) (Nat.le_of_ble_eq_true rfl) ?_
  intro p e s m below meth c ls S hr hlk hK hP hl
  have S : CallFix p m c cX5_order 5 s ([.ref mqa] : List Value).toArray T0 RX5 := S
  obtain ⟨hx, hb, hml, hown, hts⟩ := id S
  have hl : lv_has ls 5 [(0, .ref mqa)] := hl
  have L19 : ∀ (n : Nat) (x4 x3 x1 x2 z : Int32), F_X5_order_19 fs n x4 x3 x1 x2 = some z → ∀ (ls : Array Slot), lv_has ls 5 [(4, .int x4), (3, .int x3), (0, .ref mqa), (1, .int x1), (2, .int x2)] → (∀ (ls : Array Slot), lv_has ls 5 [(4, .int z), (3, .int x3), (0, .ref mqa), (1, .int x1), (2, .int x2)] → W p l e (rmk 1 23) s m ([.ref mqa] : List Value).toArray below meth c s.heap [] 0 0 (MQ below (vp_Si (fun x => x = res)) ([.ref mqa] : List Value).toArray s 0 0 (fun _ => False)) (F0 m 35 ls [])) → W p l e (rmk 1 23) s m ([.ref mqa] : List Value).toArray below meth c s.heap [] 0 0 (MQ below (vp_Si (fun x => x = res)) ([.ref mqa] : List Value).toArray s 0 0 (fun _ => False)) (F0 m 19 ls []) := by
    intro n
    induction n with
    | zero => intro x4 x3 x1 x2 z h; exact absurd (show (none : Option Int32) = some z from h) (fun q => by cases q)
    | succ n ih =>
      intro x4 x3 x1 x2 z h ls hl kk
      rw [F_X5_order_19] at h
      refine lv_iload hx hb dX5_order_19 (lv_at hl 0 rfl) ?_
      refine lv_iload_n hx hb dX5_order_21 rfl (lv_at hl 1 rfl) ?_
      obtain ⟨k8, h⟩ := ck_t h
      refine lv_irem hx hb dX5_order_22 (nz_t k8) ?_
      refine lv_if_eq (tgt := 35) hx hb dX5_order_23 (by decide) (fun c9 => ?_) (fun c9 => ?_)
      · replace h := if_t c9 h
        obtain rfl := Option.some.inj h
        exact kk _ (lv_sub hl [0, 1, 2, 3, 4] rfl)
      · replace h := if_f c9 h
        refine lv_iload hx hb dX5_order_26 (lv_at hl 0 rfl) ?_
        refine lv_iload_n hx hb dX5_order_28 rfl (lv_at hl 3 rfl) ?_
        refine lv_iadd hx hb dX5_order_29 ?_
        refine lv_istore (lv' := [(4, .int (x4 + x1)), (3, .int x3), (0, .ref mqa), (1, .int x1), (2, .int x2)]) hx hb dX5_order_30 hl (by decide) rfl (fun ls hl => ?_)
        refine lv_goto (tgt := 19) hx hb dX5_order_32 (by decide) ?_
        exact ih (x4 + x1) x3 x1 x2 z h ls (lv_sub hl [0, 1, 2, 3, 4] rfl) kk
  have L4 : ∀ (n : Nat) (x1 x2 : Int32), F_X5_order_4 fs n x1 x2 = some res → ∀ (ls : Array Slot), lv_has ls 5 [(0, .ref mqa), (1, .int x1), (2, .int x2)] → W p l e (rmk 1 23) s m ([.ref mqa] : List Value).toArray below meth c s.heap [] 0 0 (MQ below (vp_Si (fun x => x = res)) ([.ref mqa] : List Value).toArray s 0 0 (fun _ => False)) (F0 m 4 ls []) := by
    intro n
    induction n with
    | zero => intro x1 x2 h; exact absurd (show (none : Option (Int32)) = some res from h) (fun q => by cases q)
    | succ n ih =>
      intro x1 x2 h ls hl
      rw [F_X5_order_4] at h
      refine lv_iload_n hx hb dX5_order_4 rfl (lv_at hl 2 rfl) ?_
      refine lv_bipush (v := 24) hx hb dX5_order_5 (by decide) ?_
      refine lv_icmp_ge (tgt := 44) hx hb dX5_order_7 (by decide) (fun c1 => ?_) (fun c1 => ?_)
      · replace h := if_t c1 h
        refine lv_iload_n hx hb dX5_order_44 rfl (lv_at hl 1 rfl) ?_
        obtain rfl := Option.some.inj h
        exact retR S hr hlk rfl rfl dX5_order_45
      · replace h := if_f c1 h
        refine lv_aload_n hx hb dX5_order_10 rfl (lv_at hl 0 rfl) ?_
        refine lv_iload_n hx hb dX5_order_11 rfl (lv_at hl 2 rfl) ?_
        obtain ⟨r2, hr2, h⟩ := bd_t h
        refine rdV (As := [.int x2]) (rest := []) S hK (c_X5_longOf l G mqa mqs mqp mqn mqx mqm pas misk len spo kin cam fst lst inr fs fp fn fx fm x2 r2 hr2) mX5_longOf q697 ⟨rfl, rfl, Nat.le_of_ble_eq_true rfl, Nat.le_of_ble_eq_true rfl⟩ hP rfl rfl rfl rfl hl.1 (Nat.le_of_ble_eq_true rfl) ⟨Nat.le_refl 0, Nat.le_refl 0⟩ dX5_order_12 ?_
        refine lv_istore_n (lv' := [(3, .int r2), (0, .ref mqa), (1, .int x1), (2, .int x2)]) hx hb dX5_order_15 rfl hl (by decide) rfl (fun ls hl => ?_)
        refine lv_iload_n hx hb dX5_order_16 rfl (lv_at hl 2 rfl) ?_
        refine lv_istore (lv' := [(4, .int x1), (3, .int r2), (0, .ref mqa), (1, .int x1), (2, .int x2)]) hx hb dX5_order_17 hl (by decide) rfl (fun ls hl => ?_)
        obtain ⟨r3, hqr3, h⟩ := bd_t h
        refine L19 10000 x1 r2 x1 x2 r3 hqr3 ls hl (fun ls hl => ?_)
        refine lv_iload hx hb dX5_order_35 (lv_at hl 0 rfl) ?_
        refine lv_istore_n (lv' := [(1, .int r3), (4, .int r3), (3, .int r2), (0, .ref mqa), (2, .int x2)]) hx hb dX5_order_37 rfl hl (by decide) rfl (fun ls hl => ?_)
        refine lv_iinc (v := x2 + 1) (lv' := [(2, .int (x2 + 1)), (1, .int r3), (4, .int r3), (3, .int r2), (0, .ref mqa)]) hx hb dX5_order_38 hl (k := 4) rfl rfl (by decide) rfl (fun ls hl => ?_)
        refine lv_goto (tgt := 4) hx hb dX5_order_41 (by decide) ?_
        exact ih r3 (x2 + 1)  h ls (lv_sub hl [4, 1, 0] rfl)
  rw [F_X5_order] at h
  refine lv_iconst (v := 1) hx hb dX5_order_0 (by decide) ?_
  refine lv_istore_n (lv' := [(1, .int 1), (0, .ref mqa)]) hx hb dX5_order_1 rfl hl (by decide) rfl (fun ls hl => ?_)
  refine lv_iconst (v := 0) hx hb dX5_order_2 (by decide) ?_
  refine lv_istore_n (lv' := [(2, .int 0), (1, .int 1), (0, .ref mqa)]) hx hb dX5_order_3 rfl hl (by decide) rfl (fun ls hl => ?_)
  exact L4 10000 1 0  h ls (lv_sub hl [2, 1, 0] rfl)
set_option maxHeartbeats 4000000 in
set_option maxRecDepth 100000 in
theorem c_X5_moved (l : Launch) (G : gG) (mqa mqs mqp mqn mqx mqm : Nat) (pas : Int32) (misk : Int32) (len : Int32) (spo : Int32) (kin : Int32) (cam : Int32) (fst : Int32) (lst : Int32) (inr : Int32) (fs : Nat → Int32) (fp : Nat → Int32) (fn : Nat → Int32) (fx : Nat → Int32) (fm : Nat → Int32) (p1 : Int32) (res : Int32) (h : F_X5_moved fs p1 = some res) : RdM l G yX5_moved cX5_moved 4 .int (rmk 0 0) [(mqa, .inr (5, [.ref mqs, .ref mqp, .int pas, .ref mqn, .int misk, .ref mqx, .int len, .ref mqm, .int spo, .int kin, .int cam, .int fst, .int lst, .int inr])), (mqs, .inl (G.2.2.1, 65, .inl fs)), (mqp, .inl (G.2.2.1, 260, .inl fp)), (mqn, .inl (G.2.2.1, 65, .inl fn)), (mqx, .inl (G.2.1, 80, .inl fx)), (mqm, .inl (G.2.2.1, 24, .inl fm))] [.ref mqa, .int p1] res := by
  refine ofR (by decide) (Nat.le_of_ble_eq_true rfl) ?_
  intro p e s m below meth c ls S hr hlk hK hP hl
  have S : CallFix p m c cX5_moved 4 s ([.ref mqa, .int p1] : List Value).toArray T0 RX5 := S
  obtain ⟨hx, hb, hml, hown, hts⟩ := id S
  have hl : lv_has ls 4 [(0, .ref mqa), (1, .int p1)] := hl
  have L4 : ∀ (n : Nat) (x1 x2 x3 : Int32), F_X5_moved_4 fs n x1 x2 x3 = some res → ∀ (ls : Array Slot), lv_has ls 4 [(0, .ref mqa), (1, .int x1), (2, .int x2), (3, .int x3)] → W p l e (rmk 0 0) s m ([.ref mqa, .int p1] : List Value).toArray below meth c s.heap [] 0 0 (MQ below (vp_Si (fun x => x = res)) ([.ref mqa, .int p1] : List Value).toArray s 0 0 (fun _ => False)) (F0 m 4 ls []) := by
    intro n
    induction n with
    | zero => intro x1 x2 x3 h; exact absurd (show (none : Option (Int32)) = some res from h) (fun q => by cases q)
    | succ n ih =>
      intro x1 x2 x3 h ls hl
      rw [F_X5_moved_4] at h
      refine lv_iload_n hx hb dX5_moved_4 rfl (lv_at hl 3 rfl) ?_
      refine lv_bipush (v := 24) hx hb dX5_moved_5 (by decide) ?_
      refine lv_icmp_ge (tgt := 33) hx hb dX5_moved_7 (by decide) (fun c1 => ?_) (fun c1 => ?_)
      · replace h := if_t c1 h
        refine lv_iload_n hx hb dX5_moved_33 rfl (lv_at hl 2 rfl) ?_
        obtain rfl := Option.some.inj h
        exact retR S hr hlk rfl rfl dX5_moved_34
      · replace h := if_f c1 h
        refine lv_iload_n hx hb dX5_moved_10 rfl (lv_at hl 2 rfl) ?_
        refine lv_iload_n hx hb dX5_moved_11 rfl (lv_at hl 1 rfl) ?_
        refine lv_iload_n hx hb dX5_moved_12 rfl (lv_at hl 3 rfl) ?_
        refine lv_ishr hx hb dX5_moved_13 ?_
        refine lv_iconst (v := 1) hx hb dX5_moved_14 (by decide) ?_
        refine lv_iand hx hb dX5_moved_15 ?_
        refine lv_aload_n hx hb dX5_moved_16 rfl (lv_at hl 0 rfl) ?_
        refine gf S hK iX5 hP 0 rfl rfl 0 (by decide) q636 rfl dX5_moved_17 ?_
        refine lv_iconst (v := 0) hx hb dX5_moved_20 (by decide) ?_
        refine lv_iload_n hx hb dX5_moved_21 rfl (lv_at hl 3 rfl) ?_
        refine lv_iadd hx hb dX5_moved_22 ?_
        obtain ⟨k2, h⟩ := ck_t h
        refine ald S hK hP 1 rfl (ok_vp k2) dX5_moved_23 ?_
        refine lv_ishl hx hb dX5_moved_24 ?_
        refine lv_topi (fun v3 ev3 => ?_)
        replace h := nmd_t ev3 h
        refine lv_ior hx hb dX5_moved_25 ?_
        refine lv_istore_n (lv' := [(2, .int (x2 ||| v3)), (0, .ref mqa), (1, .int x1), (3, .int x3)]) hx hb dX5_moved_26 rfl hl (by decide) rfl (fun ls hl => ?_)
        refine lv_iinc (v := x3 + 1) (lv' := [(3, .int (x3 + 1)), (2, .int (x2 ||| v3)), (0, .ref mqa), (1, .int x1)]) hx hb dX5_moved_27 hl (k := 3) rfl rfl (by decide) rfl (fun ls hl => ?_)
        refine lv_goto (tgt := 4) hx hb dX5_moved_30 (by decide) ?_
        exact ih x1 (x2 ||| v3) (x3 + 1)  h ls (lv_sub hl [2, 3, 1, 0] rfl)
  rw [F_X5_moved] at h
  refine lv_iconst (v := 0) hx hb dX5_moved_0 (by decide) ?_
  refine lv_istore_n (lv' := [(2, .int 0), (0, .ref mqa), (1, .int p1)]) hx hb dX5_moved_1 rfl hl (by decide) rfl (fun ls hl => ?_)
  refine lv_iconst (v := 0) hx hb dX5_moved_2 (by decide) ?_
  refine lv_istore_n (lv' := [(3, .int 0), (2, .int 0), (0, .ref mqa), (1, .int p1)]) hx hb dX5_moved_3 rfl hl (by decide) rfl (fun ls hl => ?_)
  exact L4 10000 p1 0 0  h ls (lv_sub hl [2, 3, 1, 0] rfl)
set_option maxHeartbeats 4000000 in
set_option maxRecDepth 100000 in
theorem c_X5_forward (l : Launch) (G : gG) (mqa mqs mqp mqn mqx mqm : Nat) (pas : Int32) (misk : Int32) (len : Int32) (spo : Int32) (kin : Int32) (cam : Int32) (fst : Int32) (lst : Int32) (inr : Int32) (fs : Nat → Int32) (fp : Nat → Int32) (fn : Nat → Int32) (fx : Nat → Int32) (fm : Nat → Int32) (p1 : Int32) (res : Int32) (h : F_X5_forward fs p1 = some res) : RdM l G yX5_forward cX5_forward 4 .int (rmk 2 47) [(mqa, .inr (5, [.ref mqs, .ref mqp, .int pas, .ref mqn, .int misk, .ref mqx, .int len, .ref mqm, .int spo, .int kin, .int cam, .int fst, .int lst, .int inr])), (mqs, .inl (G.2.2.1, 65, .inl fs)), (mqp, .inl (G.2.2.1, 260, .inl fp)), (mqn, .inl (G.2.2.1, 65, .inl fn)), (mqx, .inl (G.2.1, 80, .inl fx)), (mqm, .inl (G.2.2.1, 24, .inl fm))] [.ref mqa, .int p1] res := by
  refine ofR (by decide) (Nat.le_of_ble_eq_true rfl) ?_
  intro p e s m below meth c ls S hr hlk hK hP hl
  have S : CallFix p m c cX5_forward 4 s ([.ref mqa, .int p1] : List Value).toArray T0 RX5 := S
  obtain ⟨hx, hb, hml, hown, hts⟩ := id S
  have hl : lv_has ls 4 [(0, .ref mqa), (1, .int p1)] := hl
  rw [F_X5_forward] at h
  refine lv_aload_n hx hb dX5_forward_0 rfl (lv_at hl 0 rfl) ?_
  obtain ⟨r1, hr1, h⟩ := bd_t h
  refine rdV (As := []) (rest := []) S hK (c_X5_order l G mqa mqs mqp mqn mqx mqm pas misk len spo kin cam fst lst inr fs fp fn fx fm r1 hr1) mX5_order q693 ⟨rfl, rfl, Nat.le_of_ble_eq_true rfl, Nat.le_of_ble_eq_true rfl⟩ hP rfl rfl rfl rfl hl.1 (Nat.le_of_ble_eq_true rfl) ⟨Nat.le_refl 0, Nat.le_refl 0⟩ dX5_forward_1 ?_
  refine lv_istore_n (lv' := [(2, .int r1), (0, .ref mqa), (1, .int p1)]) hx hb dX5_forward_4 rfl hl (by decide) rfl (fun ls hl => ?_)
  refine lv_iload_n hx hb dX5_forward_5 rfl (lv_at hl 2 rfl) ?_
  refine lv_iload_n hx hb dX5_forward_6 rfl (lv_at hl 0 rfl) ?_
  obtain ⟨k2, h⟩ := ck_t h
  refine lv_irem hx hb dX5_forward_7 (nz_t k2) ?_
  refine lv_istore_n (lv' := [(3, .int (p1 - p1 / r1 * r1)), (2, .int r1), (0, .ref mqa), (1, .int p1)]) hx hb dX5_forward_8 rfl hl (by decide) rfl (fun ls hl => ?_)
  refine lv_iload_n hx hb dX5_forward_9 rfl (lv_at hl 0 rfl) ?_
  refine lv_if_ge (tgt := 19) hx hb dX5_forward_10 (by decide) (fun c3 => ?_) (fun c3 => ?_)
  · replace h := if_t c3 h
    refine lv_iload_n hx hb dX5_forward_19 rfl (lv_at hl 0 rfl) ?_
    obtain rfl := Option.some.inj h
    exact retR S hr hlk rfl rfl dX5_forward_20
  · replace h := if_f c3 h
    refine lv_iload_n hx hb dX5_forward_13 rfl (lv_at hl 0 rfl) ?_
    refine lv_iload_n hx hb dX5_forward_14 rfl (lv_at hl 1 rfl) ?_
    refine lv_iadd hx hb dX5_forward_15 ?_
    refine lv_goto (tgt := 20) hx hb dX5_forward_16 (by decide) ?_
    obtain rfl := Option.some.inj h
    exact retR S hr hlk rfl rfl dX5_forward_20
set_option maxHeartbeats 4000000 in
set_option maxRecDepth 100000 in
theorem c_X5_turned (l : Launch) (G : gG) (mqa mqs mqp mqn mqx mqm : Nat) (pas : Int32) (misk : Int32) (len : Int32) (spo : Int32) (kin : Int32) (cam : Int32) (fst : Int32) (lst : Int32) (inr : Int32) (fs : Nat → Int32) (fp : Nat → Int32) (fn : Nat → Int32) (fx : Nat → Int32) (fm : Nat → Int32) (p1 p2 : Int32) (res : Int32) (h : F_X5_turned fs p1 p2 = some res) : RdM l G yX5_turned cX5_turned 5 .int (rmk 1 23) [(mqa, .inr (5, [.ref mqs, .ref mqp, .int pas, .ref mqn, .int misk, .ref mqx, .int len, .ref mqm, .int spo, .int kin, .int cam, .int fst, .int lst, .int inr])), (mqs, .inl (G.2.2.1, 65, .inl fs)), (mqp, .inl (G.2.2.1, 260, .inl fp)), (mqn, .inl (G.2.2.1, 65, .inl fn)), (mqx, .inl (G.2.1, 80, .inl fx)), (mqm, .inl (G.2.2.1, 24, .inl fm))] [.ref mqa, .int p1, .int p2] res := by
  refine ofR (by decide) (Nat.le_of_ble_eq_true rfl) ?_
  intro p e s m below meth c ls S hr hlk hK hP hl
  have S : CallFix p m c cX5_turned 5 s ([.ref mqa, .int p1, .int p2] : List Value).toArray T0 RX5 := S
  obtain ⟨hx, hb, hml, hown, hts⟩ := id S
  have hl : lv_has ls 5 [(0, .ref mqa), (1, .int p1), (2, .int p2)] := hl
  have L5 : ∀ (n : Nat) (x1 x2 x3 x4 : Int32), F_X5_turned_5 fs n x1 x2 x3 x4 = some res → ∀ (ls : Array Slot), lv_has ls 5 [(0, .ref mqa), (1, .int x1), (2, .int x2), (3, .int x3), (4, .int x4)] → W p l e (rmk 1 23) s m ([.ref mqa, .int p1, .int p2] : List Value).toArray below meth c s.heap [] 0 0 (MQ below (vp_Si (fun x => x = res)) ([.ref mqa, .int p1, .int p2] : List Value).toArray s 0 0 (fun _ => False)) (F0 m 5 ls []) := by
    intro n
    induction n with
    | zero => intro x1 x2 x3 x4 h; exact absurd (show (none : Option (Int32)) = some res from h) (fun q => by cases q)
    | succ n ih =>
      intro x1 x2 x3 x4 h ls hl
      rw [F_X5_turned_5] at h
      refine lv_iload hx hb dX5_turned_5 (lv_at hl 4 rfl) ?_
      refine lv_iload_n hx hb dX5_turned_7 rfl (lv_at hl 2 rfl) ?_
      refine lv_icmp_ge (tgt := 23) hx hb dX5_turned_8 (by decide) (fun c1 => ?_) (fun c1 => ?_)
      · replace h := if_t c1 h
        refine lv_iload_n hx hb dX5_turned_23 rfl (lv_at hl 3 rfl) ?_
        obtain rfl := Option.some.inj h
        exact retR S hr hlk rfl rfl dX5_turned_24
      · replace h := if_f c1 h
        refine lv_aload_n hx hb dX5_turned_11 rfl (lv_at hl 0 rfl) ?_
        refine lv_iload_n hx hb dX5_turned_12 rfl (lv_at hl 3 rfl) ?_
        obtain ⟨r2, hr2, h⟩ := bd_t h
        refine rdV (As := [.int x3]) (rest := []) S hK (c_X5_moved l G mqa mqs mqp mqn mqx mqm pas misk len spo kin cam fst lst inr fs fp fn fx fm x3 r2 hr2) mX5_moved q800 ⟨rfl, rfl, Nat.le_of_ble_eq_true rfl, Nat.le_of_ble_eq_true rfl⟩ hP rfl rfl rfl rfl hl.1 (Nat.le_of_ble_eq_true rfl) ⟨Nat.le_refl 0, Nat.le_refl 0⟩ dX5_turned_13 ?_
        refine lv_istore_n (lv' := [(3, .int r2), (0, .ref mqa), (1, .int x1), (2, .int x2), (4, .int x4)]) hx hb dX5_turned_16 rfl hl (by decide) rfl (fun ls hl => ?_)
        refine lv_iinc (v := x4 + 1) (lv' := [(4, .int (x4 + 1)), (3, .int r2), (0, .ref mqa), (1, .int x1), (2, .int x2)]) hx hb dX5_turned_17 hl (k := 4) rfl rfl (by decide) rfl (fun ls hl => ?_)
        refine lv_goto (tgt := 5) hx hb dX5_turned_20 (by decide) ?_
        exact ih x1 x2 r2 (x4 + 1)  h ls (lv_sub hl [2, 3, 4, 1, 0] rfl)
  rw [F_X5_turned] at h
  refine lv_iload_n hx hb dX5_turned_0 rfl (lv_at hl 1 rfl) ?_
  refine lv_istore_n (lv' := [(3, .int p1), (0, .ref mqa), (1, .int p1), (2, .int p2)]) hx hb dX5_turned_1 rfl hl (by decide) rfl (fun ls hl => ?_)
  refine lv_iconst (v := 0) hx hb dX5_turned_2 (by decide) ?_
  refine lv_istore (lv' := [(4, .int 0), (3, .int p1), (0, .ref mqa), (1, .int p1), (2, .int p2)]) hx hb dX5_turned_3 hl (by decide) rfl (fun ls hl => ?_)
  exact L5 10000 p1 p2 p1 0  h ls (lv_sub hl [2, 3, 4, 1, 0] rfl)
set_option maxHeartbeats 4000000 in
set_option maxRecDepth 100000 in
theorem c_X5_isAt (l : Launch) (G : gG) (mqa mqs mqp mqn mqx mqm : Nat) (pas : Int32) (misk : Int32) (len : Int32) (spo : Int32) (kin : Int32) (cam : Int32) (fst : Int32) (lst : Int32) (inr : Int32) (fs : Nat → Int32) (fp : Nat → Int32) (fn : Nat → Int32) (fx : Nat → Int32) (fm : Nat → Int32) (p1 : Int32) (res : Int32) (h : F_X5_isAt len spo fx p1 = some res) : RdM l G yX5_isAt cX5_isAt 2 .boolean (rmk 0 0) [(mqa, .inr (5, [.ref mqs, .ref mqp, .int pas, .ref mqn, .int misk, .ref mqx, .int len, .ref mqm, .int spo, .int kin, .int cam, .int fst, .int lst, .int inr])), (mqs, .inl (G.2.2.1, 65, .inl fs)), (mqp, .inl (G.2.2.1, 260, .inl fp)), (mqn, .inl (G.2.2.1, 65, .inl fn)), (mqx, .inl (G.2.1, 80, .inl fx)), (mqm, .inl (G.2.2.1, 24, .inl fm))] [.ref mqa, .int p1] res := by
  refine ofR (by decide) (Nat.le_of_ble_eq_true rfl) ?_
  intro p e s m below meth c ls S hr hlk hK hP hl
  have S : CallFix p m c cX5_isAt 2 s ([.ref mqa, .int p1] : List Value).toArray T0 RX5 := S
  obtain ⟨hx, hb, hml, hown, hts⟩ := id S
  have hl : lv_has ls 2 [(0, .ref mqa), (1, .int p1)] := hl
  rw [F_X5_isAt] at h
  refine lv_aload_n hx hb dX5_isAt_0 rfl (lv_at hl 0 rfl) ?_
  refine gf S hK iX5 hP 0 rfl rfl 8 (by decide) q644 rfl dX5_isAt_1 ?_
  refine lv_aload_n hx hb dX5_isAt_4 rfl (lv_at hl 0 rfl) ?_
  refine gf S hK iX5 hP 0 rfl rfl 6 (by decide) q642 rfl dX5_isAt_5 ?_
  refine lv_icmp_ge (tgt := 28) hx hb dX5_isAt_8 (by decide) (fun c1 => ?_) (fun c1 => ?_)
  · replace h := if_t c1 h
    refine lv_iconst (v := 0) hx hb dX5_isAt_28 (by decide) ?_
    obtain rfl := Option.some.inj h
    exact retR S hr hlk rfl rfl dX5_isAt_29
  · replace h := if_f c1 h
    refine lv_aload_n hx hb dX5_isAt_11 rfl (lv_at hl 0 rfl) ?_
    refine gf S hK iX5 hP 0 rfl rfl 5 (by decide) q641 rfl dX5_isAt_12 ?_
    refine lv_aload_n hx hb dX5_isAt_15 rfl (lv_at hl 0 rfl) ?_
    refine gf S hK iX5 hP 0 rfl rfl 8 (by decide) q644 rfl dX5_isAt_16 ?_
    obtain ⟨k2, h⟩ := ck_t h
    refine cald S hK hP 4 rfl (ok_vp k2) dX5_isAt_19 ?_
    refine lv_iload_n hx hb dX5_isAt_20 rfl (lv_at hl 1 rfl) ?_
    refine lv_icmp_ne (tgt := 28) hx hb dX5_isAt_21 (by decide) (fun c3 => ?_) (fun c3 => ?_)
    · replace h := if_f c3 h
      refine lv_iconst (v := 0) hx hb dX5_isAt_28 (by decide) ?_
      obtain rfl := Option.some.inj h
      exact retR S hr hlk rfl rfl dX5_isAt_29
    · replace h := if_t c3 h
      refine lv_iconst (v := 1) hx hb dX5_isAt_24 (by decide) ?_
      refine lv_goto (tgt := 29) hx hb dX5_isAt_25 (by decide) ?_
      obtain rfl := Option.some.inj h
      exact retR S hr hlk rfl rfl dX5_isAt_29
set_option maxHeartbeats 4000000 in
set_option maxRecDepth 100000 in
theorem c_X5_isDigit (l : Launch) (G : gG) (mqa mqs mqp mqn mqx mqm : Nat) (pas : Int32) (misk : Int32) (len : Int32) (spo : Int32) (kin : Int32) (cam : Int32) (fst : Int32) (lst : Int32) (inr : Int32) (fs : Nat → Int32) (fp : Nat → Int32) (fn : Nat → Int32) (fx : Nat → Int32) (fm : Nat → Int32) (res : Int32) (h : F_X5_isDigit len spo fx = some res) : RdM l G yX5_isDigit cX5_isDigit 1 .boolean (rmk 1 22) [(mqa, .inr (5, [.ref mqs, .ref mqp, .int pas, .ref mqn, .int misk, .ref mqx, .int len, .ref mqm, .int spo, .int kin, .int cam, .int fst, .int lst, .int inr])), (mqs, .inl (G.2.2.1, 65, .inl fs)), (mqp, .inl (G.2.2.1, 260, .inl fp)), (mqn, .inl (G.2.2.1, 65, .inl fn)), (mqx, .inl (G.2.1, 80, .inl fx)), (mqm, .inl (G.2.2.1, 24, .inl fm))] [.ref mqa] res := by
  refine ofR (by decide) (Nat.le_of_ble_eq_true rfl) ?_
  intro p e s m below meth c ls S hr hlk hK hP hl
  have S : CallFix p m c cX5_isDigit 1 s ([.ref mqa] : List Value).toArray T0 RX5 := S
  obtain ⟨hx, hb, hml, hown, hts⟩ := id S
  have hl : lv_has ls 1 [(0, .ref mqa)] := hl
  rw [F_X5_isDigit] at h
  refine lv_aload_n hx hb dX5_isDigit_0 rfl (lv_at hl 0 rfl) ?_
  refine gf S hK iX5 hP 0 rfl rfl 8 (by decide) q644 rfl dX5_isDigit_1 ?_
  refine lv_aload_n hx hb dX5_isDigit_4 rfl (lv_at hl 0 rfl) ?_
  refine gf S hK iX5 hP 0 rfl rfl 6 (by decide) q642 rfl dX5_isDigit_5 ?_
  refine lv_icmp_ge (tgt := 34) hx hb dX5_isDigit_8 (by decide) (fun c1 => ?_) (fun c1 => ?_)
  · replace h := if_t c1 h
    refine lv_iconst (v := 0) hx hb dX5_isDigit_34 (by decide) ?_
    obtain rfl := Option.some.inj h
    exact retR S hr hlk rfl rfl dX5_isDigit_35
  · replace h := if_f c1 h
    refine lv_aload_n hx hb dX5_isDigit_11 rfl (lv_at hl 0 rfl) ?_
    refine gf S hK iX5 hP 0 rfl rfl 5 (by decide) q641 rfl dX5_isDigit_12 ?_
    refine lv_aload_n hx hb dX5_isDigit_15 rfl (lv_at hl 0 rfl) ?_
    refine gf S hK iX5 hP 0 rfl rfl 8 (by decide) q644 rfl dX5_isDigit_16 ?_
    obtain ⟨k2, h⟩ := ck_t h
    refine cald S hK hP 4 rfl (ok_vp k2) dX5_isDigit_19 ?_
    refine lv_bipush (v := 48) hx hb dX5_isDigit_20 (by decide) ?_
    refine lv_bipush (v := 57) hx hb dX5_isDigit_22 (by decide) ?_
    obtain ⟨r3, hr3, h⟩ := bd_t h
    refine rdS (As := [.int (fx (Int32.toNatClampNeg spo)), .int 48, .int 57]) (rest := []) S hK (c_X5_in l G (fx (Int32.toNatClampNeg spo)) 48 57 r3 hr3) mX5_in q686 ⟨rfl, rfl, Nat.le_of_ble_eq_true rfl, Nat.le_of_ble_eq_true rfl⟩ (ws_nil G.1 _) rfl hl.1 (Nat.le_of_ble_eq_true rfl) ⟨Nat.le_refl 0, Nat.le_refl 0⟩ dX5_isDigit_24 ?_
    refine lv_if_eq (tgt := 34) hx hb dX5_isDigit_27 (by decide) (fun c4 => ?_) (fun c4 => ?_)
    · replace h := if_t c4 h
      refine lv_iconst (v := 0) hx hb dX5_isDigit_34 (by decide) ?_
      obtain rfl := Option.some.inj h
      exact retR S hr hlk rfl rfl dX5_isDigit_35
    · replace h := if_f c4 h
      refine lv_iconst (v := 1) hx hb dX5_isDigit_30 (by decide) ?_
      refine lv_goto (tgt := 35) hx hb dX5_isDigit_31 (by decide) ?_
      obtain rfl := Option.some.inj h
      exact retR S hr hlk rfl rfl dX5_isDigit_35
set_option maxHeartbeats 4000000 in
set_option maxRecDepth 100000 in
theorem c_X5_isFalse (l : Launch) (G : gG) (mqa mqs mqp mqn mqx mqm : Nat) (pas : Int32) (misk : Int32) (len : Int32) (spo : Int32) (kin : Int32) (cam : Int32) (fst : Int32) (lst : Int32) (inr : Int32) (fs : Nat → Int32) (fp : Nat → Int32) (fn : Nat → Int32) (fx : Nat → Int32) (fm : Nat → Int32) (p1 : Int32) (res : Int32) (h : F_X5_isFalse fs p1 = some res) : RdM l G yX5_isFalse cX5_isFalse 2 .boolean (rmk 0 0) [(mqa, .inr (5, [.ref mqs, .ref mqp, .int pas, .ref mqn, .int misk, .ref mqx, .int len, .ref mqm, .int spo, .int kin, .int cam, .int fst, .int lst, .int inr])), (mqs, .inl (G.2.2.1, 65, .inl fs)), (mqp, .inl (G.2.2.1, 260, .inl fp)), (mqn, .inl (G.2.2.1, 65, .inl fn)), (mqx, .inl (G.2.1, 80, .inl fx)), (mqm, .inl (G.2.2.1, 24, .inl fm))] [.ref mqa, .int p1] res := by
  refine ofR (by decide) (Nat.le_of_ble_eq_true rfl) ?_
  intro p e s m below meth c ls S hr hlk hK hP hl
  have S : CallFix p m c cX5_isFalse 2 s ([.ref mqa, .int p1] : List Value).toArray T0 RX5 := S
  obtain ⟨hx, hb, hml, hown, hts⟩ := id S
  have hl : lv_has ls 2 [(0, .ref mqa), (1, .int p1)] := hl
  rw [F_X5_isFalse] at h
  refine lv_aload_n hx hb dX5_isFalse_0 rfl (lv_at hl 0 rfl) ?_
  refine gf S hK iX5 hP 0 rfl rfl 0 (by decide) q636 rfl dX5_isFalse_1 ?_
  refine lv_bipush (v := 25) hx hb dX5_isFalse_4 (by decide) ?_
  refine lv_iload_n hx hb dX5_isFalse_6 rfl (lv_at hl 1 rfl) ?_
  refine lv_iadd hx hb dX5_isFalse_7 ?_
  obtain ⟨k1, h⟩ := ck_t h
  refine ald S hK hP 1 rfl (ok_vp k1) dX5_isFalse_8 ?_
  refine lv_aload_n hx hb dX5_isFalse_9 rfl (lv_at hl 0 rfl) ?_
  refine gf S hK iX5 hP 0 rfl rfl 0 (by decide) q636 rfl dX5_isFalse_10 ?_
  refine lv_bipush (v := 37) hx hb dX5_isFalse_13 (by decide) ?_
  refine lv_iload_n hx hb dX5_isFalse_15 rfl (lv_at hl 1 rfl) ?_
  refine lv_iadd hx hb dX5_isFalse_16 ?_
  obtain ⟨k2, h⟩ := ck_t h
  refine ald S hK hP 1 rfl (ok_vp k2) dX5_isFalse_17 ?_
  refine lv_icmp_eq (tgt := 25) hx hb dX5_isFalse_18 (by decide) (fun c3 => ?_) (fun c3 => ?_)
  · replace h := if_t c3 h
    refine lv_iconst (v := 0) hx hb dX5_isFalse_25 (by decide) ?_
    obtain rfl := Option.some.inj h
    exact retR S hr hlk rfl rfl dX5_isFalse_26
  · replace h := if_f c3 h
    refine lv_iconst (v := 1) hx hb dX5_isFalse_21 (by decide) ?_
    refine lv_goto (tgt := 26) hx hb dX5_isFalse_22 (by decide) ?_
    obtain rfl := Option.some.inj h
    exact retR S hr hlk rfl rfl dX5_isFalse_26
set_option maxHeartbeats 4000000 in
set_option maxRecDepth 100000 in
theorem c_X5_isOn (l : Launch) (G : gG) (mqa mqs mqp mqn mqx mqm : Nat) (pas : Int32) (misk : Int32) (len : Int32) (spo : Int32) (kin : Int32) (cam : Int32) (fst : Int32) (lst : Int32) (inr : Int32) (fs : Nat → Int32) (fp : Nat → Int32) (fn : Nat → Int32) (fx : Nat → Int32) (fm : Nat → Int32) (p1 : Int32) (res : Int32) (h : F_X5_isOn fs p1 = some res) : RdM l G yX5_isOn cX5_isOn 2 .boolean (rmk 0 0) [(mqa, .inr (5, [.ref mqs, .ref mqp, .int pas, .ref mqn, .int misk, .ref mqx, .int len, .ref mqm, .int spo, .int kin, .int cam, .int fst, .int lst, .int inr])), (mqs, .inl (G.2.2.1, 65, .inl fs)), (mqp, .inl (G.2.2.1, 260, .inl fp)), (mqn, .inl (G.2.2.1, 65, .inl fn)), (mqx, .inl (G.2.1, 80, .inl fx)), (mqm, .inl (G.2.2.1, 24, .inl fm))] [.ref mqa, .int p1] res := by
  refine ofR (by decide) (Nat.le_of_ble_eq_true rfl) ?_
  intro p e s m below meth c ls S hr hlk hK hP hl
  have S : CallFix p m c cX5_isOn 2 s ([.ref mqa, .int p1] : List Value).toArray T0 RX5 := S
  obtain ⟨hx, hb, hml, hown, hts⟩ := id S
  have hl : lv_has ls 2 [(0, .ref mqa), (1, .int p1)] := hl
  rw [F_X5_isOn] at h
  refine lv_aload_n hx hb dX5_isOn_0 rfl (lv_at hl 0 rfl) ?_
  refine gf S hK iX5 hP 0 rfl rfl 0 (by decide) q636 rfl dX5_isOn_1 ?_
  refine lv_bipush (v := 49) hx hb dX5_isOn_4 (by decide) ?_
  obtain ⟨k1, h⟩ := ck_t h
  refine ald S hK hP 1 rfl (ok_vp k1) dX5_isOn_6 ?_
  refine lv_iload_n hx hb dX5_isOn_7 rfl (lv_at hl 1 rfl) ?_
  refine lv_ishr hx hb dX5_isOn_8 ?_
  refine lv_iconst (v := 1) hx hb dX5_isOn_9 (by decide) ?_
  refine lv_iand hx hb dX5_isOn_10 ?_
  refine lv_iconst (v := 1) hx hb dX5_isOn_11 (by decide) ?_
  refine lv_icmp_ne (tgt := 19) hx hb dX5_isOn_12 (by decide) (fun c2 => ?_) (fun c2 => ?_)
  · replace h := if_f c2 h
    refine lv_iconst (v := 0) hx hb dX5_isOn_19 (by decide) ?_
    obtain rfl := Option.some.inj h
    exact retR S hr hlk rfl rfl dX5_isOn_20
  · replace h := if_t c2 h
    refine lv_iconst (v := 1) hx hb dX5_isOn_15 (by decide) ?_
    refine lv_goto (tgt := 20) hx hb dX5_isOn_16 (by decide) ?_
    obtain rfl := Option.some.inj h
    exact retR S hr hlk rfl rfl dX5_isOn_20
set_option maxHeartbeats 4000000 in
set_option maxRecDepth 100000 in
theorem c_X5_withHole (l : Launch) (G : gG) (mqa mqs mqp mqn mqx mqm : Nat) (pas : Int32) (misk : Int32) (len : Int32) (spo : Int32) (kin : Int32) (cam : Int32) (fst : Int32) (lst : Int32) (inr : Int32) (fs : Nat → Int32) (fp : Nat → Int32) (fn : Nat → Int32) (fx : Nat → Int32) (fm : Nat → Int32) (p1 : Int32) (res : Int32) (h : F_X5_withHole fs p1 = some res) : RdM l G yX5_withHole cX5_withHole 4 .int (rmk 0 0) [(mqa, .inr (5, [.ref mqs, .ref mqp, .int pas, .ref mqn, .int misk, .ref mqx, .int len, .ref mqm, .int spo, .int kin, .int cam, .int fst, .int lst, .int inr])), (mqs, .inl (G.2.2.1, 65, .inl fs)), (mqp, .inl (G.2.2.1, 260, .inl fp)), (mqn, .inl (G.2.2.1, 65, .inl fn)), (mqx, .inl (G.2.1, 80, .inl fx)), (mqm, .inl (G.2.2.1, 24, .inl fm))] [.ref mqa, .int p1] res := by
  refine ofR (by decide) (Nat.le_of_ble_eq_true rfl) ?_
  intro p e s m below meth c ls S hr hlk hK hP hl
  have S : CallFix p m c cX5_withHole 4 s ([.ref mqa, .int p1] : List Value).toArray T0 RX5 := S
  obtain ⟨hx, hb, hml, hown, hts⟩ := id S
  have hl : lv_has ls 4 [(0, .ref mqa), (1, .int p1)] := hl
  have L4 : ∀ (n : Nat) (x1 x2 x3 : Int32), F_X5_withHole_4 fs n x1 x2 x3 = some res → ∀ (ls : Array Slot), lv_has ls 4 [(0, .ref mqa), (1, .int x1), (2, .int x2), (3, .int x3)] → W p l e (rmk 0 0) s m ([.ref mqa, .int p1] : List Value).toArray below meth c s.heap [] 0 0 (MQ below (vp_Si (fun x => x = res)) ([.ref mqa, .int p1] : List Value).toArray s 0 0 (fun _ => False)) (F0 m 4 ls []) := by
    intro n
    induction n with
    | zero => intro x1 x2 x3 h; exact absurd (show (none : Option (Int32)) = some res from h) (fun q => by cases q)
    | succ n ih =>
      intro x1 x2 x3 h ls hl
      rw [F_X5_withHole_4] at h
      refine lv_iload_n hx hb dX5_withHole_4 rfl (lv_at hl 3 rfl) ?_
      refine lv_aload_n hx hb dX5_withHole_5 rfl (lv_at hl 0 rfl) ?_
      refine gf S hK iX5 hP 0 rfl rfl 0 (by decide) q636 rfl dX5_withHole_6 ?_
      refine lv_bipush (v := 24) hx hb dX5_withHole_9 (by decide) ?_
      obtain ⟨k1, h⟩ := ck_t h
      refine ald S hK hP 1 rfl (ok_vp k1) dX5_withHole_11 ?_
      refine lv_icmp_ge (tgt := 39) hx hb dX5_withHole_12 (by decide) (fun c2 => ?_) (fun c2 => ?_)
      · replace h := if_t c2 h
        refine lv_iload_n hx hb dX5_withHole_39 rfl (lv_at hl 2 rfl) ?_
        obtain rfl := Option.some.inj h
        exact retR S hr hlk rfl rfl dX5_withHole_40
      · replace h := if_f c2 h
        refine lv_iload_n hx hb dX5_withHole_15 rfl (lv_at hl 2 rfl) ?_
        refine lv_aload_n hx hb dX5_withHole_16 rfl (lv_at hl 0 rfl) ?_
        refine gf S hK iX5 hP 0 rfl rfl 0 (by decide) q636 rfl dX5_withHole_17 ?_
        refine lv_bipush (v := 25) hx hb dX5_withHole_20 (by decide) ?_
        refine lv_iload_n hx hb dX5_withHole_22 rfl (lv_at hl 3 rfl) ?_
        refine lv_iadd hx hb dX5_withHole_23 ?_
        obtain ⟨k3, h⟩ := ck_t h
        refine ald S hK hP 1 rfl (ok_vp k3) dX5_withHole_24 ?_
        refine lv_iload_n hx hb dX5_withHole_25 rfl (lv_at hl 1 rfl) ?_
        refine lv_ishr hx hb dX5_withHole_26 ?_
        refine lv_iconst (v := 1) hx hb dX5_withHole_27 (by decide) ?_
        refine lv_iand hx hb dX5_withHole_28 ?_
        refine lv_iload_n hx hb dX5_withHole_29 rfl (lv_at hl 3 rfl) ?_
        refine lv_ishl hx hb dX5_withHole_30 ?_
        refine lv_topi (fun v4 ev4 => ?_)
        replace h := nmd_t ev4 h
        refine lv_ior hx hb dX5_withHole_31 ?_
        refine lv_istore_n (lv' := [(2, .int (x2 ||| v4)), (0, .ref mqa), (1, .int x1), (3, .int x3)]) hx hb dX5_withHole_32 rfl hl (by decide) rfl (fun ls hl => ?_)
        refine lv_iinc (v := x3 + 1) (lv' := [(3, .int (x3 + 1)), (2, .int (x2 ||| v4)), (0, .ref mqa), (1, .int x1)]) hx hb dX5_withHole_33 hl (k := 3) rfl rfl (by decide) rfl (fun ls hl => ?_)
        refine lv_goto (tgt := 4) hx hb dX5_withHole_36 (by decide) ?_
        exact ih x1 (x2 ||| v4) (x3 + 1)  h ls (lv_sub hl [2, 3, 1, 0] rfl)
  rw [F_X5_withHole] at h
  refine lv_iconst (v := 0) hx hb dX5_withHole_0 (by decide) ?_
  refine lv_istore_n (lv' := [(2, .int 0), (0, .ref mqa), (1, .int p1)]) hx hb dX5_withHole_1 rfl hl (by decide) rfl (fun ls hl => ?_)
  refine lv_iconst (v := 0) hx hb dX5_withHole_2 (by decide) ?_
  refine lv_istore_n (lv' := [(3, .int 0), (2, .int 0), (0, .ref mqa), (1, .int p1)]) hx hb dX5_withHole_3 rfl hl (by decide) rfl (fun ls hl => ?_)
  exact L4 10000 p1 0 0  h ls (lv_sub hl [2, 3, 1, 0] rfl)
set_option maxHeartbeats 4000000 in
set_option maxRecDepth 100000 in
theorem c_X5_rounds (l : Launch) (G : gG) (mqa mqs mqp mqn mqx mqm : Nat) (pas : Int32) (misk : Int32) (len : Int32) (spo : Int32) (kin : Int32) (cam : Int32) (fst : Int32) (lst : Int32) (inr : Int32) (fs : Nat → Int32) (fp : Nat → Int32) (fn : Nat → Int32) (fx : Nat → Int32) (fm : Nat → Int32) (res : Int32) (h : F_X5_rounds fs = some res) : RdM l G yX5_rounds cX5_rounds 3 .int (rmk 1 23) [(mqa, .inr (5, [.ref mqs, .ref mqp, .int pas, .ref mqn, .int misk, .ref mqx, .int len, .ref mqm, .int spo, .int kin, .int cam, .int fst, .int lst, .int inr])), (mqs, .inl (G.2.2.1, 65, .inl fs)), (mqp, .inl (G.2.2.1, 260, .inl fp)), (mqn, .inl (G.2.2.1, 65, .inl fn)), (mqx, .inl (G.2.1, 80, .inl fx)), (mqm, .inl (G.2.2.1, 24, .inl fm))] [.ref mqa] res := by
  refine ofR (by decide) (Nat.le_of_ble_eq_true rfl) ?_
  intro p e s m below meth c ls S hr hlk hK hP hl
  have S : CallFix p m c cX5_rounds 3 s ([.ref mqa] : List Value).toArray T0 RX5 := S
  obtain ⟨hx, hb, hml, hown, hts⟩ := id S
  have hl : lv_has ls 3 [(0, .ref mqa)] := hl
  have L4 : ∀ (n : Nat) (x1 x2 : Int32), F_X5_rounds_4 fs n x1 x2 = some res → ∀ (ls : Array Slot), lv_has ls 3 [(0, .ref mqa), (1, .int x1), (2, .int x2)] → W p l e (rmk 1 23) s m ([.ref mqa] : List Value).toArray below meth c s.heap [] 0 0 (MQ below (vp_Si (fun x => x = res)) ([.ref mqa] : List Value).toArray s 0 0 (fun _ => False)) (F0 m 4 ls []) := by
    intro n
    induction n with
    | zero => intro x1 x2 h; exact absurd (show (none : Option (Int32)) = some res from h) (fun q => by cases q)
    | succ n ih =>
      intro x1 x2 h ls hl
      rw [F_X5_rounds_4] at h
      refine lv_iload_n hx hb dX5_rounds_4 rfl (lv_at hl 2 rfl) ?_
      refine lv_bipush (v := 24) hx hb dX5_rounds_5 (by decide) ?_
      refine lv_icmp_ge (tgt := 33) hx hb dX5_rounds_7 (by decide) (fun c1 => ?_) (fun c1 => ?_)
      · replace h := if_t c1 h
        refine lv_iload_n hx hb dX5_rounds_33 rfl (lv_at hl 1 rfl) ?_
        obtain rfl := Option.some.inj h
        exact retR S hr hlk rfl rfl dX5_rounds_34
      · replace h := if_f c1 h
        refine lv_iload_n hx hb dX5_rounds_10 rfl (lv_at hl 1 rfl) ?_
        refine lv_aload_n hx hb dX5_rounds_11 rfl (lv_at hl 0 rfl) ?_
        refine lv_iload_n hx hb dX5_rounds_12 rfl (lv_at hl 2 rfl) ?_
        obtain ⟨r2, hr2, h⟩ := bd_t h
        refine rdV (As := [.int x2]) (rest := [.int x1]) S hK (c_X5_lowestOf l G mqa mqs mqp mqn mqx mqm pas misk len spo kin cam fst lst inr fs fp fn fx fm x2 r2 hr2) mX5_lowestOf q832 ⟨rfl, rfl, Nat.le_of_ble_eq_true rfl, Nat.le_of_ble_eq_true rfl⟩ hP rfl rfl rfl rfl hl.1 (Nat.le_of_ble_eq_true rfl) ⟨Nat.le_refl 0, Nat.le_refl 0⟩ dX5_rounds_13 ?_
        refine lv_iload_n hx hb dX5_rounds_16 rfl (lv_at hl 2 rfl) ?_
        refine lv_icmp_ne (tgt := 24) hx hb dX5_rounds_17 (by decide) (fun c3 => ?_) (fun c3 => ?_)
        · replace h := if_f c3 h
          refine lv_iconst (v := 0) hx hb dX5_rounds_24 (by decide) ?_
          refine lv_iadd hx hb dX5_rounds_25 ?_
          refine lv_istore_n (lv' := [(1, .int (x1 + 0)), (0, .ref mqa), (2, .int x2)]) hx hb dX5_rounds_26 rfl hl (by decide) rfl (fun ls hl => ?_)
          refine lv_iinc (v := x2 + 1) (lv' := [(2, .int (x2 + 1)), (1, .int (x1 + 0)), (0, .ref mqa)]) hx hb dX5_rounds_27 hl (k := 2) rfl rfl (by decide) rfl (fun ls hl => ?_)
          refine lv_goto (tgt := 4) hx hb dX5_rounds_30 (by decide) ?_
          exact ih (x1 + 0) (x2 + 1)  h ls (lv_sub hl [2, 1, 0] rfl)
        · replace h := if_t c3 h
          refine lv_iconst (v := 1) hx hb dX5_rounds_20 (by decide) ?_
          refine lv_goto (tgt := 25) hx hb dX5_rounds_21 (by decide) ?_
          refine lv_iadd hx hb dX5_rounds_25 ?_
          refine lv_istore_n (lv' := [(1, .int (x1 + 1)), (0, .ref mqa), (2, .int x2)]) hx hb dX5_rounds_26 rfl hl (by decide) rfl (fun ls hl => ?_)
          refine lv_iinc (v := x2 + 1) (lv' := [(2, .int (x2 + 1)), (1, .int (x1 + 1)), (0, .ref mqa)]) hx hb dX5_rounds_27 hl (k := 2) rfl rfl (by decide) rfl (fun ls hl => ?_)
          refine lv_goto (tgt := 4) hx hb dX5_rounds_30 (by decide) ?_
          exact ih (x1 + 1) (x2 + 1)  h ls (lv_sub hl [2, 1, 0] rfl)
  rw [F_X5_rounds] at h
  refine lv_iconst (v := 0) hx hb dX5_rounds_0 (by decide) ?_
  refine lv_istore_n (lv' := [(1, .int 0), (0, .ref mqa)]) hx hb dX5_rounds_1 rfl hl (by decide) rfl (fun ls hl => ?_)
  refine lv_iconst (v := 0) hx hb dX5_rounds_2 (by decide) ?_
  refine lv_istore_n (lv' := [(2, .int 0), (1, .int 0), (0, .ref mqa)]) hx hb dX5_rounds_3 rfl hl (by decide) rfl (fun ls hl => ?_)
  exact L4 10000 0 0  h ls (lv_sub hl [2, 1, 0] rfl)
set_option maxHeartbeats 4000000 in
set_option maxRecDepth 100000 in
theorem c_X5_stays (l : Launch) (G : gG) (mqa mqs mqp mqn mqx mqm : Nat) (pas : Int32) (misk : Int32) (len : Int32) (spo : Int32) (kin : Int32) (cam : Int32) (fst : Int32) (lst : Int32) (inr : Int32) (fs : Nat → Int32) (fp : Nat → Int32) (fn : Nat → Int32) (fx : Nat → Int32) (fm : Nat → Int32) (res : Int32) (h : F_X5_stays fs = some res) : RdM l G yX5_stays cX5_stays 3 .int (rmk 0 0) [(mqa, .inr (5, [.ref mqs, .ref mqp, .int pas, .ref mqn, .int misk, .ref mqx, .int len, .ref mqm, .int spo, .int kin, .int cam, .int fst, .int lst, .int inr])), (mqs, .inl (G.2.2.1, 65, .inl fs)), (mqp, .inl (G.2.2.1, 260, .inl fp)), (mqn, .inl (G.2.2.1, 65, .inl fn)), (mqx, .inl (G.2.1, 80, .inl fx)), (mqm, .inl (G.2.2.1, 24, .inl fm))] [.ref mqa] res := by
  refine ofR (by decide) (Nat.le_of_ble_eq_true rfl) ?_
  intro p e s m below meth c ls S hr hlk hK hP hl
  have S : CallFix p m c cX5_stays 3 s ([.ref mqa] : List Value).toArray T0 RX5 := S
  obtain ⟨hx, hb, hml, hown, hts⟩ := id S
  have hl : lv_has ls 3 [(0, .ref mqa)] := hl
  have L4 : ∀ (n : Nat) (x1 x2 : Int32), F_X5_stays_4 fs n x1 x2 = some res → ∀ (ls : Array Slot), lv_has ls 3 [(0, .ref mqa), (1, .int x1), (2, .int x2)] → W p l e (rmk 0 0) s m ([.ref mqa] : List Value).toArray below meth c s.heap [] 0 0 (MQ below (vp_Si (fun x => x = res)) ([.ref mqa] : List Value).toArray s 0 0 (fun _ => False)) (F0 m 4 ls []) := by
    intro n
    induction n with
    | zero => intro x1 x2 h; exact absurd (show (none : Option (Int32)) = some res from h) (fun q => by cases q)
    | succ n ih =>
      intro x1 x2 h ls hl
      rw [F_X5_stays_4] at h
      refine lv_iload_n hx hb dX5_stays_4 rfl (lv_at hl 2 rfl) ?_
      refine lv_bipush (v := 24) hx hb dX5_stays_5 (by decide) ?_
      refine lv_icmp_ge (tgt := 36) hx hb dX5_stays_7 (by decide) (fun c1 => ?_) (fun c1 => ?_)
      · replace h := if_t c1 h
        refine lv_iload_n hx hb dX5_stays_36 rfl (lv_at hl 1 rfl) ?_
        obtain rfl := Option.some.inj h
        exact retR S hr hlk rfl rfl dX5_stays_37
      · replace h := if_f c1 h
        refine lv_iload_n hx hb dX5_stays_10 rfl (lv_at hl 1 rfl) ?_
        refine lv_aload_n hx hb dX5_stays_11 rfl (lv_at hl 0 rfl) ?_
        refine gf S hK iX5 hP 0 rfl rfl 0 (by decide) q636 rfl dX5_stays_12 ?_
        refine lv_iconst (v := 0) hx hb dX5_stays_15 (by decide) ?_
        refine lv_iload_n hx hb dX5_stays_16 rfl (lv_at hl 2 rfl) ?_
        refine lv_iadd hx hb dX5_stays_17 ?_
        obtain ⟨k2, h⟩ := ck_t h
        refine ald S hK hP 1 rfl (ok_vp k2) dX5_stays_18 ?_
        refine lv_iload_n hx hb dX5_stays_19 rfl (lv_at hl 2 rfl) ?_
        refine lv_icmp_ne (tgt := 27) hx hb dX5_stays_20 (by decide) (fun c3 => ?_) (fun c3 => ?_)
        · replace h := if_f c3 h
          refine lv_iconst (v := 0) hx hb dX5_stays_27 (by decide) ?_
          refine lv_iadd hx hb dX5_stays_28 ?_
          refine lv_istore_n (lv' := [(1, .int (x1 + 0)), (0, .ref mqa), (2, .int x2)]) hx hb dX5_stays_29 rfl hl (by decide) rfl (fun ls hl => ?_)
          refine lv_iinc (v := x2 + 1) (lv' := [(2, .int (x2 + 1)), (1, .int (x1 + 0)), (0, .ref mqa)]) hx hb dX5_stays_30 hl (k := 2) rfl rfl (by decide) rfl (fun ls hl => ?_)
          refine lv_goto (tgt := 4) hx hb dX5_stays_33 (by decide) ?_
          exact ih (x1 + 0) (x2 + 1)  h ls (lv_sub hl [2, 1, 0] rfl)
        · replace h := if_t c3 h
          refine lv_iconst (v := 1) hx hb dX5_stays_23 (by decide) ?_
          refine lv_goto (tgt := 28) hx hb dX5_stays_24 (by decide) ?_
          refine lv_iadd hx hb dX5_stays_28 ?_
          refine lv_istore_n (lv' := [(1, .int (x1 + 1)), (0, .ref mqa), (2, .int x2)]) hx hb dX5_stays_29 rfl hl (by decide) rfl (fun ls hl => ?_)
          refine lv_iinc (v := x2 + 1) (lv' := [(2, .int (x2 + 1)), (1, .int (x1 + 1)), (0, .ref mqa)]) hx hb dX5_stays_30 hl (k := 2) rfl rfl (by decide) rfl (fun ls hl => ?_)
          refine lv_goto (tgt := 4) hx hb dX5_stays_33 (by decide) ?_
          exact ih (x1 + 1) (x2 + 1)  h ls (lv_sub hl [2, 1, 0] rfl)
  rw [F_X5_stays] at h
  refine lv_iconst (v := 0) hx hb dX5_stays_0 (by decide) ?_
  refine lv_istore_n (lv' := [(1, .int 0), (0, .ref mqa)]) hx hb dX5_stays_1 rfl hl (by decide) rfl (fun ls hl => ?_)
  refine lv_iconst (v := 0) hx hb dX5_stays_2 (by decide) ?_
  refine lv_istore_n (lv' := [(2, .int 0), (1, .int 0), (0, .ref mqa)]) hx hb dX5_stays_3 rfl hl (by decide) rfl (fun ls hl => ?_)
  exact L4 10000 0 0  h ls (lv_sub hl [2, 1, 0] rfl)
set_option maxHeartbeats 4000000 in
set_option maxRecDepth 100000 in
theorem c_X5_longest (l : Launch) (G : gG) (mqa mqs mqp mqn mqx mqm : Nat) (pas : Int32) (misk : Int32) (len : Int32) (spo : Int32) (kin : Int32) (cam : Int32) (fst : Int32) (lst : Int32) (inr : Int32) (fs : Nat → Int32) (fp : Nat → Int32) (fn : Nat → Int32) (fx : Nat → Int32) (fm : Nat → Int32) (res : Int32) (h : F_X5_longest fs = some res) : RdM l G yX5_longest cX5_longest 3 .int (rmk 1 23) [(mqa, .inr (5, [.ref mqs, .ref mqp, .int pas, .ref mqn, .int misk, .ref mqx, .int len, .ref mqm, .int spo, .int kin, .int cam, .int fst, .int lst, .int inr])), (mqs, .inl (G.2.2.1, 65, .inl fs)), (mqp, .inl (G.2.2.1, 260, .inl fp)), (mqn, .inl (G.2.2.1, 65, .inl fn)), (mqx, .inl (G.2.1, 80, .inl fx)), (mqm, .inl (G.2.2.1, 24, .inl fm))] [.ref mqa] res := by
  refine ofR (by decide) (Nat.le_of_ble_eq_true rfl) ?_
  intro p e s m below meth c ls S hr hlk hK hP hl
  have S : CallFix p m c cX5_longest 3 s ([.ref mqa] : List Value).toArray T0 RX5 := S
  obtain ⟨hx, hb, hml, hown, hts⟩ := id S
  have hl : lv_has ls 3 [(0, .ref mqa)] := hl
  have L4 : ∀ (n : Nat) (x1 x2 : Int32), F_X5_longest_4 fs n x1 x2 = some res → ∀ (ls : Array Slot), lv_has ls 3 [(0, .ref mqa), (1, .int x1), (2, .int x2)] → W p l e (rmk 1 23) s m ([.ref mqa] : List Value).toArray below meth c s.heap [] 0 0 (MQ below (vp_Si (fun x => x = res)) ([.ref mqa] : List Value).toArray s 0 0 (fun _ => False)) (F0 m 4 ls []) := by
    intro n
    induction n with
    | zero => intro x1 x2 h; exact absurd (show (none : Option (Int32)) = some res from h) (fun q => by cases q)
    | succ n ih =>
      intro x1 x2 h ls hl
      rw [F_X5_longest_4] at h
      refine lv_iload_n hx hb dX5_longest_4 rfl (lv_at hl 2 rfl) ?_
      refine lv_bipush (v := 24) hx hb dX5_longest_5 (by decide) ?_
      refine lv_icmp_ge (tgt := 35) hx hb dX5_longest_7 (by decide) (fun c1 => ?_) (fun c1 => ?_)
      · replace h := if_t c1 h
        refine lv_iload_n hx hb dX5_longest_35 rfl (lv_at hl 1 rfl) ?_
        obtain rfl := Option.some.inj h
        exact retR S hr hlk rfl rfl dX5_longest_36
      · replace h := if_f c1 h
        refine lv_aload_n hx hb dX5_longest_10 rfl (lv_at hl 0 rfl) ?_
        refine lv_iload_n hx hb dX5_longest_11 rfl (lv_at hl 2 rfl) ?_
        obtain ⟨r2, hr2, h⟩ := bd_t h
        refine rdV (As := [.int x2]) (rest := []) S hK (c_X5_longOf l G mqa mqs mqp mqn mqx mqm pas misk len spo kin cam fst lst inr fs fp fn fx fm x2 r2 hr2) mX5_longOf q697 ⟨rfl, rfl, Nat.le_of_ble_eq_true rfl, Nat.le_of_ble_eq_true rfl⟩ hP rfl rfl rfl rfl hl.1 (Nat.le_of_ble_eq_true rfl) ⟨Nat.le_refl 0, Nat.le_refl 0⟩ dX5_longest_12 ?_
        refine lv_iload_n hx hb dX5_longest_15 rfl (lv_at hl 1 rfl) ?_
        refine lv_icmp_le (tgt := 27) hx hb dX5_longest_16 (by decide) (fun c3 => ?_) (fun c3 => ?_)
        · replace h := if_t c3 h
          refine lv_iload_n hx hb dX5_longest_27 rfl (lv_at hl 1 rfl) ?_
          refine lv_istore_n (lv' := [(1, .int x1), (0, .ref mqa), (2, .int x2)]) hx hb dX5_longest_28 rfl hl (by decide) rfl (fun ls hl => ?_)
          refine lv_iinc (v := x2 + 1) (lv' := [(2, .int (x2 + 1)), (1, .int x1), (0, .ref mqa)]) hx hb dX5_longest_29 hl (k := 2) rfl rfl (by decide) rfl (fun ls hl => ?_)
          refine lv_goto (tgt := 4) hx hb dX5_longest_32 (by decide) ?_
          exact ih x1 (x2 + 1)  h ls (lv_sub hl [2, 1, 0] rfl)
        · replace h := if_f c3 h
          refine lv_aload_n hx hb dX5_longest_19 rfl (lv_at hl 0 rfl) ?_
          refine lv_iload_n hx hb dX5_longest_20 rfl (lv_at hl 2 rfl) ?_
          obtain ⟨r4, hr4, h⟩ := bd_t h
          refine rdV (As := [.int x2]) (rest := []) S hK (c_X5_longOf l G mqa mqs mqp mqn mqx mqm pas misk len spo kin cam fst lst inr fs fp fn fx fm x2 r4 hr4) mX5_longOf q697 ⟨rfl, rfl, Nat.le_of_ble_eq_true rfl, Nat.le_of_ble_eq_true rfl⟩ hP rfl rfl rfl rfl hl.1 (Nat.le_of_ble_eq_true rfl) ⟨Nat.le_refl 0, Nat.le_refl 0⟩ dX5_longest_21 ?_
          refine lv_goto (tgt := 28) hx hb dX5_longest_24 (by decide) ?_
          refine lv_istore_n (lv' := [(1, .int r4), (0, .ref mqa), (2, .int x2)]) hx hb dX5_longest_28 rfl hl (by decide) rfl (fun ls hl => ?_)
          refine lv_iinc (v := x2 + 1) (lv' := [(2, .int (x2 + 1)), (1, .int r4), (0, .ref mqa)]) hx hb dX5_longest_29 hl (k := 2) rfl rfl (by decide) rfl (fun ls hl => ?_)
          refine lv_goto (tgt := 4) hx hb dX5_longest_32 (by decide) ?_
          exact ih r4 (x2 + 1)  h ls (lv_sub hl [2, 1, 0] rfl)
  rw [F_X5_longest] at h
  refine lv_iconst (v := 0) hx hb dX5_longest_0 (by decide) ?_
  refine lv_istore_n (lv' := [(1, .int 0), (0, .ref mqa)]) hx hb dX5_longest_1 rfl hl (by decide) rfl (fun ls hl => ?_)
  refine lv_iconst (v := 0) hx hb dX5_longest_2 (by decide) ?_
  refine lv_istore_n (lv' := [(2, .int 0), (1, .int 0), (0, .ref mqa)]) hx hb dX5_longest_3 rfl hl (by decide) rfl (fun ls hl => ?_)
  exact L4 10000 0 0  h ls (lv_sub hl [2, 1, 0] rfl)
set_option maxHeartbeats 4000000 in
set_option maxRecDepth 100000 in
theorem c_X5_movesTo (l : Launch) (G : gG) (mqa mqs mqp mqn mqx mqm : Nat) (pas : Int32) (misk : Int32) (len : Int32) (spo : Int32) (kin : Int32) (cam : Int32) (fst : Int32) (lst : Int32) (inr : Int32) (fs : Nat → Int32) (fp : Nat → Int32) (fn : Nat → Int32) (fx : Nat → Int32) (fm : Nat → Int32) (p1 p2 p3 : Int32) (res : Int32) (h : F_X5_movesTo fs p1 p2 p3 = some res) : RdM l G yX5_movesTo cX5_movesTo 7 .int (rmk 2 47) [(mqa, .inr (5, [.ref mqs, .ref mqp, .int pas, .ref mqn, .int misk, .ref mqx, .int len, .ref mqm, .int spo, .int kin, .int cam, .int fst, .int lst, .int inr])), (mqs, .inl (G.2.2.1, 65, .inl fs)), (mqp, .inl (G.2.2.1, 260, .inl fp)), (mqn, .inl (G.2.2.1, 65, .inl fn)), (mqx, .inl (G.2.1, 80, .inl fx)), (mqm, .inl (G.2.2.1, 24, .inl fm))] [.ref mqa, .int p1, .int p2, .int p3] res := by
  refine ofR (by decide) (Nat.le_of_ble_eq_true rfl) ?_
  intro p e s m below meth c ls S hr hlk hK hP hl
  have S : CallFix p m c cX5_movesTo 7 s ([.ref mqa, .int p1, .int p2, .int p3] : List Value).toArray T0 RX5 := S
  obtain ⟨hx, hb, hml, hown, hts⟩ := id S
  have hl : lv_has ls 7 [(0, .ref mqa), (1, .int p1), (2, .int p2), (3, .int p3)] := hl
  have L24 : ∀ (n : Nat) (x1 x2 x3 x4 x5 x6 : Int32), F_X5_movesTo_24 fs n x1 x2 x3 x4 x5 x6 = some res → ∀ (ls : Array Slot), lv_has ls 7 [(0, .ref mqa), (1, .int x1), (2, .int x2), (3, .int x3), (4, .int x4), (5, .int x5), (6, .int x6)] → W p l e (rmk 2 47) s m ([.ref mqa, .int p1, .int p2, .int p3] : List Value).toArray below meth c s.heap [] 0 0 (MQ below (vp_Si (fun x => x = res)) ([.ref mqa, .int p1, .int p2, .int p3] : List Value).toArray s 0 0 (fun _ => False)) (F0 m 24 ls []) := by
    intro n
    induction n with
    | zero => intro x1 x2 x3 x4 x5 x6 h; exact absurd (show (none : Option (Int32)) = some res from h) (fun q => by cases q)
    | succ n ih =>
      intro x1 x2 x3 x4 x5 x6 h ls hl
      rw [F_X5_movesTo_24] at h
      refine lv_iload hx hb dX5_movesTo_24 (lv_at hl 6 rfl) ?_
      refine lv_iload hx hb dX5_movesTo_26 (lv_at hl 4 rfl) ?_
      refine lv_iload_n hx hb dX5_movesTo_28 rfl (lv_at hl 3 rfl) ?_
      refine lv_iadd hx hb dX5_movesTo_29 ?_
      refine lv_icmp_ge (tgt := 56) hx hb dX5_movesTo_30 (by decide) (fun c4 => ?_) (fun c4 => ?_)
      · replace h := if_t c4 h
        refine lv_bipush (v := (-5)) hx hb dX5_movesTo_56 (by decide) ?_
        obtain rfl := Option.some.inj h
        exact retR S hr hlk rfl rfl dX5_movesTo_58
      · replace h := if_f c4 h
        refine lv_iload hx hb dX5_movesTo_33 (lv_at hl 5 rfl) ?_
        refine lv_iload_n hx hb dX5_movesTo_35 rfl (lv_at hl 2 rfl) ?_
        refine lv_icmp_ne (tgt := 42) hx hb dX5_movesTo_36 (by decide) (fun c5 => ?_) (fun c5 => ?_)
        · replace h := if_f c5 h
          refine lv_aload_n hx hb dX5_movesTo_42 rfl (lv_at hl 0 rfl) ?_
          refine lv_iload hx hb dX5_movesTo_43 (lv_at hl 5 rfl) ?_
          obtain ⟨r6, hr6, h⟩ := bd_t h
          refine rdV (As := [.int x5]) (rest := []) S hK (c_X5_moved l G mqa mqs mqp mqn mqx mqm pas misk len spo kin cam fst lst inr fs fp fn fx fm x5 r6 hr6) mX5_moved q800 ⟨rfl, rfl, Nat.le_of_ble_eq_true rfl, Nat.le_of_ble_eq_true rfl⟩ hP rfl rfl rfl rfl hl.1 (Nat.le_of_ble_eq_true rfl) ⟨Nat.le_refl 0, Nat.le_refl 0⟩ dX5_movesTo_45 ?_
          refine lv_istore (lv' := [(5, .int r6), (0, .ref mqa), (1, .int x1), (2, .int x2), (3, .int x3), (4, .int x4), (6, .int x6)]) hx hb dX5_movesTo_48 hl (by decide) rfl (fun ls hl => ?_)
          refine lv_iinc (v := x6 + 1) (lv' := [(6, .int (x6 + 1)), (5, .int r6), (0, .ref mqa), (1, .int x1), (2, .int x2), (3, .int x3), (4, .int x4)]) hx hb dX5_movesTo_50 hl (k := 6) rfl rfl (by decide) rfl (fun ls hl => ?_)
          refine lv_goto (tgt := 24) hx hb dX5_movesTo_53 (by decide) ?_
          exact ih x1 x2 x3 x4 r6 (x6 + 1)  h ls (lv_sub hl [2, 3, 4, 5, 6, 1, 0] rfl)
        · replace h := if_t c5 h
          refine lv_iload hx hb dX5_movesTo_39 (lv_at hl 6 rfl) ?_
          obtain rfl := Option.some.inj h
          exact retR S hr hlk rfl rfl dX5_movesTo_41
  rw [F_X5_movesTo] at h
  refine lv_aload_n hx hb dX5_movesTo_0 rfl (lv_at hl 0 rfl) ?_
  obtain ⟨r1, hr1, h⟩ := bd_t h
  refine rdV (As := []) (rest := []) S hK (c_X5_order l G mqa mqs mqp mqn mqx mqm pas misk len spo kin cam fst lst inr fs fp fn fx fm r1 hr1) mX5_order q693 ⟨rfl, rfl, Nat.le_of_ble_eq_true rfl, Nat.le_of_ble_eq_true rfl⟩ hP rfl rfl rfl rfl hl.1 (Nat.le_of_ble_eq_true rfl) ⟨Nat.le_refl 0, Nat.le_refl 0⟩ dX5_movesTo_1 ?_
  refine lv_istore (lv' := [(4, .int r1), (0, .ref mqa), (1, .int p1), (2, .int p2), (3, .int p3)]) hx hb dX5_movesTo_4 hl (by decide) rfl (fun ls hl => ?_)
  refine lv_iload_n hx hb dX5_movesTo_6 rfl (lv_at hl 4 rfl) ?_
  refine lv_if_ne (tgt := 14) hx hb dX5_movesTo_7 (by decide) (fun c2 => ?_) (fun c2 => ?_)
  · replace h := if_f c2 h
    refine lv_aload_n hx hb dX5_movesTo_14 rfl (lv_at hl 1 rfl) ?_
    refine lv_iload_n hx hb dX5_movesTo_15 rfl (lv_at hl 2 rfl) ?_
    obtain ⟨r3, hr3, h⟩ := bd_t h
    refine rdV (As := [.int p1]) (rest := []) S hK (c_X5_moved l G mqa mqs mqp mqn mqx mqm pas misk len spo kin cam fst lst inr fs fp fn fx fm p1 r3 hr3) mX5_moved q800 ⟨rfl, rfl, Nat.le_of_ble_eq_true rfl, Nat.le_of_ble_eq_true rfl⟩ hP rfl rfl rfl rfl hl.1 (Nat.le_of_ble_eq_true rfl) ⟨Nat.le_refl 0, Nat.le_refl 0⟩ dX5_movesTo_16 ?_
    refine lv_istore (lv' := [(5, .int r3), (4, .int r1), (0, .ref mqa), (1, .int p1), (2, .int p2), (3, .int p3)]) hx hb dX5_movesTo_19 hl (by decide) rfl (fun ls hl => ?_)
    refine lv_iload_n hx hb dX5_movesTo_21 rfl (lv_at hl 5 rfl) ?_
    refine lv_istore (lv' := [(6, .int p3), (5, .int r3), (4, .int r1), (0, .ref mqa), (1, .int p1), (2, .int p2), (3, .int p3)]) hx hb dX5_movesTo_22 hl (by decide) rfl (fun ls hl => ?_)
    exact L24 10000 p1 p2 p3 r1 r3 p3  h ls (lv_sub hl [3, 4, 5, 6, 2, 1, 0] rfl)
  · replace h := if_t c2 h
    refine lv_iload_n hx hb dX5_movesTo_10 rfl (lv_at hl 2 rfl) ?_
    refine lv_goto (tgt := 19) hx hb dX5_movesTo_11 (by decide) ?_
    refine lv_istore (lv' := [(5, .int p1), (4, .int r1), (0, .ref mqa), (1, .int p1), (2, .int p2), (3, .int p3)]) hx hb dX5_movesTo_19 hl (by decide) rfl (fun ls hl => ?_)
    refine lv_iload_n hx hb dX5_movesTo_21 rfl (lv_at hl 5 rfl) ?_
    refine lv_istore (lv' := [(6, .int p3), (5, .int p1), (4, .int r1), (0, .ref mqa), (1, .int p1), (2, .int p2), (3, .int p3)]) hx hb dX5_movesTo_22 hl (by decide) rfl (fun ls hl => ?_)
    exact L24 10000 p1 p2 p3 r1 p1 p3  h ls (lv_sub hl [3, 4, 5, 6, 2, 1, 0] rfl)
set_option maxHeartbeats 4000000 in
set_option maxRecDepth 100000 in
theorem c_X5_lightBut (l : Launch) (G : gG) (mqa mqs mqp mqn mqx mqm : Nat) (pas : Int32) (misk : Int32) (len : Int32) (spo : Int32) (kin : Int32) (cam : Int32) (fst : Int32) (lst : Int32) (inr : Int32) (fs : Nat → Int32) (fp : Nat → Int32) (fn : Nat → Int32) (fx : Nat → Int32) (fm : Nat → Int32) (p1 : Int32) (res : Int32) (h : F_X5_lightBut fs p1 = some res) : RdM l G yX5_lightBut cX5_lightBut 4 .int (rmk 1 21) [(mqa, .inr (5, [.ref mqs, .ref mqp, .int pas, .ref mqn, .int misk, .ref mqx, .int len, .ref mqm, .int spo, .int kin, .int cam, .int fst, .int lst, .int inr])), (mqs, .inl (G.2.2.1, 65, .inl fs)), (mqp, .inl (G.2.2.1, 260, .inl fp)), (mqn, .inl (G.2.2.1, 65, .inl fn)), (mqx, .inl (G.2.1, 80, .inl fx)), (mqm, .inl (G.2.2.1, 24, .inl fm))] [.ref mqa, .int p1] res := by
  refine ofR (by decide) (Nat.le_of_ble_eq_true rfl) ?_
  intro p e s m below meth c ls S hr hlk hK hP hl
  have S : CallFix p m c cX5_lightBut 4 s ([.ref mqa, .int p1] : List Value).toArray T0 RX5 := S
  obtain ⟨hx, hb, hml, hown, hts⟩ := id S
  have hl : lv_has ls 4 [(0, .ref mqa), (1, .int p1)] := hl
  have L5 : ∀ (n : Nat) (x1 x2 x3 : Int32), F_X5_lightBut_5 fs n x1 x2 x3 = some res → ∀ (ls : Array Slot), lv_has ls 4 [(0, .ref mqa), (1, .int x1), (2, .int x2), (3, .int x3)] → W p l e (rmk 1 21) s m ([.ref mqa, .int p1] : List Value).toArray below meth c s.heap [] 0 0 (MQ below (vp_Si (fun x => x = res)) ([.ref mqa, .int p1] : List Value).toArray s 0 0 (fun _ => False)) (F0 m 5 ls []) := by
    intro n
    induction n with
    | zero => intro x1 x2 x3 h; exact absurd (show (none : Option (Int32)) = some res from h) (fun q => by cases q)
    | succ n ih =>
      intro x1 x2 x3 h ls hl
      rw [F_X5_lightBut_5] at h
      refine lv_iload_n hx hb dX5_lightBut_5 rfl (lv_at hl 3 rfl) ?_
      refine lv_aload_n hx hb dX5_lightBut_6 rfl (lv_at hl 0 rfl) ?_
      refine gf S hK iX5 hP 0 rfl rfl 0 (by decide) q636 rfl dX5_lightBut_7 ?_
      refine lv_bipush (v := 24) hx hb dX5_lightBut_10 (by decide) ?_
      obtain ⟨k1, h⟩ := ck_t h
      refine ald S hK hP 1 rfl (ok_vp k1) dX5_lightBut_12 ?_
      refine lv_icmp_ge (tgt := 52) hx hb dX5_lightBut_13 (by decide) (fun c2 => ?_) (fun c2 => ?_)
      · replace h := if_t c2 h
        refine lv_iload_n hx hb dX5_lightBut_52 rfl (lv_at hl 2 rfl) ?_
        obtain rfl := Option.some.inj h
        exact retR S hr hlk rfl rfl dX5_lightBut_53
      · replace h := if_f c2 h
        refine lv_iload_n hx hb dX5_lightBut_16 rfl (lv_at hl 2 rfl) ?_
        refine lv_aload_n hx hb dX5_lightBut_17 rfl (lv_at hl 0 rfl) ?_
        refine lv_iload_n hx hb dX5_lightBut_18 rfl (lv_at hl 3 rfl) ?_
        obtain ⟨r3, hr3, h⟩ := bd_t h
        refine rdV (As := [.int x3]) (rest := [.int x2]) S hK (c_X5_isOn l G mqa mqs mqp mqn mqx mqm pas misk len spo kin cam fst lst inr fs fp fn fx fm x3 r3 hr3) mX5_isOn q808 ⟨rfl, rfl, Nat.le_of_ble_eq_true rfl, Nat.le_of_ble_eq_true rfl⟩ hP rfl rfl rfl rfl hl.1 (Nat.le_of_ble_eq_true rfl) ⟨Nat.le_refl 0, Nat.le_refl 0⟩ dX5_lightBut_19 ?_
        refine lv_if_eq (tgt := 42) hx hb dX5_lightBut_22 (by decide) (fun c4 => ?_) (fun c4 => ?_)
        · replace h := if_t c4 h
          refine lv_ldc (v := 16777215) hx hb hown (hts _ q757) dX5_lightBut_42 ?_
          refine lv_iand hx hb dX5_lightBut_44 ?_
          refine lv_istore_n (lv' := [(2, .int (x2 &&& 16777215)), (0, .ref mqa), (1, .int x1), (3, .int x3)]) hx hb dX5_lightBut_45 rfl hl (by decide) rfl (fun ls hl => ?_)
          refine lv_iinc (v := x3 + 1) (lv' := [(3, .int (x3 + 1)), (2, .int (x2 &&& 16777215)), (0, .ref mqa), (1, .int x1)]) hx hb dX5_lightBut_46 hl (k := 3) rfl rfl (by decide) rfl (fun ls hl => ?_)
          refine lv_goto (tgt := 5) hx hb dX5_lightBut_49 (by decide) ?_
          exact ih x1 (x2 &&& 16777215) (x3 + 1)  h ls (lv_sub hl [2, 3, 1, 0] rfl)
        · replace h := if_f c4 h
          refine lv_iload_n hx hb dX5_lightBut_25 rfl (lv_at hl 3 rfl) ?_
          refine lv_iload_n hx hb dX5_lightBut_26 rfl (lv_at hl 1 rfl) ?_
          refine lv_icmp_eq (tgt := 42) hx hb dX5_lightBut_27 (by decide) (fun c5 => ?_) (fun c5 => ?_)
          · replace h := if_t c5 h
            refine lv_ldc (v := 16777215) hx hb hown (hts _ q757) dX5_lightBut_42 ?_
            refine lv_iand hx hb dX5_lightBut_44 ?_
            refine lv_istore_n (lv' := [(2, .int (x2 &&& 16777215)), (0, .ref mqa), (1, .int x1), (3, .int x3)]) hx hb dX5_lightBut_45 rfl hl (by decide) rfl (fun ls hl => ?_)
            refine lv_iinc (v := x3 + 1) (lv' := [(3, .int (x3 + 1)), (2, .int (x2 &&& 16777215)), (0, .ref mqa), (1, .int x1)]) hx hb dX5_lightBut_46 hl (k := 3) rfl rfl (by decide) rfl (fun ls hl => ?_)
            refine lv_goto (tgt := 5) hx hb dX5_lightBut_49 (by decide) ?_
            exact ih x1 (x2 &&& 16777215) (x3 + 1)  h ls (lv_sub hl [2, 3, 1, 0] rfl)
          · replace h := if_f c5 h
            refine lv_aload_n hx hb dX5_lightBut_30 rfl (lv_at hl 0 rfl) ?_
            refine gf S hK iX5 hP 0 rfl rfl 0 (by decide) q636 rfl dX5_lightBut_31 ?_
            refine lv_bipush (v := 25) hx hb dX5_lightBut_34 (by decide) ?_
            refine lv_iload_n hx hb dX5_lightBut_36 rfl (lv_at hl 3 rfl) ?_
            refine lv_iadd hx hb dX5_lightBut_37 ?_
            obtain ⟨k6, h⟩ := ck_t h
            refine ald S hK hP 1 rfl (ok_vp k6) dX5_lightBut_38 ?_
            refine lv_goto (tgt := 44) hx hb dX5_lightBut_39 (by decide) ?_
            refine lv_iand hx hb dX5_lightBut_44 ?_
            refine lv_istore_n (lv' := [(2, .int (x2 &&& (fs (Int32.toNatClampNeg ((25 : Int32) + x3))))), (0, .ref mqa), (1, .int x1), (3, .int x3)]) hx hb dX5_lightBut_45 rfl hl (by decide) rfl (fun ls hl => ?_)
            refine lv_iinc (v := x3 + 1) (lv' := [(3, .int (x3 + 1)), (2, .int (x2 &&& (fs (Int32.toNatClampNeg ((25 : Int32) + x3))))), (0, .ref mqa), (1, .int x1)]) hx hb dX5_lightBut_46 hl (k := 3) rfl rfl (by decide) rfl (fun ls hl => ?_)
            refine lv_goto (tgt := 5) hx hb dX5_lightBut_49 (by decide) ?_
            exact ih x1 (x2 &&& (fs (Int32.toNatClampNeg ((25 : Int32) + x3)))) (x3 + 1)  h ls (lv_sub hl [2, 3, 1, 0] rfl)
  rw [F_X5_lightBut] at h
  refine lv_ldc (v := 16777215) hx hb hown (hts _ q757) dX5_lightBut_0 ?_
  refine lv_istore_n (lv' := [(2, .int 16777215), (0, .ref mqa), (1, .int p1)]) hx hb dX5_lightBut_2 rfl hl (by decide) rfl (fun ls hl => ?_)
  refine lv_iconst (v := 0) hx hb dX5_lightBut_3 (by decide) ?_
  refine lv_istore_n (lv' := [(3, .int 0), (2, .int 16777215), (0, .ref mqa), (1, .int p1)]) hx hb dX5_lightBut_4 rfl hl (by decide) rfl (fun ls hl => ?_)
  exact L5 10000 p1 16777215 0  h ls (lv_sub hl [2, 3, 1, 0] rfl)
set_option maxHeartbeats 4000000 in
set_option maxRecDepth 100000 in
theorem c_X5_lit (l : Launch) (G : gG) (mqa mqs mqp mqn mqx mqm : Nat) (pas : Int32) (misk : Int32) (len : Int32) (spo : Int32) (kin : Int32) (cam : Int32) (fst : Int32) (lst : Int32) (inr : Int32) (fs : Nat → Int32) (fp : Nat → Int32) (fn : Nat → Int32) (fx : Nat → Int32) (fm : Nat → Int32) (res : Int32) (h : F_X5_lit fs = some res) : RdM l G yX5_lit cX5_lit 1 .int (rmk 2 44) [(mqa, .inr (5, [.ref mqs, .ref mqp, .int pas, .ref mqn, .int misk, .ref mqx, .int len, .ref mqm, .int spo, .int kin, .int cam, .int fst, .int lst, .int inr])), (mqs, .inl (G.2.2.1, 65, .inl fs)), (mqp, .inl (G.2.2.1, 260, .inl fp)), (mqn, .inl (G.2.2.1, 65, .inl fn)), (mqx, .inl (G.2.1, 80, .inl fx)), (mqm, .inl (G.2.2.1, 24, .inl fm))] [.ref mqa] res := by
  refine ofR (by decide) (Nat.le_of_ble_eq_true rfl) ?_
  intro p e s m below meth c ls S hr hlk hK hP hl
  have S : CallFix p m c cX5_lit 1 s ([.ref mqa] : List Value).toArray T0 RX5 := S
  obtain ⟨hx, hb, hml, hown, hts⟩ := id S
  have hl : lv_has ls 1 [(0, .ref mqa)] := hl
  rw [F_X5_lit] at h
  refine lv_aload_n hx hb dX5_lit_0 rfl (lv_at hl 0 rfl) ?_
  refine gf S hK iX5 hP 0 rfl rfl 0 (by decide) q636 rfl dX5_lit_1 ?_
  refine lv_bipush (v := 49) hx hb dX5_lit_4 (by decide) ?_
  obtain ⟨k1, h⟩ := ck_t h
  refine ald S hK hP 1 rfl (ok_vp k1) dX5_lit_6 ?_
  refine lv_if_ne (tgt := 14) hx hb dX5_lit_7 (by decide) (fun c2 => ?_) (fun c2 => ?_)
  · replace h := if_f c2 h
    refine lv_aload_n hx hb dX5_lit_14 rfl (lv_at hl 0 rfl) ?_
    refine lv_iconst (v := (-1)) hx hb dX5_lit_15 (by decide) ?_
    obtain ⟨r3, hr3, h⟩ := bd_t h
    refine rdV (As := [.int (-1)]) (rest := []) S hK (c_X5_lightBut l G mqa mqs mqp mqn mqx mqm pas misk len spo kin cam fst lst inr fs fp fn fx fm (-1) r3 hr3) mX5_lightBut q896 ⟨rfl, rfl, Nat.le_of_ble_eq_true rfl, Nat.le_of_ble_eq_true rfl⟩ hP rfl rfl rfl rfl hl.1 (Nat.le_of_ble_eq_true rfl) ⟨Nat.le_refl 0, Nat.le_refl 0⟩ dX5_lit_16 ?_
    obtain rfl := Option.some.inj h
    exact retR S hr hlk rfl rfl dX5_lit_19
  · replace h := if_t c2 h
    refine lv_iconst (v := 0) hx hb dX5_lit_10 (by decide) ?_
    refine lv_goto (tgt := 19) hx hb dX5_lit_11 (by decide) ?_
    obtain rfl := Option.some.inj h
    exact retR S hr hlk rfl rfl dX5_lit_19
set_option maxHeartbeats 4000000 in
set_option maxRecDepth 100000 in
theorem c_X5_allOf (l : Launch) (G : gG) (mqa mqs mqp mqn mqx mqm : Nat) (pas : Int32) (misk : Int32) (len : Int32) (spo : Int32) (kin : Int32) (cam : Int32) (fst : Int32) (lst : Int32) (inr : Int32) (fs : Nat → Int32) (fp : Nat → Int32) (fn : Nat → Int32) (fx : Nat → Int32) (fm : Nat → Int32) (p1 : Int32) (res : Int32) (h : F_X5_allOf fs p1 = some res) : RdM l G yX5_allOf cX5_allOf 4 .int (rmk 1 22) [(mqa, .inr (5, [.ref mqs, .ref mqp, .int pas, .ref mqn, .int misk, .ref mqx, .int len, .ref mqm, .int spo, .int kin, .int cam, .int fst, .int lst, .int inr])), (mqs, .inl (G.2.2.1, 65, .inl fs)), (mqp, .inl (G.2.2.1, 260, .inl fp)), (mqn, .inl (G.2.2.1, 65, .inl fn)), (mqx, .inl (G.2.1, 80, .inl fx)), (mqm, .inl (G.2.2.1, 24, .inl fm))] [.ref mqa, .int p1] res := by
  refine ofR (by decide) (Nat.le_of_ble_eq_true rfl) ?_
  intro p e s m below meth c ls S hr hlk hK hP hl
  have S : CallFix p m c cX5_allOf 4 s ([.ref mqa, .int p1] : List Value).toArray T0 RX5 := S
  obtain ⟨hx, hb, hml, hown, hts⟩ := id S
  have hl : lv_has ls 4 [(0, .ref mqa), (1, .int p1)] := hl
  have L4 : ∀ (n : Nat) (x1 x2 x3 : Int32), F_X5_allOf_4 fs n x1 x2 x3 = some res → ∀ (ls : Array Slot), lv_has ls 4 [(0, .ref mqa), (1, .int x1), (2, .int x2), (3, .int x3)] → W p l e (rmk 1 22) s m ([.ref mqa, .int p1] : List Value).toArray below meth c s.heap [] 0 0 (MQ below (vp_Si (fun x => x = res)) ([.ref mqa, .int p1] : List Value).toArray s 0 0 (fun _ => False)) (F0 m 4 ls []) := by
    intro n
    induction n with
    | zero => intro x1 x2 x3 h; exact absurd (show (none : Option (Int32)) = some res from h) (fun q => by cases q)
    | succ n ih =>
      intro x1 x2 x3 h ls hl
      rw [F_X5_allOf_4] at h
      refine lv_iload_n hx hb dX5_allOf_4 rfl (lv_at hl 3 rfl) ?_
      refine lv_aload_n hx hb dX5_allOf_5 rfl (lv_at hl 0 rfl) ?_
      refine gf S hK iX5 hP 0 rfl rfl 0 (by decide) q636 rfl dX5_allOf_6 ?_
      refine lv_bipush (v := 24) hx hb dX5_allOf_9 (by decide) ?_
      obtain ⟨k1, h⟩ := ck_t h
      refine ald S hK hP 1 rfl (ok_vp k1) dX5_allOf_11 ?_
      refine lv_icmp_ge (tgt := 35) hx hb dX5_allOf_12 (by decide) (fun c2 => ?_) (fun c2 => ?_)
      · replace h := if_t c2 h
        refine lv_iload_n hx hb dX5_allOf_35 rfl (lv_at hl 2 rfl) ?_
        obtain rfl := Option.some.inj h
        exact retR S hr hlk rfl rfl dX5_allOf_36
      · replace h := if_f c2 h
        refine lv_iload_n hx hb dX5_allOf_15 rfl (lv_at hl 2 rfl) ?_
        refine lv_aload_n hx hb dX5_allOf_16 rfl (lv_at hl 0 rfl) ?_
        refine gf S hK iX5 hP 0 rfl rfl 0 (by decide) q636 rfl dX5_allOf_17 ?_
        refine lv_iload_n hx hb dX5_allOf_20 rfl (lv_at hl 1 rfl) ?_
        refine lv_iload_n hx hb dX5_allOf_21 rfl (lv_at hl 3 rfl) ?_
        refine lv_iadd hx hb dX5_allOf_22 ?_
        obtain ⟨k3, h⟩ := ck_t h
        refine ald S hK hP 1 rfl (ok_vp k3) dX5_allOf_23 ?_
        obtain ⟨r4, hr4, h⟩ := bd_t h
        refine rdS (As := [.int (fs (Int32.toNatClampNeg (x1 + x3)))]) (rest := [.int x2]) S hK (c_X5_ones l G (fs (Int32.toNatClampNeg (x1 + x3))) r4 hr4) mX5_ones q758 ⟨rfl, rfl, Nat.le_of_ble_eq_true rfl, Nat.le_of_ble_eq_true rfl⟩ (ws_nil G.1 _) rfl hl.1 (Nat.le_of_ble_eq_true rfl) ⟨Nat.le_refl 0, Nat.le_refl 0⟩ dX5_allOf_24 ?_
        refine lv_iadd hx hb dX5_allOf_27 ?_
        refine lv_istore_n (lv' := [(2, .int (x2 + r4)), (0, .ref mqa), (1, .int x1), (3, .int x3)]) hx hb dX5_allOf_28 rfl hl (by decide) rfl (fun ls hl => ?_)
        refine lv_iinc (v := x3 + 1) (lv' := [(3, .int (x3 + 1)), (2, .int (x2 + r4)), (0, .ref mqa), (1, .int x1)]) hx hb dX5_allOf_29 hl (k := 3) rfl rfl (by decide) rfl (fun ls hl => ?_)
        refine lv_goto (tgt := 4) hx hb dX5_allOf_32 (by decide) ?_
        exact ih x1 (x2 + r4) (x3 + 1)  h ls (lv_sub hl [2, 3, 1, 0] rfl)
  rw [F_X5_allOf] at h
  refine lv_iconst (v := 0) hx hb dX5_allOf_0 (by decide) ?_
  refine lv_istore_n (lv' := [(2, .int 0), (0, .ref mqa), (1, .int p1)]) hx hb dX5_allOf_1 rfl hl (by decide) rfl (fun ls hl => ?_)
  refine lv_iconst (v := 0) hx hb dX5_allOf_2 (by decide) ?_
  refine lv_istore_n (lv' := [(3, .int 0), (2, .int 0), (0, .ref mqa), (1, .int p1)]) hx hb dX5_allOf_3 rfl hl (by decide) rfl (fun ls hl => ?_)
  exact L4 10000 p1 0 0  h ls (lv_sub hl [2, 3, 1, 0] rfl)
set_option maxHeartbeats 4000000 in
set_option maxRecDepth 100000 in
theorem c_X5_falseOnes (l : Launch) (G : gG) (mqa mqs mqp mqn mqx mqm : Nat) (pas : Int32) (misk : Int32) (len : Int32) (spo : Int32) (kin : Int32) (cam : Int32) (fst : Int32) (lst : Int32) (inr : Int32) (fs : Nat → Int32) (fp : Nat → Int32) (fn : Nat → Int32) (fx : Nat → Int32) (fm : Nat → Int32) (res : Int32) (h : F_X5_falseOnes fs = some res) : RdM l G yX5_falseOnes cX5_falseOnes 3 .int (rmk 1 21) [(mqa, .inr (5, [.ref mqs, .ref mqp, .int pas, .ref mqn, .int misk, .ref mqx, .int len, .ref mqm, .int spo, .int kin, .int cam, .int fst, .int lst, .int inr])), (mqs, .inl (G.2.2.1, 65, .inl fs)), (mqp, .inl (G.2.2.1, 260, .inl fp)), (mqn, .inl (G.2.2.1, 65, .inl fn)), (mqx, .inl (G.2.1, 80, .inl fx)), (mqm, .inl (G.2.2.1, 24, .inl fm))] [.ref mqa] res := by
  refine ofR (by decide) (Nat.le_of_ble_eq_true rfl) ?_
  intro p e s m below meth c ls S hr hlk hK hP hl
  have S : CallFix p m c cX5_falseOnes 3 s ([.ref mqa] : List Value).toArray T0 RX5 := S
  obtain ⟨hx, hb, hml, hown, hts⟩ := id S
  have hl : lv_has ls 3 [(0, .ref mqa)] := hl
  have L4 : ∀ (n : Nat) (x1 x2 : Int32), F_X5_falseOnes_4 fs n x1 x2 = some res → ∀ (ls : Array Slot), lv_has ls 3 [(0, .ref mqa), (1, .int x1), (2, .int x2)] → W p l e (rmk 1 21) s m ([.ref mqa] : List Value).toArray below meth c s.heap [] 0 0 (MQ below (vp_Si (fun x => x = res)) ([.ref mqa] : List Value).toArray s 0 0 (fun _ => False)) (F0 m 4 ls []) := by
    intro n
    induction n with
    | zero => intro x1 x2 h; exact absurd (show (none : Option (Int32)) = some res from h) (fun q => by cases q)
    | succ n ih =>
      intro x1 x2 h ls hl
      rw [F_X5_falseOnes_4] at h
      refine lv_iload_n hx hb dX5_falseOnes_4 rfl (lv_at hl 2 rfl) ?_
      refine lv_aload_n hx hb dX5_falseOnes_5 rfl (lv_at hl 0 rfl) ?_
      refine gf S hK iX5 hP 0 rfl rfl 0 (by decide) q636 rfl dX5_falseOnes_6 ?_
      refine lv_bipush (v := 24) hx hb dX5_falseOnes_9 (by decide) ?_
      obtain ⟨k1, h⟩ := ck_t h
      refine ald S hK hP 1 rfl (ok_vp k1) dX5_falseOnes_11 ?_
      refine lv_icmp_ge (tgt := 37) hx hb dX5_falseOnes_12 (by decide) (fun c2 => ?_) (fun c2 => ?_)
      · replace h := if_t c2 h
        refine lv_iload_n hx hb dX5_falseOnes_37 rfl (lv_at hl 1 rfl) ?_
        obtain rfl := Option.some.inj h
        exact retR S hr hlk rfl rfl dX5_falseOnes_38
      · replace h := if_f c2 h
        refine lv_iload_n hx hb dX5_falseOnes_15 rfl (lv_at hl 1 rfl) ?_
        refine lv_aload_n hx hb dX5_falseOnes_16 rfl (lv_at hl 0 rfl) ?_
        refine lv_iload_n hx hb dX5_falseOnes_17 rfl (lv_at hl 2 rfl) ?_
        obtain ⟨r3, hr3, h⟩ := bd_t h
        refine rdV (As := [.int x2]) (rest := [.int x1]) S hK (c_X5_isFalse l G mqa mqs mqp mqn mqx mqm pas misk len spo kin cam fst lst inr fs fp fn fx fm x2 r3 hr3) mX5_isFalse q773 ⟨rfl, rfl, Nat.le_of_ble_eq_true rfl, Nat.le_of_ble_eq_true rfl⟩ hP rfl rfl rfl rfl hl.1 (Nat.le_of_ble_eq_true rfl) ⟨Nat.le_refl 0, Nat.le_refl 0⟩ dX5_falseOnes_18 ?_
        refine lv_if_eq (tgt := 28) hx hb dX5_falseOnes_21 (by decide) (fun c4 => ?_) (fun c4 => ?_)
        · replace h := if_t c4 h
          refine lv_iconst (v := 0) hx hb dX5_falseOnes_28 (by decide) ?_
          refine lv_iadd hx hb dX5_falseOnes_29 ?_
          refine lv_istore_n (lv' := [(1, .int (x1 + 0)), (0, .ref mqa), (2, .int x2)]) hx hb dX5_falseOnes_30 rfl hl (by decide) rfl (fun ls hl => ?_)
          refine lv_iinc (v := x2 + 1) (lv' := [(2, .int (x2 + 1)), (1, .int (x1 + 0)), (0, .ref mqa)]) hx hb dX5_falseOnes_31 hl (k := 2) rfl rfl (by decide) rfl (fun ls hl => ?_)
          refine lv_goto (tgt := 4) hx hb dX5_falseOnes_34 (by decide) ?_
          exact ih (x1 + 0) (x2 + 1)  h ls (lv_sub hl [2, 1, 0] rfl)
        · replace h := if_f c4 h
          refine lv_iconst (v := 1) hx hb dX5_falseOnes_24 (by decide) ?_
          refine lv_goto (tgt := 29) hx hb dX5_falseOnes_25 (by decide) ?_
          refine lv_iadd hx hb dX5_falseOnes_29 ?_
          refine lv_istore_n (lv' := [(1, .int (x1 + 1)), (0, .ref mqa), (2, .int x2)]) hx hb dX5_falseOnes_30 rfl hl (by decide) rfl (fun ls hl => ?_)
          refine lv_iinc (v := x2 + 1) (lv' := [(2, .int (x2 + 1)), (1, .int (x1 + 1)), (0, .ref mqa)]) hx hb dX5_falseOnes_31 hl (k := 2) rfl rfl (by decide) rfl (fun ls hl => ?_)
          refine lv_goto (tgt := 4) hx hb dX5_falseOnes_34 (by decide) ?_
          exact ih (x1 + 1) (x2 + 1)  h ls (lv_sub hl [2, 1, 0] rfl)
  rw [F_X5_falseOnes] at h
  refine lv_iconst (v := 0) hx hb dX5_falseOnes_0 (by decide) ?_
  refine lv_istore_n (lv' := [(1, .int 0), (0, .ref mqa)]) hx hb dX5_falseOnes_1 rfl hl (by decide) rfl (fun ls hl => ?_)
  refine lv_iconst (v := 0) hx hb dX5_falseOnes_2 (by decide) ?_
  refine lv_istore_n (lv' := [(2, .int 0), (1, .int 0), (0, .ref mqa)]) hx hb dX5_falseOnes_3 rfl hl (by decide) rfl (fun ls hl => ?_)
  exact L4 10000 0 0  h ls (lv_sub hl [2, 1, 0] rfl)
set_option maxHeartbeats 4000000 in
set_option maxRecDepth 100000 in
theorem c_X5_place (l : Launch) (G : gG) (mqa mqs mqp mqn mqx mqm : Nat) (pas : Int32) (misk : Int32) (len : Int32) (spo : Int32) (kin : Int32) (cam : Int32) (fst : Int32) (lst : Int32) (inr : Int32) (fs : Nat → Int32) (fp : Nat → Int32) (fn : Nat → Int32) (fx : Nat → Int32) (fm : Nat → Int32) (p1 p2 : Int32) (res : Int32) (h : F_X5_place fs p1 p2 = some res) : RdM l G yX5_place cX5_place 3 .int (rmk 2 42) [(mqa, .inr (5, [.ref mqs, .ref mqp, .int pas, .ref mqn, .int misk, .ref mqx, .int len, .ref mqm, .int spo, .int kin, .int cam, .int fst, .int lst, .int inr])), (mqs, .inl (G.2.2.1, 65, .inl fs)), (mqp, .inl (G.2.2.1, 260, .inl fp)), (mqn, .inl (G.2.2.1, 65, .inl fn)), (mqx, .inl (G.2.1, 80, .inl fx)), (mqm, .inl (G.2.2.1, 24, .inl fm))] [.ref mqa, .int p1, .int p2] res := by
  refine ofR (by decide) (Nat.le_of_ble_eq_true rfl) ?_
  intro p e s m below meth c ls S hr hlk hK hP hl
  have S : CallFix p m c cX5_place 3 s ([.ref mqa, .int p1, .int p2] : List Value).toArray T0 RX5 := S
  obtain ⟨hx, hb, hml, hown, hts⟩ := id S
  have hl : lv_has ls 3 [(0, .ref mqa), (1, .int p1), (2, .int p2)] := hl
  rw [F_X5_place] at h
  refine lv_iload_n hx hb dX5_place_0 rfl (lv_at hl 1 rfl) ?_
  obtain ⟨r1, hr1, h⟩ := bd_t h
  refine rdS (As := [.int p1]) (rest := []) S hK (c_X5_isPlace l G p1 r1 hr1) mX5_isPlace q683 ⟨rfl, rfl, Nat.le_of_ble_eq_true rfl, Nat.le_of_ble_eq_true rfl⟩ (ws_nil G.1 _) rfl hl.1 (Nat.le_of_ble_eq_true rfl) ⟨Nat.le_refl 0, Nat.le_refl 0⟩ dX5_place_1 ?_
  refine lv_if_ne (tgt := 9) hx hb dX5_place_4 (by decide) (fun c2 => ?_) (fun c2 => ?_)
  · replace h := if_f c2 h
    refine lv_iload_n hx hb dX5_place_9 rfl (lv_at hl 2 rfl) ?_
    by_cases z10_0 : p2 = 0
    · replace h := if_t z10_0 h
      refine lv_tableIn (off := 34) (tgt := 44) hx hb dX5_place_10 (by rw [z10_0]; decide) (by rw [z10_0]; decide) (by rw [z10_0]; rfl) (by decide) ?_
      refine lv_aload_n hx hb dX5_place_44 rfl (lv_at hl 0 rfl) ?_
      refine gf S hK iX5 hP 0 rfl rfl 0 (by decide) q636 rfl dX5_place_45 ?_
      refine lv_iconst (v := 0) hx hb dX5_place_48 (by decide) ?_
      refine lv_iload_n hx hb dX5_place_49 rfl (lv_at hl 1 rfl) ?_
      refine lv_iadd hx hb dX5_place_50 ?_
      obtain ⟨k3, h⟩ := ck_t h
      refine ald S hK hP 1 rfl (ok_vp k3) dX5_place_51 ?_
      obtain rfl := Option.some.inj h
      exact retR S hr hlk rfl rfl dX5_place_52
    replace h := if_f z10_0 h
    by_cases z10_1 : p2 = 1
    · replace h := if_t z10_1 h
      refine lv_tableIn (off := 43) (tgt := 53) hx hb dX5_place_10 (by rw [z10_1]; decide) (by rw [z10_1]; decide) (by rw [z10_1]; rfl) (by decide) ?_
      refine lv_aload_n hx hb dX5_place_53 rfl (lv_at hl 0 rfl) ?_
      refine lv_iload_n hx hb dX5_place_54 rfl (lv_at hl 1 rfl) ?_
      obtain ⟨r4, hr4, h⟩ := bd_t h
      refine rdV (As := [.int p1]) (rest := []) S hK (c_X5_sourceOf l G mqa mqs mqp mqn mqx mqm pas misk len spo kin cam fst lst inr fs fp fn fx fm p1 r4 hr4) mX5_sourceOf q705 ⟨rfl, rfl, Nat.le_of_ble_eq_true rfl, Nat.le_of_ble_eq_true rfl⟩ hP rfl rfl rfl rfl hl.1 (Nat.le_of_ble_eq_true rfl) ⟨Nat.le_refl 0, Nat.le_refl 0⟩ dX5_place_55 ?_
      obtain rfl := Option.some.inj h
      exact retR S hr hlk rfl rfl dX5_place_58
    replace h := if_f z10_1 h
    by_cases z10_2 : p2 = 2
    · replace h := if_t z10_2 h
      refine lv_tableIn (off := 49) (tgt := 59) hx hb dX5_place_10 (by rw [z10_2]; decide) (by rw [z10_2]; decide) (by rw [z10_2]; rfl) (by decide) ?_
      refine lv_aload_n hx hb dX5_place_59 rfl (lv_at hl 0 rfl) ?_
      refine lv_iload_n hx hb dX5_place_60 rfl (lv_at hl 1 rfl) ?_
      obtain ⟨r5, hr5, h⟩ := bd_t h
      refine rdV (As := [.int p1]) (rest := []) S hK (c_X5_longOf l G mqa mqs mqp mqn mqx mqm pas misk len spo kin cam fst lst inr fs fp fn fx fm p1 r5 hr5) mX5_longOf q697 ⟨rfl, rfl, Nat.le_of_ble_eq_true rfl, Nat.le_of_ble_eq_true rfl⟩ hP rfl rfl rfl rfl hl.1 (Nat.le_of_ble_eq_true rfl) ⟨Nat.le_refl 0, Nat.le_refl 0⟩ dX5_place_61 ?_
      obtain rfl := Option.some.inj h
      exact retR S hr hlk rfl rfl dX5_place_64
    replace h := if_f z10_2 h
    by_cases z10_3 : p2 = 3
    · replace h := if_t z10_3 h
      refine lv_tableIn (off := 55) (tgt := 65) hx hb dX5_place_10 (by rw [z10_3]; decide) (by rw [z10_3]; decide) (by rw [z10_3]; rfl) (by decide) ?_
      refine lv_aload_n hx hb dX5_place_65 rfl (lv_at hl 0 rfl) ?_
      refine lv_iload_n hx hb dX5_place_66 rfl (lv_at hl 1 rfl) ?_
      obtain ⟨r6, hr6, h⟩ := bd_t h
      refine rdV (As := [.int p1]) (rest := []) S hK (c_X5_lowestOf l G mqa mqs mqp mqn mqx mqm pas misk len spo kin cam fst lst inr fs fp fn fx fm p1 r6 hr6) mX5_lowestOf q832 ⟨rfl, rfl, Nat.le_of_ble_eq_true rfl, Nat.le_of_ble_eq_true rfl⟩ hP rfl rfl rfl rfl hl.1 (Nat.le_of_ble_eq_true rfl) ⟨Nat.le_refl 0, Nat.le_refl 0⟩ dX5_place_67 ?_
      obtain rfl := Option.some.inj h
      exact retR S hr hlk rfl rfl dX5_place_70
    replace h := if_f z10_3 h
    by_cases z10_4 : p2 = 4
    · replace h := if_t z10_4 h
      refine lv_tableIn (off := 61) (tgt := 71) hx hb dX5_place_10 (by rw [z10_4]; decide) (by rw [z10_4]; decide) (by rw [z10_4]; rfl) (by decide) ?_
      refine lv_aload_n hx hb dX5_place_71 rfl (lv_at hl 0 rfl) ?_
      refine lv_iload_n hx hb dX5_place_72 rfl (lv_at hl 1 rfl) ?_
      obtain ⟨r7, hr7, h⟩ := bd_t h
      refine rdV (As := [.int p1]) (rest := []) S hK (c_X5_withHole l G mqa mqs mqp mqn mqx mqm pas misk len spo kin cam fst lst inr fs fp fn fx fm p1 r7 hr7) mX5_withHole q836 ⟨rfl, rfl, Nat.le_of_ble_eq_true rfl, Nat.le_of_ble_eq_true rfl⟩ hP rfl rfl rfl rfl hl.1 (Nat.le_of_ble_eq_true rfl) ⟨Nat.le_refl 0, Nat.le_refl 0⟩ dX5_place_73 ?_
      obtain rfl := Option.some.inj h
      exact retR S hr hlk rfl rfl dX5_place_76
    replace h := if_f z10_4 h
    refine lv_tableOut (tgt := 77) hx hb dX5_place_10 (sw_out5 z10_0 z10_1 z10_2 z10_3 z10_4) (by decide) ?_
    refine lv_bipush (v := (-2)) hx hb dX5_place_77 (by decide) ?_
    obtain rfl := Option.some.inj h
    exact retR S hr hlk rfl rfl dX5_place_79
  · replace h := if_t c2 h
    refine lv_iconst (v := (-1)) hx hb dX5_place_7 (by decide) ?_
    obtain rfl := Option.some.inj h
    exact retR S hr hlk rfl rfl dX5_place_8
set_option maxHeartbeats 4000000 in
set_option maxRecDepth 100000 in
theorem c_X5_move (l : Launch) (G : gG) (mqa mqs mqp mqn mqx mqm : Nat) (pas : Int32) (misk : Int32) (len : Int32) (spo : Int32) (kin : Int32) (cam : Int32) (fst : Int32) (lst : Int32) (inr : Int32) (fs : Nat → Int32) (fp : Nat → Int32) (fn : Nat → Int32) (fx : Nat → Int32) (fm : Nat → Int32) (p1 : Int32) (res : Int32) (h : F_X5_move fs p1 = some res) : RdM l G yX5_move cX5_move 2 .int (rmk 2 47) [(mqa, .inr (5, [.ref mqs, .ref mqp, .int pas, .ref mqn, .int misk, .ref mqx, .int len, .ref mqm, .int spo, .int kin, .int cam, .int fst, .int lst, .int inr])), (mqs, .inl (G.2.2.1, 65, .inl fs)), (mqp, .inl (G.2.2.1, 260, .inl fp)), (mqn, .inl (G.2.2.1, 65, .inl fn)), (mqx, .inl (G.2.1, 80, .inl fx)), (mqm, .inl (G.2.2.1, 24, .inl fm))] [.ref mqa, .int p1] res := by
  refine ofR (by decide) (Nat.le_of_ble_eq_true rfl) ?_
  intro p e s m below meth c ls S hr hlk hK hP hl
  have S : CallFix p m c cX5_move 2 s ([.ref mqa, .int p1] : List Value).toArray T0 RX5 := S
  obtain ⟨hx, hb, hml, hown, hts⟩ := id S
  have hl : lv_has ls 2 [(0, .ref mqa), (1, .int p1)] := hl
  rw [F_X5_move] at h
  refine lv_iload_n hx hb dX5_move_0 rfl (lv_at hl 1 rfl) ?_
  by_cases z1_0 : p1 = 0
  · replace h := if_t z1_0 h
    refine lv_tableIn (off := 35) (tgt := 36) hx hb dX5_move_1 (by rw [z1_0]; decide) (by rw [z1_0]; decide) (by rw [z1_0]; rfl) (by decide) ?_
    refine lv_aload_n hx hb dX5_move_36 rfl (lv_at hl 0 rfl) ?_
    obtain ⟨r1, hr1, h⟩ := bd_t h
    refine rdV (As := []) (rest := []) S hK (c_X5_order l G mqa mqs mqp mqn mqx mqm pas misk len spo kin cam fst lst inr fs fp fn fx fm r1 hr1) mX5_order q693 ⟨rfl, rfl, Nat.le_of_ble_eq_true rfl, Nat.le_of_ble_eq_true rfl⟩ hP rfl rfl rfl rfl hl.1 (Nat.le_of_ble_eq_true rfl) ⟨Nat.le_refl 0, Nat.le_refl 0⟩ dX5_move_37 ?_
    obtain rfl := Option.some.inj h
    exact retR S hr hlk rfl rfl dX5_move_40
  replace h := if_f z1_0 h
  by_cases z1_1 : p1 = 1
  · replace h := if_t z1_1 h
    refine lv_tableIn (off := 40) (tgt := 41) hx hb dX5_move_1 (by rw [z1_1]; decide) (by rw [z1_1]; decide) (by rw [z1_1]; rfl) (by decide) ?_
    refine lv_aload_n hx hb dX5_move_41 rfl (lv_at hl 0 rfl) ?_
    obtain ⟨r2, hr2, h⟩ := bd_t h
    refine rdV (As := []) (rest := []) S hK (c_X5_rounds l G mqa mqs mqp mqn mqx mqm pas misk len spo kin cam fst lst inr fs fp fn fx fm r2 hr2) mX5_rounds q844 ⟨rfl, rfl, Nat.le_of_ble_eq_true rfl, Nat.le_of_ble_eq_true rfl⟩ hP rfl rfl rfl rfl hl.1 (Nat.le_of_ble_eq_true rfl) ⟨Nat.le_refl 0, Nat.le_refl 0⟩ dX5_move_42 ?_
    obtain rfl := Option.some.inj h
    exact retR S hr hlk rfl rfl dX5_move_45
  replace h := if_f z1_1 h
  by_cases z1_2 : p1 = 2
  · replace h := if_t z1_2 h
    refine lv_tableIn (off := 45) (tgt := 46) hx hb dX5_move_1 (by rw [z1_2]; decide) (by rw [z1_2]; decide) (by rw [z1_2]; rfl) (by decide) ?_
    refine lv_aload_n hx hb dX5_move_46 rfl (lv_at hl 0 rfl) ?_
    obtain ⟨r3, hr3, h⟩ := bd_t h
    refine rdV (As := []) (rest := []) S hK (c_X5_stays l G mqa mqs mqp mqn mqx mqm pas misk len spo kin cam fst lst inr fs fp fn fx fm r3 hr3) mX5_stays q848 ⟨rfl, rfl, Nat.le_of_ble_eq_true rfl, Nat.le_of_ble_eq_true rfl⟩ hP rfl rfl rfl rfl hl.1 (Nat.le_of_ble_eq_true rfl) ⟨Nat.le_refl 0, Nat.le_refl 0⟩ dX5_move_47 ?_
    obtain rfl := Option.some.inj h
    exact retR S hr hlk rfl rfl dX5_move_50
  replace h := if_f z1_2 h
  by_cases z1_3 : p1 = 3
  · replace h := if_t z1_3 h
    refine lv_tableIn (off := 50) (tgt := 51) hx hb dX5_move_1 (by rw [z1_3]; decide) (by rw [z1_3]; decide) (by rw [z1_3]; rfl) (by decide) ?_
    refine lv_aload_n hx hb dX5_move_51 rfl (lv_at hl 0 rfl) ?_
    obtain ⟨r4, hr4, h⟩ := bd_t h
    refine rdV (As := []) (rest := []) S hK (c_X5_longest l G mqa mqs mqp mqn mqx mqm pas misk len spo kin cam fst lst inr fs fp fn fx fm r4 hr4) mX5_longest q852 ⟨rfl, rfl, Nat.le_of_ble_eq_true rfl, Nat.le_of_ble_eq_true rfl⟩ hP rfl rfl rfl rfl hl.1 (Nat.le_of_ble_eq_true rfl) ⟨Nat.le_refl 0, Nat.le_refl 0⟩ dX5_move_52 ?_
    obtain rfl := Option.some.inj h
    exact retR S hr hlk rfl rfl dX5_move_55
  replace h := if_f z1_3 h
  by_cases z1_4 : p1 = 4
  · replace h := if_t z1_4 h
    refine lv_tableIn (off := 55) (tgt := 56) hx hb dX5_move_1 (by rw [z1_4]; decide) (by rw [z1_4]; decide) (by rw [z1_4]; rfl) (by decide) ?_
    refine lv_bipush (v := 24) hx hb dX5_move_56 (by decide) ?_
    refine lv_aload_n hx hb dX5_move_58 rfl (lv_at hl 0 rfl) ?_
    obtain ⟨r5, hr5, h⟩ := bd_t h
    refine rdV (As := []) (rest := [.int 24]) S hK (c_X5_rounds l G mqa mqs mqp mqn mqx mqm pas misk len spo kin cam fst lst inr fs fp fn fx fm r5 hr5) mX5_rounds q844 ⟨rfl, rfl, Nat.le_of_ble_eq_true rfl, Nat.le_of_ble_eq_true rfl⟩ hP rfl rfl rfl rfl hl.1 (Nat.le_of_ble_eq_true rfl) ⟨Nat.le_refl 0, Nat.le_refl 0⟩ dX5_move_59 ?_
    refine lv_isub hx hb dX5_move_62 ?_
    refine lv_iconst (v := 2) hx hb dX5_move_63 (by decide) ?_
    refine lv_irem hx hb dX5_move_64 (by decide) ?_
    refine lv_if_ne (tgt := 72) hx hb dX5_move_65 (by decide) (fun c6 => ?_) (fun c6 => ?_)
    · replace h := if_f c6 h
      refine lv_iconst (v := 0) hx hb dX5_move_72 (by decide) ?_
      obtain rfl := Option.some.inj h
      exact retR S hr hlk rfl rfl dX5_move_73
    · replace h := if_t c6 h
      refine lv_iconst (v := 1) hx hb dX5_move_68 (by decide) ?_
      refine lv_goto (tgt := 73) hx hb dX5_move_69 (by decide) ?_
      obtain rfl := Option.some.inj h
      exact retR S hr hlk rfl rfl dX5_move_73
  replace h := if_f z1_4 h
  refine lv_tableOut (tgt := 74) hx hb dX5_move_1 (sw_out5 z1_0 z1_1 z1_2 z1_3 z1_4) (by decide) ?_
  refine lv_bipush (v := (-2)) hx hb dX5_move_74 (by decide) ?_
  obtain rfl := Option.some.inj h
  exact retR S hr hlk rfl rfl dX5_move_76
set_option maxHeartbeats 4000000 in
set_option maxRecDepth 100000 in
theorem c_X5_power (l : Launch) (G : gG) (mqa mqs mqp mqn mqx mqm : Nat) (pas : Int32) (misk : Int32) (len : Int32) (spo : Int32) (kin : Int32) (cam : Int32) (fst : Int32) (lst : Int32) (inr : Int32) (fs : Nat → Int32) (fp : Nat → Int32) (fn : Nat → Int32) (fx : Nat → Int32) (fm : Nat → Int32) (p1 p2 : Int32) (res : Int32) (h : F_X5_power fs p1 p2 = some res) : RdM l G yX5_power cX5_power 5 .int (rmk 3 70) [(mqa, .inr (5, [.ref mqs, .ref mqp, .int pas, .ref mqn, .int misk, .ref mqx, .int len, .ref mqm, .int spo, .int kin, .int cam, .int fst, .int lst, .int inr])), (mqs, .inl (G.2.2.1, 65, .inl fs)), (mqp, .inl (G.2.2.1, 260, .inl fp)), (mqn, .inl (G.2.2.1, 65, .inl fn)), (mqx, .inl (G.2.1, 80, .inl fx)), (mqm, .inl (G.2.2.1, 24, .inl fm))] [.ref mqa, .int p1, .int p2] res := by
  refine ofR (by decide) (Nat.le_of_ble_eq_true rfl) ?_
  intro p e s m below meth c ls S hr hlk hK hP hl
  have S : CallFix p m c cX5_power 5 s ([.ref mqa, .int p1, .int p2] : List Value).toArray T0 RX5 := S
  obtain ⟨hx, hb, hml, hown, hts⟩ := id S
  have hl : lv_has ls 5 [(0, .ref mqa), (1, .int p1), (2, .int p2)] := hl
  have L28 : ∀ (n : Nat) (x1 x2 x3 x4 : Int32), F_X5_power_28 fs n x1 x2 x3 x4 = some res → ∀ (ls : Array Slot), lv_has ls 5 [(0, .ref mqa), (1, .int x1), (2, .int x2), (3, .int x3), (4, .int x4)] → W p l e (rmk 3 70) s m ([.ref mqa, .int p1, .int p2] : List Value).toArray below meth c s.heap [] 0 0 (MQ below (vp_Si (fun x => x = res)) ([.ref mqa, .int p1, .int p2] : List Value).toArray s 0 0 (fun _ => False)) (F0 m 28 ls []) := by
    intro n
    induction n with
    | zero => intro x1 x2 x3 x4 h; exact absurd (show (none : Option (Int32)) = some res from h) (fun q => by cases q)
    | succ n ih =>
      intro x1 x2 x3 x4 h ls hl
      rw [F_X5_power_28] at h
      refine lv_iload hx hb dX5_power_28 (lv_at hl 4 rfl) ?_
      refine lv_if_le (tgt := 48) hx hb dX5_power_30 (by decide) (fun c6 => ?_) (fun c6 => ?_)
      · replace h := if_t c6 h
        refine lv_iload_n hx hb dX5_power_48 rfl (lv_at hl 3 rfl) ?_
        obtain rfl := Option.some.inj h
        exact retR S hr hlk rfl rfl dX5_power_49
      · replace h := if_f c6 h
        refine lv_aload_n hx hb dX5_power_33 rfl (lv_at hl 0 rfl) ?_
        refine gf S hK iX5 hP 0 rfl rfl 0 (by decide) q636 rfl dX5_power_34 ?_
        refine lv_iconst (v := 0) hx hb dX5_power_37 (by decide) ?_
        refine lv_iload_n hx hb dX5_power_38 rfl (lv_at hl 3 rfl) ?_
        refine lv_iadd hx hb dX5_power_39 ?_
        obtain ⟨k7, h⟩ := ck_t h
        refine ald S hK hP 1 rfl (ok_vp k7) dX5_power_40 ?_
        refine lv_istore_n (lv' := [(3, .int (fs (Int32.toNatClampNeg ((0 : Int32) + x3)))), (0, .ref mqa), (1, .int x1), (2, .int x2), (4, .int x4)]) hx hb dX5_power_41 rfl hl (by decide) rfl (fun ls hl => ?_)
        refine lv_iinc (v := x4 + (-1)) (lv' := [(4, .int (x4 + (-1))), (3, .int (fs (Int32.toNatClampNeg ((0 : Int32) + x3)))), (0, .ref mqa), (1, .int x1), (2, .int x2)]) hx hb dX5_power_42 hl (k := 4) rfl rfl (by decide) rfl (fun ls hl => ?_)
        refine lv_goto (tgt := 28) hx hb dX5_power_45 (by decide) ?_
        exact ih x1 x2 (fs (Int32.toNatClampNeg ((0 : Int32) + x3))) (x4 + (-1))  h ls (lv_sub hl [2, 3, 4, 1, 0] rfl)
  rw [F_X5_power] at h
  refine lv_iload_n hx hb dX5_power_0 rfl (lv_at hl 1 rfl) ?_
  obtain ⟨r1, hr1, h⟩ := bd_t h
  refine rdS (As := [.int p1]) (rest := []) S hK (c_X5_isPlace l G p1 r1 hr1) mX5_isPlace q683 ⟨rfl, rfl, Nat.le_of_ble_eq_true rfl, Nat.le_of_ble_eq_true rfl⟩ (ws_nil G.1 _) rfl hl.1 (Nat.le_of_ble_eq_true rfl) ⟨Nat.le_refl 0, Nat.le_refl 0⟩ dX5_power_1 ?_
  refine lv_if_ne (tgt := 9) hx hb dX5_power_4 (by decide) (fun c2 => ?_) (fun c2 => ?_)
  · replace h := if_f c2 h
    refine lv_iload_n hx hb dX5_power_9 rfl (lv_at hl 2 rfl) ?_
    obtain ⟨r3, hr3, h⟩ := bd_t h
    refine rdS (As := [.int p2]) (rest := []) S hK (c_X5_isPower l G p2 r3 hr3) mX5_isPower q785 ⟨rfl, rfl, Nat.le_of_ble_eq_true rfl, Nat.le_of_ble_eq_true rfl⟩ (ws_nil G.1 _) rfl hl.1 (Nat.le_of_ble_eq_true rfl) ⟨Nat.le_refl 0, Nat.le_refl 0⟩ dX5_power_10 ?_
    refine lv_if_ne (tgt := 19) hx hb dX5_power_13 (by decide) (fun c4 => ?_) (fun c4 => ?_)
    · replace h := if_f c4 h
      refine lv_iload_n hx hb dX5_power_19 rfl (lv_at hl 1 rfl) ?_
      refine lv_istore_n (lv' := [(3, .int p1), (0, .ref mqa), (1, .int p1), (2, .int p2)]) hx hb dX5_power_20 rfl hl (by decide) rfl (fun ls hl => ?_)
      refine lv_aload_n hx hb dX5_power_21 rfl (lv_at hl 1 rfl) ?_
      refine lv_iload_n hx hb dX5_power_22 rfl (lv_at hl 3 rfl) ?_
      obtain ⟨r5, hr5, h⟩ := bd_t h
      refine rdV (As := [.int p2]) (rest := []) S hK (c_X5_forward l G mqa mqs mqp mqn mqx mqm pas misk len spo kin cam fst lst inr fs fp fn fx fm p2 r5 hr5) mX5_forward q788 ⟨rfl, rfl, Nat.le_of_ble_eq_true rfl, Nat.le_of_ble_eq_true rfl⟩ hP rfl rfl rfl rfl hl.1 (Nat.le_of_ble_eq_true rfl) ⟨Nat.le_refl 0, Nat.le_refl 0⟩ dX5_power_23 ?_
      refine lv_istore (lv' := [(4, .int r5), (3, .int p1), (0, .ref mqa), (1, .int p1), (2, .int p2)]) hx hb dX5_power_26 hl (by decide) rfl (fun ls hl => ?_)
      exact L28 10000 p1 p2 p1 r5  h ls (lv_sub hl [2, 3, 4, 1, 0] rfl)
    · replace h := if_t c4 h
      refine lv_bipush (v := (-2)) hx hb dX5_power_16 (by decide) ?_
      obtain rfl := Option.some.inj h
      exact retR S hr hlk rfl rfl dX5_power_18
  · replace h := if_t c2 h
    refine lv_iconst (v := (-1)) hx hb dX5_power_7 (by decide) ?_
    obtain rfl := Option.some.inj h
    exact retR S hr hlk rfl rfl dX5_power_8
set_option maxHeartbeats 4000000 in
set_option maxRecDepth 100000 in
theorem c_X5_ticket (l : Launch) (G : gG) (mqa mqs mqp mqn mqx mqm : Nat) (pas : Int32) (misk : Int32) (len : Int32) (spo : Int32) (kin : Int32) (cam : Int32) (fst : Int32) (lst : Int32) (inr : Int32) (fs : Nat → Int32) (fp : Nat → Int32) (fn : Nat → Int32) (fx : Nat → Int32) (fm : Nat → Int32) (p1 p2 : Int32) (res : Int32) (h : F_X5_ticket fs p1 p2 = some res) : RdM l G yX5_ticket cX5_ticket 5 .int (rmk 3 73) [(mqa, .inr (5, [.ref mqs, .ref mqp, .int pas, .ref mqn, .int misk, .ref mqx, .int len, .ref mqm, .int spo, .int kin, .int cam, .int fst, .int lst, .int inr])), (mqs, .inl (G.2.2.1, 65, .inl fs)), (mqp, .inl (G.2.2.1, 260, .inl fp)), (mqn, .inl (G.2.2.1, 65, .inl fn)), (mqx, .inl (G.2.1, 80, .inl fx)), (mqm, .inl (G.2.2.1, 24, .inl fm))] [.ref mqa, .int p1, .int p2] res := by
  refine ofR (by decide) (Nat.le_of_ble_eq_true rfl) ?_
  intro p e s m below meth c ls S hr hlk hK hP hl
  have S : CallFix p m c cX5_ticket 5 s ([.ref mqa, .int p1, .int p2] : List Value).toArray T0 RX5 := S
  obtain ⟨hx, hb, hml, hown, hts⟩ := id S
  have hl : lv_has ls 5 [(0, .ref mqa), (1, .int p1), (2, .int p2)] := hl
  rw [F_X5_ticket] at h
  refine lv_aload_n hx hb dX5_ticket_0 rfl (lv_at hl 0 rfl) ?_
  refine lv_iload_n hx hb dX5_ticket_1 rfl (lv_at hl 1 rfl) ?_
  obtain ⟨r1, hr1, h⟩ := bd_t h
  refine rdV (As := [.int p1]) (rest := []) S hK (c_X5_isTicket l G mqa mqs mqp mqn mqx mqm pas misk len spo kin cam fst lst inr fs fp fn fx fm p1 r1 hr1) mX5_isTicket q765 ⟨rfl, rfl, Nat.le_of_ble_eq_true rfl, Nat.le_of_ble_eq_true rfl⟩ hP rfl rfl rfl rfl hl.1 (Nat.le_of_ble_eq_true rfl) ⟨Nat.le_refl 0, Nat.le_refl 0⟩ dX5_ticket_2 ?_
  refine lv_if_ne (tgt := 10) hx hb dX5_ticket_5 (by decide) (fun c2 => ?_) (fun c2 => ?_)
  · replace h := if_f c2 h
    refine lv_aload_n hx hb dX5_ticket_10 rfl (lv_at hl 0 rfl) ?_
    refine gf S hK iX5 hP 0 rfl rfl 0 (by decide) q636 rfl dX5_ticket_11 ?_
    refine lv_bipush (v := 25) hx hb dX5_ticket_14 (by decide) ?_
    refine lv_iload_n hx hb dX5_ticket_16 rfl (lv_at hl 1 rfl) ?_
    refine lv_iadd hx hb dX5_ticket_17 ?_
    obtain ⟨k3, h⟩ := ck_t h
    refine ald S hK hP 1 rfl (ok_vp k3) dX5_ticket_18 ?_
    refine lv_istore_n (lv' := [(3, .int (fs (Int32.toNatClampNeg ((25 : Int32) + p1)))), (0, .ref mqa), (1, .int p1), (2, .int p2)]) hx hb dX5_ticket_19 rfl hl (by decide) rfl (fun ls hl => ?_)
    refine lv_aload_n hx hb dX5_ticket_20 rfl (lv_at hl 1 rfl) ?_
    refine gf S hK iX5 hP 0 rfl rfl 0 (by decide) q636 rfl dX5_ticket_21 ?_
    refine lv_bipush (v := 37) hx hb dX5_ticket_24 (by decide) ?_
    refine lv_iload_n hx hb dX5_ticket_26 rfl (lv_at hl 2 rfl) ?_
    refine lv_iadd hx hb dX5_ticket_27 ?_
    obtain ⟨k4, h⟩ := ck_t h
    refine ald S hK hP 1 rfl (ok_vp k4) dX5_ticket_28 ?_
    refine lv_istore (lv' := [(4, .int (fs (Int32.toNatClampNeg ((37 : Int32) + p1)))), (3, .int (fs (Int32.toNatClampNeg ((25 : Int32) + p1)))), (0, .ref mqa), (1, .int p1), (2, .int p2)]) hx hb dX5_ticket_29 hl (by decide) rfl (fun ls hl => ?_)
    refine lv_iload_n hx hb dX5_ticket_31 rfl (lv_at hl 4 rfl) ?_
    by_cases z32_0 : p2 = 0
    · replace h := if_t z32_0 h
      refine lv_tableIn (off := 52) (tgt := 84) hx hb dX5_ticket_32 (by rw [z32_0]; decide) (by rw [z32_0]; decide) (by rw [z32_0]; rfl) (by decide) ?_
      refine lv_iload_n hx hb dX5_ticket_84 rfl (lv_at hl 1 rfl) ?_
      obtain rfl := Option.some.inj h
      exact retR S hr hlk rfl rfl dX5_ticket_85
    replace h := if_f z32_0 h
    by_cases z32_1 : p2 = 1
    · replace h := if_t z32_1 h
      refine lv_tableIn (off := 54) (tgt := 86) hx hb dX5_ticket_32 (by rw [z32_1]; decide) (by rw [z32_1]; decide) (by rw [z32_1]; rfl) (by decide) ?_
      refine lv_iload hx hb dX5_ticket_86 (lv_at hl 0 rfl) ?_
      obtain rfl := Option.some.inj h
      exact retR S hr hlk rfl rfl dX5_ticket_88
    replace h := if_f z32_1 h
    by_cases z32_2 : p2 = 2
    · replace h := if_t z32_2 h
      refine lv_tableIn (off := 57) (tgt := 89) hx hb dX5_ticket_32 (by rw [z32_2]; decide) (by rw [z32_2]; decide) (by rw [z32_2]; rfl) (by decide) ?_
      refine lv_iload_n hx hb dX5_ticket_89 rfl (lv_at hl 1 rfl) ?_
      refine lv_iload hx hb dX5_ticket_90 (lv_at hl 0 rfl) ?_
      refine lv_iconst (v := (-1)) hx hb dX5_ticket_92 (by decide) ?_
      refine lv_ixor hx hb dX5_ticket_93 ?_
      refine lv_iand hx hb dX5_ticket_94 ?_
      refine lv_topi (fun v5 ev5 => ?_)
      replace h := nmd_t ev5 h
      obtain rfl := Option.some.inj h
      exact retR S hr hlk rfl rfl dX5_ticket_95
    replace h := if_f z32_2 h
    by_cases z32_3 : p2 = 3
    · replace h := if_t z32_3 h
      refine lv_tableIn (off := 64) (tgt := 96) hx hb dX5_ticket_32 (by rw [z32_3]; decide) (by rw [z32_3]; decide) (by rw [z32_3]; rfl) (by decide) ?_
      refine lv_iload hx hb dX5_ticket_96 (lv_at hl 0 rfl) ?_
      refine lv_iload_n hx hb dX5_ticket_98 rfl (lv_at hl 1 rfl) ?_
      refine lv_iconst (v := (-1)) hx hb dX5_ticket_99 (by decide) ?_
      refine lv_ixor hx hb dX5_ticket_100 ?_
      refine lv_iand hx hb dX5_ticket_101 ?_
      refine lv_topi (fun v6 ev6 => ?_)
      replace h := nmd_t ev6 h
      obtain rfl := Option.some.inj h
      exact retR S hr hlk rfl rfl dX5_ticket_102
    replace h := if_f z32_3 h
    by_cases z32_4 : p2 = 4
    · replace h := if_t z32_4 h
      refine lv_tableIn (off := 71) (tgt := 103) hx hb dX5_ticket_32 (by rw [z32_4]; decide) (by rw [z32_4]; decide) (by rw [z32_4]; rfl) (by decide) ?_
      refine lv_iload_n hx hb dX5_ticket_103 rfl (lv_at hl 1 rfl) ?_
      obtain ⟨r7, hr7, h⟩ := bd_t h
      refine rdS (As := [.int (fs (Int32.toNatClampNeg ((25 : Int32) + p1)))]) (rest := []) S hK (c_X5_ones l G (fs (Int32.toNatClampNeg ((25 : Int32) + p1))) r7 hr7) mX5_ones q758 ⟨rfl, rfl, Nat.le_of_ble_eq_true rfl, Nat.le_of_ble_eq_true rfl⟩ (ws_nil G.1 _) rfl hl.1 (Nat.le_of_ble_eq_true rfl) ⟨Nat.le_refl 0, Nat.le_refl 0⟩ dX5_ticket_104 ?_
      obtain rfl := Option.some.inj h
      exact retR S hr hlk rfl rfl dX5_ticket_107
    replace h := if_f z32_4 h
    by_cases z32_5 : p2 = 5
    · replace h := if_t z32_5 h
      refine lv_tableIn (off := 76) (tgt := 108) hx hb dX5_ticket_32 (by rw [z32_5]; decide) (by rw [z32_5]; decide) (by rw [z32_5]; rfl) (by decide) ?_
      refine lv_aload_n hx hb dX5_ticket_108 rfl (lv_at hl 2 rfl) ?_
      refine lv_iload_n hx hb dX5_ticket_109 rfl (lv_at hl 3 rfl) ?_
      obtain ⟨r8, hr8, h⟩ := bd_t h
      refine rdV (As := [.int p1]) (rest := []) S hK (c_X5_isFalse l G mqa mqs mqp mqn mqx mqm pas misk len spo kin cam fst lst inr fs fp fn fx fm p1 r8 hr8) mX5_isFalse q773 ⟨rfl, rfl, Nat.le_of_ble_eq_true rfl, Nat.le_of_ble_eq_true rfl⟩ hP rfl rfl rfl rfl hl.1 (Nat.le_of_ble_eq_true rfl) ⟨Nat.le_refl 0, Nat.le_refl 0⟩ dX5_ticket_110 ?_
      refine lv_if_eq (tgt := 120) hx hb dX5_ticket_113 (by decide) (fun c9 => ?_) (fun c9 => ?_)
      · replace h := if_t c9 h
        refine lv_iconst (v := 0) hx hb dX5_ticket_120 (by decide) ?_
        obtain rfl := Option.some.inj h
        exact retR S hr hlk rfl rfl dX5_ticket_121
      · replace h := if_f c9 h
        refine lv_iconst (v := 1) hx hb dX5_ticket_116 (by decide) ?_
        refine lv_goto (tgt := 121) hx hb dX5_ticket_117 (by decide) ?_
        obtain rfl := Option.some.inj h
        exact retR S hr hlk rfl rfl dX5_ticket_121
    replace h := if_f z32_5 h
    by_cases z32_6 : p2 = 6
    · replace h := if_t z32_6 h
      refine lv_tableIn (off := 90) (tgt := 122) hx hb dX5_ticket_32 (by rw [z32_6]; decide) (by rw [z32_6]; decide) (by rw [z32_6]; rfl) (by decide) ?_
      refine lv_aload_n hx hb dX5_ticket_122 rfl (lv_at hl 2 rfl) ?_
      refine lv_iload_n hx hb dX5_ticket_123 rfl (lv_at hl 1 rfl) ?_
      refine lv_iload_n hx hb dX5_ticket_124 rfl (lv_at hl 1 rfl) ?_
      refine lv_iconst (v := 1) hx hb dX5_ticket_125 (by decide) ?_
      obtain ⟨r10, hr10, h⟩ := bd_t h
      refine rdV (As := [.int (fs (Int32.toNatClampNeg ((25 : Int32) + p1))), .int (fs (Int32.toNatClampNeg ((25 : Int32) + p1))), .int 1]) (rest := []) S hK (c_X5_movesTo l G mqa mqs mqp mqn mqx mqm pas misk len spo kin cam fst lst inr fs fp fn fx fm (fs (Int32.toNatClampNeg ((25 : Int32) + p1))) (fs (Int32.toNatClampNeg ((25 : Int32) + p1))) 1 r10 hr10) mX5_movesTo q864 ⟨rfl, rfl, Nat.le_of_ble_eq_true rfl, Nat.le_of_ble_eq_true rfl⟩ hP rfl rfl rfl rfl hl.1 (Nat.le_of_ble_eq_true rfl) ⟨Nat.le_refl 0, Nat.le_refl 0⟩ dX5_ticket_126 ?_
      obtain rfl := Option.some.inj h
      exact retR S hr hlk rfl rfl dX5_ticket_129
    replace h := if_f z32_6 h
    by_cases z32_7 : p2 = 7
    · replace h := if_t z32_7 h
      refine lv_tableIn (off := 98) (tgt := 130) hx hb dX5_ticket_32 (by rw [z32_7]; decide) (by rw [z32_7]; decide) (by rw [z32_7]; rfl) (by decide) ?_
      refine lv_aload_n hx hb dX5_ticket_130 rfl (lv_at hl 2 rfl) ?_
      refine lv_iload_n hx hb dX5_ticket_131 rfl (lv_at hl 3 rfl) ?_
      obtain ⟨r11, hr11, h⟩ := bd_t h
      refine rdV (As := [.int p1]) (rest := []) S hK (c_X5_isOn l G mqa mqs mqp mqn mqx mqm pas misk len spo kin cam fst lst inr fs fp fn fx fm p1 r11 hr11) mX5_isOn q808 ⟨rfl, rfl, Nat.le_of_ble_eq_true rfl, Nat.le_of_ble_eq_true rfl⟩ hP rfl rfl rfl rfl hl.1 (Nat.le_of_ble_eq_true rfl) ⟨Nat.le_refl 0, Nat.le_refl 0⟩ dX5_ticket_132 ?_
      refine lv_if_eq (tgt := 142) hx hb dX5_ticket_135 (by decide) (fun c12 => ?_) (fun c12 => ?_)
      · replace h := if_t c12 h
        refine lv_iconst (v := 0) hx hb dX5_ticket_142 (by decide) ?_
        obtain rfl := Option.some.inj h
        exact retR S hr hlk rfl rfl dX5_ticket_143
      · replace h := if_f c12 h
        refine lv_iconst (v := 1) hx hb dX5_ticket_138 (by decide) ?_
        refine lv_goto (tgt := 143) hx hb dX5_ticket_139 (by decide) ?_
        obtain rfl := Option.some.inj h
        exact retR S hr hlk rfl rfl dX5_ticket_143
    replace h := if_f z32_7 h
    by_cases z32_8 : p2 = 8
    · replace h := if_t z32_8 h
      refine lv_tableIn (off := 112) (tgt := 144) hx hb dX5_ticket_32 (by rw [z32_8]; decide) (by rw [z32_8]; decide) (by rw [z32_8]; rfl) (by decide) ?_
      refine lv_aload_n hx hb dX5_ticket_144 rfl (lv_at hl 2 rfl) ?_
      refine gf S hK iX5 hP 0 rfl rfl 0 (by decide) q636 rfl dX5_ticket_145 ?_
      refine lv_bipush (v := 50) hx hb dX5_ticket_148 (by decide) ?_
      refine lv_iload_n hx hb dX5_ticket_150 rfl (lv_at hl 3 rfl) ?_
      refine lv_iadd hx hb dX5_ticket_151 ?_
      obtain ⟨k13, h⟩ := ck_t h
      refine ald S hK hP 1 rfl (ok_vp k13) dX5_ticket_152 ?_
      obtain rfl := Option.some.inj h
      exact retR S hr hlk rfl rfl dX5_ticket_153
    replace h := if_f z32_8 h
    refine lv_tableOut (tgt := 154) hx hb dX5_ticket_32 (sw_out9 z32_0 z32_1 z32_2 z32_3 z32_4 z32_5 z32_6 z32_7 z32_8) (by decide) ?_
    refine lv_bipush (v := (-2)) hx hb dX5_ticket_154 (by decide) ?_
    obtain rfl := Option.some.inj h
    exact retR S hr hlk rfl rfl dX5_ticket_156
  · replace h := if_t c2 h
    refine lv_iconst (v := (-1)) hx hb dX5_ticket_8 (by decide) ?_
    obtain rfl := Option.some.inj h
    exact retR S hr hlk rfl rfl dX5_ticket_9
set_option maxHeartbeats 4000000 in
set_option maxRecDepth 100000 in
theorem c_X5_alikeIn (l : Launch) (G : gG) (mqa mqs mqp mqn mqx mqm : Nat) (pas : Int32) (misk : Int32) (len : Int32) (spo : Int32) (kin : Int32) (cam : Int32) (fst : Int32) (lst : Int32) (inr : Int32) (fs : Nat → Int32) (fp : Nat → Int32) (fn : Nat → Int32) (fx : Nat → Int32) (fm : Nat → Int32) (p1 p2 : Int32) (res : Int32) (h : F_X5_alikeIn fs p1 p2 = some res) : RdM l G yX5_alikeIn cX5_alikeIn 3 .int (rmk 3 73) [(mqa, .inr (5, [.ref mqs, .ref mqp, .int pas, .ref mqn, .int misk, .ref mqx, .int len, .ref mqm, .int spo, .int kin, .int cam, .int fst, .int lst, .int inr])), (mqs, .inl (G.2.2.1, 65, .inl fs)), (mqp, .inl (G.2.2.1, 260, .inl fp)), (mqn, .inl (G.2.2.1, 65, .inl fn)), (mqx, .inl (G.2.1, 80, .inl fx)), (mqm, .inl (G.2.2.1, 24, .inl fm))] [.ref mqa, .int p1, .int p2] res := by
  refine ofR (by decide) (Nat.le_of_ble_eq_true rfl) ?_
  intro p e s m below meth c ls S hr hlk hK hP hl
  have S : CallFix p m c cX5_alikeIn 3 s ([.ref mqa, .int p1, .int p2] : List Value).toArray T0 RX5 := S
  obtain ⟨hx, hb, hml, hown, hts⟩ := id S
  have hl : lv_has ls 3 [(0, .ref mqa), (1, .int p1), (2, .int p2)] := hl
  rw [F_X5_alikeIn] at h
  refine lv_aload_n hx hb dX5_alikeIn_0 rfl (lv_at hl 0 rfl) ?_
  refine lv_iload_n hx hb dX5_alikeIn_1 rfl (lv_at hl 1 rfl) ?_
  obtain ⟨r1, hr1, h⟩ := bd_t h
  refine rdV (As := [.int p1]) (rest := []) S hK (c_X5_isTicket l G mqa mqs mqp mqn mqx mqm pas misk len spo kin cam fst lst inr fs fp fn fx fm p1 r1 hr1) mX5_isTicket q765 ⟨rfl, rfl, Nat.le_of_ble_eq_true rfl, Nat.le_of_ble_eq_true rfl⟩ hP rfl rfl rfl rfl hl.1 (Nat.le_of_ble_eq_true rfl) ⟨Nat.le_refl 0, Nat.le_refl 0⟩ dX5_alikeIn_2 ?_
  refine lv_if_eq (tgt := 42) hx hb dX5_alikeIn_5 (by decide) (fun c2 => ?_) (fun c2 => ?_)
  · replace h := if_t c2 h
    refine lv_iconst (v := (-1)) hx hb dX5_alikeIn_42 (by decide) ?_
    obtain rfl := Option.some.inj h
    exact retR S hr hlk rfl rfl dX5_alikeIn_43
  · replace h := if_f c2 h
    refine lv_aload_n hx hb dX5_alikeIn_8 rfl (lv_at hl 0 rfl) ?_
    refine lv_iload_n hx hb dX5_alikeIn_9 rfl (lv_at hl 2 rfl) ?_
    obtain ⟨r3, hr3, h⟩ := bd_t h
    refine rdV (As := [.int p2]) (rest := []) S hK (c_X5_isTicket l G mqa mqs mqp mqn mqx mqm pas misk len spo kin cam fst lst inr fs fp fn fx fm p2 r3 hr3) mX5_isTicket q765 ⟨rfl, rfl, Nat.le_of_ble_eq_true rfl, Nat.le_of_ble_eq_true rfl⟩ hP rfl rfl rfl rfl hl.1 (Nat.le_of_ble_eq_true rfl) ⟨Nat.le_refl 0, Nat.le_refl 0⟩ dX5_alikeIn_10 ?_
    refine lv_if_eq (tgt := 42) hx hb dX5_alikeIn_13 (by decide) (fun c4 => ?_) (fun c4 => ?_)
    · replace h := if_t c4 h
      refine lv_iconst (v := (-1)) hx hb dX5_alikeIn_42 (by decide) ?_
      obtain rfl := Option.some.inj h
      exact retR S hr hlk rfl rfl dX5_alikeIn_43
    · replace h := if_f c4 h
      refine lv_aload_n hx hb dX5_alikeIn_16 rfl (lv_at hl 0 rfl) ?_
      refine lv_aload_n hx hb dX5_alikeIn_17 rfl (lv_at hl 0 rfl) ?_
      refine gf S hK iX5 hP 0 rfl rfl 0 (by decide) q636 rfl dX5_alikeIn_18 ?_
      refine lv_bipush (v := 25) hx hb dX5_alikeIn_21 (by decide) ?_
      refine lv_iload_n hx hb dX5_alikeIn_23 rfl (lv_at hl 1 rfl) ?_
      refine lv_iadd hx hb dX5_alikeIn_24 ?_
      obtain ⟨k5, h⟩ := ck_t h
      refine ald S hK hP 1 rfl (ok_vp k5) dX5_alikeIn_25 ?_
      refine lv_aload_n hx hb dX5_alikeIn_26 rfl (lv_at hl 0 rfl) ?_
      refine gf S hK iX5 hP 0 rfl rfl 0 (by decide) q636 rfl dX5_alikeIn_27 ?_
      refine lv_bipush (v := 25) hx hb dX5_alikeIn_30 (by decide) ?_
      refine lv_iload_n hx hb dX5_alikeIn_32 rfl (lv_at hl 2 rfl) ?_
      refine lv_iadd hx hb dX5_alikeIn_33 ?_
      obtain ⟨k6, h⟩ := ck_t h
      refine ald S hK hP 1 rfl (ok_vp k6) dX5_alikeIn_34 ?_
      refine lv_iconst (v := 0) hx hb dX5_alikeIn_35 (by decide) ?_
      obtain ⟨r7, hr7, h⟩ := bd_t h
      refine rdV (As := [.int (fs (Int32.toNatClampNeg ((25 : Int32) + p1))), .int (fs (Int32.toNatClampNeg ((25 : Int32) + p2))), .int 0]) (rest := []) S hK (c_X5_movesTo l G mqa mqs mqp mqn mqx mqm pas misk len spo kin cam fst lst inr fs fp fn fx fm (fs (Int32.toNatClampNeg ((25 : Int32) + p1))) (fs (Int32.toNatClampNeg ((25 : Int32) + p2))) 0 r7 hr7) mX5_movesTo q864 ⟨rfl, rfl, Nat.le_of_ble_eq_true rfl, Nat.le_of_ble_eq_true rfl⟩ hP rfl rfl rfl rfl hl.1 (Nat.le_of_ble_eq_true rfl) ⟨Nat.le_refl 0, Nat.le_refl 0⟩ dX5_alikeIn_36 ?_
      refine lv_goto (tgt := 43) hx hb dX5_alikeIn_39 (by decide) ?_
      obtain rfl := Option.some.inj h
      exact retR S hr hlk rfl rfl dX5_alikeIn_43
set_option maxHeartbeats 4000000 in
set_option maxRecDepth 100000 in
theorem c_X5_meetsIn (l : Launch) (G : gG) (mqa mqs mqp mqn mqx mqm : Nat) (pas : Int32) (misk : Int32) (len : Int32) (spo : Int32) (kin : Int32) (cam : Int32) (fst : Int32) (lst : Int32) (inr : Int32) (fs : Nat → Int32) (fp : Nat → Int32) (fn : Nat → Int32) (fx : Nat → Int32) (fm : Nat → Int32) (p1 p2 : Int32) (res : Int32) (h : F_X5_meetsIn fs p1 p2 = some res) : RdM l G yX5_meetsIn cX5_meetsIn 6 .int (rmk 2 47) [(mqa, .inr (5, [.ref mqs, .ref mqp, .int pas, .ref mqn, .int misk, .ref mqx, .int len, .ref mqm, .int spo, .int kin, .int cam, .int fst, .int lst, .int inr])), (mqs, .inl (G.2.2.1, 65, .inl fs)), (mqp, .inl (G.2.2.1, 260, .inl fp)), (mqn, .inl (G.2.2.1, 65, .inl fn)), (mqx, .inl (G.2.1, 80, .inl fx)), (mqm, .inl (G.2.2.1, 24, .inl fm))] [.ref mqa, .int p1, .int p2] res := by
  refine ofR (by decide) (Nat.le_of_ble_eq_true rfl) ?_
  intro p e s m below meth c ls S hr hlk hK hP hl
  have S : CallFix p m c cX5_meetsIn 6 s ([.ref mqa, .int p1, .int p2] : List Value).toArray T0 RX5 := S
  obtain ⟨hx, hb, hml, hown, hts⟩ := id S
  have hl : lv_has ls 6 [(0, .ref mqa), (1, .int p1), (2, .int p2)] := hl
  have L37 : ∀ (n : Nat) (x1 x2 x3 x4 x5 : Int32), F_X5_meetsIn_37 fs n x1 x2 x3 x4 x5 = some res → ∀ (ls : Array Slot), lv_has ls 6 [(0, .ref mqa), (1, .int x1), (2, .int x2), (3, .int x3), (4, .int x4), (5, .int x5)] → W p l e (rmk 2 47) s m ([.ref mqa, .int p1, .int p2] : List Value).toArray below meth c s.heap [] 0 0 (MQ below (vp_Si (fun x => x = res)) ([.ref mqa, .int p1, .int p2] : List Value).toArray s 0 0 (fun _ => False)) (F0 m 37 ls []) := by
    intro n
    induction n with
    | zero => intro x1 x2 x3 x4 x5 h; exact absurd (show (none : Option (Int32)) = some res from h) (fun q => by cases q)
    | succ n ih =>
      intro x1 x2 x3 x4 x5 h ls hl
      rw [F_X5_meetsIn_37] at h
      refine lv_iload hx hb dX5_meetsIn_37 (lv_at hl 5 rfl) ?_
      refine lv_iload_n hx hb dX5_meetsIn_39 rfl (lv_at hl 3 rfl) ?_
      refine lv_icmp_ge (tgt := 75) hx hb dX5_meetsIn_40 (by decide) (fun c7 => ?_) (fun c7 => ?_)
      · replace h := if_t c7 h
        refine lv_bipush (v := (-5)) hx hb dX5_meetsIn_75 (by decide) ?_
        obtain rfl := Option.some.inj h
        exact retR S hr hlk rfl rfl dX5_meetsIn_77
      · replace h := if_f c7 h
        refine lv_iload hx hb dX5_meetsIn_43 (lv_at hl 4 rfl) ?_
        refine lv_aload_n hx hb dX5_meetsIn_45 rfl (lv_at hl 0 rfl) ?_
        refine gf S hK iX5 hP 0 rfl rfl 0 (by decide) q636 rfl dX5_meetsIn_46 ?_
        refine lv_bipush (v := 25) hx hb dX5_meetsIn_49 (by decide) ?_
        refine lv_iload_n hx hb dX5_meetsIn_51 rfl (lv_at hl 2 rfl) ?_
        refine lv_iadd hx hb dX5_meetsIn_52 ?_
        obtain ⟨k8, h⟩ := ck_t h
        refine ald S hK hP 1 rfl (ok_vp k8) dX5_meetsIn_53 ?_
        refine lv_iand hx hb dX5_meetsIn_54 ?_
        refine lv_if_eq (tgt := 61) hx hb dX5_meetsIn_55 (by decide) (fun c9 => ?_) (fun c9 => ?_)
        · replace h := if_t c9 h
          refine lv_aload_n hx hb dX5_meetsIn_61 rfl (lv_at hl 0 rfl) ?_
          refine lv_iload hx hb dX5_meetsIn_62 (lv_at hl 4 rfl) ?_
          obtain ⟨r10, hr10, h⟩ := bd_t h
          refine rdV (As := [.int x4]) (rest := []) S hK (c_X5_moved l G mqa mqs mqp mqn mqx mqm pas misk len spo kin cam fst lst inr fs fp fn fx fm x4 r10 hr10) mX5_moved q800 ⟨rfl, rfl, Nat.le_of_ble_eq_true rfl, Nat.le_of_ble_eq_true rfl⟩ hP rfl rfl rfl rfl hl.1 (Nat.le_of_ble_eq_true rfl) ⟨Nat.le_refl 0, Nat.le_refl 0⟩ dX5_meetsIn_64 ?_
          refine lv_istore (lv' := [(4, .int r10), (0, .ref mqa), (1, .int x1), (2, .int x2), (3, .int x3), (5, .int x5)]) hx hb dX5_meetsIn_67 hl (by decide) rfl (fun ls hl => ?_)
          refine lv_iinc (v := x5 + 1) (lv' := [(5, .int (x5 + 1)), (4, .int r10), (0, .ref mqa), (1, .int x1), (2, .int x2), (3, .int x3)]) hx hb dX5_meetsIn_69 hl (k := 5) rfl rfl (by decide) rfl (fun ls hl => ?_)
          refine lv_goto (tgt := 37) hx hb dX5_meetsIn_72 (by decide) ?_
          exact ih x1 x2 x3 r10 (x5 + 1)  h ls (lv_sub hl [2, 3, 4, 5, 1, 0] rfl)
        · replace h := if_f c9 h
          refine lv_iload hx hb dX5_meetsIn_58 (lv_at hl 5 rfl) ?_
          obtain rfl := Option.some.inj h
          exact retR S hr hlk rfl rfl dX5_meetsIn_60
  rw [F_X5_meetsIn] at h
  refine lv_aload_n hx hb dX5_meetsIn_0 rfl (lv_at hl 0 rfl) ?_
  refine lv_iload_n hx hb dX5_meetsIn_1 rfl (lv_at hl 1 rfl) ?_
  obtain ⟨r1, hr1, h⟩ := bd_t h
  refine rdV (As := [.int p1]) (rest := []) S hK (c_X5_isTicket l G mqa mqs mqp mqn mqx mqm pas misk len spo kin cam fst lst inr fs fp fn fx fm p1 r1 hr1) mX5_isTicket q765 ⟨rfl, rfl, Nat.le_of_ble_eq_true rfl, Nat.le_of_ble_eq_true rfl⟩ hP rfl rfl rfl rfl hl.1 (Nat.le_of_ble_eq_true rfl) ⟨Nat.le_refl 0, Nat.le_refl 0⟩ dX5_meetsIn_2 ?_
  refine lv_if_eq (tgt := 16) hx hb dX5_meetsIn_5 (by decide) (fun c2 => ?_) (fun c2 => ?_)
  · replace h := if_t c2 h
    refine lv_iconst (v := (-1)) hx hb dX5_meetsIn_16 (by decide) ?_
    obtain rfl := Option.some.inj h
    exact retR S hr hlk rfl rfl dX5_meetsIn_17
  · replace h := if_f c2 h
    refine lv_aload_n hx hb dX5_meetsIn_8 rfl (lv_at hl 0 rfl) ?_
    refine lv_iload_n hx hb dX5_meetsIn_9 rfl (lv_at hl 2 rfl) ?_
    obtain ⟨r3, hr3, h⟩ := bd_t h
    refine rdV (As := [.int p2]) (rest := []) S hK (c_X5_isTicket l G mqa mqs mqp mqn mqx mqm pas misk len spo kin cam fst lst inr fs fp fn fx fm p2 r3 hr3) mX5_isTicket q765 ⟨rfl, rfl, Nat.le_of_ble_eq_true rfl, Nat.le_of_ble_eq_true rfl⟩ hP rfl rfl rfl rfl hl.1 (Nat.le_of_ble_eq_true rfl) ⟨Nat.le_refl 0, Nat.le_refl 0⟩ dX5_meetsIn_10 ?_
    refine lv_if_ne (tgt := 18) hx hb dX5_meetsIn_13 (by decide) (fun c4 => ?_) (fun c4 => ?_)
    · replace h := if_f c4 h
      refine lv_aload_n hx hb dX5_meetsIn_18 rfl (lv_at hl 0 rfl) ?_
      obtain ⟨r5, hr5, h⟩ := bd_t h
      refine rdV (As := []) (rest := []) S hK (c_X5_order l G mqa mqs mqp mqn mqx mqm pas misk len spo kin cam fst lst inr fs fp fn fx fm r5 hr5) mX5_order q693 ⟨rfl, rfl, Nat.le_of_ble_eq_true rfl, Nat.le_of_ble_eq_true rfl⟩ hP rfl rfl rfl rfl hl.1 (Nat.le_of_ble_eq_true rfl) ⟨Nat.le_refl 0, Nat.le_refl 0⟩ dX5_meetsIn_19 ?_
      refine lv_istore_n (lv' := [(3, .int r5), (0, .ref mqa), (1, .int p1), (2, .int p2)]) hx hb dX5_meetsIn_22 rfl hl (by decide) rfl (fun ls hl => ?_)
      refine lv_aload_n hx hb dX5_meetsIn_23 rfl (lv_at hl 1 rfl) ?_
      refine gf S hK iX5 hP 0 rfl rfl 0 (by decide) q636 rfl dX5_meetsIn_24 ?_
      refine lv_bipush (v := 25) hx hb dX5_meetsIn_27 (by decide) ?_
      refine lv_iload_n hx hb dX5_meetsIn_29 rfl (lv_at hl 2 rfl) ?_
      refine lv_iadd hx hb dX5_meetsIn_30 ?_
      obtain ⟨k6, h⟩ := ck_t h
      refine ald S hK hP 1 rfl (ok_vp k6) dX5_meetsIn_31 ?_
      refine lv_istore (lv' := [(4, .int (fs (Int32.toNatClampNeg ((25 : Int32) + p1)))), (3, .int r5), (0, .ref mqa), (1, .int p1), (2, .int p2)]) hx hb dX5_meetsIn_32 hl (by decide) rfl (fun ls hl => ?_)
      refine lv_iconst (v := 0) hx hb dX5_meetsIn_34 (by decide) ?_
      refine lv_istore (lv' := [(5, .int 0), (4, .int (fs (Int32.toNatClampNeg ((25 : Int32) + p1)))), (3, .int r5), (0, .ref mqa), (1, .int p1), (2, .int p2)]) hx hb dX5_meetsIn_35 hl (by decide) rfl (fun ls hl => ?_)
      exact L37 10000 p1 p2 r5 (fs (Int32.toNatClampNeg ((25 : Int32) + p1))) 0  h ls (lv_sub hl [3, 4, 5, 2, 1, 0] rfl)
    · replace h := if_t c4 h
      refine lv_iconst (v := (-1)) hx hb dX5_meetsIn_16 (by decide) ?_
      obtain rfl := Option.some.inj h
      exact retR S hr hlk rfl rfl dX5_meetsIn_17
set_option maxHeartbeats 4000000 in
set_option maxRecDepth 100000 in
theorem c_X5_reason (l : Launch) (G : gG) (mqa mqs mqp mqn mqx mqm : Nat) (pas : Int32) (misk : Int32) (len : Int32) (spo : Int32) (kin : Int32) (cam : Int32) (fst : Int32) (lst : Int32) (inr : Int32) (fs : Nat → Int32) (fp : Nat → Int32) (fn : Nat → Int32) (fx : Nat → Int32) (fm : Nat → Int32) (p1 p2 : Int32) (res : Int32) (h : F_X5_reason fs p1 p2 = some res) : RdM l G yX5_reason cX5_reason 7 .int (rmk 3 73) [(mqa, .inr (5, [.ref mqs, .ref mqp, .int pas, .ref mqn, .int misk, .ref mqx, .int len, .ref mqm, .int spo, .int kin, .int cam, .int fst, .int lst, .int inr])), (mqs, .inl (G.2.2.1, 65, .inl fs)), (mqp, .inl (G.2.2.1, 260, .inl fp)), (mqn, .inl (G.2.2.1, 65, .inl fn)), (mqx, .inl (G.2.1, 80, .inl fx)), (mqm, .inl (G.2.2.1, 24, .inl fm))] [.ref mqa, .int p1, .int p2] res := by
  refine ofR (by decide) (Nat.le_of_ble_eq_true rfl) ?_
  intro p e s m below meth c ls S hr hlk hK hP hl
  have S : CallFix p m c cX5_reason 7 s ([.ref mqa, .int p1, .int p2] : List Value).toArray T0 RX5 := S
  obtain ⟨hx, hb, hml, hown, hts⟩ := id S
  have hl : lv_has ls 7 [(0, .ref mqa), (1, .int p1), (2, .int p2)] := hl
  have L59 : ∀ (n : Nat) (x1 x2 x3 x4 x5 x6 : Int32), F_X5_reason_59 fs n x1 x2 x3 x4 x5 x6 = some res → ∀ (ls : Array Slot), lv_has ls 7 [(0, .ref mqa), (1, .int x1), (2, .int x2), (3, .int x3), (4, .int x4), (5, .int x5), (6, .int x6)] → W p l e (rmk 3 73) s m ([.ref mqa, .int p1, .int p2] : List Value).toArray below meth c s.heap [] 0 0 (MQ below (vp_Si (fun x => x = res)) ([.ref mqa, .int p1, .int p2] : List Value).toArray s 0 0 (fun _ => False)) (F0 m 59 ls []) := by
    intro n
    induction n with
    | zero => intro x1 x2 x3 x4 x5 x6 h; exact absurd (show (none : Option (Int32)) = some res from h) (fun q => by cases q)
    | succ n ih =>
      intro x1 x2 x3 x4 x5 x6 h ls hl
      rw [F_X5_reason_59] at h
      refine lv_iload hx hb dX5_reason_59 (lv_at hl 6 rfl) ?_
      refine lv_bipush (v := 24) hx hb dX5_reason_61 (by decide) ?_
      refine lv_icmp_ge (tgt := 110) hx hb dX5_reason_63 (by decide) (fun c10 => ?_) (fun c10 => ?_)
      · replace h := if_t c10 h
        refine lv_iload hx hb dX5_reason_110 (lv_at hl 5 rfl) ?_
        refine lv_if_ne (tgt := 119) hx hb dX5_reason_112 (by decide) (fun c11 => ?_) (fun c11 => ?_)
        · replace h := if_f c11 h
          refine lv_aload_n hx hb dX5_reason_119 rfl (lv_at hl 0 rfl) ?_
          refine lv_iload_n hx hb dX5_reason_120 rfl (lv_at hl 3 rfl) ?_
          refine lv_iload hx hb dX5_reason_121 (lv_at hl 4 rfl) ?_
          refine lv_iconst (v := 0) hx hb dX5_reason_123 (by decide) ?_
          obtain ⟨r12, hr12, h⟩ := bd_t h
          refine rdV (As := [.int x3, .int x4, .int 0]) (rest := []) S hK (c_X5_movesTo l G mqa mqs mqp mqn mqx mqm pas misk len spo kin cam fst lst inr fs fp fn fx fm x3 x4 0 r12 hr12) mX5_movesTo q864 ⟨rfl, rfl, Nat.le_of_ble_eq_true rfl, Nat.le_of_ble_eq_true rfl⟩ hP rfl rfl rfl rfl hl.1 (Nat.le_of_ble_eq_true rfl) ⟨Nat.le_refl 0, Nat.le_refl 0⟩ dX5_reason_124 ?_
          refine lv_bipush (v := (-5)) hx hb dX5_reason_127 (by decide) ?_
          refine lv_icmp_ne (tgt := 136) hx hb dX5_reason_129 (by decide) (fun c13 => ?_) (fun c13 => ?_)
          · replace h := if_f c13 h
            refine lv_iconst (v := 0) hx hb dX5_reason_136 (by decide) ?_
            obtain rfl := Option.some.inj h
            exact retR S hr hlk rfl rfl dX5_reason_137
          · replace h := if_t c13 h
            refine lv_iconst (v := 3) hx hb dX5_reason_132 (by decide) ?_
            refine lv_goto (tgt := 137) hx hb dX5_reason_133 (by decide) ?_
            obtain rfl := Option.some.inj h
            exact retR S hr hlk rfl rfl dX5_reason_137
        · replace h := if_t c11 h
          refine lv_iconst (v := 2) hx hb dX5_reason_115 (by decide) ?_
          refine lv_goto (tgt := 137) hx hb dX5_reason_116 (by decide) ?_
          obtain rfl := Option.some.inj h
          exact retR S hr hlk rfl rfl dX5_reason_137
      · replace h := if_f c10 h
        refine lv_iload hx hb dX5_reason_66 (lv_at hl 5 rfl) ?_
        refine lv_if_eq (tgt := 101) hx hb dX5_reason_68 (by decide) (fun c14 => ?_) (fun c14 => ?_)
        · replace h := if_t c14 h
          refine lv_iconst (v := 0) hx hb dX5_reason_101 (by decide) ?_
          refine lv_istore (lv' := [(5, .int 0), (0, .ref mqa), (1, .int x1), (2, .int x2), (3, .int x3), (4, .int x4), (6, .int x6)]) hx hb dX5_reason_102 hl (by decide) rfl (fun ls hl => ?_)
          refine lv_iinc (v := x6 + 1) (lv' := [(6, .int (x6 + 1)), (5, .int 0), (0, .ref mqa), (1, .int x1), (2, .int x2), (3, .int x3), (4, .int x4)]) hx hb dX5_reason_104 hl (k := 6) rfl rfl (by decide) rfl (fun ls hl => ?_)
          refine lv_goto (tgt := 59) hx hb dX5_reason_107 (by decide) ?_
          exact ih x1 x2 x3 x4 0 (x6 + 1)  h ls (lv_sub hl [2, 3, 4, 5, 6, 1, 0] rfl)
        · replace h := if_f c14 h
          refine lv_iload_n hx hb dX5_reason_71 rfl (lv_at hl 3 rfl) ?_
          refine lv_aload_n hx hb dX5_reason_72 rfl (lv_at hl 0 rfl) ?_
          refine lv_iload hx hb dX5_reason_73 (lv_at hl 6 rfl) ?_
          obtain ⟨r15, hr15, h⟩ := bd_t h
          refine rdV (As := [.int x6]) (rest := [.int x3]) S hK (c_X5_roundOf l G mqa mqs mqp mqn mqx mqm pas misk len spo kin cam fst lst inr fs fp fn fx fm x6 r15 hr15) mX5_roundOf q880 ⟨rfl, rfl, Nat.le_of_ble_eq_true rfl, Nat.le_of_ble_eq_true rfl⟩ hP rfl rfl rfl rfl hl.1 (Nat.le_of_ble_eq_true rfl) ⟨Nat.le_refl 0, Nat.le_refl 0⟩ dX5_reason_75 ?_
          refine lv_iand hx hb dX5_reason_78 ?_
          obtain ⟨r16, hr16, h⟩ := bd_t h
          refine rdS (As := [.int (x3 &&& r15)]) (rest := []) S hK (c_X5_ones l G (x3 &&& r15) r16 hr16) mX5_ones q758 ⟨rfl, rfl, Nat.le_of_ble_eq_true rfl, Nat.le_of_ble_eq_true rfl⟩ (ws_nil G.1 _) rfl hl.1 (Nat.le_of_ble_eq_true rfl) ⟨Nat.le_refl 0, Nat.le_refl 0⟩ dX5_reason_79 ?_
          refine lv_iload hx hb dX5_reason_82 (lv_at hl 4 rfl) ?_
          refine lv_aload_n hx hb dX5_reason_84 rfl (lv_at hl 0 rfl) ?_
          refine lv_iload hx hb dX5_reason_85 (lv_at hl 6 rfl) ?_
          obtain ⟨r17, hr17, h⟩ := bd_t h
          refine rdV (As := [.int x6]) (rest := [.int x4, .int r16]) S hK (c_X5_roundOf l G mqa mqs mqp mqn mqx mqm pas misk len spo kin cam fst lst inr fs fp fn fx fm x6 r17 hr17) mX5_roundOf q880 ⟨rfl, rfl, Nat.le_of_ble_eq_true rfl, Nat.le_of_ble_eq_true rfl⟩ hP rfl rfl rfl rfl hl.1 (Nat.le_of_ble_eq_true rfl) ⟨Nat.le_refl 0, Nat.le_refl 0⟩ dX5_reason_87 ?_
          refine lv_iand hx hb dX5_reason_90 ?_
          obtain ⟨r18, hr18, h⟩ := bd_t h
          refine rdS (As := [.int (x4 &&& r17)]) (rest := [.int r16]) S hK (c_X5_ones l G (x4 &&& r17) r18 hr18) mX5_ones q758 ⟨rfl, rfl, Nat.le_of_ble_eq_true rfl, Nat.le_of_ble_eq_true rfl⟩ (ws_nil G.1 _) rfl hl.1 (Nat.le_of_ble_eq_true rfl) ⟨Nat.le_refl 0, Nat.le_refl 0⟩ dX5_reason_91 ?_
          refine lv_icmp_ne (tgt := 101) hx hb dX5_reason_94 (by decide) (fun c19 => ?_) (fun c19 => ?_)
          · replace h := if_f c19 h
            refine lv_iconst (v := 0) hx hb dX5_reason_101 (by decide) ?_
            refine lv_istore (lv' := [(5, .int 0), (0, .ref mqa), (1, .int x1), (2, .int x2), (3, .int x3), (4, .int x4), (6, .int x6)]) hx hb dX5_reason_102 hl (by decide) rfl (fun ls hl => ?_)
            refine lv_iinc (v := x6 + 1) (lv' := [(6, .int (x6 + 1)), (5, .int 0), (0, .ref mqa), (1, .int x1), (2, .int x2), (3, .int x3), (4, .int x4)]) hx hb dX5_reason_104 hl (k := 6) rfl rfl (by decide) rfl (fun ls hl => ?_)
            refine lv_goto (tgt := 59) hx hb dX5_reason_107 (by decide) ?_
            exact ih x1 x2 x3 x4 0 (x6 + 1)  h ls (lv_sub hl [2, 3, 4, 5, 6, 1, 0] rfl)
          · replace h := if_t c19 h
            refine lv_iconst (v := 1) hx hb dX5_reason_97 (by decide) ?_
            refine lv_goto (tgt := 102) hx hb dX5_reason_98 (by decide) ?_
            refine lv_istore (lv' := [(5, .int 1), (0, .ref mqa), (1, .int x1), (2, .int x2), (3, .int x3), (4, .int x4), (6, .int x6)]) hx hb dX5_reason_102 hl (by decide) rfl (fun ls hl => ?_)
            refine lv_iinc (v := x6 + 1) (lv' := [(6, .int (x6 + 1)), (5, .int 1), (0, .ref mqa), (1, .int x1), (2, .int x2), (3, .int x3), (4, .int x4)]) hx hb dX5_reason_104 hl (k := 6) rfl rfl (by decide) rfl (fun ls hl => ?_)
            refine lv_goto (tgt := 59) hx hb dX5_reason_107 (by decide) ?_
            exact ih x1 x2 x3 x4 1 (x6 + 1)  h ls (lv_sub hl [2, 3, 4, 5, 6, 1, 0] rfl)
  rw [F_X5_reason] at h
  refine lv_aload_n hx hb dX5_reason_0 rfl (lv_at hl 0 rfl) ?_
  refine lv_iload_n hx hb dX5_reason_1 rfl (lv_at hl 1 rfl) ?_
  obtain ⟨r1, hr1, h⟩ := bd_t h
  refine rdV (As := [.int p1]) (rest := []) S hK (c_X5_isTicket l G mqa mqs mqp mqn mqx mqm pas misk len spo kin cam fst lst inr fs fp fn fx fm p1 r1 hr1) mX5_isTicket q765 ⟨rfl, rfl, Nat.le_of_ble_eq_true rfl, Nat.le_of_ble_eq_true rfl⟩ hP rfl rfl rfl rfl hl.1 (Nat.le_of_ble_eq_true rfl) ⟨Nat.le_refl 0, Nat.le_refl 0⟩ dX5_reason_2 ?_
  refine lv_if_eq (tgt := 16) hx hb dX5_reason_5 (by decide) (fun c2 => ?_) (fun c2 => ?_)
  · replace h := if_t c2 h
    refine lv_iconst (v := (-1)) hx hb dX5_reason_16 (by decide) ?_
    obtain rfl := Option.some.inj h
    exact retR S hr hlk rfl rfl dX5_reason_17
  · replace h := if_f c2 h
    refine lv_aload_n hx hb dX5_reason_8 rfl (lv_at hl 0 rfl) ?_
    refine lv_iload_n hx hb dX5_reason_9 rfl (lv_at hl 2 rfl) ?_
    obtain ⟨r3, hr3, h⟩ := bd_t h
    refine rdV (As := [.int p2]) (rest := []) S hK (c_X5_isTicket l G mqa mqs mqp mqn mqx mqm pas misk len spo kin cam fst lst inr fs fp fn fx fm p2 r3 hr3) mX5_isTicket q765 ⟨rfl, rfl, Nat.le_of_ble_eq_true rfl, Nat.le_of_ble_eq_true rfl⟩ hP rfl rfl rfl rfl hl.1 (Nat.le_of_ble_eq_true rfl) ⟨Nat.le_refl 0, Nat.le_refl 0⟩ dX5_reason_10 ?_
    refine lv_if_ne (tgt := 18) hx hb dX5_reason_13 (by decide) (fun c4 => ?_) (fun c4 => ?_)
    · replace h := if_f c4 h
      refine lv_aload_n hx hb dX5_reason_18 rfl (lv_at hl 0 rfl) ?_
      refine gf S hK iX5 hP 0 rfl rfl 0 (by decide) q636 rfl dX5_reason_19 ?_
      refine lv_bipush (v := 25) hx hb dX5_reason_22 (by decide) ?_
      refine lv_iload_n hx hb dX5_reason_24 rfl (lv_at hl 1 rfl) ?_
      refine lv_iadd hx hb dX5_reason_25 ?_
      obtain ⟨k5, h⟩ := ck_t h
      refine ald S hK hP 1 rfl (ok_vp k5) dX5_reason_26 ?_
      refine lv_istore_n (lv' := [(3, .int (fs (Int32.toNatClampNeg ((25 : Int32) + p1)))), (0, .ref mqa), (1, .int p1), (2, .int p2)]) hx hb dX5_reason_27 rfl hl (by decide) rfl (fun ls hl => ?_)
      refine lv_aload_n hx hb dX5_reason_28 rfl (lv_at hl 1 rfl) ?_
      refine gf S hK iX5 hP 0 rfl rfl 0 (by decide) q636 rfl dX5_reason_29 ?_
      refine lv_bipush (v := 25) hx hb dX5_reason_32 (by decide) ?_
      refine lv_iload_n hx hb dX5_reason_34 rfl (lv_at hl 3 rfl) ?_
      refine lv_iadd hx hb dX5_reason_35 ?_
      obtain ⟨k6, h⟩ := ck_t h
      refine ald S hK hP 1 rfl (ok_vp k6) dX5_reason_36 ?_
      refine lv_istore (lv' := [(4, .int (fs (Int32.toNatClampNeg ((25 : Int32) + p2)))), (3, .int (fs (Int32.toNatClampNeg ((25 : Int32) + p1)))), (0, .ref mqa), (1, .int p1), (2, .int p2)]) hx hb dX5_reason_37 hl (by decide) rfl (fun ls hl => ?_)
      refine lv_iload_n hx hb dX5_reason_39 rfl (lv_at hl 1 rfl) ?_
      obtain ⟨r7, hr7, h⟩ := bd_t h
      refine rdS (As := [.int (fs (Int32.toNatClampNeg ((25 : Int32) + p1)))]) (rest := []) S hK (c_X5_ones l G (fs (Int32.toNatClampNeg ((25 : Int32) + p1))) r7 hr7) mX5_ones q758 ⟨rfl, rfl, Nat.le_of_ble_eq_true rfl, Nat.le_of_ble_eq_true rfl⟩ (ws_nil G.1 _) rfl hl.1 (Nat.le_of_ble_eq_true rfl) ⟨Nat.le_refl 0, Nat.le_refl 0⟩ dX5_reason_40 ?_
      refine lv_iload hx hb dX5_reason_43 (lv_at hl 0 rfl) ?_
      obtain ⟨r8, hr8, h⟩ := bd_t h
      refine rdS (As := [.int (fs (Int32.toNatClampNeg ((25 : Int32) + p2)))]) (rest := [.int r7]) S hK (c_X5_ones l G (fs (Int32.toNatClampNeg ((25 : Int32) + p2))) r8 hr8) mX5_ones q758 ⟨rfl, rfl, Nat.le_of_ble_eq_true rfl, Nat.le_of_ble_eq_true rfl⟩ (ws_nil G.1 _) rfl hl.1 (Nat.le_of_ble_eq_true rfl) ⟨Nat.le_refl 0, Nat.le_refl 0⟩ dX5_reason_45 ?_
      refine lv_icmp_eq (tgt := 53) hx hb dX5_reason_48 (by decide) (fun c9 => ?_) (fun c9 => ?_)
      · replace h := if_t c9 h
        refine lv_iconst (v := 1) hx hb dX5_reason_53 (by decide) ?_
        refine lv_istore (lv' := [(5, .int 1), (4, .int (fs (Int32.toNatClampNeg ((25 : Int32) + p2)))), (3, .int (fs (Int32.toNatClampNeg ((25 : Int32) + p1)))), (0, .ref mqa), (1, .int p1), (2, .int p2)]) hx hb dX5_reason_54 hl (by decide) rfl (fun ls hl => ?_)
        refine lv_iconst (v := 0) hx hb dX5_reason_56 (by decide) ?_
        refine lv_istore (lv' := [(6, .int 0), (5, .int 1), (4, .int (fs (Int32.toNatClampNeg ((25 : Int32) + p2)))), (3, .int (fs (Int32.toNatClampNeg ((25 : Int32) + p1)))), (0, .ref mqa), (1, .int p1), (2, .int p2)]) hx hb dX5_reason_57 hl (by decide) rfl (fun ls hl => ?_)
        exact L59 10000 p1 p2 (fs (Int32.toNatClampNeg ((25 : Int32) + p1))) (fs (Int32.toNatClampNeg ((25 : Int32) + p2))) 1 0  h ls (lv_sub hl [4, 5, 6, 3, 2, 1, 0] rfl)
      · replace h := if_f c9 h
        refine lv_iconst (v := 1) hx hb dX5_reason_51 (by decide) ?_
        obtain rfl := Option.some.inj h
        exact retR S hr hlk rfl rfl dX5_reason_52
    · replace h := if_t c4 h
      refine lv_iconst (v := (-1)) hx hb dX5_reason_16 (by decide) ?_
      obtain rfl := Option.some.inj h
      exact retR S hr hlk rfl rfl dX5_reason_17
set_option maxHeartbeats 4000000 in
set_option maxRecDepth 100000 in
theorem c_X5_kin (l : Launch) (G : gG) (mqa mqs mqp mqn mqx mqm : Nat) (pas : Int32) (misk : Int32) (len : Int32) (spo : Int32) (kin : Int32) (cam : Int32) (fst : Int32) (lst : Int32) (inr : Int32) (fs : Nat → Int32) (fp : Nat → Int32) (fn : Nat → Int32) (fx : Nat → Int32) (fm : Nat → Int32) (p1 : Int32) (res : Int32) (h : F_X5_kin fs p1 = some res) : RdM l G yX5_kin cX5_kin 4 .int (rmk 3 73) [(mqa, .inr (5, [.ref mqs, .ref mqp, .int pas, .ref mqn, .int misk, .ref mqx, .int len, .ref mqm, .int spo, .int kin, .int cam, .int fst, .int lst, .int inr])), (mqs, .inl (G.2.2.1, 65, .inl fs)), (mqp, .inl (G.2.2.1, 260, .inl fp)), (mqn, .inl (G.2.2.1, 65, .inl fn)), (mqx, .inl (G.2.1, 80, .inl fx)), (mqm, .inl (G.2.2.1, 24, .inl fm))] [.ref mqa, .int p1] res := by
  refine ofR (by decide) (Nat.le_of_ble_eq_true rfl) ?_
  intro p e s m below meth c ls S hr hlk hK hP hl
  have S : CallFix p m c cX5_kin 4 s ([.ref mqa, .int p1] : List Value).toArray T0 RX5 := S
  obtain ⟨hx, hb, hml, hown, hts⟩ := id S
  have hl : lv_has ls 4 [(0, .ref mqa), (1, .int p1)] := hl
  have L14 : ∀ (n : Nat) (x1 x2 x3 : Int32), F_X5_kin_14 fs n x1 x2 x3 = some res → ∀ (ls : Array Slot), lv_has ls 4 [(0, .ref mqa), (1, .int x1), (2, .int x2), (3, .int x3)] → W p l e (rmk 3 73) s m ([.ref mqa, .int p1] : List Value).toArray below meth c s.heap [] 0 0 (MQ below (vp_Si (fun x => x = res)) ([.ref mqa, .int p1] : List Value).toArray s 0 0 (fun _ => False)) (F0 m 14 ls []) := by
    intro n
    induction n with
    | zero => intro x1 x2 x3 h; exact absurd (show (none : Option (Int32)) = some res from h) (fun q => by cases q)
    | succ n ih =>
      intro x1 x2 x3 h ls hl
      rw [F_X5_kin_14] at h
      refine lv_iload_n hx hb dX5_kin_14 rfl (lv_at hl 3 rfl) ?_
      refine lv_aload_n hx hb dX5_kin_15 rfl (lv_at hl 0 rfl) ?_
      refine gf S hK iX5 hP 0 rfl rfl 0 (by decide) q636 rfl dX5_kin_16 ?_
      refine lv_bipush (v := 24) hx hb dX5_kin_19 (by decide) ?_
      obtain ⟨k3, h⟩ := ck_t h
      refine ald S hK hP 1 rfl (ok_vp k3) dX5_kin_21 ?_
      refine lv_icmp_ge (tgt := 69) hx hb dX5_kin_22 (by decide) (fun c4 => ?_) (fun c4 => ?_)
      · replace h := if_t c4 h
        refine lv_iload_n hx hb dX5_kin_69 rfl (lv_at hl 2 rfl) ?_
        obtain rfl := Option.some.inj h
        exact retR S hr hlk rfl rfl dX5_kin_70
      · replace h := if_f c4 h
        refine lv_iload_n hx hb dX5_kin_25 rfl (lv_at hl 2 rfl) ?_
        refine lv_aload_n hx hb dX5_kin_26 rfl (lv_at hl 0 rfl) ?_
        refine lv_aload_n hx hb dX5_kin_27 rfl (lv_at hl 0 rfl) ?_
        refine gf S hK iX5 hP 0 rfl rfl 0 (by decide) q636 rfl dX5_kin_28 ?_
        refine lv_bipush (v := 25) hx hb dX5_kin_31 (by decide) ?_
        refine lv_iload_n hx hb dX5_kin_33 rfl (lv_at hl 3 rfl) ?_
        refine lv_iadd hx hb dX5_kin_34 ?_
        obtain ⟨k5, h⟩ := ck_t h
        refine ald S hK hP 1 rfl (ok_vp k5) dX5_kin_35 ?_
        refine lv_aload_n hx hb dX5_kin_36 rfl (lv_at hl 0 rfl) ?_
        refine gf S hK iX5 hP 0 rfl rfl 0 (by decide) q636 rfl dX5_kin_37 ?_
        refine lv_bipush (v := 25) hx hb dX5_kin_40 (by decide) ?_
        refine lv_iload_n hx hb dX5_kin_42 rfl (lv_at hl 1 rfl) ?_
        refine lv_iadd hx hb dX5_kin_43 ?_
        obtain ⟨k6, h⟩ := ck_t h
        refine ald S hK hP 1 rfl (ok_vp k6) dX5_kin_44 ?_
        refine lv_iconst (v := 0) hx hb dX5_kin_45 (by decide) ?_
        obtain ⟨r7, hr7, h⟩ := bd_t h
        refine rdV (As := [.int (fs (Int32.toNatClampNeg ((25 : Int32) + x3))), .int (fs (Int32.toNatClampNeg ((25 : Int32) + x1))), .int 0]) (rest := [.int x2]) S hK (c_X5_movesTo l G mqa mqs mqp mqn mqx mqm pas misk len spo kin cam fst lst inr fs fp fn fx fm (fs (Int32.toNatClampNeg ((25 : Int32) + x3))) (fs (Int32.toNatClampNeg ((25 : Int32) + x1))) 0 r7 hr7) mX5_movesTo q864 ⟨rfl, rfl, Nat.le_of_ble_eq_true rfl, Nat.le_of_ble_eq_true rfl⟩ hP rfl rfl rfl rfl hl.1 (Nat.le_of_ble_eq_true rfl) ⟨Nat.le_refl 0, Nat.le_refl 0⟩ dX5_kin_46 ?_
        refine lv_bipush (v := (-5)) hx hb dX5_kin_49 (by decide) ?_
        refine lv_icmp_ne (tgt := 58) hx hb dX5_kin_51 (by decide) (fun c8 => ?_) (fun c8 => ?_)
        · replace h := if_f c8 h
          refine lv_iconst (v := 1) hx hb dX5_kin_58 (by decide) ?_
          refine lv_iload_n hx hb dX5_kin_59 rfl (lv_at hl 3 rfl) ?_
          refine lv_ishl hx hb dX5_kin_60 ?_
          refine lv_ior hx hb dX5_kin_61 ?_
          refine lv_istore_n (lv' := [(2, .int (x2 ||| ((1 : Int32) <<< (x3 &&& 31)))), (0, .ref mqa), (1, .int x1), (3, .int x3)]) hx hb dX5_kin_62 rfl hl (by decide) rfl (fun ls hl => ?_)
          refine lv_iinc (v := x3 + 1) (lv' := [(3, .int (x3 + 1)), (2, .int (x2 ||| ((1 : Int32) <<< (x3 &&& 31)))), (0, .ref mqa), (1, .int x1)]) hx hb dX5_kin_63 hl (k := 3) rfl rfl (by decide) rfl (fun ls hl => ?_)
          refine lv_goto (tgt := 14) hx hb dX5_kin_66 (by decide) ?_
          exact ih x1 (x2 ||| ((1 : Int32) <<< (x3 &&& 31))) (x3 + 1)  h ls (lv_sub hl [2, 3, 1, 0] rfl)
        · replace h := if_t c8 h
          refine lv_iconst (v := 0) hx hb dX5_kin_54 (by decide) ?_
          refine lv_goto (tgt := 61) hx hb dX5_kin_55 (by decide) ?_
          refine lv_ior hx hb dX5_kin_61 ?_
          refine lv_istore_n (lv' := [(2, .int (x2 ||| 0)), (0, .ref mqa), (1, .int x1), (3, .int x3)]) hx hb dX5_kin_62 rfl hl (by decide) rfl (fun ls hl => ?_)
          refine lv_iinc (v := x3 + 1) (lv' := [(3, .int (x3 + 1)), (2, .int (x2 ||| 0)), (0, .ref mqa), (1, .int x1)]) hx hb dX5_kin_63 hl (k := 3) rfl rfl (by decide) rfl (fun ls hl => ?_)
          refine lv_goto (tgt := 14) hx hb dX5_kin_66 (by decide) ?_
          exact ih x1 (x2 ||| 0) (x3 + 1)  h ls (lv_sub hl [2, 3, 1, 0] rfl)
  rw [F_X5_kin] at h
  refine lv_aload_n hx hb dX5_kin_0 rfl (lv_at hl 0 rfl) ?_
  refine lv_iload_n hx hb dX5_kin_1 rfl (lv_at hl 1 rfl) ?_
  obtain ⟨r1, hr1, h⟩ := bd_t h
  refine rdV (As := [.int p1]) (rest := []) S hK (c_X5_isTicket l G mqa mqs mqp mqn mqx mqm pas misk len spo kin cam fst lst inr fs fp fn fx fm p1 r1 hr1) mX5_isTicket q765 ⟨rfl, rfl, Nat.le_of_ble_eq_true rfl, Nat.le_of_ble_eq_true rfl⟩ hP rfl rfl rfl rfl hl.1 (Nat.le_of_ble_eq_true rfl) ⟨Nat.le_refl 0, Nat.le_refl 0⟩ dX5_kin_2 ?_
  refine lv_if_ne (tgt := 10) hx hb dX5_kin_5 (by decide) (fun c2 => ?_) (fun c2 => ?_)
  · replace h := if_f c2 h
    refine lv_iconst (v := 0) hx hb dX5_kin_10 (by decide) ?_
    refine lv_istore_n (lv' := [(2, .int 0), (0, .ref mqa), (1, .int p1)]) hx hb dX5_kin_11 rfl hl (by decide) rfl (fun ls hl => ?_)
    refine lv_iconst (v := 0) hx hb dX5_kin_12 (by decide) ?_
    refine lv_istore_n (lv' := [(3, .int 0), (2, .int 0), (0, .ref mqa), (1, .int p1)]) hx hb dX5_kin_13 rfl hl (by decide) rfl (fun ls hl => ?_)
    exact L14 10000 p1 0 0  h ls (lv_sub hl [2, 3, 1, 0] rfl)
  · replace h := if_t c2 h
    refine lv_iconst (v := (-1)) hx hb dX5_kin_8 (by decide) ?_
    obtain rfl := Option.some.inj h
    exact retR S hr hlk rfl rfl dX5_kin_9
set_option maxHeartbeats 4000000 in
set_option maxRecDepth 100000 in
theorem c_X5_light (l : Launch) (G : gG) (mqa mqs mqp mqn mqx mqm : Nat) (pas : Int32) (misk : Int32) (len : Int32) (spo : Int32) (kin : Int32) (cam : Int32) (fst : Int32) (lst : Int32) (inr : Int32) (fs : Nat → Int32) (fp : Nat → Int32) (fn : Nat → Int32) (fx : Nat → Int32) (fm : Nat → Int32) (res : Int32) (h : F_X5_light fs = some res) : RdM l G yX5_light cX5_light 1 .int (rmk 3 64) [(mqa, .inr (5, [.ref mqs, .ref mqp, .int pas, .ref mqn, .int misk, .ref mqx, .int len, .ref mqm, .int spo, .int kin, .int cam, .int fst, .int lst, .int inr])), (mqs, .inl (G.2.2.1, 65, .inl fs)), (mqp, .inl (G.2.2.1, 260, .inl fp)), (mqn, .inl (G.2.2.1, 65, .inl fn)), (mqx, .inl (G.2.1, 80, .inl fx)), (mqm, .inl (G.2.2.1, 24, .inl fm))] [.ref mqa] res := by
  refine ofR (by decide) (Nat.le_of_ble_eq_true rfl) ?_
  intro p e s m below meth c ls S hr hlk hK hP hl
  have S : CallFix p m c cX5_light 1 s ([.ref mqa] : List Value).toArray T0 RX5 := S
  obtain ⟨hx, hb, hml, hown, hts⟩ := id S
  have hl : lv_has ls 1 [(0, .ref mqa)] := hl
  rw [F_X5_light] at h
  refine lv_aload_n hx hb dX5_light_0 rfl (lv_at hl 0 rfl) ?_
  obtain ⟨r1, hr1, h⟩ := bd_t h
  refine rdV (As := []) (rest := []) S hK (c_X5_lit l G mqa mqs mqp mqn mqx mqm pas misk len spo kin cam fst lst inr fs fp fn fx fm r1 hr1) mX5_lit q892 ⟨rfl, rfl, Nat.le_of_ble_eq_true rfl, Nat.le_of_ble_eq_true rfl⟩ hP rfl rfl rfl rfl hl.1 (Nat.le_of_ble_eq_true rfl) ⟨Nat.le_refl 0, Nat.le_refl 0⟩ dX5_light_1 ?_
  obtain rfl := Option.some.inj h
  exact retR S hr hlk rfl rfl dX5_light_4
set_option maxHeartbeats 4000000 in
set_option maxRecDepth 100000 in
theorem c_X5_bestTurn (l : Launch) (G : gG) (mqa mqs mqp mqn mqx mqm : Nat) (pas : Int32) (misk : Int32) (len : Int32) (spo : Int32) (kin : Int32) (cam : Int32) (fst : Int32) (lst : Int32) (inr : Int32) (fs : Nat → Int32) (fp : Nat → Int32) (fn : Nat → Int32) (fx : Nat → Int32) (fm : Nat → Int32) (p1 p2 : Int32) (res : Int32) (h : F_X5_bestTurn fs p1 p2 = some res) : RdM l G yX5_bestTurn cX5_bestTurn 10 .int (rmk 2 47) [(mqa, .inr (5, [.ref mqs, .ref mqp, .int pas, .ref mqn, .int misk, .ref mqx, .int len, .ref mqm, .int spo, .int kin, .int cam, .int fst, .int lst, .int inr])), (mqs, .inl (G.2.2.1, 65, .inl fs)), (mqp, .inl (G.2.2.1, 260, .inl fp)), (mqn, .inl (G.2.2.1, 65, .inl fn)), (mqx, .inl (G.2.1, 80, .inl fx)), (mqm, .inl (G.2.2.1, 24, .inl fm))] [.ref mqa, .int p1, .int p2] res := by
  refine ofR (by decide) (Nat.le_of_ble_eq_true rfl) ?_
  intro p e s m below meth c ls S hr hlk hK hP hl
  have S : CallFix p m c cX5_bestTurn 10 s ([.ref mqa, .int p1, .int p2] : List Value).toArray T0 RX5 := S
  obtain ⟨hx, hb, hml, hown, hts⟩ := id S
  have hl : lv_has ls 10 [(0, .ref mqa), (1, .int p1), (2, .int p2)] := hl
  have L65 : ∀ (n : Nat) (x1 x2 x3 x4 x5 x6 x7 x8 : Int32), F_X5_bestTurn_65 fs n x1 x2 x3 x4 x5 x6 x7 x8 = some res → ∀ (ls : Array Slot), lv_has ls 10 [(0, .ref mqa), (1, .int x1), (2, .int x2), (3, .int x3), (4, .int x4), (5, .int x5), (6, .int x6), (7, .int x7), (8, .int x8)] → W p l e (rmk 2 47) s m ([.ref mqa, .int p1, .int p2] : List Value).toArray below meth c s.heap [] 0 0 (MQ below (vp_Si (fun x => x = res)) ([.ref mqa, .int p1, .int p2] : List Value).toArray s 0 0 (fun _ => False)) (F0 m 65 ls []) := by
    intro n
    induction n with
    | zero => intro x1 x2 x3 x4 x5 x6 x7 x8 h; exact absurd (show (none : Option (Int32)) = some res from h) (fun q => by cases q)
    | succ n ih =>
      intro x1 x2 x3 x4 x5 x6 x7 x8 h ls hl
      rw [F_X5_bestTurn_65] at h
      refine lv_iload hx hb dX5_bestTurn_65 (lv_at hl 8 rfl) ?_
      refine lv_iload hx hb dX5_bestTurn_67 (lv_at hl 4 rfl) ?_
      refine lv_icmp_ge (tgt := 127) hx hb dX5_bestTurn_69 (by decide) (fun c10 => ?_) (fun c10 => ?_)
      · replace h := if_t c10 h
        refine lv_iload_n hx hb dX5_bestTurn_127 rfl (lv_at hl 2 rfl) ?_
        refine lv_if_ne (tgt := 136) hx hb dX5_bestTurn_128 (by decide) (fun c11 => ?_) (fun c11 => ?_)
        · replace h := if_f c11 h
          refine lv_iload hx hb dX5_bestTurn_136 (lv_at hl 7 rfl) ?_
          obtain rfl := Option.some.inj h
          exact retR S hr hlk rfl rfl dX5_bestTurn_138
        · replace h := if_t c11 h
          refine lv_iload hx hb dX5_bestTurn_131 (lv_at hl 6 rfl) ?_
          refine lv_goto (tgt := 138) hx hb dX5_bestTurn_133 (by decide) ?_
          obtain rfl := Option.some.inj h
          exact retR S hr hlk rfl rfl dX5_bestTurn_138
      · replace h := if_f c10 h
        refine lv_iload hx hb dX5_bestTurn_72 (lv_at hl 5 rfl) ?_
        refine lv_iload_n hx hb dX5_bestTurn_74 rfl (lv_at hl 3 rfl) ?_
        refine lv_iand hx hb dX5_bestTurn_75 ?_
        obtain ⟨r12, hr12, h⟩ := bd_t h
        refine rdS (As := [.int (x5 &&& x3)]) (rest := []) S hK (c_X5_ones l G (x5 &&& x3) r12 hr12) mX5_ones q758 ⟨rfl, rfl, Nat.le_of_ble_eq_true rfl, Nat.le_of_ble_eq_true rfl⟩ (ws_nil G.1 _) rfl hl.1 (Nat.le_of_ble_eq_true rfl) ⟨Nat.le_refl 0, Nat.le_refl 0⟩ dX5_bestTurn_76 ?_
        refine lv_istore (lv' := [(9, .int r12), (0, .ref mqa), (1, .int x1), (2, .int x2), (3, .int x3), (4, .int x4), (5, .int x5), (6, .int x6), (7, .int x7), (8, .int x8)]) hx hb dX5_bestTurn_79 hl (by decide) rfl (fun ls hl => ?_)
        refine lv_iload hx hb dX5_bestTurn_81 (lv_at hl 0 rfl) ?_
        refine lv_iload hx hb dX5_bestTurn_83 (lv_at hl 8 rfl) ?_
        refine lv_icmp_le (tgt := 93) hx hb dX5_bestTurn_85 (by decide) (fun c13 => ?_) (fun c13 => ?_)
        · replace h := if_t c13 h
          refine lv_iload hx hb dX5_bestTurn_93 (lv_at hl 7 rfl) ?_
          refine lv_istore (lv' := [(6, .int x6), (9, .int r12), (0, .ref mqa), (1, .int x1), (2, .int x2), (3, .int x3), (4, .int x4), (5, .int x5), (7, .int x7), (8, .int x8)]) hx hb dX5_bestTurn_95 hl (by decide) rfl (fun ls hl => ?_)
          refine lv_iload hx hb dX5_bestTurn_97 (lv_at hl 1 rfl) ?_
          refine lv_iload hx hb dX5_bestTurn_99 (lv_at hl 8 rfl) ?_
          refine lv_icmp_le (tgt := 109) hx hb dX5_bestTurn_101 (by decide) (fun c14 => ?_) (fun c14 => ?_)
          · replace h := if_t c14 h
            refine lv_iload hx hb dX5_bestTurn_109 (lv_at hl 8 rfl) ?_
            refine lv_istore (lv' := [(7, .int x7), (6, .int x6), (9, .int r12), (0, .ref mqa), (1, .int x1), (2, .int x2), (3, .int x3), (4, .int x4), (5, .int x5), (8, .int x8)]) hx hb dX5_bestTurn_111 hl (by decide) rfl (fun ls hl => ?_)
            refine lv_aload_n hx hb dX5_bestTurn_113 rfl (lv_at hl 3 rfl) ?_
            refine lv_iload hx hb dX5_bestTurn_114 (lv_at hl 8 rfl) ?_
            obtain ⟨r15, hr15, h⟩ := bd_t h
            refine rdV (As := [.int x5]) (rest := []) S hK (c_X5_moved l G mqa mqs mqp mqn mqx mqm pas misk len spo kin cam fst lst inr fs fp fn fx fm x5 r15 hr15) mX5_moved q800 ⟨rfl, rfl, Nat.le_of_ble_eq_true rfl, Nat.le_of_ble_eq_true rfl⟩ hP rfl rfl rfl rfl hl.1 (Nat.le_of_ble_eq_true rfl) ⟨Nat.le_refl 0, Nat.le_refl 0⟩ dX5_bestTurn_116 ?_
            refine lv_istore (lv' := [(5, .int r15), (7, .int x7), (6, .int x6), (9, .int r12), (0, .ref mqa), (1, .int x1), (2, .int x2), (3, .int x3), (4, .int x4), (8, .int x8)]) hx hb dX5_bestTurn_119 hl (by decide) rfl (fun ls hl => ?_)
            refine lv_iinc (v := x8 + 1) (lv' := [(8, .int (x8 + 1)), (5, .int r15), (7, .int x7), (6, .int x6), (9, .int r12), (0, .ref mqa), (1, .int x1), (2, .int x2), (3, .int x3), (4, .int x4)]) hx hb dX5_bestTurn_121 hl (k := 9) rfl rfl (by decide) rfl (fun ls hl => ?_)
            refine lv_goto (tgt := 65) hx hb dX5_bestTurn_124 (by decide) ?_
            exact ih x1 x2 x3 x4 r15 x6 x7 (x8 + 1)  h ls (lv_sub hl [5, 6, 7, 8, 9, 1, 3, 2, 0] rfl)
          · replace h := if_f c14 h
            refine lv_iload hx hb dX5_bestTurn_104 (lv_at hl 1 rfl) ?_
            refine lv_goto (tgt := 111) hx hb dX5_bestTurn_106 (by decide) ?_
            refine lv_istore (lv' := [(7, .int r12), (6, .int x6), (9, .int r12), (0, .ref mqa), (1, .int x1), (2, .int x2), (3, .int x3), (4, .int x4), (5, .int x5), (8, .int x8)]) hx hb dX5_bestTurn_111 hl (by decide) rfl (fun ls hl => ?_)
            refine lv_aload_n hx hb dX5_bestTurn_113 rfl (lv_at hl 3 rfl) ?_
            refine lv_iload hx hb dX5_bestTurn_114 (lv_at hl 8 rfl) ?_
            obtain ⟨r16, hr16, h⟩ := bd_t h
            refine rdV (As := [.int x5]) (rest := []) S hK (c_X5_moved l G mqa mqs mqp mqn mqx mqm pas misk len spo kin cam fst lst inr fs fp fn fx fm x5 r16 hr16) mX5_moved q800 ⟨rfl, rfl, Nat.le_of_ble_eq_true rfl, Nat.le_of_ble_eq_true rfl⟩ hP rfl rfl rfl rfl hl.1 (Nat.le_of_ble_eq_true rfl) ⟨Nat.le_refl 0, Nat.le_refl 0⟩ dX5_bestTurn_116 ?_
            refine lv_istore (lv' := [(5, .int r16), (7, .int r12), (6, .int x6), (9, .int r12), (0, .ref mqa), (1, .int x1), (2, .int x2), (3, .int x3), (4, .int x4), (8, .int x8)]) hx hb dX5_bestTurn_119 hl (by decide) rfl (fun ls hl => ?_)
            refine lv_iinc (v := x8 + 1) (lv' := [(8, .int (x8 + 1)), (5, .int r16), (7, .int r12), (6, .int x6), (9, .int r12), (0, .ref mqa), (1, .int x1), (2, .int x2), (3, .int x3), (4, .int x4)]) hx hb dX5_bestTurn_121 hl (k := 9) rfl rfl (by decide) rfl (fun ls hl => ?_)
            refine lv_goto (tgt := 65) hx hb dX5_bestTurn_124 (by decide) ?_
            exact ih x1 x2 x3 x4 r16 x6 r12 (x8 + 1)  h ls (lv_sub hl [5, 6, 7, 8, 9, 1, 3, 2, 0] rfl)
        · replace h := if_f c13 h
          refine lv_iload hx hb dX5_bestTurn_88 (lv_at hl 9 rfl) ?_
          refine lv_goto (tgt := 95) hx hb dX5_bestTurn_90 (by decide) ?_
          refine lv_istore (lv' := [(6, .int x8), (9, .int r12), (0, .ref mqa), (1, .int x1), (2, .int x2), (3, .int x3), (4, .int x4), (5, .int x5), (7, .int x7), (8, .int x8)]) hx hb dX5_bestTurn_95 hl (by decide) rfl (fun ls hl => ?_)
          refine lv_iload hx hb dX5_bestTurn_97 (lv_at hl 1 rfl) ?_
          refine lv_iload hx hb dX5_bestTurn_99 (lv_at hl 8 rfl) ?_
          refine lv_icmp_le (tgt := 109) hx hb dX5_bestTurn_101 (by decide) (fun c17 => ?_) (fun c17 => ?_)
          · replace h := if_t c17 h
            refine lv_iload hx hb dX5_bestTurn_109 (lv_at hl 8 rfl) ?_
            refine lv_istore (lv' := [(7, .int x7), (6, .int x8), (9, .int r12), (0, .ref mqa), (1, .int x1), (2, .int x2), (3, .int x3), (4, .int x4), (5, .int x5), (8, .int x8)]) hx hb dX5_bestTurn_111 hl (by decide) rfl (fun ls hl => ?_)
            refine lv_aload_n hx hb dX5_bestTurn_113 rfl (lv_at hl 3 rfl) ?_
            refine lv_iload hx hb dX5_bestTurn_114 (lv_at hl 8 rfl) ?_
            obtain ⟨r18, hr18, h⟩ := bd_t h
            refine rdV (As := [.int x5]) (rest := []) S hK (c_X5_moved l G mqa mqs mqp mqn mqx mqm pas misk len spo kin cam fst lst inr fs fp fn fx fm x5 r18 hr18) mX5_moved q800 ⟨rfl, rfl, Nat.le_of_ble_eq_true rfl, Nat.le_of_ble_eq_true rfl⟩ hP rfl rfl rfl rfl hl.1 (Nat.le_of_ble_eq_true rfl) ⟨Nat.le_refl 0, Nat.le_refl 0⟩ dX5_bestTurn_116 ?_
            refine lv_istore (lv' := [(5, .int r18), (7, .int x7), (6, .int x8), (9, .int r12), (0, .ref mqa), (1, .int x1), (2, .int x2), (3, .int x3), (4, .int x4), (8, .int x8)]) hx hb dX5_bestTurn_119 hl (by decide) rfl (fun ls hl => ?_)
            refine lv_iinc (v := x8 + 1) (lv' := [(8, .int (x8 + 1)), (5, .int r18), (7, .int x7), (6, .int x8), (9, .int r12), (0, .ref mqa), (1, .int x1), (2, .int x2), (3, .int x3), (4, .int x4)]) hx hb dX5_bestTurn_121 hl (k := 9) rfl rfl (by decide) rfl (fun ls hl => ?_)
            refine lv_goto (tgt := 65) hx hb dX5_bestTurn_124 (by decide) ?_
            exact ih x1 x2 x3 x4 r18 x8 x7 (x8 + 1)  h ls (lv_sub hl [5, 6, 7, 8, 9, 1, 3, 2, 0] rfl)
          · replace h := if_f c17 h
            refine lv_iload hx hb dX5_bestTurn_104 (lv_at hl 1 rfl) ?_
            refine lv_goto (tgt := 111) hx hb dX5_bestTurn_106 (by decide) ?_
            refine lv_istore (lv' := [(7, .int r12), (6, .int x8), (9, .int r12), (0, .ref mqa), (1, .int x1), (2, .int x2), (3, .int x3), (4, .int x4), (5, .int x5), (8, .int x8)]) hx hb dX5_bestTurn_111 hl (by decide) rfl (fun ls hl => ?_)
            refine lv_aload_n hx hb dX5_bestTurn_113 rfl (lv_at hl 3 rfl) ?_
            refine lv_iload hx hb dX5_bestTurn_114 (lv_at hl 8 rfl) ?_
            obtain ⟨r19, hr19, h⟩ := bd_t h
            refine rdV (As := [.int x5]) (rest := []) S hK (c_X5_moved l G mqa mqs mqp mqn mqx mqm pas misk len spo kin cam fst lst inr fs fp fn fx fm x5 r19 hr19) mX5_moved q800 ⟨rfl, rfl, Nat.le_of_ble_eq_true rfl, Nat.le_of_ble_eq_true rfl⟩ hP rfl rfl rfl rfl hl.1 (Nat.le_of_ble_eq_true rfl) ⟨Nat.le_refl 0, Nat.le_refl 0⟩ dX5_bestTurn_116 ?_
            refine lv_istore (lv' := [(5, .int r19), (7, .int r12), (6, .int x8), (9, .int r12), (0, .ref mqa), (1, .int x1), (2, .int x2), (3, .int x3), (4, .int x4), (8, .int x8)]) hx hb dX5_bestTurn_119 hl (by decide) rfl (fun ls hl => ?_)
            refine lv_iinc (v := x8 + 1) (lv' := [(8, .int (x8 + 1)), (5, .int r19), (7, .int r12), (6, .int x8), (9, .int r12), (0, .ref mqa), (1, .int x1), (2, .int x2), (3, .int x3), (4, .int x4)]) hx hb dX5_bestTurn_121 hl (k := 9) rfl rfl (by decide) rfl (fun ls hl => ?_)
            refine lv_goto (tgt := 65) hx hb dX5_bestTurn_124 (by decide) ?_
            exact ih x1 x2 x3 x4 r19 x8 r12 (x8 + 1)  h ls (lv_sub hl [5, 6, 7, 8, 9, 1, 3, 2, 0] rfl)
  rw [F_X5_bestTurn] at h
  refine lv_aload_n hx hb dX5_bestTurn_0 rfl (lv_at hl 0 rfl) ?_
  refine lv_iload_n hx hb dX5_bestTurn_1 rfl (lv_at hl 1 rfl) ?_
  obtain ⟨r1, hr1, h⟩ := bd_t h
  refine rdV (As := [.int p1]) (rest := []) S hK (c_X5_isTicket l G mqa mqs mqp mqn mqx mqm pas misk len spo kin cam fst lst inr fs fp fn fx fm p1 r1 hr1) mX5_isTicket q765 ⟨rfl, rfl, Nat.le_of_ble_eq_true rfl, Nat.le_of_ble_eq_true rfl⟩ hP rfl rfl rfl rfl hl.1 (Nat.le_of_ble_eq_true rfl) ⟨Nat.le_refl 0, Nat.le_refl 0⟩ dX5_bestTurn_2 ?_
  refine lv_if_ne (tgt := 10) hx hb dX5_bestTurn_5 (by decide) (fun c2 => ?_) (fun c2 => ?_)
  · replace h := if_f c2 h
    refine lv_iload_n hx hb dX5_bestTurn_10 rfl (lv_at hl 2 rfl) ?_
    refine lv_iconst (v := 0) hx hb dX5_bestTurn_11 (by decide) ?_
    refine lv_iconst (v := 1) hx hb dX5_bestTurn_12 (by decide) ?_
    obtain ⟨r3, hr3, h⟩ := bd_t h
    refine rdS (As := [.int p2, .int 0, .int 1]) (rest := []) S hK (c_X5_in l G p2 0 1 r3 hr3) mX5_in q686 ⟨rfl, rfl, Nat.le_of_ble_eq_true rfl, Nat.le_of_ble_eq_true rfl⟩ (ws_nil G.1 _) rfl hl.1 (Nat.le_of_ble_eq_true rfl) ⟨Nat.le_refl 0, Nat.le_refl 0⟩ dX5_bestTurn_13 ?_
    refine lv_if_ne (tgt := 22) hx hb dX5_bestTurn_16 (by decide) (fun c4 => ?_) (fun c4 => ?_)
    · replace h := if_f c4 h
      refine lv_aload_n hx hb dX5_bestTurn_22 rfl (lv_at hl 0 rfl) ?_
      refine lv_iload_n hx hb dX5_bestTurn_23 rfl (lv_at hl 1 rfl) ?_
      obtain ⟨r5, hr5, h⟩ := bd_t h
      refine rdV (As := [.int p1]) (rest := []) S hK (c_X5_isOn l G mqa mqs mqp mqn mqx mqm pas misk len spo kin cam fst lst inr fs fp fn fx fm p1 r5 hr5) mX5_isOn q808 ⟨rfl, rfl, Nat.le_of_ble_eq_true rfl, Nat.le_of_ble_eq_true rfl⟩ hP rfl rfl rfl rfl hl.1 (Nat.le_of_ble_eq_true rfl) ⟨Nat.le_refl 0, Nat.le_refl 0⟩ dX5_bestTurn_24 ?_
      refine lv_if_ne (tgt := 33) hx hb dX5_bestTurn_27 (by decide) (fun c6 => ?_) (fun c6 => ?_)
      · replace h := if_f c6 h
        refine lv_aload_n hx hb dX5_bestTurn_33 rfl (lv_at hl 0 rfl) ?_
        refine lv_iload_n hx hb dX5_bestTurn_34 rfl (lv_at hl 1 rfl) ?_
        obtain ⟨r7, hr7, h⟩ := bd_t h
        refine rdV (As := [.int p1]) (rest := []) S hK (c_X5_lightBut l G mqa mqs mqp mqn mqx mqm pas misk len spo kin cam fst lst inr fs fp fn fx fm p1 r7 hr7) mX5_lightBut q896 ⟨rfl, rfl, Nat.le_of_ble_eq_true rfl, Nat.le_of_ble_eq_true rfl⟩ hP rfl rfl rfl rfl hl.1 (Nat.le_of_ble_eq_true rfl) ⟨Nat.le_refl 0, Nat.le_refl 0⟩ dX5_bestTurn_35 ?_
        refine lv_istore_n (lv' := [(3, .int r7), (0, .ref mqa), (1, .int p1), (2, .int p2)]) hx hb dX5_bestTurn_38 rfl hl (by decide) rfl (fun ls hl => ?_)
        refine lv_aload_n hx hb dX5_bestTurn_39 rfl (lv_at hl 1 rfl) ?_
        obtain ⟨r8, hr8, h⟩ := bd_t h
        refine rdV (As := []) (rest := []) S hK (c_X5_order l G mqa mqs mqp mqn mqx mqm pas misk len spo kin cam fst lst inr fs fp fn fx fm r8 hr8) mX5_order q693 ⟨rfl, rfl, Nat.le_of_ble_eq_true rfl, Nat.le_of_ble_eq_true rfl⟩ hP rfl rfl rfl rfl hl.1 (Nat.le_of_ble_eq_true rfl) ⟨Nat.le_refl 0, Nat.le_refl 0⟩ dX5_bestTurn_40 ?_
        refine lv_istore (lv' := [(4, .int r8), (3, .int r7), (0, .ref mqa), (1, .int p1), (2, .int p2)]) hx hb dX5_bestTurn_43 hl (by decide) rfl (fun ls hl => ?_)
        refine lv_aload_n hx hb dX5_bestTurn_45 rfl (lv_at hl 2 rfl) ?_
        refine gf S hK iX5 hP 0 rfl rfl 0 (by decide) q636 rfl dX5_bestTurn_46 ?_
        refine lv_bipush (v := 25) hx hb dX5_bestTurn_49 (by decide) ?_
        refine lv_iload_n hx hb dX5_bestTurn_51 rfl (lv_at hl 3 rfl) ?_
        refine lv_iadd hx hb dX5_bestTurn_52 ?_
        obtain ⟨k9, h⟩ := ck_t h
        refine ald S hK hP 1 rfl (ok_vp k9) dX5_bestTurn_53 ?_
        refine lv_istore (lv' := [(5, .int (fs (Int32.toNatClampNeg ((25 : Int32) + p1)))), (4, .int r8), (3, .int r7), (0, .ref mqa), (1, .int p1), (2, .int p2)]) hx hb dX5_bestTurn_54 hl (by decide) rfl (fun ls hl => ?_)
        refine lv_iconst (v := 0) hx hb dX5_bestTurn_56 (by decide) ?_
        refine lv_istore (lv' := [(6, .int 0), (5, .int (fs (Int32.toNatClampNeg ((25 : Int32) + p1)))), (4, .int r8), (3, .int r7), (0, .ref mqa), (1, .int p1), (2, .int p2)]) hx hb dX5_bestTurn_57 hl (by decide) rfl (fun ls hl => ?_)
        refine lv_iconst (v := (-1)) hx hb dX5_bestTurn_59 (by decide) ?_
        refine lv_istore (lv' := [(7, .int (-1)), (6, .int 0), (5, .int (fs (Int32.toNatClampNeg ((25 : Int32) + p1)))), (4, .int r8), (3, .int r7), (0, .ref mqa), (1, .int p1), (2, .int p2)]) hx hb dX5_bestTurn_60 hl (by decide) rfl (fun ls hl => ?_)
        refine lv_iconst (v := 0) hx hb dX5_bestTurn_62 (by decide) ?_
        refine lv_istore (lv' := [(8, .int 0), (7, .int (-1)), (6, .int 0), (5, .int (fs (Int32.toNatClampNeg ((25 : Int32) + p1)))), (4, .int r8), (3, .int r7), (0, .ref mqa), (1, .int p1), (2, .int p2)]) hx hb dX5_bestTurn_63 hl (by decide) rfl (fun ls hl => ?_)
        exact L65 10000 p1 p2 r7 r8 (fs (Int32.toNatClampNeg ((25 : Int32) + p1))) 0 (-1) 0  h ls (lv_sub hl [6, 7, 8, 5, 4, 3, 2, 1, 0] rfl)
      · replace h := if_t c6 h
        refine lv_bipush (v := (-4)) hx hb dX5_bestTurn_30 (by decide) ?_
        obtain rfl := Option.some.inj h
        exact retR S hr hlk rfl rfl dX5_bestTurn_32
    · replace h := if_t c4 h
      refine lv_bipush (v := (-2)) hx hb dX5_bestTurn_19 (by decide) ?_
      obtain rfl := Option.some.inj h
      exact retR S hr hlk rfl rfl dX5_bestTurn_21
  · replace h := if_t c2 h
    refine lv_iconst (v := (-1)) hx hb dX5_bestTurn_8 (by decide) ?_
    obtain rfl := Option.some.inj h
    exact retR S hr hlk rfl rfl dX5_bestTurn_9
set_option maxHeartbeats 4000000 in
set_option maxRecDepth 100000 in
theorem c_X5_count (l : Launch) (G : gG) (mqa mqs mqp mqn mqx mqm : Nat) (pas : Int32) (misk : Int32) (len : Int32) (spo : Int32) (kin : Int32) (cam : Int32) (fst : Int32) (lst : Int32) (inr : Int32) (fs : Nat → Int32) (fp : Nat → Int32) (fn : Nat → Int32) (fx : Nat → Int32) (fm : Nat → Int32) (p1 : Int32) (res : Int32) (h : F_X5_count pas len fs p1 = some res) : RdM l G yX5_count cX5_count 2 .int (rmk 3 64) [(mqa, .inr (5, [.ref mqs, .ref mqp, .int pas, .ref mqn, .int misk, .ref mqx, .int len, .ref mqm, .int spo, .int kin, .int cam, .int fst, .int lst, .int inr])), (mqs, .inl (G.2.2.1, 65, .inl fs)), (mqp, .inl (G.2.2.1, 260, .inl fp)), (mqn, .inl (G.2.2.1, 65, .inl fn)), (mqx, .inl (G.2.1, 80, .inl fx)), (mqm, .inl (G.2.2.1, 24, .inl fm))] [.ref mqa, .int p1] res := by
  refine ofR (by decide) (Nat.le_of_ble_eq_true rfl) ?_
  intro p e s m below meth c ls S hr hlk hK hP hl
  have S : CallFix p m c cX5_count 2 s ([.ref mqa, .int p1] : List Value).toArray T0 RX5 := S
  obtain ⟨hx, hb, hml, hown, hts⟩ := id S
  have hl : lv_has ls 2 [(0, .ref mqa), (1, .int p1)] := hl
  rw [F_X5_count] at h
  refine lv_iload_n hx hb dX5_count_0 rfl (lv_at hl 1 rfl) ?_
  by_cases z1_0 : p1 = 0
  · replace h := if_t z1_0 h
    refine lv_tableIn (off := 59) (tgt := 60) hx hb dX5_count_1 (by rw [z1_0]; decide) (by rw [z1_0]; decide) (by rw [z1_0]; rfl) (by decide) ?_
    refine lv_aload_n hx hb dX5_count_60 rfl (lv_at hl 0 rfl) ?_
    refine gf S hK iX5 hP 0 rfl rfl 0 (by decide) q636 rfl dX5_count_61 ?_
    refine lv_bipush (v := 24) hx hb dX5_count_64 (by decide) ?_
    obtain ⟨k1, h⟩ := ck_t h
    refine ald S hK hP 1 rfl (ok_vp k1) dX5_count_66 ?_
    obtain rfl := Option.some.inj h
    exact retR S hr hlk rfl rfl dX5_count_67
  replace h := if_f z1_0 h
  by_cases z1_1 : p1 = 1
  · replace h := if_t z1_1 h
    refine lv_tableIn (off := 67) (tgt := 68) hx hb dX5_count_1 (by rw [z1_1]; decide) (by rw [z1_1]; decide) (by rw [z1_1]; rfl) (by decide) ?_
    refine lv_aload_n hx hb dX5_count_68 rfl (lv_at hl 0 rfl) ?_
    refine gf S hK iX5 hP 0 rfl rfl 0 (by decide) q636 rfl dX5_count_69 ?_
    refine lv_bipush (v := 49) hx hb dX5_count_72 (by decide) ?_
    obtain ⟨k2, h⟩ := ck_t h
    refine ald S hK hP 1 rfl (ok_vp k2) dX5_count_74 ?_
    obtain ⟨r3, hr3, h⟩ := bd_t h
    refine rdS (As := [.int (fs (Int32.toNatClampNeg (49 : Int32)))]) (rest := []) S hK (c_X5_ones l G (fs (Int32.toNatClampNeg (49 : Int32))) r3 hr3) mX5_ones q758 ⟨rfl, rfl, Nat.le_of_ble_eq_true rfl, Nat.le_of_ble_eq_true rfl⟩ (ws_nil G.1 _) rfl hl.1 (Nat.le_of_ble_eq_true rfl) ⟨Nat.le_refl 0, Nat.le_refl 0⟩ dX5_count_75 ?_
    obtain rfl := Option.some.inj h
    exact retR S hr hlk rfl rfl dX5_count_78
  replace h := if_f z1_1 h
  by_cases z1_2 : p1 = 2
  · replace h := if_t z1_2 h
    refine lv_tableIn (off := 78) (tgt := 79) hx hb dX5_count_1 (by rw [z1_2]; decide) (by rw [z1_2]; decide) (by rw [z1_2]; rfl) (by decide) ?_
    refine lv_aload_n hx hb dX5_count_79 rfl (lv_at hl 0 rfl) ?_
    obtain ⟨r4, hr4, h⟩ := bd_t h
    refine rdV (As := []) (rest := []) S hK (c_X5_falseOnes l G mqa mqs mqp mqn mqx mqm pas misk len spo kin cam fst lst inr fs fp fn fx fm r4 hr4) mX5_falseOnes q908 ⟨rfl, rfl, Nat.le_of_ble_eq_true rfl, Nat.le_of_ble_eq_true rfl⟩ hP rfl rfl rfl rfl hl.1 (Nat.le_of_ble_eq_true rfl) ⟨Nat.le_refl 0, Nat.le_refl 0⟩ dX5_count_80 ?_
    obtain rfl := Option.some.inj h
    exact retR S hr hlk rfl rfl dX5_count_83
  replace h := if_f z1_2 h
  by_cases z1_3 : p1 = 3
  · replace h := if_t z1_3 h
    refine lv_tableIn (off := 83) (tgt := 84) hx hb dX5_count_1 (by rw [z1_3]; decide) (by rw [z1_3]; decide) (by rw [z1_3]; rfl) (by decide) ?_
    refine lv_aload_n hx hb dX5_count_84 rfl (lv_at hl 0 rfl) ?_
    refine lv_bipush (v := 25) hx hb dX5_count_85 (by decide) ?_
    obtain ⟨r5, hr5, h⟩ := bd_t h
    refine rdV (As := [.int 25]) (rest := []) S hK (c_X5_allOf l G mqa mqs mqp mqn mqx mqm pas misk len spo kin cam fst lst inr fs fp fn fx fm 25 r5 hr5) mX5_allOf q912 ⟨rfl, rfl, Nat.le_of_ble_eq_true rfl, Nat.le_of_ble_eq_true rfl⟩ hP rfl rfl rfl rfl hl.1 (Nat.le_of_ble_eq_true rfl) ⟨Nat.le_refl 0, Nat.le_refl 0⟩ dX5_count_87 ?_
    obtain rfl := Option.some.inj h
    exact retR S hr hlk rfl rfl dX5_count_90
  replace h := if_f z1_3 h
  by_cases z1_4 : p1 = 4
  · replace h := if_t z1_4 h
    refine lv_tableIn (off := 90) (tgt := 91) hx hb dX5_count_1 (by rw [z1_4]; decide) (by rw [z1_4]; decide) (by rw [z1_4]; rfl) (by decide) ?_
    refine lv_aload_n hx hb dX5_count_91 rfl (lv_at hl 0 rfl) ?_
    refine lv_bipush (v := 37) hx hb dX5_count_92 (by decide) ?_
    obtain ⟨r6, hr6, h⟩ := bd_t h
    refine rdV (As := [.int 37]) (rest := []) S hK (c_X5_allOf l G mqa mqs mqp mqn mqx mqm pas misk len spo kin cam fst lst inr fs fp fn fx fm 37 r6 hr6) mX5_allOf q912 ⟨rfl, rfl, Nat.le_of_ble_eq_true rfl, Nat.le_of_ble_eq_true rfl⟩ hP rfl rfl rfl rfl hl.1 (Nat.le_of_ble_eq_true rfl) ⟨Nat.le_refl 0, Nat.le_refl 0⟩ dX5_count_94 ?_
    obtain rfl := Option.some.inj h
    exact retR S hr hlk rfl rfl dX5_count_97
  replace h := if_f z1_4 h
  by_cases z1_5 : p1 = 5
  · replace h := if_t z1_5 h
    refine lv_tableIn (off := 97) (tgt := 98) hx hb dX5_count_1 (by rw [z1_5]; decide) (by rw [z1_5]; decide) (by rw [z1_5]; rfl) (by decide) ?_
    refine lv_aload_n hx hb dX5_count_98 rfl (lv_at hl 0 rfl) ?_
    obtain ⟨r7, hr7, h⟩ := bd_t h
    refine rdV (As := []) (rest := []) S hK (c_X5_lit l G mqa mqs mqp mqn mqx mqm pas misk len spo kin cam fst lst inr fs fp fn fx fm r7 hr7) mX5_lit q892 ⟨rfl, rfl, Nat.le_of_ble_eq_true rfl, Nat.le_of_ble_eq_true rfl⟩ hP rfl rfl rfl rfl hl.1 (Nat.le_of_ble_eq_true rfl) ⟨Nat.le_refl 0, Nat.le_refl 0⟩ dX5_count_99 ?_
    obtain ⟨r8, hr8, h⟩ := bd_t h
    refine rdS (As := [.int r7]) (rest := []) S hK (c_X5_ones l G r7 r8 hr8) mX5_ones q758 ⟨rfl, rfl, Nat.le_of_ble_eq_true rfl, Nat.le_of_ble_eq_true rfl⟩ (ws_nil G.1 _) rfl hl.1 (Nat.le_of_ble_eq_true rfl) ⟨Nat.le_refl 0, Nat.le_refl 0⟩ dX5_count_102 ?_
    obtain rfl := Option.some.inj h
    exact retR S hr hlk rfl rfl dX5_count_105
  replace h := if_f z1_5 h
  by_cases z1_6 : p1 = 6
  · replace h := if_t z1_6 h
    refine lv_tableIn (off := 105) (tgt := 106) hx hb dX5_count_1 (by rw [z1_6]; decide) (by rw [z1_6]; decide) (by rw [z1_6]; rfl) (by decide) ?_
    refine lv_aload_n hx hb dX5_count_106 rfl (lv_at hl 0 rfl) ?_
    refine gf S hK iX5 hP 0 rfl rfl 0 (by decide) q636 rfl dX5_count_107 ?_
    refine lv_bipush (v := 62) hx hb dX5_count_110 (by decide) ?_
    obtain ⟨k9, h⟩ := ck_t h
    refine ald S hK hP 1 rfl (ok_vp k9) dX5_count_112 ?_
    obtain rfl := Option.some.inj h
    exact retR S hr hlk rfl rfl dX5_count_113
  replace h := if_f z1_6 h
  by_cases z1_7 : p1 = 7
  · replace h := if_t z1_7 h
    refine lv_tableIn (off := 113) (tgt := 114) hx hb dX5_count_1 (by rw [z1_7]; decide) (by rw [z1_7]; decide) (by rw [z1_7]; rfl) (by decide) ?_
    refine lv_aload_n hx hb dX5_count_114 rfl (lv_at hl 0 rfl) ?_
    refine gf S hK iX5 hP 0 rfl rfl 0 (by decide) q636 rfl dX5_count_115 ?_
    refine lv_bipush (v := 63) hx hb dX5_count_118 (by decide) ?_
    obtain ⟨k10, h⟩ := ck_t h
    refine ald S hK hP 1 rfl (ok_vp k10) dX5_count_120 ?_
    obtain rfl := Option.some.inj h
    exact retR S hr hlk rfl rfl dX5_count_121
  replace h := if_f z1_7 h
  by_cases z1_8 : p1 = 8
  · replace h := if_t z1_8 h
    refine lv_tableIn (off := 121) (tgt := 122) hx hb dX5_count_1 (by rw [z1_8]; decide) (by rw [z1_8]; decide) (by rw [z1_8]; rfl) (by decide) ?_
    refine lv_aload_n hx hb dX5_count_122 rfl (lv_at hl 0 rfl) ?_
    refine gf S hK iX5 hP 0 rfl rfl 0 (by decide) q636 rfl dX5_count_123 ?_
    refine lv_bipush (v := 64) hx hb dX5_count_126 (by decide) ?_
    obtain ⟨k11, h⟩ := ck_t h
    refine ald S hK hP 1 rfl (ok_vp k11) dX5_count_128 ?_
    obtain rfl := Option.some.inj h
    exact retR S hr hlk rfl rfl dX5_count_129
  replace h := if_f z1_8 h
  by_cases z1_9 : p1 = 9
  · replace h := if_t z1_9 h
    refine lv_tableIn (off := 129) (tgt := 130) hx hb dX5_count_1 (by rw [z1_9]; decide) (by rw [z1_9]; decide) (by rw [z1_9]; rfl) (by decide) ?_
    refine lv_aload_n hx hb dX5_count_130 rfl (lv_at hl 0 rfl) ?_
    refine gf S hK iX5 hP 0 rfl rfl 2 (by decide) q638 rfl dX5_count_131 ?_
    obtain rfl := Option.some.inj h
    exact retR S hr hlk rfl rfl dX5_count_134
  replace h := if_f z1_9 h
  by_cases z1_10 : p1 = 10
  · replace h := if_t z1_10 h
    refine lv_tableIn (off := 134) (tgt := 135) hx hb dX5_count_1 (by rw [z1_10]; decide) (by rw [z1_10]; decide) (by rw [z1_10]; rfl) (by decide) ?_
    refine lv_aload_n hx hb dX5_count_135 rfl (lv_at hl 0 rfl) ?_
    refine gf S hK iX5 hP 0 rfl rfl 6 (by decide) q642 rfl dX5_count_136 ?_
    obtain rfl := Option.some.inj h
    exact retR S hr hlk rfl rfl dX5_count_139
  replace h := if_f z1_10 h
  refine lv_tableOut (tgt := 140) hx hb dX5_count_1 (sw_out11 z1_0 z1_1 z1_2 z1_3 z1_4 z1_5 z1_6 z1_7 z1_8 z1_9 z1_10) (by decide) ?_
  refine lv_bipush (v := (-2)) hx hb dX5_count_140 (by decide) ?_
  obtain rfl := Option.some.inj h
  exact retR S hr hlk rfl rfl dX5_count_142
