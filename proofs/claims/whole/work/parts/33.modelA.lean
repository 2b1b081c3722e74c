set_option maxHeartbeats 4000000 in
set_option maxRecDepth 100000 in
theorem c_X5_exchange (l : Launch) (G : gG) (mqa mqs mqp mqn mqx mqm : Nat) (pas : Int32) (misk : Int32) (len : Int32) (spo : Int32) (kin : Int32) (cam : Int32) (fst : Int32) (lst : Int32) (inr : Int32) (fs : Nat → Int32) (fp : Nat → Int32) (fn : Nat → Int32) (fx : Nat → Int32) (fm : Nat → Int32) (p1 p2 : Int32) (sz : Nat) (res : Int32 × Int32 × (Nat → Int32) × (Nat → Int32)) (h : F_X5_exchange pas fs fp p1 p2 = some res) : WrM l G yX5_exchange cX5_exchange 4 (some .int) (rmk 2 47) [(mqa, .inr (5, [.ref mqs, .ref mqp, .int pas, .ref mqn, .int misk, .ref mqx, .int len, .ref mqm, .int spo, .int kin, .int cam, .int fst, .int lst, .int inr])), (mqs, .inl (G.2.2.1, 65, .inl fs)), (mqp, .inl (G.2.2.1, 260, .inl fp)), (mqn, .inl (G.2.2.1, 65, .inl fn)), (mqx, .inl (G.2.1, 80, .inl fx)), (mqm, .inl (G.2.2.1, 24, .inl fm))] sz [.ref mqa, .int p1, .int p2] (some res.1) [(mqa, .inr (5, [.ref mqs, .ref mqp, .int res.2.1, .ref mqn, .int misk, .ref mqx, .int len, .ref mqm, .int spo, .int kin, .int cam, .int fst, .int lst, .int inr])), (mqs, .inl (G.2.2.1, 65, .inl res.2.2.1)), (mqp, .inl (G.2.2.1, 260, .inl res.2.2.2)), (mqn, .inl (G.2.2.1, 65, .inl fn)), (mqx, .inl (G.2.1, 80, .inl fx)), (mqm, .inl (G.2.2.1, 24, .inl fm))] := by
  refine ofWr (by decide) (Nat.le_of_ble_eq_true rfl) ?_
  intro p e s m below meth c ls A S hr hlk hK hP hD hS hA hl
  have S : CallFix p m c cX5_exchange 4 s ([.ref mqa, .int p1, .int p2] : List Value).toArray T0 RX5 := S
  obtain ⟨hx, hb, hml, hown, hts⟩ := id S
  have hl : lv_has ls 4 [(0, .ref mqa), (1, .int p1), (2, .int p2)] := hl
  rw [F_X5_exchange] at h
  refine lv_iload_n hx hb dX5_exchange_0 rfl (lv_at hl 1 rfl) ?_
  obtain ⟨r1, hr1, h⟩ := bd_t h
  refine rdS (As := [.int p1]) (rest := []) S hK (c_X5_isPlace l G p1 r1 hr1) mX5_isPlace q683 ⟨rfl, rfl, Nat.le_of_ble_eq_true rfl, Nat.le_of_ble_eq_true rfl⟩ (ws_nil G.1 _) rfl hl.1 (Nat.le_of_ble_eq_true rfl) ⟨Nat.le_refl 0, Nat.le_refl 0⟩ dX5_exchange_1 ?_
  refine lv_if_eq (tgt := 14) hx hb dX5_exchange_4 (by decide) (fun c2 => ?_) (fun c2 => ?_)
  · replace h := if_t c2 h
    refine lv_iconst (v := (-1)) hx hb dX5_exchange_14 (by decide) ?_
    obtain rfl := Option.some.inj h
    exact retW S hr hlk rfl rfl hP hD hS dX5_exchange_15
  · replace h := if_f c2 h
    refine lv_iload_n hx hb dX5_exchange_7 rfl (lv_at hl 2 rfl) ?_
    obtain ⟨r3, hr3, h⟩ := bd_t h
    refine rdS (As := [.int p2]) (rest := []) S hK (c_X5_isPlace l G p2 r3 hr3) mX5_isPlace q683 ⟨rfl, rfl, Nat.le_of_ble_eq_true rfl, Nat.le_of_ble_eq_true rfl⟩ (ws_nil G.1 _) rfl hl.1 (Nat.le_of_ble_eq_true rfl) ⟨Nat.le_refl 0, Nat.le_refl 0⟩ dX5_exchange_8 ?_
    refine lv_if_ne (tgt := 16) hx hb dX5_exchange_11 (by decide) (fun c4 => ?_) (fun c4 => ?_)
    · replace h := if_f c4 h
      refine lv_iload_n hx hb dX5_exchange_16 rfl (lv_at hl 1 rfl) ?_
      refine lv_iload_n hx hb dX5_exchange_17 rfl (lv_at hl 2 rfl) ?_
      refine lv_icmp_ne (tgt := 24) hx hb dX5_exchange_18 (by decide) (fun c5 => ?_) (fun c5 => ?_)
      · replace h := if_f c5 h
        refine lv_aload_n hx hb dX5_exchange_24 rfl (lv_at hl 0 rfl) ?_
        obtain ⟨r6, hr6, h⟩ := bd_t h
        refine wrV (As := []) (rest := []) (ws := [(mqa, .inr (5, [.ref mqs, .ref mqp, .int pas, .ref mqn, .int misk, .ref mqx, .int len, .ref mqm, .int spo, .int kin, .int cam, .int fst, .int lst, .int inr])), (mqs, .inl (G.2.2.1, 65, .inl fs)), (mqp, .inl (G.2.2.1, 260, .inl fp)), (mqn, .inl (G.2.2.1, 65, .inl fn)), (mqx, .inl (G.2.1, 80, .inl fx)), (mqm, .inl (G.2.2.1, 24, .inl fm))]) (wr := []) (ws' := [(mqa, .inr (5, [.ref mqs, .ref mqp, .int r6.1, .ref mqn, .int misk, .ref mqx, .int len, .ref mqm, .int spo, .int kin, .int cam, .int fst, .int lst, .int inr])), (mqs, .inl (G.2.2.1, 65, .inl fs)), (mqp, .inl (G.2.2.1, 260, .inl r6.2)), (mqn, .inl (G.2.2.1, 65, .inl fn)), (mqx, .inl (G.2.1, 80, .inl fx)), (mqm, .inl (G.2.2.1, 24, .inl fm))]) (ws1 := [(mqa, .inr (5, [.ref mqs, .ref mqp, .int r6.1, .ref mqn, .int misk, .ref mqx, .int len, .ref mqm, .int spo, .int kin, .int cam, .int fst, .int lst, .int inr])), (mqs, .inl (G.2.2.1, 65, .inl fs)), (mqp, .inl (G.2.2.1, 260, .inl r6.2)), (mqn, .inl (G.2.2.1, 65, .inl fn)), (mqx, .inl (G.2.1, 80, .inl fx)), (mqm, .inl (G.2.2.1, 24, .inl fm))]) S hK (c_X5_records l G mqa mqs mqp mqn mqx mqm pas misk len spo kin cam fst lst inr fs fp fn fx fm _ r6 hr6) mX5_records q689 ⟨rfl, rfl, Nat.le_of_ble_eq_true rfl, Nat.le_of_ble_eq_true rfl⟩ hP hD hS hA [0, 1, 2, 3, 4, 5] [] [0, 1, 2, 3, 4, 5] rfl rfl (by decide) (by decide) (by decide) rfl (by decide) rfl rfl rfl rfl hl.1 (Nat.le_of_ble_eq_true rfl) ⟨Nat.le_refl 0, Nat.le_refl 0⟩ dX5_exchange_25 (fun H locs hP hD hS => ?_)
        refine lv_aload_n hx hb dX5_exchange_28 rfl (lv_at hl 0 rfl) ?_
        refine gf S hK iX5 hP 0 rfl rfl 0 (by decide) q636 rfl dX5_exchange_29 ?_
        refine lv_iconst (v := 0) hx hb dX5_exchange_32 (by decide) ?_
        refine lv_iload_n hx hb dX5_exchange_33 rfl (lv_at hl 1 rfl) ?_
        refine lv_iadd hx hb dX5_exchange_34 ?_
        obtain ⟨k7, h⟩ := ck_t h
        refine ald S hK hP 1 rfl (ok_vp k7) dX5_exchange_35 ?_
        refine lv_istore_n (lv' := [(3, .int (fs (Int32.toNatClampNeg ((0 : Int32) + p1)))), (0, .ref mqa), (1, .int p1), (2, .int p2)]) hx hb dX5_exchange_36 rfl hl (by decide) rfl (fun ls hl => ?_)
        refine lv_aload_n hx hb dX5_exchange_37 rfl (lv_at hl 1 rfl) ?_
        refine gf S hK iX5 hP 0 rfl rfl 0 (by decide) q636 rfl dX5_exchange_38 ?_
        refine lv_iconst (v := 0) hx hb dX5_exchange_41 (by decide) ?_
        refine lv_iload_n hx hb dX5_exchange_42 rfl (lv_at hl 2 rfl) ?_
        refine lv_iadd hx hb dX5_exchange_43 ?_
        refine lv_aload_n hx hb dX5_exchange_44 rfl (lv_at hl 1 rfl) ?_
        refine gf S hK iX5 hP 0 rfl rfl 0 (by decide) q636 rfl dX5_exchange_45 ?_
        refine lv_iconst (v := 0) hx hb dX5_exchange_48 (by decide) ?_
        refine lv_iload_n hx hb dX5_exchange_49 rfl (lv_at hl 3 rfl) ?_
        refine lv_iadd hx hb dX5_exchange_50 ?_
        obtain ⟨k8, h⟩ := ck_t h
        refine ald S hK hP 1 rfl (ok_vp k8) dX5_exchange_51 ?_
        obtain ⟨k9, h⟩ := ck_t h
        refine ast S hK hP hD hS 1 rfl (ok_vp k9) [(mqa, .inr (5, [.ref mqs, .ref mqp, .int r6.1, .ref mqn, .int misk, .ref mqx, .int len, .ref mqm, .int spo, .int kin, .int cam, .int fst, .int lst, .int inr])), (mqs, .inl (G.2.2.1, 65, .inl (upd fs (Int32.toNatClampNeg ((0 : Int32) + p1)) (fs (Int32.toNatClampNeg ((0 : Int32) + p2)))))), (mqp, .inl (G.2.2.1, 260, .inl r6.2)), (mqn, .inl (G.2.2.1, 65, .inl fn)), (mqx, .inl (G.2.1, 80, .inl fx)), (mqm, .inl (G.2.2.1, 24, .inl fm))] rfl dX5_exchange_52 (fun H locs hP hD hS => ?_)
        refine lv_aload_n hx hb dX5_exchange_53 rfl (lv_at hl 1 rfl) ?_
        refine gf S hK iX5 hP 0 rfl rfl 0 (by decide) q636 rfl dX5_exchange_54 ?_
        refine lv_iconst (v := 0) hx hb dX5_exchange_57 (by decide) ?_
        refine lv_iload_n hx hb dX5_exchange_58 rfl (lv_at hl 3 rfl) ?_
        refine lv_iadd hx hb dX5_exchange_59 ?_
        refine lv_iload_n hx hb dX5_exchange_60 rfl (lv_at hl 0 rfl) ?_
        obtain ⟨k10, h⟩ := ck_t h
        refine ast S hK hP hD hS 1 rfl (ok_vp k10) [(mqa, .inr (5, [.ref mqs, .ref mqp, .int r6.1, .ref mqn, .int misk, .ref mqx, .int len, .ref mqm, .int spo, .int kin, .int cam, .int fst, .int lst, .int inr])), (mqs, .inl (G.2.2.1, 65, .inl (upd (upd fs (Int32.toNatClampNeg ((0 : Int32) + p1)) (fs (Int32.toNatClampNeg ((0 : Int32) + p2)))) (Int32.toNatClampNeg ((0 : Int32) + p2)) (fs (Int32.toNatClampNeg ((0 : Int32) + p1)))))), (mqp, .inl (G.2.2.1, 260, .inl r6.2)), (mqn, .inl (G.2.2.1, 65, .inl fn)), (mqx, .inl (G.2.1, 80, .inl fx)), (mqm, .inl (G.2.2.1, 24, .inl fm))] rfl dX5_exchange_61 (fun H locs hP hD hS => ?_)
        refine lv_aload_n hx hb dX5_exchange_62 rfl (lv_at hl 1 rfl) ?_
        obtain ⟨r11, hr11, h⟩ := bd_t h
        refine rdV (As := []) (rest := []) S hK (c_X5_order l G mqa mqs mqp mqn mqx mqm r6.1 misk len spo kin cam fst lst inr (upd (upd fs (Int32.toNatClampNeg ((0 : Int32) + p1)) (fs (Int32.toNatClampNeg ((0 : Int32) + p2)))) (Int32.toNatClampNeg ((0 : Int32) + p2)) (fs (Int32.toNatClampNeg ((0 : Int32) + p1)))) r6.2 fn fx fm r11 hr11) mX5_order q693 ⟨rfl, rfl, Nat.le_of_ble_eq_true rfl, Nat.le_of_ble_eq_true rfl⟩ hP rfl rfl rfl rfl hl.1 (Nat.le_of_ble_eq_true rfl) ⟨Nat.le_refl 0, Nat.le_refl 0⟩ dX5_exchange_63 ?_
        obtain rfl := Option.some.inj h
        exact retW S hr hlk rfl rfl hP hD hS dX5_exchange_66
      · replace h := if_t c5 h
        refine lv_bipush (v := (-5)) hx hb dX5_exchange_21 (by decide) ?_
        obtain rfl := Option.some.inj h
        exact retW S hr hlk rfl rfl hP hD hS dX5_exchange_23
    · replace h := if_t c4 h
      refine lv_iconst (v := (-1)) hx hb dX5_exchange_14 (by decide) ?_
      obtain rfl := Option.some.inj h
      exact retW S hr hlk rfl rfl hP hD hS dX5_exchange_15
set_option maxHeartbeats 4000000 in
set_option maxRecDepth 100000 in
theorem c_X5_reverse (l : Launch) (G : gG) (mqa mqs mqp mqn mqx mqm : Nat) (pas : Int32) (misk : Int32) (len : Int32) (spo : Int32) (kin : Int32) (cam : Int32) (fst : Int32) (lst : Int32) (inr : Int32) (fs : Nat → Int32) (fp : Nat → Int32) (fn : Nat → Int32) (fx : Nat → Int32) (fm : Nat → Int32) (sz : Nat) (res : Int32 × Int32 × (Nat → Int32) × (Nat → Int32) × (Nat → Int32)) (h : F_X5_reverse pas fs fp fm = some res) : WrM l G yX5_reverse cX5_reverse 3 (some .int) (rmk 2 47) [(mqa, .inr (5, [.ref mqs, .ref mqp, .int pas, .ref mqn, .int misk, .ref mqx, .int len, .ref mqm, .int spo, .int kin, .int cam, .int fst, .int lst, .int inr])), (mqs, .inl (G.2.2.1, 65, .inl fs)), (mqp, .inl (G.2.2.1, 260, .inl fp)), (mqn, .inl (G.2.2.1, 65, .inl fn)), (mqx, .inl (G.2.1, 80, .inl fx)), (mqm, .inl (G.2.2.1, 24, .inl fm))] sz [.ref mqa] (some res.1) [(mqa, .inr (5, [.ref mqs, .ref mqp, .int res.2.1, .ref mqn, .int misk, .ref mqx, .int len, .ref mqm, .int spo, .int kin, .int cam, .int fst, .int lst, .int inr])), (mqs, .inl (G.2.2.1, 65, .inl res.2.2.1)), (mqp, .inl (G.2.2.1, 260, .inl res.2.2.2.1)), (mqn, .inl (G.2.2.1, 65, .inl fn)), (mqx, .inl (G.2.1, 80, .inl fx)), (mqm, .inl (G.2.2.1, 24, .inl res.2.2.2.2))] := by
  refine ofWr (by decide) (Nat.le_of_ble_eq_true rfl) ?_
  intro p e s m below meth c ls A S hr hlk hK hP hD hS hA hl
  have S : CallFix p m c cX5_reverse 3 s ([.ref mqa] : List Value).toArray T0 RX5 := S
  obtain ⟨hx, hb, hml, hown, hts⟩ := id S
  have hl : lv_has ls 3 [(0, .ref mqa)] := hl
  have L4 : ∀ (n : Nat) (x1 x2 : Int32) (pas : Int32) (fs : Nat → Int32) (fp : Nat → Int32) (fm : Nat → Int32), F_X5_reverse_4 n x1 x2 pas fs fp fm = some res → ∀ (H : Heap) (locs : List Loc), va_P G.1 vwCl [(mqa, .inr (5, [.ref mqs, .ref mqp, .int pas, .ref mqn, .int misk, .ref mqx, .int len, .ref mqm, .int spo, .int kin, .int cam, .int fst, .int lst, .int inr])), (mqs, .inl (G.2.2.1, 65, .inl fs)), (mqp, .inl (G.2.2.1, 260, .inl fp)), (mqn, .inl (G.2.2.1, 65, .inl fn)), (mqx, .inl (G.2.1, 80, .inl fx)), (mqm, .inl (G.2.2.1, 24, .inl fm))] H → va_D A [(mqa, .inr (5, [.ref mqs, .ref mqp, .int pas, .ref mqn, .int misk, .ref mqx, .int len, .ref mqm, .int spo, .int kin, .int cam, .int fst, .int lst, .int inr])), (mqs, .inl (G.2.2.1, 65, .inl fs)), (mqp, .inl (G.2.2.1, 260, .inl fp)), (mqn, .inl (G.2.2.1, 65, .inl fn)), (mqx, .inl (G.2.1, 80, .inl fx)), (mqm, .inl (G.2.2.1, 24, .inl fm))] → va_S A s.heap H locs → ∀ (ls : Array Slot), lv_has ls 3 [(0, .ref mqa), (1, .int x1), (2, .int x2)] → W p l e (rmk 2 47) s m ([.ref mqa] : List Value).toArray below meth c H locs 0 0 (MQ below (gQw G (some res.1) [(mqa, .inr (5, [.ref mqs, .ref mqp, .int res.2.1, .ref mqn, .int misk, .ref mqx, .int len, .ref mqm, .int spo, .int kin, .int cam, .int fst, .int lst, .int inr])), (mqs, .inl (G.2.2.1, 65, .inl res.2.2.1)), (mqp, .inl (G.2.2.1, 260, .inl res.2.2.2.1)), (mqn, .inl (G.2.2.1, 65, .inl fn)), (mqx, .inl (G.2.1, 80, .inl fx)), (mqm, .inl (G.2.2.1, 24, .inl res.2.2.2.2))] A) ([.ref mqa] : List Value).toArray s 0 0 A) (F0 m 4 ls []) := by
    intro n
    induction n with
    | zero => intro x1 x2 pas fs fp fm h; exact absurd (show (none : Option (Int32 × Int32 × (Nat → Int32) × (Nat → Int32) × (Nat → Int32))) = some res from h) (fun q => by cases q)
    | succ n ih =>
      intro x1 x2 pas fs fp fm h H locs hP hD hS ls hl
      rw [F_X5_reverse_4] at h
      refine lv_iload_n hx hb dX5_reverse_4 rfl (lv_at hl 2 rfl) ?_
      refine lv_bipush (v := 24) hx hb dX5_reverse_5 (by decide) ?_
      refine lv_icmp_ge (tgt := 54) hx hb dX5_reverse_7 (by decide) (fun c1 => ?_) (fun c1 => ?_)
      · replace h := if_t c1 h
        refine lv_iload_n hx hb dX5_reverse_54 rfl (lv_at hl 1 rfl) ?_
        refine lv_if_eq (tgt := 61) hx hb dX5_reverse_55 (by decide) (fun c2 => ?_) (fun c2 => ?_)
        · replace h := if_t c2 h
          refine lv_aload_n hx hb dX5_reverse_61 rfl (lv_at hl 0 rfl) ?_
          obtain ⟨r3, hr3, h⟩ := bd_t h
          refine wrV (As := []) (rest := []) (ws := [(mqa, .inr (5, [.ref mqs, .ref mqp, .int pas, .ref mqn, .int misk, .ref mqx, .int len, .ref mqm, .int spo, .int kin, .int cam, .int fst, .int lst, .int inr])), (mqs, .inl (G.2.2.1, 65, .inl fs)), (mqp, .inl (G.2.2.1, 260, .inl fp)), (mqn, .inl (G.2.2.1, 65, .inl fn)), (mqx, .inl (G.2.1, 80, .inl fx)), (mqm, .inl (G.2.2.1, 24, .inl fm))]) (wr := []) (ws' := [(mqa, .inr (5, [.ref mqs, .ref mqp, .int r3.1, .ref mqn, .int misk, .ref mqx, .int len, .ref mqm, .int spo, .int kin, .int cam, .int fst, .int lst, .int inr])), (mqs, .inl (G.2.2.1, 65, .inl r3.2.1)), (mqp, .inl (G.2.2.1, 260, .inl r3.2.2)), (mqn, .inl (G.2.2.1, 65, .inl fn)), (mqx, .inl (G.2.1, 80, .inl fx)), (mqm, .inl (G.2.2.1, 24, .inl fm))]) (ws1 := [(mqa, .inr (5, [.ref mqs, .ref mqp, .int r3.1, .ref mqn, .int misk, .ref mqx, .int len, .ref mqm, .int spo, .int kin, .int cam, .int fst, .int lst, .int inr])), (mqs, .inl (G.2.2.1, 65, .inl r3.2.1)), (mqp, .inl (G.2.2.1, 260, .inl r3.2.2)), (mqn, .inl (G.2.2.1, 65, .inl fn)), (mqx, .inl (G.2.1, 80, .inl fx)), (mqm, .inl (G.2.2.1, 24, .inl fm))]) S hK (c_X5_takes l G mqa mqs mqp mqn mqx mqm pas misk len spo kin cam fst lst inr fs fp fn fx fm _ r3 hr3) mX5_takes q709 ⟨rfl, rfl, Nat.le_of_ble_eq_true rfl, Nat.le_of_ble_eq_true rfl⟩ hP hD hS hA [0, 1, 2, 3, 4, 5] [] [0, 1, 2, 3, 4, 5] rfl rfl (by decide) (by decide) (by decide) rfl (by decide) rfl rfl rfl rfl hl.1 (Nat.le_of_ble_eq_true rfl) ⟨Nat.le_refl 0, Nat.le_refl 0⟩ dX5_reverse_62 (fun H locs hP hD hS => ?_)
          refine lv_aload_n hx hb dX5_reverse_65 rfl (lv_at hl 0 rfl) ?_
          obtain ⟨r4, hr4, h⟩ := bd_t h
          refine rdV (As := []) (rest := []) S hK (c_X5_order l G mqa mqs mqp mqn mqx mqm r3.1 misk len spo kin cam fst lst inr r3.2.1 r3.2.2 fn fx fm r4 hr4) mX5_order q693 ⟨rfl, rfl, Nat.le_of_ble_eq_true rfl, Nat.le_of_ble_eq_true rfl⟩ hP rfl rfl rfl rfl hl.1 (Nat.le_of_ble_eq_true rfl) ⟨Nat.le_refl 0, Nat.le_refl 0⟩ dX5_reverse_66 ?_
          obtain rfl := Option.some.inj h
          exact retW S hr hlk rfl rfl hP hD hS dX5_reverse_69
        · replace h := if_f c2 h
          refine lv_bipush (v := (-5)) hx hb dX5_reverse_58 (by decide) ?_
          obtain rfl := Option.some.inj h
          exact retW S hr hlk rfl rfl hP hD hS dX5_reverse_60
      · replace h := if_f c1 h
        refine lv_aload_n hx hb dX5_reverse_10 rfl (lv_at hl 0 rfl) ?_
        refine gf S hK iX5 hP 0 rfl rfl 7 (by decide) q643 rfl dX5_reverse_11 ?_
        refine lv_iload_n hx hb dX5_reverse_14 rfl (lv_at hl 2 rfl) ?_
        refine lv_aload_n hx hb dX5_reverse_15 rfl (lv_at hl 0 rfl) ?_
        refine lv_iload_n hx hb dX5_reverse_16 rfl (lv_at hl 2 rfl) ?_
        obtain ⟨r5, hr5, h⟩ := bd_t h
        refine rdV (As := [.int x2]) (rest := [.int x2, .ref mqm]) S hK (c_X5_sourceOf l G mqa mqs mqp mqn mqx mqm pas misk len spo kin cam fst lst inr fs fp fn fx fm x2 r5 hr5) mX5_sourceOf q705 ⟨rfl, rfl, Nat.le_of_ble_eq_true rfl, Nat.le_of_ble_eq_true rfl⟩ hP rfl rfl rfl rfl hl.1 (Nat.le_of_ble_eq_true rfl) ⟨Nat.le_refl 0, Nat.le_refl 0⟩ dX5_reverse_17 ?_
        obtain ⟨k6, h⟩ := ck_t h
        refine ast S hK hP hD hS 5 rfl (ok_vp k6) [(mqa, .inr (5, [.ref mqs, .ref mqp, .int pas, .ref mqn, .int misk, .ref mqx, .int len, .ref mqm, .int spo, .int kin, .int cam, .int fst, .int lst, .int inr])), (mqs, .inl (G.2.2.1, 65, .inl fs)), (mqp, .inl (G.2.2.1, 260, .inl fp)), (mqn, .inl (G.2.2.1, 65, .inl fn)), (mqx, .inl (G.2.1, 80, .inl fx)), (mqm, .inl (G.2.2.1, 24, .inl (upd fm (Int32.toNatClampNeg x2) r5)))] rfl dX5_reverse_20 (fun H locs hP hD hS => ?_)
        refine lv_iload_n hx hb dX5_reverse_21 rfl (lv_at hl 1 rfl) ?_
        refine lv_if_eq (tgt := 46) hx hb dX5_reverse_22 (by decide) (fun c7 => ?_) (fun c7 => ?_)
        · replace h := if_t c7 h
          refine lv_iconst (v := 0) hx hb dX5_reverse_46 (by decide) ?_
          refine lv_istore_n (lv' := [(1, .int 0), (0, .ref mqa), (2, .int x2)]) hx hb dX5_reverse_47 rfl hl (by decide) rfl (fun ls hl => ?_)
          refine lv_iinc (v := x2 + 1) (lv' := [(2, .int (x2 + 1)), (1, .int 0), (0, .ref mqa)]) hx hb dX5_reverse_48 hl (k := 2) rfl rfl (by decide) rfl (fun ls hl => ?_)
          refine lv_goto (tgt := 4) hx hb dX5_reverse_51 (by decide) ?_
          exact ih 0 (x2 + 1) pas fs fp (upd fm (Int32.toNatClampNeg x2) r5) h _ _ hP hD hS ls (lv_sub hl [2, 1, 0] rfl)
        · replace h := if_f c7 h
          refine lv_aload_n hx hb dX5_reverse_25 rfl (lv_at hl 0 rfl) ?_
          refine gf S hK iX5 hP 0 rfl rfl 7 (by decide) q643 rfl dX5_reverse_26 ?_
          refine lv_iload_n hx hb dX5_reverse_29 rfl (lv_at hl 2 rfl) ?_
          obtain ⟨k8, h⟩ := ck_t h
          refine ald S hK hP 5 rfl (ok_vp k8) dX5_reverse_30 ?_
          refine lv_aload_n hx hb dX5_reverse_31 rfl (lv_at hl 0 rfl) ?_
          refine gf S hK iX5 hP 0 rfl rfl 0 (by decide) q636 rfl dX5_reverse_32 ?_
          refine lv_iconst (v := 0) hx hb dX5_reverse_35 (by decide) ?_
          refine lv_iload_n hx hb dX5_reverse_36 rfl (lv_at hl 2 rfl) ?_
          refine lv_iadd hx hb dX5_reverse_37 ?_
          obtain ⟨k9, h⟩ := ck_t h
          refine ald S hK hP 1 rfl (ok_vp k9) dX5_reverse_38 ?_
          refine lv_icmp_ne (tgt := 46) hx hb dX5_reverse_39 (by decide) (fun c10 => ?_) (fun c10 => ?_)
          · replace h := if_f c10 h
            refine lv_iconst (v := 0) hx hb dX5_reverse_46 (by decide) ?_
            refine lv_istore_n (lv' := [(1, .int 0), (0, .ref mqa), (2, .int x2)]) hx hb dX5_reverse_47 rfl hl (by decide) rfl (fun ls hl => ?_)
            refine lv_iinc (v := x2 + 1) (lv' := [(2, .int (x2 + 1)), (1, .int 0), (0, .ref mqa)]) hx hb dX5_reverse_48 hl (k := 2) rfl rfl (by decide) rfl (fun ls hl => ?_)
            refine lv_goto (tgt := 4) hx hb dX5_reverse_51 (by decide) ?_
            exact ih 0 (x2 + 1) pas fs fp (upd fm (Int32.toNatClampNeg x2) r5) h _ _ hP hD hS ls (lv_sub hl [2, 1, 0] rfl)
          · replace h := if_t c10 h
            refine lv_iconst (v := 1) hx hb dX5_reverse_42 (by decide) ?_
            refine lv_goto (tgt := 47) hx hb dX5_reverse_43 (by decide) ?_
            refine lv_istore_n (lv' := [(1, .int 1), (0, .ref mqa), (2, .int x2)]) hx hb dX5_reverse_47 rfl hl (by decide) rfl (fun ls hl => ?_)
            refine lv_iinc (v := x2 + 1) (lv' := [(2, .int (x2 + 1)), (1, .int 1), (0, .ref mqa)]) hx hb dX5_reverse_48 hl (k := 2) rfl rfl (by decide) rfl (fun ls hl => ?_)
            refine lv_goto (tgt := 4) hx hb dX5_reverse_51 (by decide) ?_
            exact ih 1 (x2 + 1) pas fs fp (upd fm (Int32.toNatClampNeg x2) r5) h _ _ hP hD hS ls (lv_sub hl [2, 1, 0] rfl)
  rw [F_X5_reverse] at h
  refine lv_iconst (v := 1) hx hb dX5_reverse_0 (by decide) ?_
  refine lv_istore_n (lv' := [(1, .int 1), (0, .ref mqa)]) hx hb dX5_reverse_1 rfl hl (by decide) rfl (fun ls hl => ?_)
  refine lv_iconst (v := 0) hx hb dX5_reverse_2 (by decide) ?_
  refine lv_istore_n (lv' := [(2, .int 0), (1, .int 1), (0, .ref mqa)]) hx hb dX5_reverse_3 rfl hl (by decide) rfl (fun ls hl => ?_)
  exact L4 10000 1 0 pas fs fp fm h _ _ hP hD hS ls (lv_sub hl [2, 1, 0] rfl)
set_option maxHeartbeats 4000000 in
set_option maxRecDepth 100000 in
theorem c_X5_type (l : Launch) (G : gG) (mqa mqs mqp mqn mqx mqm : Nat) (pas : Int32) (misk : Int32) (len : Int32) (spo : Int32) (kin : Int32) (cam : Int32) (fst : Int32) (lst : Int32) (inr : Int32) (fs : Nat → Int32) (fp : Nat → Int32) (fn : Nat → Int32) (fx : Nat → Int32) (fm : Nat → Int32) (p1 : Int32) (sz : Nat) (res : Int32 × Int32 × (Nat → Int32)) (h : F_X5_type len fx p1 = some res) : WrM l G yX5_type cX5_type 2 (some .int) (rmk 0 0) [(mqa, .inr (5, [.ref mqs, .ref mqp, .int pas, .ref mqn, .int misk, .ref mqx, .int len, .ref mqm, .int spo, .int kin, .int cam, .int fst, .int lst, .int inr])), (mqs, .inl (G.2.2.1, 65, .inl fs)), (mqp, .inl (G.2.2.1, 260, .inl fp)), (mqn, .inl (G.2.2.1, 65, .inl fn)), (mqx, .inl (G.2.1, 80, .inl fx)), (mqm, .inl (G.2.2.1, 24, .inl fm))] sz [.ref mqa, .int p1] (some res.1) [(mqa, .inr (5, [.ref mqs, .ref mqp, .int pas, .ref mqn, .int misk, .ref mqx, .int res.2.1, .ref mqm, .int spo, .int kin, .int cam, .int fst, .int lst, .int inr])), (mqs, .inl (G.2.2.1, 65, .inl fs)), (mqp, .inl (G.2.2.1, 260, .inl fp)), (mqn, .inl (G.2.2.1, 65, .inl fn)), (mqx, .inl (G.2.1, 80, .inl res.2.2)), (mqm, .inl (G.2.2.1, 24, .inl fm))] := by
  refine ofWr (by decide) (Nat.le_of_ble_eq_true rfl) ?_
  intro p e s m below meth c ls A S hr hlk hK hP hD hS hA hl
  have S : CallFix p m c cX5_type 2 s ([.ref mqa, .int p1] : List Value).toArray T0 RX5 := S
  obtain ⟨hx, hb, hml, hown, hts⟩ := id S
  have hl : lv_has ls 2 [(0, .ref mqa), (1, .int p1)] := hl
  rw [F_X5_type] at h
  refine lv_aload_n hx hb dX5_type_0 rfl (lv_at hl 0 rfl) ?_
  refine gf S hK iX5 hP 0 rfl rfl 6 (by decide) q642 rfl dX5_type_1 ?_
  refine lv_bipush (v := 80) hx hb dX5_type_4 (by decide) ?_
  refine lv_icmp_ne (tgt := 12) hx hb dX5_type_6 (by decide) (fun c1 => ?_) (fun c1 => ?_)
  · replace h := if_f c1 h
    refine lv_aload_n hx hb dX5_type_12 rfl (lv_at hl 0 rfl) ?_
    refine gf S hK iX5 hP 0 rfl rfl 5 (by decide) q641 rfl dX5_type_13 ?_
    refine lv_aload_n hx hb dX5_type_16 rfl (lv_at hl 0 rfl) ?_
    refine gf S hK iX5 hP 0 rfl rfl 6 (by decide) q642 rfl dX5_type_17 ?_
    refine lv_iload_n hx hb dX5_type_20 rfl (lv_at hl 1 rfl) ?_
    obtain ⟨k2, h⟩ := ck_t h
    refine cast_ S hK hP hD hS 4 rfl (ok_vp k2) [(mqa, .inr (5, [.ref mqs, .ref mqp, .int pas, .ref mqn, .int misk, .ref mqx, .int len, .ref mqm, .int spo, .int kin, .int cam, .int fst, .int lst, .int inr])), (mqs, .inl (G.2.2.1, 65, .inl fs)), (mqp, .inl (G.2.2.1, 260, .inl fp)), (mqn, .inl (G.2.2.1, 65, .inl fn)), (mqx, .inl (G.2.1, 80, .inl (upd fx (Int32.toNatClampNeg len) (vp_nar .char p1)))), (mqm, .inl (G.2.2.1, 24, .inl fm))] rfl dX5_type_21 (fun H locs hP hD hS => ?_)
    refine lv_aload_n hx hb dX5_type_22 rfl (lv_at hl 0 rfl) ?_
    refine lv_dup hx hb dX5_type_23 rfl ?_
    refine gf S hK iX5 hP 0 rfl rfl 6 (by decide) q642 rfl dX5_type_24 ?_
    refine lv_iconst (v := 1) hx hb dX5_type_27 (by decide) ?_
    refine lv_iadd hx hb dX5_type_28 ?_
    refine pf S hK iX5 tyX5 tyX5_ok nmX5 hP hD hS 0 rfl rfl 6 (by decide) q642 rfl rfl rfl (Nat.le_of_ble_eq_true rfl) [(mqa, .inr (5, [.ref mqs, .ref mqp, .int pas, .ref mqn, .int misk, .ref mqx, .int (len + 1), .ref mqm, .int spo, .int kin, .int cam, .int fst, .int lst, .int inr])), (mqs, .inl (G.2.2.1, 65, .inl fs)), (mqp, .inl (G.2.2.1, 260, .inl fp)), (mqn, .inl (G.2.2.1, 65, .inl fn)), (mqx, .inl (G.2.1, 80, .inl (upd fx (Int32.toNatClampNeg len) (vp_nar .char p1)))), (mqm, .inl (G.2.2.1, 24, .inl fm))] rfl dX5_type_29 (fun H locs hP hD hS => ?_)
    refine lv_aload_n hx hb dX5_type_32 rfl (lv_at hl 0 rfl) ?_
    refine gf S hK iX5 hP 0 rfl rfl 6 (by decide) q642 rfl dX5_type_33 ?_
    obtain rfl := Option.some.inj h
    exact retW S hr hlk rfl rfl hP hD hS dX5_type_36
  · replace h := if_t c1 h
    refine lv_bipush (v := (-3)) hx hb dX5_type_9 (by decide) ?_
    obtain rfl := Option.some.inj h
    exact retW S hr hlk rfl rfl hP hD hS dX5_type_11
set_option maxHeartbeats 4000000 in
set_option maxRecDepth 100000 in
theorem c_X5_clearText (l : Launch) (G : gG) (mqa mqs mqp mqn mqx mqm : Nat) (pas : Int32) (misk : Int32) (len : Int32) (spo : Int32) (kin : Int32) (cam : Int32) (fst : Int32) (lst : Int32) (inr : Int32) (fs : Nat → Int32) (fp : Nat → Int32) (fn : Nat → Int32) (fx : Nat → Int32) (fm : Nat → Int32) (sz : Nat) (res : Int32 × Int32) (h : F_X5_clearText len = some res) : WrM l G yX5_clearText cX5_clearText 2 (some .int) (rmk 0 0) [(mqa, .inr (5, [.ref mqs, .ref mqp, .int pas, .ref mqn, .int misk, .ref mqx, .int len, .ref mqm, .int spo, .int kin, .int cam, .int fst, .int lst, .int inr])), (mqs, .inl (G.2.2.1, 65, .inl fs)), (mqp, .inl (G.2.2.1, 260, .inl fp)), (mqn, .inl (G.2.2.1, 65, .inl fn)), (mqx, .inl (G.2.1, 80, .inl fx)), (mqm, .inl (G.2.2.1, 24, .inl fm))] sz [.ref mqa] (some res.1) [(mqa, .inr (5, [.ref mqs, .ref mqp, .int pas, .ref mqn, .int misk, .ref mqx, .int res.2, .ref mqm, .int spo, .int kin, .int cam, .int fst, .int lst, .int inr])), (mqs, .inl (G.2.2.1, 65, .inl fs)), (mqp, .inl (G.2.2.1, 260, .inl fp)), (mqn, .inl (G.2.2.1, 65, .inl fn)), (mqx, .inl (G.2.1, 80, .inl fx)), (mqm, .inl (G.2.2.1, 24, .inl fm))] := by
  refine ofWr (by decide) (Nat.le_of_ble_eq_true rfl) ?_
  intro p e s m below meth c ls A S hr hlk hK hP hD hS hA hl
  have S : CallFix p m c cX5_clearText 2 s ([.ref mqa] : List Value).toArray T0 RX5 := S
  obtain ⟨hx, hb, hml, hown, hts⟩ := id S
  have hl : lv_has ls 2 [(0, .ref mqa)] := hl
  rw [F_X5_clearText] at h
  refine lv_aload_n hx hb dX5_clearText_0 rfl (lv_at hl 0 rfl) ?_
  refine gf S hK iX5 hP 0 rfl rfl 6 (by decide) q642 rfl dX5_clearText_1 ?_
  refine lv_istore_n (lv' := [(1, .int len), (0, .ref mqa)]) hx hb dX5_clearText_4 rfl hl (by decide) rfl (fun ls hl => ?_)
  refine lv_aload_n hx hb dX5_clearText_5 rfl (lv_at hl 1 rfl) ?_
  refine lv_iconst (v := 0) hx hb dX5_clearText_6 (by decide) ?_
  refine pf S hK iX5 tyX5 tyX5_ok nmX5 hP hD hS 0 rfl rfl 6 (by decide) q642 rfl rfl rfl (Nat.le_of_ble_eq_true rfl) [(mqa, .inr (5, [.ref mqs, .ref mqp, .int pas, .ref mqn, .int misk, .ref mqx, .int 0, .ref mqm, .int spo, .int kin, .int cam, .int fst, .int lst, .int inr])), (mqs, .inl (G.2.2.1, 65, .inl fs)), (mqp, .inl (G.2.2.1, 260, .inl fp)), (mqn, .inl (G.2.2.1, 65, .inl fn)), (mqx, .inl (G.2.1, 80, .inl fx)), (mqm, .inl (G.2.2.1, 24, .inl fm))] rfl dX5_clearText_7 (fun H locs hP hD hS => ?_)
  refine lv_iload_n hx hb dX5_clearText_10 rfl (lv_at hl 0 rfl) ?_
  obtain rfl := Option.some.inj h
  exact retW S hr hlk rfl rfl hP hD hS dX5_clearText_11
set_option maxHeartbeats 4000000 in
set_option maxRecDepth 100000 in
theorem c_X5_readMove (l : Launch) (G : gG) (mqa mqs mqp mqn mqx mqm : Nat) (pas : Int32) (misk : Int32) (len : Int32) (spo : Int32) (kin : Int32) (cam : Int32) (fst : Int32) (lst : Int32) (inr : Int32) (fs : Nat → Int32) (fp : Nat → Int32) (fn : Nat → Int32) (fx : Nat → Int32) (fm : Nat → Int32) (sz : Nat) (res : Int32 × Int32 × Int32 × Int32 × Int32 × Int32 × Int32 × Int32 × (Nat → Int32) × (Nat → Int32) × (Nat → Int32)) (h : F_X5_readMove pas len spo kin cam fst lst inr fs fp fx fm = some res) : WrM l G yX5_readMove cX5_readMove 1 (some .int) (rmk 5 106) [(mqa, .inr (5, [.ref mqs, .ref mqp, .int pas, .ref mqn, .int misk, .ref mqx, .int len, .ref mqm, .int spo, .int kin, .int cam, .int fst, .int lst, .int inr])), (mqs, .inl (G.2.2.1, 65, .inl fs)), (mqp, .inl (G.2.2.1, 260, .inl fp)), (mqn, .inl (G.2.2.1, 65, .inl fn)), (mqx, .inl (G.2.1, 80, .inl fx)), (mqm, .inl (G.2.2.1, 24, .inl fm))] sz [.ref mqa] (some res.1) [(mqa, .inr (5, [.ref mqs, .ref mqp, .int res.2.1, .ref mqn, .int misk, .ref mqx, .int len, .ref mqm, .int res.2.2.1, .int res.2.2.2.1, .int res.2.2.2.2.1, .int res.2.2.2.2.2.1, .int res.2.2.2.2.2.2.1, .int res.2.2.2.2.2.2.2.1])), (mqs, .inl (G.2.2.1, 65, .inl res.2.2.2.2.2.2.2.2.1)), (mqp, .inl (G.2.2.1, 260, .inl res.2.2.2.2.2.2.2.2.2.1)), (mqn, .inl (G.2.2.1, 65, .inl fn)), (mqx, .inl (G.2.1, 80, .inl fx)), (mqm, .inl (G.2.2.1, 24, .inl res.2.2.2.2.2.2.2.2.2.2))] := by
  refine ofWr (by decide) (Nat.le_of_ble_eq_true rfl) ?_
  intro p e s m below meth c ls A S hr hlk hK hP hD hS hA hl
  have S : CallFix p m c cX5_readMove 1 s ([.ref mqa] : List Value).toArray T0 RX5 := S
  obtain ⟨hx, hb, hml, hown, hts⟩ := id S
  have hl : lv_has ls 1 [(0, .ref mqa)] := hl
  rw [F_X5_readMove] at h
  refine lv_aload_n hx hb dX5_readMove_0 rfl (lv_at hl 0 rfl) ?_
  obtain ⟨r1, hr1, h⟩ := bd_t h
  refine wrV (As := []) (rest := []) (ws := [(mqa, .inr (5, [.ref mqs, .ref mqp, .int pas, .ref mqn, .int misk, .ref mqx, .int len, .ref mqm, .int spo, .int kin, .int cam, .int fst, .int lst, .int inr])), (mqs, .inl (G.2.2.1, 65, .inl fs)), (mqp, .inl (G.2.2.1, 260, .inl fp)), (mqn, .inl (G.2.2.1, 65, .inl fn)), (mqx, .inl (G.2.1, 80, .inl fx)), (mqm, .inl (G.2.2.1, 24, .inl fm))]) (wr := []) (ws' := [(mqa, .inr (5, [.ref mqs, .ref mqp, .int pas, .ref mqn, .int misk, .ref mqx, .int len, .ref mqm, .int r1.2.1, .int r1.2.2.1, .int r1.2.2.2.1, .int r1.2.2.2.2.1, .int r1.2.2.2.2.2.1, .int r1.2.2.2.2.2.2.1])), (mqs, .inl (G.2.2.1, 65, .inl fs)), (mqp, .inl (G.2.2.1, 260, .inl fp)), (mqn, .inl (G.2.2.1, 65, .inl fn)), (mqx, .inl (G.2.1, 80, .inl fx)), (mqm, .inl (G.2.2.1, 24, .inl r1.2.2.2.2.2.2.2))]) (ws1 := [(mqa, .inr (5, [.ref mqs, .ref mqp, .int pas, .ref mqn, .int misk, .ref mqx, .int len, .ref mqm, .int r1.2.1, .int r1.2.2.1, .int r1.2.2.2.1, .int r1.2.2.2.2.1, .int r1.2.2.2.2.2.1, .int r1.2.2.2.2.2.2.1])), (mqs, .inl (G.2.2.1, 65, .inl fs)), (mqp, .inl (G.2.2.1, 260, .inl fp)), (mqn, .inl (G.2.2.1, 65, .inl fn)), (mqx, .inl (G.2.1, 80, .inl fx)), (mqm, .inl (G.2.2.1, 24, .inl r1.2.2.2.2.2.2.2))]) S hK (c_X5_isMove l G mqa mqs mqp mqn mqx mqm pas misk len spo kin cam fst lst inr fs fp fn fx fm _ r1 hr1) mX5_isMove q725 ⟨rfl, rfl, Nat.le_of_ble_eq_true rfl, Nat.le_of_ble_eq_true rfl⟩ hP hD hS hA [0, 1, 2, 3, 4, 5] [] [0, 1, 2, 3, 4, 5] rfl rfl (by decide) (by decide) (by decide) rfl (by decide) rfl rfl rfl rfl hl.1 (Nat.le_of_ble_eq_true rfl) ⟨Nat.le_refl 0, Nat.le_refl 0⟩ dX5_readMove_1 (fun H locs hP hD hS => ?_)
  refine lv_if_ne (tgt := 15) hx hb dX5_readMove_4 (by decide) (fun c2 => ?_) (fun c2 => ?_)
  · replace h := if_f c2 h
    refine lv_aload_n hx hb dX5_readMove_15 rfl (lv_at hl 0 rfl) ?_
    obtain ⟨r3, hr3, h⟩ := bd_t h
    refine wrV (As := []) (rest := []) (ws := [(mqa, .inr (5, [.ref mqs, .ref mqp, .int pas, .ref mqn, .int misk, .ref mqx, .int len, .ref mqm, .int r1.2.1, .int r1.2.2.1, .int r1.2.2.2.1, .int r1.2.2.2.2.1, .int r1.2.2.2.2.2.1, .int r1.2.2.2.2.2.2.1])), (mqs, .inl (G.2.2.1, 65, .inl fs)), (mqp, .inl (G.2.2.1, 260, .inl fp)), (mqn, .inl (G.2.2.1, 65, .inl fn)), (mqx, .inl (G.2.1, 80, .inl fx)), (mqm, .inl (G.2.2.1, 24, .inl r1.2.2.2.2.2.2.2))]) (wr := []) (ws' := [(mqa, .inr (5, [.ref mqs, .ref mqp, .int r3.1, .ref mqn, .int misk, .ref mqx, .int len, .ref mqm, .int r1.2.1, .int r1.2.2.1, .int r1.2.2.2.1, .int r1.2.2.2.2.1, .int r1.2.2.2.2.2.1, .int r1.2.2.2.2.2.2.1])), (mqs, .inl (G.2.2.1, 65, .inl r3.2.1)), (mqp, .inl (G.2.2.1, 260, .inl r3.2.2)), (mqn, .inl (G.2.2.1, 65, .inl fn)), (mqx, .inl (G.2.1, 80, .inl fx)), (mqm, .inl (G.2.2.1, 24, .inl r1.2.2.2.2.2.2.2))]) (ws1 := [(mqa, .inr (5, [.ref mqs, .ref mqp, .int r3.1, .ref mqn, .int misk, .ref mqx, .int len, .ref mqm, .int r1.2.1, .int r1.2.2.1, .int r1.2.2.2.1, .int r1.2.2.2.2.1, .int r1.2.2.2.2.2.1, .int r1.2.2.2.2.2.2.1])), (mqs, .inl (G.2.2.1, 65, .inl r3.2.1)), (mqp, .inl (G.2.2.1, 260, .inl r3.2.2)), (mqn, .inl (G.2.2.1, 65, .inl fn)), (mqx, .inl (G.2.1, 80, .inl fx)), (mqm, .inl (G.2.2.1, 24, .inl r1.2.2.2.2.2.2.2))]) S hK (c_X5_takes l G mqa mqs mqp mqn mqx mqm pas misk len r1.2.1 r1.2.2.1 r1.2.2.2.1 r1.2.2.2.2.1 r1.2.2.2.2.2.1 r1.2.2.2.2.2.2.1 fs fp fn fx r1.2.2.2.2.2.2.2 _ r3 hr3) mX5_takes q709 ⟨rfl, rfl, Nat.le_of_ble_eq_true rfl, Nat.le_of_ble_eq_true rfl⟩ hP hD hS hA [0, 1, 2, 3, 4, 5] [] [0, 1, 2, 3, 4, 5] rfl rfl (by decide) (by decide) (by decide) rfl (by decide) rfl rfl rfl rfl hl.1 (Nat.le_of_ble_eq_true rfl) ⟨Nat.le_refl 0, Nat.le_refl 0⟩ dX5_readMove_16 (fun H locs hP hD hS => ?_)
    refine lv_aload_n hx hb dX5_readMove_19 rfl (lv_at hl 0 rfl) ?_
    obtain ⟨r4, hr4, h⟩ := bd_t h
    refine rdV (As := []) (rest := []) S hK (c_X5_order l G mqa mqs mqp mqn mqx mqm r3.1 misk len r1.2.1 r1.2.2.1 r1.2.2.2.1 r1.2.2.2.2.1 r1.2.2.2.2.2.1 r1.2.2.2.2.2.2.1 r3.2.1 r3.2.2 fn fx r1.2.2.2.2.2.2.2 r4 hr4) mX5_order q693 ⟨rfl, rfl, Nat.le_of_ble_eq_true rfl, Nat.le_of_ble_eq_true rfl⟩ hP rfl rfl rfl rfl hl.1 (Nat.le_of_ble_eq_true rfl) ⟨Nat.le_refl 0, Nat.le_refl 0⟩ dX5_readMove_20 ?_
    obtain rfl := Option.some.inj h
    exact retW S hr hlk rfl rfl hP hD hS dX5_readMove_23
  · replace h := if_t c2 h
    refine lv_bipush (v := (-100)) hx hb dX5_readMove_7 (by decide) ?_
    refine lv_aload_n hx hb dX5_readMove_9 rfl (lv_at hl 0 rfl) ?_
    refine gf S hK iX5 hP 0 rfl rfl 8 (by decide) q644 rfl dX5_readMove_10 ?_
    refine lv_isub hx hb dX5_readMove_13 ?_
    obtain rfl := Option.some.inj h
    exact retW S hr hlk rfl rfl hP hD hS dX5_readMove_14
set_option maxHeartbeats 4000000 in
set_option maxRecDepth 100000 in
theorem c_X5_fault (l : Launch) (G : gG) (mqa mqs mqp mqn mqx mqm : Nat) (pas : Int32) (misk : Int32) (len : Int32) (spo : Int32) (kin : Int32) (cam : Int32) (fst : Int32) (lst : Int32) (inr : Int32) (fs : Nat → Int32) (fp : Nat → Int32) (fn : Nat → Int32) (fx : Nat → Int32) (fm : Nat → Int32) (p1 : Int32) (sz : Nat) (res : Int32 × Int32 × Int32 × Int32 × Int32 × Int32 × Int32 × (Nat → Int32)) (h : F_X5_fault len spo kin cam fst lst inr fx fm p1 = some res) : WrM l G yX5_fault cX5_fault 2 (some .int) (rmk 5 106) [(mqa, .inr (5, [.ref mqs, .ref mqp, .int pas, .ref mqn, .int misk, .ref mqx, .int len, .ref mqm, .int spo, .int kin, .int cam, .int fst, .int lst, .int inr])), (mqs, .inl (G.2.2.1, 65, .inl fs)), (mqp, .inl (G.2.2.1, 260, .inl fp)), (mqn, .inl (G.2.2.1, 65, .inl fn)), (mqx, .inl (G.2.1, 80, .inl fx)), (mqm, .inl (G.2.2.1, 24, .inl fm))] sz [.ref mqa, .int p1] (some res.1) [(mqa, .inr (5, [.ref mqs, .ref mqp, .int pas, .ref mqn, .int misk, .ref mqx, .int len, .ref mqm, .int res.2.1, .int res.2.2.1, .int res.2.2.2.1, .int res.2.2.2.2.1, .int res.2.2.2.2.2.1, .int res.2.2.2.2.2.2.1])), (mqs, .inl (G.2.2.1, 65, .inl fs)), (mqp, .inl (G.2.2.1, 260, .inl fp)), (mqn, .inl (G.2.2.1, 65, .inl fn)), (mqx, .inl (G.2.1, 80, .inl fx)), (mqm, .inl (G.2.2.1, 24, .inl res.2.2.2.2.2.2.2))] := by
  refine ofWr (by decide) (Nat.le_of_ble_eq_true rfl) ?_
  intro p e s m below meth c ls A S hr hlk hK hP hD hS hA hl
  have S : CallFix p m c cX5_fault 2 s ([.ref mqa, .int p1] : List Value).toArray T0 RX5 := S
  obtain ⟨hx, hb, hml, hown, hts⟩ := id S
  have hl : lv_has ls 2 [(0, .ref mqa), (1, .int p1)] := hl
  rw [F_X5_fault] at h
  refine lv_iload_n hx hb dX5_fault_0 rfl (lv_at hl 1 rfl) ?_
  refine lv_iconst (v := 0) hx hb dX5_fault_1 (by decide) ?_
  refine lv_iconst (v := 1) hx hb dX5_fault_2 (by decide) ?_
  obtain ⟨r1, hr1, h⟩ := bd_t h
  refine rdS (As := [.int p1, .int 0, .int 1]) (rest := []) S hK (c_X5_in l G p1 0 1 r1 hr1) mX5_in q686 ⟨rfl, rfl, Nat.le_of_ble_eq_true rfl, Nat.le_of_ble_eq_true rfl⟩ (ws_nil G.1 _) rfl hl.1 (Nat.le_of_ble_eq_true rfl) ⟨Nat.le_refl 0, Nat.le_refl 0⟩ dX5_fault_3 ?_
  refine lv_if_ne (tgt := 12) hx hb dX5_fault_6 (by decide) (fun c2 => ?_) (fun c2 => ?_)
  · replace h := if_f c2 h
    refine lv_aload_n hx hb dX5_fault_12 rfl (lv_at hl 0 rfl) ?_
    obtain ⟨r3, hr3, h⟩ := bd_t h
    refine wrV (As := []) (rest := []) (ws := [(mqa, .inr (5, [.ref mqs, .ref mqp, .int pas, .ref mqn, .int misk, .ref mqx, .int len, .ref mqm, .int spo, .int kin, .int cam, .int fst, .int lst, .int inr])), (mqs, .inl (G.2.2.1, 65, .inl fs)), (mqp, .inl (G.2.2.1, 260, .inl fp)), (mqn, .inl (G.2.2.1, 65, .inl fn)), (mqx, .inl (G.2.1, 80, .inl fx)), (mqm, .inl (G.2.2.1, 24, .inl fm))]) (wr := []) (ws' := [(mqa, .inr (5, [.ref mqs, .ref mqp, .int pas, .ref mqn, .int misk, .ref mqx, .int len, .ref mqm, .int r3.2.1, .int r3.2.2.1, .int r3.2.2.2.1, .int r3.2.2.2.2.1, .int r3.2.2.2.2.2.1, .int r3.2.2.2.2.2.2.1])), (mqs, .inl (G.2.2.1, 65, .inl fs)), (mqp, .inl (G.2.2.1, 260, .inl fp)), (mqn, .inl (G.2.2.1, 65, .inl fn)), (mqx, .inl (G.2.1, 80, .inl fx)), (mqm, .inl (G.2.2.1, 24, .inl r3.2.2.2.2.2.2.2))]) (ws1 := [(mqa, .inr (5, [.ref mqs, .ref mqp, .int pas, .ref mqn, .int misk, .ref mqx, .int len, .ref mqm, .int r3.2.1, .int r3.2.2.1, .int r3.2.2.2.1, .int r3.2.2.2.2.1, .int r3.2.2.2.2.2.1, .int r3.2.2.2.2.2.2.1])), (mqs, .inl (G.2.2.1, 65, .inl fs)), (mqp, .inl (G.2.2.1, 260, .inl fp)), (mqn, .inl (G.2.2.1, 65, .inl fn)), (mqx, .inl (G.2.1, 80, .inl fx)), (mqm, .inl (G.2.2.1, 24, .inl r3.2.2.2.2.2.2.2))]) S hK (c_X5_isMove l G mqa mqs mqp mqn mqx mqm pas misk len spo kin cam fst lst inr fs fp fn fx fm _ r3 hr3) mX5_isMove q725 ⟨rfl, rfl, Nat.le_of_ble_eq_true rfl, Nat.le_of_ble_eq_true rfl⟩ hP hD hS hA [0, 1, 2, 3, 4, 5] [] [0, 1, 2, 3, 4, 5] rfl rfl (by decide) (by decide) (by decide) rfl (by decide) rfl rfl rfl rfl hl.1 (Nat.le_of_ble_eq_true rfl) ⟨Nat.le_refl 0, Nat.le_refl 0⟩ dX5_fault_13 (fun H locs hP hD hS => ?_)
    refine lv_if_eq (tgt := 22) hx hb dX5_fault_16 (by decide) (fun c4 => ?_) (fun c4 => ?_)
    · replace h := if_t c4 h
      refine lv_iload_n hx hb dX5_fault_22 rfl (lv_at hl 1 rfl) ?_
      refine lv_if_ne (tgt := 33) hx hb dX5_fault_23 (by decide) (fun c5 => ?_) (fun c5 => ?_)
      · replace h := if_f c5 h
        refine lv_aload_n hx hb dX5_fault_33 rfl (lv_at hl 0 rfl) ?_
        refine gf S hK iX5 hP 0 rfl rfl 9 (by decide) q645 rfl dX5_fault_34 ?_
        obtain rfl := Option.some.inj h
        exact retW S hr hlk rfl rfl hP hD hS dX5_fault_37
      · replace h := if_t c5 h
        refine lv_aload_n hx hb dX5_fault_26 rfl (lv_at hl 0 rfl) ?_
        refine gf S hK iX5 hP 0 rfl rfl 8 (by decide) q644 rfl dX5_fault_27 ?_
        refine lv_goto (tgt := 37) hx hb dX5_fault_30 (by decide) ?_
        obtain rfl := Option.some.inj h
        exact retW S hr hlk rfl rfl hP hD hS dX5_fault_37
    · replace h := if_f c4 h
      refine lv_bipush (v := (-5)) hx hb dX5_fault_19 (by decide) ?_
      obtain rfl := Option.some.inj h
      exact retW S hr hlk rfl rfl hP hD hS dX5_fault_21
  · replace h := if_t c2 h
    refine lv_bipush (v := (-2)) hx hb dX5_fault_9 (by decide) ?_
    obtain rfl := Option.some.inj h
    exact retW S hr hlk rfl rfl hP hD hS dX5_fault_11
set_option maxHeartbeats 4000000 in
set_option maxRecDepth 100000 in
theorem c_X5_sell (l : Launch) (G : gG) (mqa mqs mqp mqn mqx mqm : Nat) (pas : Int32) (misk : Int32) (len : Int32) (spo : Int32) (kin : Int32) (cam : Int32) (fst : Int32) (lst : Int32) (inr : Int32) (fs : Nat → Int32) (fp : Nat → Int32) (fn : Nat → Int32) (fx : Nat → Int32) (fm : Nat → Int32) (p1 : Int32) (sz : Nat) (res : Int32 × Int32 × (Nat → Int32) × (Nat → Int32)) (h : F_X5_sell pas fs fp p1 = some res) : WrM l G yX5_sell cX5_sell 3 (some .int) (rmk 1 22) [(mqa, .inr (5, [.ref mqs, .ref mqp, .int pas, .ref mqn, .int misk, .ref mqx, .int len, .ref mqm, .int spo, .int kin, .int cam, .int fst, .int lst, .int inr])), (mqs, .inl (G.2.2.1, 65, .inl fs)), (mqp, .inl (G.2.2.1, 260, .inl fp)), (mqn, .inl (G.2.2.1, 65, .inl fn)), (mqx, .inl (G.2.1, 80, .inl fx)), (mqm, .inl (G.2.2.1, 24, .inl fm))] sz [.ref mqa, .int p1] (some res.1) [(mqa, .inr (5, [.ref mqs, .ref mqp, .int res.2.1, .ref mqn, .int misk, .ref mqx, .int len, .ref mqm, .int spo, .int kin, .int cam, .int fst, .int lst, .int inr])), (mqs, .inl (G.2.2.1, 65, .inl res.2.2.1)), (mqp, .inl (G.2.2.1, 260, .inl res.2.2.2)), (mqn, .inl (G.2.2.1, 65, .inl fn)), (mqx, .inl (G.2.1, 80, .inl fx)), (mqm, .inl (G.2.2.1, 24, .inl fm))] := by
  refine ofWr (by decide) (Nat.le_of_ble_eq_true rfl) ?_
  intro p e s m below meth c ls A S hr hlk hK hP hD hS hA hl
  have S : CallFix p m c cX5_sell 3 s ([.ref mqa, .int p1] : List Value).toArray T0 RX5 := S
  obtain ⟨hx, hb, hml, hown, hts⟩ := id S
  have hl : lv_has ls 3 [(0, .ref mqa), (1, .int p1)] := hl
  rw [F_X5_sell] at h
  refine lv_iload_n hx hb dX5_sell_0 rfl (lv_at hl 1 rfl) ?_
  refine lv_iconst (v := 0) hx hb dX5_sell_1 (by decide) ?_
  refine lv_ldc (v := 16777215) hx hb hown (hts _ q757) dX5_sell_2 ?_
  obtain ⟨r1, hr1, h⟩ := bd_t h
  refine rdS (As := [.int p1, .int 0, .int 16777215]) (rest := []) S hK (c_X5_in l G p1 0 16777215 r1 hr1) mX5_in q686 ⟨rfl, rfl, Nat.le_of_ble_eq_true rfl, Nat.le_of_ble_eq_true rfl⟩ (ws_nil G.1 _) rfl hl.1 (Nat.le_of_ble_eq_true rfl) ⟨Nat.le_refl 0, Nat.le_refl 0⟩ dX5_sell_4 ?_
  refine lv_if_ne (tgt := 13) hx hb dX5_sell_7 (by decide) (fun c2 => ?_) (fun c2 => ?_)
  · replace h := if_f c2 h
    refine lv_aload_n hx hb dX5_sell_13 rfl (lv_at hl 0 rfl) ?_
    refine gf S hK iX5 hP 0 rfl rfl 0 (by decide) q636 rfl dX5_sell_14 ?_
    refine lv_bipush (v := 24) hx hb dX5_sell_17 (by decide) ?_
    obtain ⟨k3, h⟩ := ck_t h
    refine ald S hK hP 1 rfl (ok_vp k3) dX5_sell_19 ?_
    refine lv_bipush (v := 12) hx hb dX5_sell_20 (by decide) ?_
    refine lv_icmp_ne (tgt := 28) hx hb dX5_sell_22 (by decide) (fun c4 => ?_) (fun c4 => ?_)
    · replace h := if_f c4 h
      refine lv_aload_n hx hb dX5_sell_28 rfl (lv_at hl 0 rfl) ?_
      obtain ⟨r5, hr5, h⟩ := bd_t h
      refine wrV (As := []) (rest := []) (ws := [(mqa, .inr (5, [.ref mqs, .ref mqp, .int pas, .ref mqn, .int misk, .ref mqx, .int len, .ref mqm, .int spo, .int kin, .int cam, .int fst, .int lst, .int inr])), (mqs, .inl (G.2.2.1, 65, .inl fs)), (mqp, .inl (G.2.2.1, 260, .inl fp)), (mqn, .inl (G.2.2.1, 65, .inl fn)), (mqx, .inl (G.2.1, 80, .inl fx)), (mqm, .inl (G.2.2.1, 24, .inl fm))]) (wr := []) (ws' := [(mqa, .inr (5, [.ref mqs, .ref mqp, .int r5.1, .ref mqn, .int misk, .ref mqx, .int len, .ref mqm, .int spo, .int kin, .int cam, .int fst, .int lst, .int inr])), (mqs, .inl (G.2.2.1, 65, .inl fs)), (mqp, .inl (G.2.2.1, 260, .inl r5.2)), (mqn, .inl (G.2.2.1, 65, .inl fn)), (mqx, .inl (G.2.1, 80, .inl fx)), (mqm, .inl (G.2.2.1, 24, .inl fm))]) (ws1 := [(mqa, .inr (5, [.ref mqs, .ref mqp, .int r5.1, .ref mqn, .int misk, .ref mqx, .int len, .ref mqm, .int spo, .int kin, .int cam, .int fst, .int lst, .int inr])), (mqs, .inl (G.2.2.1, 65, .inl fs)), (mqp, .inl (G.2.2.1, 260, .inl r5.2)), (mqn, .inl (G.2.2.1, 65, .inl fn)), (mqx, .inl (G.2.1, 80, .inl fx)), (mqm, .inl (G.2.2.1, 24, .inl fm))]) S hK (c_X5_records l G mqa mqs mqp mqn mqx mqm pas misk len spo kin cam fst lst inr fs fp fn fx fm _ r5 hr5) mX5_records q689 ⟨rfl, rfl, Nat.le_of_ble_eq_true rfl, Nat.le_of_ble_eq_true rfl⟩ hP hD hS hA [0, 1, 2, 3, 4, 5] [] [0, 1, 2, 3, 4, 5] rfl rfl (by decide) (by decide) (by decide) rfl (by decide) rfl rfl rfl rfl hl.1 (Nat.le_of_ble_eq_true rfl) ⟨Nat.le_refl 0, Nat.le_refl 0⟩ dX5_sell_29 (fun H locs hP hD hS => ?_)
      refine lv_aload_n hx hb dX5_sell_32 rfl (lv_at hl 0 rfl) ?_
      refine gf S hK iX5 hP 0 rfl rfl 0 (by decide) q636 rfl dX5_sell_33 ?_
      refine lv_bipush (v := 24) hx hb dX5_sell_36 (by decide) ?_
      obtain ⟨k6, h⟩ := ck_t h
      refine ald S hK hP 1 rfl (ok_vp k6) dX5_sell_38 ?_
      refine lv_istore_n (lv' := [(2, .int (fs (Int32.toNatClampNeg (24 : Int32)))), (0, .ref mqa), (1, .int p1)]) hx hb dX5_sell_39 rfl hl (by decide) rfl (fun ls hl => ?_)
      refine lv_aload_n hx hb dX5_sell_40 rfl (lv_at hl 1 rfl) ?_
      refine gf S hK iX5 hP 0 rfl rfl 0 (by decide) q636 rfl dX5_sell_41 ?_
      refine lv_bipush (v := 25) hx hb dX5_sell_44 (by decide) ?_
      refine lv_iload_n hx hb dX5_sell_46 rfl (lv_at hl 0 rfl) ?_
      refine lv_iadd hx hb dX5_sell_47 ?_
      refine lv_iload_n hx hb dX5_sell_48 rfl (lv_at hl 2 rfl) ?_
      obtain ⟨k7, h⟩ := ck_t h
      refine ast S hK hP hD hS 1 rfl (ok_vp k7) [(mqa, .inr (5, [.ref mqs, .ref mqp, .int r5.1, .ref mqn, .int misk, .ref mqx, .int len, .ref mqm, .int spo, .int kin, .int cam, .int fst, .int lst, .int inr])), (mqs, .inl (G.2.2.1, 65, .inl (upd fs (Int32.toNatClampNeg ((25 : Int32) + (fs (Int32.toNatClampNeg (24 : Int32))))) p1))), (mqp, .inl (G.2.2.1, 260, .inl r5.2)), (mqn, .inl (G.2.2.1, 65, .inl fn)), (mqx, .inl (G.2.1, 80, .inl fx)), (mqm, .inl (G.2.2.1, 24, .inl fm))] rfl dX5_sell_49 (fun H locs hP hD hS => ?_)
      refine lv_aload_n hx hb dX5_sell_50 rfl (lv_at hl 1 rfl) ?_
      refine gf S hK iX5 hP 0 rfl rfl 0 (by decide) q636 rfl dX5_sell_51 ?_
      refine lv_bipush (v := 37) hx hb dX5_sell_54 (by decide) ?_
      refine lv_iload_n hx hb dX5_sell_56 rfl (lv_at hl 0 rfl) ?_
      refine lv_iadd hx hb dX5_sell_57 ?_
      refine lv_iload_n hx hb dX5_sell_58 rfl (lv_at hl 2 rfl) ?_
      obtain ⟨k8, h⟩ := ck_t h
      refine ast S hK hP hD hS 1 rfl (ok_vp k8) [(mqa, .inr (5, [.ref mqs, .ref mqp, .int r5.1, .ref mqn, .int misk, .ref mqx, .int len, .ref mqm, .int spo, .int kin, .int cam, .int fst, .int lst, .int inr])), (mqs, .inl (G.2.2.1, 65, .inl (upd (upd fs (Int32.toNatClampNeg ((25 : Int32) + (fs (Int32.toNatClampNeg (24 : Int32))))) p1) (Int32.toNatClampNeg ((37 : Int32) + (fs (Int32.toNatClampNeg (24 : Int32))))) p1))), (mqp, .inl (G.2.2.1, 260, .inl r5.2)), (mqn, .inl (G.2.2.1, 65, .inl fn)), (mqx, .inl (G.2.1, 80, .inl fx)), (mqm, .inl (G.2.2.1, 24, .inl fm))] rfl dX5_sell_59 (fun H locs hP hD hS => ?_)
      refine lv_aload_n hx hb dX5_sell_60 rfl (lv_at hl 1 rfl) ?_
      refine gf S hK iX5 hP 0 rfl rfl 0 (by decide) q636 rfl dX5_sell_61 ?_
      refine lv_bipush (v := 62) hx hb dX5_sell_64 (by decide) ?_
      refine lv_dup2_11 hx hb dX5_sell_66 rfl rfl ?_
      obtain ⟨k9, h⟩ := ck_t h
      refine ald S hK hP 1 rfl (ok_vp k9) dX5_sell_67 ?_
      refine lv_topi (fun v10 ev10 => ?_)
      replace h := nmd_t ev10 h
      refine lv_iload_n hx hb dX5_sell_68 rfl (lv_at hl 2 rfl) ?_
      obtain ⟨r11, hr11, h⟩ := bd_t h
      refine rdS (As := [.int p1]) (rest := [.int v10, .int 62, .ref mqs]) S hK (c_X5_ones l G p1 r11 hr11) mX5_ones q758 ⟨rfl, rfl, Nat.le_of_ble_eq_true rfl, Nat.le_of_ble_eq_true rfl⟩ (ws_nil G.1 _) rfl hl.1 (Nat.le_of_ble_eq_true rfl) ⟨Nat.le_refl 0, Nat.le_refl 0⟩ dX5_sell_69 ?_
      refine lv_iadd hx hb dX5_sell_72 ?_
      obtain ⟨k12, h⟩ := ck_t h
      refine ast S hK hP hD hS 1 rfl (ok_vp k12) [(mqa, .inr (5, [.ref mqs, .ref mqp, .int r5.1, .ref mqn, .int misk, .ref mqx, .int len, .ref mqm, .int spo, .int kin, .int cam, .int fst, .int lst, .int inr])), (mqs, .inl (G.2.2.1, 65, .inl (upd (upd (upd fs (Int32.toNatClampNeg ((25 : Int32) + (fs (Int32.toNatClampNeg (24 : Int32))))) p1) (Int32.toNatClampNeg ((37 : Int32) + (fs (Int32.toNatClampNeg (24 : Int32))))) p1) (Int32.toNatClampNeg (62 : Int32)) (v10 + r11)))), (mqp, .inl (G.2.2.1, 260, .inl r5.2)), (mqn, .inl (G.2.2.1, 65, .inl fn)), (mqx, .inl (G.2.1, 80, .inl fx)), (mqm, .inl (G.2.2.1, 24, .inl fm))] rfl dX5_sell_73 (fun H locs hP hD hS => ?_)
      refine lv_aload_n hx hb dX5_sell_74 rfl (lv_at hl 1 rfl) ?_
      refine gf S hK iX5 hP 0 rfl rfl 0 (by decide) q636 rfl dX5_sell_75 ?_
      refine lv_bipush (v := 24) hx hb dX5_sell_78 (by decide) ?_
      refine lv_dup2_11 hx hb dX5_sell_80 rfl rfl ?_
      obtain ⟨k13, h⟩ := ck_t h
      refine ald S hK hP 1 rfl (ok_vp k13) dX5_sell_81 ?_
      refine lv_topi (fun v14 ev14 => ?_)
      replace h := nmd_t ev14 h
      refine lv_iconst (v := 1) hx hb dX5_sell_82 (by decide) ?_
      refine lv_iadd hx hb dX5_sell_83 ?_
      obtain ⟨k15, h⟩ := ck_t h
      refine ast S hK hP hD hS 1 rfl (ok_vp k15) [(mqa, .inr (5, [.ref mqs, .ref mqp, .int r5.1, .ref mqn, .int misk, .ref mqx, .int len, .ref mqm, .int spo, .int kin, .int cam, .int fst, .int lst, .int inr])), (mqs, .inl (G.2.2.1, 65, .inl (upd (upd (upd (upd fs (Int32.toNatClampNeg ((25 : Int32) + (fs (Int32.toNatClampNeg (24 : Int32))))) p1) (Int32.toNatClampNeg ((37 : Int32) + (fs (Int32.toNatClampNeg (24 : Int32))))) p1) (Int32.toNatClampNeg (62 : Int32)) (v10 + r11)) (Int32.toNatClampNeg (24 : Int32)) (v14 + 1)))), (mqp, .inl (G.2.2.1, 260, .inl r5.2)), (mqn, .inl (G.2.2.1, 65, .inl fn)), (mqx, .inl (G.2.1, 80, .inl fx)), (mqm, .inl (G.2.2.1, 24, .inl fm))] rfl dX5_sell_84 (fun H locs hP hD hS => ?_)
      refine lv_iload_n hx hb dX5_sell_85 rfl (lv_at hl 0 rfl) ?_
      obtain rfl := Option.some.inj h
      exact retW S hr hlk rfl rfl hP hD hS dX5_sell_86
    · replace h := if_t c4 h
      refine lv_bipush (v := (-3)) hx hb dX5_sell_25 (by decide) ?_
      obtain rfl := Option.some.inj h
      exact retW S hr hlk rfl rfl hP hD hS dX5_sell_27
  · replace h := if_t c2 h
    refine lv_bipush (v := (-2)) hx hb dX5_sell_10 (by decide) ?_
    obtain rfl := Option.some.inj h
    exact retW S hr hlk rfl rfl hP hD hS dX5_sell_12
set_option maxHeartbeats 4000000 in
set_option maxRecDepth 100000 in
theorem c_X5_punch (l : Launch) (G : gG) (mqa mqs mqp mqn mqx mqm : Nat) (pas : Int32) (misk : Int32) (len : Int32) (spo : Int32) (kin : Int32) (cam : Int32) (fst : Int32) (lst : Int32) (inr : Int32) (fs : Nat → Int32) (fp : Nat → Int32) (fn : Nat → Int32) (fx : Nat → Int32) (fm : Nat → Int32) (p1 p2 : Int32) (sz : Nat) (res : Int32 × Int32 × (Nat → Int32) × (Nat → Int32)) (h : F_X5_punch pas fs fp p1 p2 = some res) : WrM l G yX5_punch cX5_punch 3 (some .int) (rmk 2 43) [(mqa, .inr (5, [.ref mqs, .ref mqp, .int pas, .ref mqn, .int misk, .ref mqx, .int len, .ref mqm, .int spo, .int kin, .int cam, .int fst, .int lst, .int inr])), (mqs, .inl (G.2.2.1, 65, .inl fs)), (mqp, .inl (G.2.2.1, 260, .inl fp)), (mqn, .inl (G.2.2.1, 65, .inl fn)), (mqx, .inl (G.2.1, 80, .inl fx)), (mqm, .inl (G.2.2.1, 24, .inl fm))] sz [.ref mqa, .int p1, .int p2] (some res.1) [(mqa, .inr (5, [.ref mqs, .ref mqp, .int res.2.1, .ref mqn, .int misk, .ref mqx, .int len, .ref mqm, .int spo, .int kin, .int cam, .int fst, .int lst, .int inr])), (mqs, .inl (G.2.2.1, 65, .inl res.2.2.1)), (mqp, .inl (G.2.2.1, 260, .inl res.2.2.2)), (mqn, .inl (G.2.2.1, 65, .inl fn)), (mqx, .inl (G.2.1, 80, .inl fx)), (mqm, .inl (G.2.2.1, 24, .inl fm))] := by
  refine ofWr (by decide) (Nat.le_of_ble_eq_true rfl) ?_
  intro p e s m below meth c ls A S hr hlk hK hP hD hS hA hl
  have S : CallFix p m c cX5_punch 3 s ([.ref mqa, .int p1, .int p2] : List Value).toArray T0 RX5 := S
  obtain ⟨hx, hb, hml, hown, hts⟩ := id S
  have hl : lv_has ls 3 [(0, .ref mqa), (1, .int p1), (2, .int p2)] := hl
  rw [F_X5_punch] at h
  refine lv_aload_n hx hb dX5_punch_0 rfl (lv_at hl 0 rfl) ?_
  refine lv_iload_n hx hb dX5_punch_1 rfl (lv_at hl 1 rfl) ?_
  obtain ⟨r1, hr1, h⟩ := bd_t h
  refine rdV (As := [.int p1]) (rest := []) S hK (c_X5_isTicket l G mqa mqs mqp mqn mqx mqm pas misk len spo kin cam fst lst inr fs fp fn fx fm p1 r1 hr1) mX5_isTicket q765 ⟨rfl, rfl, Nat.le_of_ble_eq_true rfl, Nat.le_of_ble_eq_true rfl⟩ hP rfl rfl rfl rfl hl.1 (Nat.le_of_ble_eq_true rfl) ⟨Nat.le_refl 0, Nat.le_refl 0⟩ dX5_punch_2 ?_
  refine lv_if_eq (tgt := 15) hx hb dX5_punch_5 (by decide) (fun c2 => ?_) (fun c2 => ?_)
  · replace h := if_t c2 h
    refine lv_iconst (v := (-1)) hx hb dX5_punch_15 (by decide) ?_
    obtain rfl := Option.some.inj h
    exact retW S hr hlk rfl rfl hP hD hS dX5_punch_16
  · replace h := if_f c2 h
    refine lv_iload_n hx hb dX5_punch_8 rfl (lv_at hl 2 rfl) ?_
    obtain ⟨r3, hr3, h⟩ := bd_t h
    refine rdS (As := [.int p2]) (rest := []) S hK (c_X5_isPlace l G p2 r3 hr3) mX5_isPlace q683 ⟨rfl, rfl, Nat.le_of_ble_eq_true rfl, Nat.le_of_ble_eq_true rfl⟩ (ws_nil G.1 _) rfl hl.1 (Nat.le_of_ble_eq_true rfl) ⟨Nat.le_refl 0, Nat.le_refl 0⟩ dX5_punch_9 ?_
    refine lv_if_ne (tgt := 17) hx hb dX5_punch_12 (by decide) (fun c4 => ?_) (fun c4 => ?_)
    · replace h := if_f c4 h
      refine lv_aload_n hx hb dX5_punch_17 rfl (lv_at hl 0 rfl) ?_
      refine gf S hK iX5 hP 0 rfl rfl 0 (by decide) q636 rfl dX5_punch_18 ?_
      refine lv_bipush (v := 25) hx hb dX5_punch_21 (by decide) ?_
      refine lv_iload_n hx hb dX5_punch_23 rfl (lv_at hl 1 rfl) ?_
      refine lv_iadd hx hb dX5_punch_24 ?_
      obtain ⟨k5, h⟩ := ck_t h
      refine ald S hK hP 1 rfl (ok_vp k5) dX5_punch_25 ?_
      refine lv_aload_n hx hb dX5_punch_26 rfl (lv_at hl 0 rfl) ?_
      refine gf S hK iX5 hP 0 rfl rfl 0 (by decide) q636 rfl dX5_punch_27 ?_
      refine lv_bipush (v := 37) hx hb dX5_punch_30 (by decide) ?_
      refine lv_iload_n hx hb dX5_punch_32 rfl (lv_at hl 1 rfl) ?_
      refine lv_iadd hx hb dX5_punch_33 ?_
      obtain ⟨k6, h⟩ := ck_t h
      refine ald S hK hP 1 rfl (ok_vp k6) dX5_punch_34 ?_
      refine lv_iand hx hb dX5_punch_35 ?_
      refine lv_topi (fun v7 ev7 => ?_)
      replace h := nmd_t ev7 h
      refine lv_iconst (v := 1) hx hb dX5_punch_36 (by decide) ?_
      refine lv_iload_n hx hb dX5_punch_37 rfl (lv_at hl 2 rfl) ?_
      refine lv_ishl hx hb dX5_punch_38 ?_
      refine lv_iand hx hb dX5_punch_39 ?_
      refine lv_if_eq (tgt := 46) hx hb dX5_punch_40 (by decide) (fun c8 => ?_) (fun c8 => ?_)
      · replace h := if_t c8 h
        refine lv_aload_n hx hb dX5_punch_46 rfl (lv_at hl 0 rfl) ?_
        obtain ⟨r9, hr9, h⟩ := bd_t h
        refine wrV (As := []) (rest := []) (ws := [(mqa, .inr (5, [.ref mqs, .ref mqp, .int pas, .ref mqn, .int misk, .ref mqx, .int len, .ref mqm, .int spo, .int kin, .int cam, .int fst, .int lst, .int inr])), (mqs, .inl (G.2.2.1, 65, .inl fs)), (mqp, .inl (G.2.2.1, 260, .inl fp)), (mqn, .inl (G.2.2.1, 65, .inl fn)), (mqx, .inl (G.2.1, 80, .inl fx)), (mqm, .inl (G.2.2.1, 24, .inl fm))]) (wr := []) (ws' := [(mqa, .inr (5, [.ref mqs, .ref mqp, .int r9.1, .ref mqn, .int misk, .ref mqx, .int len, .ref mqm, .int spo, .int kin, .int cam, .int fst, .int lst, .int inr])), (mqs, .inl (G.2.2.1, 65, .inl fs)), (mqp, .inl (G.2.2.1, 260, .inl r9.2)), (mqn, .inl (G.2.2.1, 65, .inl fn)), (mqx, .inl (G.2.1, 80, .inl fx)), (mqm, .inl (G.2.2.1, 24, .inl fm))]) (ws1 := [(mqa, .inr (5, [.ref mqs, .ref mqp, .int r9.1, .ref mqn, .int misk, .ref mqx, .int len, .ref mqm, .int spo, .int kin, .int cam, .int fst, .int lst, .int inr])), (mqs, .inl (G.2.2.1, 65, .inl fs)), (mqp, .inl (G.2.2.1, 260, .inl r9.2)), (mqn, .inl (G.2.2.1, 65, .inl fn)), (mqx, .inl (G.2.1, 80, .inl fx)), (mqm, .inl (G.2.2.1, 24, .inl fm))]) S hK (c_X5_records l G mqa mqs mqp mqn mqx mqm pas misk len spo kin cam fst lst inr fs fp fn fx fm _ r9 hr9) mX5_records q689 ⟨rfl, rfl, Nat.le_of_ble_eq_true rfl, Nat.le_of_ble_eq_true rfl⟩ hP hD hS hA [0, 1, 2, 3, 4, 5] [] [0, 1, 2, 3, 4, 5] rfl rfl (by decide) (by decide) (by decide) rfl (by decide) rfl rfl rfl rfl hl.1 (Nat.le_of_ble_eq_true rfl) ⟨Nat.le_refl 0, Nat.le_refl 0⟩ dX5_punch_47 (fun H locs hP hD hS => ?_)
        refine lv_aload_n hx hb dX5_punch_50 rfl (lv_at hl 0 rfl) ?_
        refine gf S hK iX5 hP 0 rfl rfl 0 (by decide) q636 rfl dX5_punch_51 ?_
        refine lv_bipush (v := 25) hx hb dX5_punch_54 (by decide) ?_
        refine lv_iload_n hx hb dX5_punch_56 rfl (lv_at hl 1 rfl) ?_
        refine lv_iadd hx hb dX5_punch_57 ?_
        refine lv_dup2_11 hx hb dX5_punch_58 rfl rfl ?_
        obtain ⟨k10, h⟩ := ck_t h
        refine ald S hK hP 1 rfl (ok_vp k10) dX5_punch_59 ?_
        refine lv_iconst (v := 1) hx hb dX5_punch_60 (by decide) ?_
        refine lv_iload_n hx hb dX5_punch_61 rfl (lv_at hl 2 rfl) ?_
        refine lv_ishl hx hb dX5_punch_62 ?_
        refine lv_ior hx hb dX5_punch_63 ?_
        refine lv_topi (fun v11 ev11 => ?_)
        replace h := nmd_t ev11 h
        obtain ⟨k12, h⟩ := ck_t h
        refine ast S hK hP hD hS 1 rfl (ok_vp k12) [(mqa, .inr (5, [.ref mqs, .ref mqp, .int r9.1, .ref mqn, .int misk, .ref mqx, .int len, .ref mqm, .int spo, .int kin, .int cam, .int fst, .int lst, .int inr])), (mqs, .inl (G.2.2.1, 65, .inl (upd fs (Int32.toNatClampNeg ((25 : Int32) + p1)) v11))), (mqp, .inl (G.2.2.1, 260, .inl r9.2)), (mqn, .inl (G.2.2.1, 65, .inl fn)), (mqx, .inl (G.2.1, 80, .inl fx)), (mqm, .inl (G.2.2.1, 24, .inl fm))] rfl dX5_punch_64 (fun H locs hP hD hS => ?_)
        refine lv_aload_n hx hb dX5_punch_65 rfl (lv_at hl 0 rfl) ?_
        refine gf S hK iX5 hP 0 rfl rfl 0 (by decide) q636 rfl dX5_punch_66 ?_
        refine lv_bipush (v := 37) hx hb dX5_punch_69 (by decide) ?_
        refine lv_iload_n hx hb dX5_punch_71 rfl (lv_at hl 1 rfl) ?_
        refine lv_iadd hx hb dX5_punch_72 ?_
        refine lv_dup2_11 hx hb dX5_punch_73 rfl rfl ?_
        obtain ⟨k13, h⟩ := ck_t h
        refine ald S hK hP 1 rfl (ok_vp k13) dX5_punch_74 ?_
        refine lv_topi (fun v14 ev14 => ?_)
        replace h := nmd_t ev14 h
        refine lv_iconst (v := 1) hx hb dX5_punch_75 (by decide) ?_
        refine lv_iload_n hx hb dX5_punch_76 rfl (lv_at hl 2 rfl) ?_
        refine lv_ishl hx hb dX5_punch_77 ?_
        refine lv_ior hx hb dX5_punch_78 ?_
        obtain ⟨k15, h⟩ := ck_t h
        refine ast S hK hP hD hS 1 rfl (ok_vp k15) [(mqa, .inr (5, [.ref mqs, .ref mqp, .int r9.1, .ref mqn, .int misk, .ref mqx, .int len, .ref mqm, .int spo, .int kin, .int cam, .int fst, .int lst, .int inr])), (mqs, .inl (G.2.2.1, 65, .inl (upd (upd fs (Int32.toNatClampNeg ((25 : Int32) + p1)) v11) (Int32.toNatClampNeg ((37 : Int32) + p1)) (v14 ||| ((1 : Int32) <<< (p2 &&& 31)))))), (mqp, .inl (G.2.2.1, 260, .inl r9.2)), (mqn, .inl (G.2.2.1, 65, .inl fn)), (mqx, .inl (G.2.1, 80, .inl fx)), (mqm, .inl (G.2.2.1, 24, .inl fm))] rfl dX5_punch_79 (fun H locs hP hD hS => ?_)
        refine lv_aload_n hx hb dX5_punch_80 rfl (lv_at hl 0 rfl) ?_
        refine gf S hK iX5 hP 0 rfl rfl 0 (by decide) q636 rfl dX5_punch_81 ?_
        refine lv_bipush (v := 62) hx hb dX5_punch_84 (by decide) ?_
        refine lv_dup2_11 hx hb dX5_punch_86 rfl rfl ?_
        obtain ⟨k16, h⟩ := ck_t h
        refine ald S hK hP 1 rfl (ok_vp k16) dX5_punch_87 ?_
        refine lv_topi (fun v17 ev17 => ?_)
        replace h := nmd_t ev17 h
        refine lv_iconst (v := 1) hx hb dX5_punch_88 (by decide) ?_
        refine lv_iadd hx hb dX5_punch_89 ?_
        obtain ⟨k18, h⟩ := ck_t h
        refine ast S hK hP hD hS 1 rfl (ok_vp k18) [(mqa, .inr (5, [.ref mqs, .ref mqp, .int r9.1, .ref mqn, .int misk, .ref mqx, .int len, .ref mqm, .int spo, .int kin, .int cam, .int fst, .int lst, .int inr])), (mqs, .inl (G.2.2.1, 65, .inl (upd (upd (upd fs (Int32.toNatClampNeg ((25 : Int32) + p1)) v11) (Int32.toNatClampNeg ((37 : Int32) + p1)) (v14 ||| ((1 : Int32) <<< (p2 &&& 31)))) (Int32.toNatClampNeg (62 : Int32)) (v17 + 1)))), (mqp, .inl (G.2.2.1, 260, .inl r9.2)), (mqn, .inl (G.2.2.1, 65, .inl fn)), (mqx, .inl (G.2.1, 80, .inl fx)), (mqm, .inl (G.2.2.1, 24, .inl fm))] rfl dX5_punch_90 (fun H locs hP hD hS => ?_)
        refine lv_aload_n hx hb dX5_punch_91 rfl (lv_at hl 0 rfl) ?_
        refine gf S hK iX5 hP 0 rfl rfl 0 (by decide) q636 rfl dX5_punch_92 ?_
        refine lv_bipush (v := 25) hx hb dX5_punch_95 (by decide) ?_
        refine lv_iload_n hx hb dX5_punch_97 rfl (lv_at hl 1 rfl) ?_
        refine lv_iadd hx hb dX5_punch_98 ?_
        obtain ⟨k19, h⟩ := ck_t h
        refine ald S hK hP 1 rfl (ok_vp k19) dX5_punch_99 ?_
        refine lv_topi (fun v20 ev20 => ?_)
        replace h := nmd_t ev20 h
        obtain ⟨r21, hr21, h⟩ := bd_t h
        refine rdS (As := [.int v20]) (rest := []) S hK (c_X5_ones l G v20 r21 hr21) mX5_ones q758 ⟨rfl, rfl, Nat.le_of_ble_eq_true rfl, Nat.le_of_ble_eq_true rfl⟩ (ws_nil G.1 _) rfl hl.1 (Nat.le_of_ble_eq_true rfl) ⟨Nat.le_refl 0, Nat.le_refl 0⟩ dX5_punch_100 ?_
        obtain rfl := Option.some.inj h
        exact retW S hr hlk rfl rfl hP hD hS dX5_punch_103
      · replace h := if_f c8 h
        refine lv_bipush (v := (-5)) hx hb dX5_punch_43 (by decide) ?_
        obtain rfl := Option.some.inj h
        exact retW S hr hlk rfl rfl hP hD hS dX5_punch_45
    · replace h := if_t c4 h
      refine lv_iconst (v := (-1)) hx hb dX5_punch_15 (by decide) ?_
      obtain rfl := Option.some.inj h
      exact retW S hr hlk rfl rfl hP hD hS dX5_punch_16
set_option maxHeartbeats 4000000 in
set_option maxRecDepth 100000 in
theorem c_X5_forge (l : Launch) (G : gG) (mqa mqs mqp mqn mqx mqm : Nat) (pas : Int32) (misk : Int32) (len : Int32) (spo : Int32) (kin : Int32) (cam : Int32) (fst : Int32) (lst : Int32) (inr : Int32) (fs : Nat → Int32) (fp : Nat → Int32) (fn : Nat → Int32) (fx : Nat → Int32) (fm : Nat → Int32) (p1 p2 p3 : Int32) (sz : Nat) (res : Int32 × Int32 × (Nat → Int32) × (Nat → Int32)) (h : F_X5_forge pas fs fp p1 p2 p3 = some res) : WrM l G yX5_forge cX5_forge 4 (some .int) (rmk 2 43) [(mqa, .inr (5, [.ref mqs, .ref mqp, .int pas, .ref mqn, .int misk, .ref mqx, .int len, .ref mqm, .int spo, .int kin, .int cam, .int fst, .int lst, .int inr])), (mqs, .inl (G.2.2.1, 65, .inl fs)), (mqp, .inl (G.2.2.1, 260, .inl fp)), (mqn, .inl (G.2.2.1, 65, .inl fn)), (mqx, .inl (G.2.1, 80, .inl fx)), (mqm, .inl (G.2.2.1, 24, .inl fm))] sz [.ref mqa, .int p1, .int p2, .int p3] (some res.1) [(mqa, .inr (5, [.ref mqs, .ref mqp, .int res.2.1, .ref mqn, .int misk, .ref mqx, .int len, .ref mqm, .int spo, .int kin, .int cam, .int fst, .int lst, .int inr])), (mqs, .inl (G.2.2.1, 65, .inl res.2.2.1)), (mqp, .inl (G.2.2.1, 260, .inl res.2.2.2)), (mqn, .inl (G.2.2.1, 65, .inl fn)), (mqx, .inl (G.2.1, 80, .inl fx)), (mqm, .inl (G.2.2.1, 24, .inl fm))] := by
  refine ofWr (by decide) (Nat.le_of_ble_eq_true rfl) ?_
  intro p e s m below meth c ls A S hr hlk hK hP hD hS hA hl
  have S : CallFix p m c cX5_forge 4 s ([.ref mqa, .int p1, .int p2, .int p3] : List Value).toArray T0 RX5 := S
  obtain ⟨hx, hb, hml, hown, hts⟩ := id S
  have hl : lv_has ls 4 [(0, .ref mqa), (1, .int p1), (2, .int p2), (3, .int p3)] := hl
  rw [F_X5_forge] at h
  refine lv_aload_n hx hb dX5_forge_0 rfl (lv_at hl 0 rfl) ?_
  refine lv_iload_n hx hb dX5_forge_1 rfl (lv_at hl 1 rfl) ?_
  obtain ⟨r1, hr1, h⟩ := bd_t h
  refine rdV (As := [.int p1]) (rest := []) S hK (c_X5_isTicket l G mqa mqs mqp mqn mqx mqm pas misk len spo kin cam fst lst inr fs fp fn fx fm p1 r1 hr1) mX5_isTicket q765 ⟨rfl, rfl, Nat.le_of_ble_eq_true rfl, Nat.le_of_ble_eq_true rfl⟩ hP rfl rfl rfl rfl hl.1 (Nat.le_of_ble_eq_true rfl) ⟨Nat.le_refl 0, Nat.le_refl 0⟩ dX5_forge_2 ?_
  refine lv_if_eq (tgt := 15) hx hb dX5_forge_5 (by decide) (fun c2 => ?_) (fun c2 => ?_)
  · replace h := if_t c2 h
    refine lv_iconst (v := (-1)) hx hb dX5_forge_15 (by decide) ?_
    obtain rfl := Option.some.inj h
    exact retW S hr hlk rfl rfl hP hD hS dX5_forge_16
  · replace h := if_f c2 h
    refine lv_iload_n hx hb dX5_forge_8 rfl (lv_at hl 2 rfl) ?_
    obtain ⟨r3, hr3, h⟩ := bd_t h
    refine rdS (As := [.int p2]) (rest := []) S hK (c_X5_isPlace l G p2 r3 hr3) mX5_isPlace q683 ⟨rfl, rfl, Nat.le_of_ble_eq_true rfl, Nat.le_of_ble_eq_true rfl⟩ (ws_nil G.1 _) rfl hl.1 (Nat.le_of_ble_eq_true rfl) ⟨Nat.le_refl 0, Nat.le_refl 0⟩ dX5_forge_9 ?_
    refine lv_if_ne (tgt := 17) hx hb dX5_forge_12 (by decide) (fun c4 => ?_) (fun c4 => ?_)
    · replace h := if_f c4 h
      refine lv_aload_n hx hb dX5_forge_17 rfl (lv_at hl 0 rfl) ?_
      refine gf S hK iX5 hP 0 rfl rfl 0 (by decide) q636 rfl dX5_forge_18 ?_
      refine lv_bipush (v := 25) hx hb dX5_forge_21 (by decide) ?_
      refine lv_iload_n hx hb dX5_forge_23 rfl (lv_at hl 1 rfl) ?_
      refine lv_iadd hx hb dX5_forge_24 ?_
      obtain ⟨k5, h⟩ := ck_t h
      refine ald S hK hP 1 rfl (ok_vp k5) dX5_forge_25 ?_
      refine lv_iload_n hx hb dX5_forge_26 rfl (lv_at hl 2 rfl) ?_
      refine lv_ishr hx hb dX5_forge_27 ?_
      refine lv_iconst (v := 1) hx hb dX5_forge_28 (by decide) ?_
      refine lv_iand hx hb dX5_forge_29 ?_
      refine lv_iconst (v := 1) hx hb dX5_forge_30 (by decide) ?_
      refine lv_icmp_ne (tgt := 38) hx hb dX5_forge_31 (by decide) (fun c6 => ?_) (fun c6 => ?_)
      · replace h := if_f c6 h
        refine lv_iconst (v := 0) hx hb dX5_forge_38 (by decide) ?_
        refine lv_iload_n hx hb dX5_forge_39 rfl (lv_at hl 3 rfl) ?_
        refine lv_icmp_ne (tgt := 46) hx hb dX5_forge_40 (by decide) (fun c7 => ?_) (fun c7 => ?_)
        · replace h := if_f c7 h
          refine lv_aload_n hx hb dX5_forge_46 rfl (lv_at hl 0 rfl) ?_
          obtain ⟨r8, hr8, h⟩ := bd_t h
          refine wrV (As := []) (rest := []) (ws := [(mqa, .inr (5, [.ref mqs, .ref mqp, .int pas, .ref mqn, .int misk, .ref mqx, .int len, .ref mqm, .int spo, .int kin, .int cam, .int fst, .int lst, .int inr])), (mqs, .inl (G.2.2.1, 65, .inl fs)), (mqp, .inl (G.2.2.1, 260, .inl fp)), (mqn, .inl (G.2.2.1, 65, .inl fn)), (mqx, .inl (G.2.1, 80, .inl fx)), (mqm, .inl (G.2.2.1, 24, .inl fm))]) (wr := []) (ws' := [(mqa, .inr (5, [.ref mqs, .ref mqp, .int r8.1, .ref mqn, .int misk, .ref mqx, .int len, .ref mqm, .int spo, .int kin, .int cam, .int fst, .int lst, .int inr])), (mqs, .inl (G.2.2.1, 65, .inl fs)), (mqp, .inl (G.2.2.1, 260, .inl r8.2)), (mqn, .inl (G.2.2.1, 65, .inl fn)), (mqx, .inl (G.2.1, 80, .inl fx)), (mqm, .inl (G.2.2.1, 24, .inl fm))]) (ws1 := [(mqa, .inr (5, [.ref mqs, .ref mqp, .int r8.1, .ref mqn, .int misk, .ref mqx, .int len, .ref mqm, .int spo, .int kin, .int cam, .int fst, .int lst, .int inr])), (mqs, .inl (G.2.2.1, 65, .inl fs)), (mqp, .inl (G.2.2.1, 260, .inl r8.2)), (mqn, .inl (G.2.2.1, 65, .inl fn)), (mqx, .inl (G.2.1, 80, .inl fx)), (mqm, .inl (G.2.2.1, 24, .inl fm))]) S hK (c_X5_records l G mqa mqs mqp mqn mqx mqm pas misk len spo kin cam fst lst inr fs fp fn fx fm _ r8 hr8) mX5_records q689 ⟨rfl, rfl, Nat.le_of_ble_eq_true rfl, Nat.le_of_ble_eq_true rfl⟩ hP hD hS hA [0, 1, 2, 3, 4, 5] [] [0, 1, 2, 3, 4, 5] rfl rfl (by decide) (by decide) (by decide) rfl (by decide) rfl rfl rfl rfl hl.1 (Nat.le_of_ble_eq_true rfl) ⟨Nat.le_refl 0, Nat.le_refl 0⟩ dX5_forge_47 (fun H locs hP hD hS => ?_)
          refine lv_aload_n hx hb dX5_forge_50 rfl (lv_at hl 0 rfl) ?_
          refine gf S hK iX5 hP 0 rfl rfl 0 (by decide) q636 rfl dX5_forge_51 ?_
          refine lv_bipush (v := 25) hx hb dX5_forge_54 (by decide) ?_
          refine lv_iload_n hx hb dX5_forge_56 rfl (lv_at hl 1 rfl) ?_
          refine lv_iadd hx hb dX5_forge_57 ?_
          refine lv_dup2_11 hx hb dX5_forge_58 rfl rfl ?_
          obtain ⟨k9, h⟩ := ck_t h
          refine ald S hK hP 1 rfl (ok_vp k9) dX5_forge_59 ?_
          refine lv_iconst (v := 1) hx hb dX5_forge_60 (by decide) ?_
          refine lv_iload_n hx hb dX5_forge_61 rfl (lv_at hl 2 rfl) ?_
          refine lv_ishl hx hb dX5_forge_62 ?_
          refine lv_ixor hx hb dX5_forge_63 ?_
          refine lv_topi (fun v10 ev10 => ?_)
          replace h := nmd_t ev10 h
          obtain ⟨k11, h⟩ := ck_t h
          refine ast S hK hP hD hS 1 rfl (ok_vp k11) [(mqa, .inr (5, [.ref mqs, .ref mqp, .int r8.1, .ref mqn, .int misk, .ref mqx, .int len, .ref mqm, .int spo, .int kin, .int cam, .int fst, .int lst, .int inr])), (mqs, .inl (G.2.2.1, 65, .inl (upd fs (Int32.toNatClampNeg ((25 : Int32) + p1)) v10))), (mqp, .inl (G.2.2.1, 260, .inl r8.2)), (mqn, .inl (G.2.2.1, 65, .inl fn)), (mqx, .inl (G.2.1, 80, .inl fx)), (mqm, .inl (G.2.2.1, 24, .inl fm))] rfl dX5_forge_64 (fun H locs hP hD hS => ?_)
          refine lv_aload_n hx hb dX5_forge_65 rfl (lv_at hl 0 rfl) ?_
          refine gf S hK iX5 hP 0 rfl rfl 0 (by decide) q636 rfl dX5_forge_66 ?_
          refine lv_bipush (v := 63) hx hb dX5_forge_69 (by decide) ?_
          refine lv_dup2_11 hx hb dX5_forge_71 rfl rfl ?_
          obtain ⟨k12, h⟩ := ck_t h
          refine ald S hK hP 1 rfl (ok_vp k12) dX5_forge_72 ?_
          refine lv_topi (fun v13 ev13 => ?_)
          replace h := nmd_t ev13 h
          refine lv_iconst (v := 1) hx hb dX5_forge_73 (by decide) ?_
          refine lv_iadd hx hb dX5_forge_74 ?_
          obtain ⟨k14, h⟩ := ck_t h
          refine ast S hK hP hD hS 1 rfl (ok_vp k14) [(mqa, .inr (5, [.ref mqs, .ref mqp, .int r8.1, .ref mqn, .int misk, .ref mqx, .int len, .ref mqm, .int spo, .int kin, .int cam, .int fst, .int lst, .int inr])), (mqs, .inl (G.2.2.1, 65, .inl (upd (upd fs (Int32.toNatClampNeg ((25 : Int32) + p1)) v10) (Int32.toNatClampNeg (63 : Int32)) (v13 + 1)))), (mqp, .inl (G.2.2.1, 260, .inl r8.2)), (mqn, .inl (G.2.2.1, 65, .inl fn)), (mqx, .inl (G.2.1, 80, .inl fx)), (mqm, .inl (G.2.2.1, 24, .inl fm))] rfl dX5_forge_75 (fun H locs hP hD hS => ?_)
          refine lv_aload_n hx hb dX5_forge_76 rfl (lv_at hl 0 rfl) ?_
          refine lv_iload_n hx hb dX5_forge_77 rfl (lv_at hl 1 rfl) ?_
          obtain ⟨r15, hr15, h⟩ := bd_t h
          refine rdV (As := [.int p1]) (rest := []) S hK (c_X5_isFalse l G mqa mqs mqp mqn mqx mqm r8.1 misk len spo kin cam fst lst inr (upd (upd fs (Int32.toNatClampNeg ((25 : Int32) + p1)) v10) (Int32.toNatClampNeg (63 : Int32)) (v13 + 1)) r8.2 fn fx fm p1 r15 hr15) mX5_isFalse q773 ⟨rfl, rfl, Nat.le_of_ble_eq_true rfl, Nat.le_of_ble_eq_true rfl⟩ hP rfl rfl rfl rfl hl.1 (Nat.le_of_ble_eq_true rfl) ⟨Nat.le_refl 0, Nat.le_refl 0⟩ dX5_forge_78 ?_
          refine lv_if_eq (tgt := 88) hx hb dX5_forge_81 (by decide) (fun c16 => ?_) (fun c16 => ?_)
          · replace h := if_t c16 h
            refine lv_iconst (v := 0) hx hb dX5_forge_88 (by decide) ?_
            obtain rfl := Option.some.inj h
            exact retW S hr hlk rfl rfl hP hD hS dX5_forge_89
          · replace h := if_f c16 h
            refine lv_iconst (v := 1) hx hb dX5_forge_84 (by decide) ?_
            refine lv_goto (tgt := 89) hx hb dX5_forge_85 (by decide) ?_
            obtain rfl := Option.some.inj h
            exact retW S hr hlk rfl rfl hP hD hS dX5_forge_89
        · replace h := if_t c7 h
          refine lv_bipush (v := (-5)) hx hb dX5_forge_43 (by decide) ?_
          obtain rfl := Option.some.inj h
          exact retW S hr hlk rfl rfl hP hD hS dX5_forge_45
      · replace h := if_t c6 h
        refine lv_iconst (v := 1) hx hb dX5_forge_34 (by decide) ?_
        refine lv_goto (tgt := 39) hx hb dX5_forge_35 (by decide) ?_
        refine lv_iload_n hx hb dX5_forge_39 rfl (lv_at hl 3 rfl) ?_
        refine lv_icmp_ne (tgt := 46) hx hb dX5_forge_40 (by decide) (fun c17 => ?_) (fun c17 => ?_)
        · replace h := if_f c17 h
          refine lv_aload_n hx hb dX5_forge_46 rfl (lv_at hl 0 rfl) ?_
          obtain ⟨r18, hr18, h⟩ := bd_t h
          refine wrV (As := []) (rest := []) (ws := [(mqa, .inr (5, [.ref mqs, .ref mqp, .int pas, .ref mqn, .int misk, .ref mqx, .int len, .ref mqm, .int spo, .int kin, .int cam, .int fst, .int lst, .int inr])), (mqs, .inl (G.2.2.1, 65, .inl fs)), (mqp, .inl (G.2.2.1, 260, .inl fp)), (mqn, .inl (G.2.2.1, 65, .inl fn)), (mqx, .inl (G.2.1, 80, .inl fx)), (mqm, .inl (G.2.2.1, 24, .inl fm))]) (wr := []) (ws' := [(mqa, .inr (5, [.ref mqs, .ref mqp, .int r18.1, .ref mqn, .int misk, .ref mqx, .int len, .ref mqm, .int spo, .int kin, .int cam, .int fst, .int lst, .int inr])), (mqs, .inl (G.2.2.1, 65, .inl fs)), (mqp, .inl (G.2.2.1, 260, .inl r18.2)), (mqn, .inl (G.2.2.1, 65, .inl fn)), (mqx, .inl (G.2.1, 80, .inl fx)), (mqm, .inl (G.2.2.1, 24, .inl fm))]) (ws1 := [(mqa, .inr (5, [.ref mqs, .ref mqp, .int r18.1, .ref mqn, .int misk, .ref mqx, .int len, .ref mqm, .int spo, .int kin, .int cam, .int fst, .int lst, .int inr])), (mqs, .inl (G.2.2.1, 65, .inl fs)), (mqp, .inl (G.2.2.1, 260, .inl r18.2)), (mqn, .inl (G.2.2.1, 65, .inl fn)), (mqx, .inl (G.2.1, 80, .inl fx)), (mqm, .inl (G.2.2.1, 24, .inl fm))]) S hK (c_X5_records l G mqa mqs mqp mqn mqx mqm pas misk len spo kin cam fst lst inr fs fp fn fx fm _ r18 hr18) mX5_records q689 ⟨rfl, rfl, Nat.le_of_ble_eq_true rfl, Nat.le_of_ble_eq_true rfl⟩ hP hD hS hA [0, 1, 2, 3, 4, 5] [] [0, 1, 2, 3, 4, 5] rfl rfl (by decide) (by decide) (by decide) rfl (by decide) rfl rfl rfl rfl hl.1 (Nat.le_of_ble_eq_true rfl) ⟨Nat.le_refl 0, Nat.le_refl 0⟩ dX5_forge_47 (fun H locs hP hD hS => ?_)
          refine lv_aload_n hx hb dX5_forge_50 rfl (lv_at hl 0 rfl) ?_
          refine gf S hK iX5 hP 0 rfl rfl 0 (by decide) q636 rfl dX5_forge_51 ?_
          refine lv_bipush (v := 25) hx hb dX5_forge_54 (by decide) ?_
          refine lv_iload_n hx hb dX5_forge_56 rfl (lv_at hl 1 rfl) ?_
          refine lv_iadd hx hb dX5_forge_57 ?_
          refine lv_dup2_11 hx hb dX5_forge_58 rfl rfl ?_
          obtain ⟨k19, h⟩ := ck_t h
          refine ald S hK hP 1 rfl (ok_vp k19) dX5_forge_59 ?_
          refine lv_iconst (v := 1) hx hb dX5_forge_60 (by decide) ?_
          refine lv_iload_n hx hb dX5_forge_61 rfl (lv_at hl 2 rfl) ?_
          refine lv_ishl hx hb dX5_forge_62 ?_
          refine lv_ixor hx hb dX5_forge_63 ?_
          refine lv_topi (fun v20 ev20 => ?_)
          replace h := nmd_t ev20 h
          obtain ⟨k21, h⟩ := ck_t h
          refine ast S hK hP hD hS 1 rfl (ok_vp k21) [(mqa, .inr (5, [.ref mqs, .ref mqp, .int r18.1, .ref mqn, .int misk, .ref mqx, .int len, .ref mqm, .int spo, .int kin, .int cam, .int fst, .int lst, .int inr])), (mqs, .inl (G.2.2.1, 65, .inl (upd fs (Int32.toNatClampNeg ((25 : Int32) + p1)) v20))), (mqp, .inl (G.2.2.1, 260, .inl r18.2)), (mqn, .inl (G.2.2.1, 65, .inl fn)), (mqx, .inl (G.2.1, 80, .inl fx)), (mqm, .inl (G.2.2.1, 24, .inl fm))] rfl dX5_forge_64 (fun H locs hP hD hS => ?_)
          refine lv_aload_n hx hb dX5_forge_65 rfl (lv_at hl 0 rfl) ?_
          refine gf S hK iX5 hP 0 rfl rfl 0 (by decide) q636 rfl dX5_forge_66 ?_
          refine lv_bipush (v := 63) hx hb dX5_forge_69 (by decide) ?_
          refine lv_dup2_11 hx hb dX5_forge_71 rfl rfl ?_
          obtain ⟨k22, h⟩ := ck_t h
          refine ald S hK hP 1 rfl (ok_vp k22) dX5_forge_72 ?_
          refine lv_topi (fun v23 ev23 => ?_)
          replace h := nmd_t ev23 h
          refine lv_iconst (v := 1) hx hb dX5_forge_73 (by decide) ?_
          refine lv_iadd hx hb dX5_forge_74 ?_
          obtain ⟨k24, h⟩ := ck_t h
          refine ast S hK hP hD hS 1 rfl (ok_vp k24) [(mqa, .inr (5, [.ref mqs, .ref mqp, .int r18.1, .ref mqn, .int misk, .ref mqx, .int len, .ref mqm, .int spo, .int kin, .int cam, .int fst, .int lst, .int inr])), (mqs, .inl (G.2.2.1, 65, .inl (upd (upd fs (Int32.toNatClampNeg ((25 : Int32) + p1)) v20) (Int32.toNatClampNeg (63 : Int32)) (v23 + 1)))), (mqp, .inl (G.2.2.1, 260, .inl r18.2)), (mqn, .inl (G.2.2.1, 65, .inl fn)), (mqx, .inl (G.2.1, 80, .inl fx)), (mqm, .inl (G.2.2.1, 24, .inl fm))] rfl dX5_forge_75 (fun H locs hP hD hS => ?_)
          refine lv_aload_n hx hb dX5_forge_76 rfl (lv_at hl 0 rfl) ?_
          refine lv_iload_n hx hb dX5_forge_77 rfl (lv_at hl 1 rfl) ?_
          obtain ⟨r25, hr25, h⟩ := bd_t h
          refine rdV (As := [.int p1]) (rest := []) S hK (c_X5_isFalse l G mqa mqs mqp mqn mqx mqm r18.1 misk len spo kin cam fst lst inr (upd (upd fs (Int32.toNatClampNeg ((25 : Int32) + p1)) v20) (Int32.toNatClampNeg (63 : Int32)) (v23 + 1)) r18.2 fn fx fm p1 r25 hr25) mX5_isFalse q773 ⟨rfl, rfl, Nat.le_of_ble_eq_true rfl, Nat.le_of_ble_eq_true rfl⟩ hP rfl rfl rfl rfl hl.1 (Nat.le_of_ble_eq_true rfl) ⟨Nat.le_refl 0, Nat.le_refl 0⟩ dX5_forge_78 ?_
          refine lv_if_eq (tgt := 88) hx hb dX5_forge_81 (by decide) (fun c26 => ?_) (fun c26 => ?_)
          · replace h := if_t c26 h
            refine lv_iconst (v := 0) hx hb dX5_forge_88 (by decide) ?_
            obtain rfl := Option.some.inj h
            exact retW S hr hlk rfl rfl hP hD hS dX5_forge_89
          · replace h := if_f c26 h
            refine lv_iconst (v := 1) hx hb dX5_forge_84 (by decide) ?_
            refine lv_goto (tgt := 89) hx hb dX5_forge_85 (by decide) ?_
            obtain rfl := Option.some.inj h
            exact retW S hr hlk rfl rfl hP hD hS dX5_forge_89
        · replace h := if_t c17 h
          refine lv_bipush (v := (-5)) hx hb dX5_forge_43 (by decide) ?_
          obtain rfl := Option.some.inj h
          exact retW S hr hlk rfl rfl hP hD hS dX5_forge_45
    · replace h := if_t c4 h
      refine lv_iconst (v := (-1)) hx hb dX5_forge_15 (by decide) ?_
      obtain rfl := Option.some.inj h
      exact retW S hr hlk rfl rfl hP hD hS dX5_forge_16
set_option maxHeartbeats 4000000 in
set_option maxRecDepth 100000 in
theorem c_X5_mend (l : Launch) (G : gG) (mqa mqs mqp mqn mqx mqm : Nat) (pas : Int32) (misk : Int32) (len : Int32) (spo : Int32) (kin : Int32) (cam : Int32) (fst : Int32) (lst : Int32) (inr : Int32) (fs : Nat → Int32) (fp : Nat → Int32) (fn : Nat → Int32) (fx : Nat → Int32) (fm : Nat → Int32) (p1 : Int32) (sz : Nat) (res : Int32 × Int32 × (Nat → Int32) × (Nat → Int32)) (h : F_X5_mend pas fs fp p1 = some res) : WrM l G yX5_mend cX5_mend 3 (some .int) (rmk 2 43) [(mqa, .inr (5, [.ref mqs, .ref mqp, .int pas, .ref mqn, .int misk, .ref mqx, .int len, .ref mqm, .int spo, .int kin, .int cam, .int fst, .int lst, .int inr])), (mqs, .inl (G.2.2.1, 65, .inl fs)), (mqp, .inl (G.2.2.1, 260, .inl fp)), (mqn, .inl (G.2.2.1, 65, .inl fn)), (mqx, .inl (G.2.1, 80, .inl fx)), (mqm, .inl (G.2.2.1, 24, .inl fm))] sz [.ref mqa, .int p1] (some res.1) [(mqa, .inr (5, [.ref mqs, .ref mqp, .int res.2.1, .ref mqn, .int misk, .ref mqx, .int len, .ref mqm, .int spo, .int kin, .int cam, .int fst, .int lst, .int inr])), (mqs, .inl (G.2.2.1, 65, .inl res.2.2.1)), (mqp, .inl (G.2.2.1, 260, .inl res.2.2.2)), (mqn, .inl (G.2.2.1, 65, .inl fn)), (mqx, .inl (G.2.1, 80, .inl fx)), (mqm, .inl (G.2.2.1, 24, .inl fm))] := by
  refine ofWr (by decide) (Nat.le_of_ble_eq_true rfl) ?_
  intro p e s m below meth c ls A S hr hlk hK hP hD hS hA hl
  have S : CallFix p m c cX5_mend 3 s ([.ref mqa, .int p1] : List Value).toArray T0 RX5 := S
  obtain ⟨hx, hb, hml, hown, hts⟩ := id S
  have hl : lv_has ls 3 [(0, .ref mqa), (1, .int p1)] := hl
  rw [F_X5_mend] at h
  refine lv_aload_n hx hb dX5_mend_0 rfl (lv_at hl 0 rfl) ?_
  refine lv_iload_n hx hb dX5_mend_1 rfl (lv_at hl 1 rfl) ?_
  obtain ⟨r1, hr1, h⟩ := bd_t h
  refine rdV (As := [.int p1]) (rest := []) S hK (c_X5_isTicket l G mqa mqs mqp mqn mqx mqm pas misk len spo kin cam fst lst inr fs fp fn fx fm p1 r1 hr1) mX5_isTicket q765 ⟨rfl, rfl, Nat.le_of_ble_eq_true rfl, Nat.le_of_ble_eq_true rfl⟩ hP rfl rfl rfl rfl hl.1 (Nat.le_of_ble_eq_true rfl) ⟨Nat.le_refl 0, Nat.le_refl 0⟩ dX5_mend_2 ?_
  refine lv_if_ne (tgt := 10) hx hb dX5_mend_5 (by decide) (fun c2 => ?_) (fun c2 => ?_)
  · replace h := if_f c2 h
    refine lv_aload_n hx hb dX5_mend_10 rfl (lv_at hl 0 rfl) ?_
    refine lv_iload_n hx hb dX5_mend_11 rfl (lv_at hl 1 rfl) ?_
    obtain ⟨r3, hr3, h⟩ := bd_t h
    refine rdV (As := [.int p1]) (rest := []) S hK (c_X5_isFalse l G mqa mqs mqp mqn mqx mqm pas misk len spo kin cam fst lst inr fs fp fn fx fm p1 r3 hr3) mX5_isFalse q773 ⟨rfl, rfl, Nat.le_of_ble_eq_true rfl, Nat.le_of_ble_eq_true rfl⟩ hP rfl rfl rfl rfl hl.1 (Nat.le_of_ble_eq_true rfl) ⟨Nat.le_refl 0, Nat.le_refl 0⟩ dX5_mend_12 ?_
    refine lv_if_ne (tgt := 21) hx hb dX5_mend_15 (by decide) (fun c4 => ?_) (fun c4 => ?_)
    · replace h := if_f c4 h
      refine lv_aload_n hx hb dX5_mend_21 rfl (lv_at hl 0 rfl) ?_
      obtain ⟨r5, hr5, h⟩ := bd_t h
      refine wrV (As := []) (rest := []) (ws := [(mqa, .inr (5, [.ref mqs, .ref mqp, .int pas, .ref mqn, .int misk, .ref mqx, .int len, .ref mqm, .int spo, .int kin, .int cam, .int fst, .int lst, .int inr])), (mqs, .inl (G.2.2.1, 65, .inl fs)), (mqp, .inl (G.2.2.1, 260, .inl fp)), (mqn, .inl (G.2.2.1, 65, .inl fn)), (mqx, .inl (G.2.1, 80, .inl fx)), (mqm, .inl (G.2.2.1, 24, .inl fm))]) (wr := []) (ws' := [(mqa, .inr (5, [.ref mqs, .ref mqp, .int r5.1, .ref mqn, .int misk, .ref mqx, .int len, .ref mqm, .int spo, .int kin, .int cam, .int fst, .int lst, .int inr])), (mqs, .inl (G.2.2.1, 65, .inl fs)), (mqp, .inl (G.2.2.1, 260, .inl r5.2)), (mqn, .inl (G.2.2.1, 65, .inl fn)), (mqx, .inl (G.2.1, 80, .inl fx)), (mqm, .inl (G.2.2.1, 24, .inl fm))]) (ws1 := [(mqa, .inr (5, [.ref mqs, .ref mqp, .int r5.1, .ref mqn, .int misk, .ref mqx, .int len, .ref mqm, .int spo, .int kin, .int cam, .int fst, .int lst, .int inr])), (mqs, .inl (G.2.2.1, 65, .inl fs)), (mqp, .inl (G.2.2.1, 260, .inl r5.2)), (mqn, .inl (G.2.2.1, 65, .inl fn)), (mqx, .inl (G.2.1, 80, .inl fx)), (mqm, .inl (G.2.2.1, 24, .inl fm))]) S hK (c_X5_records l G mqa mqs mqp mqn mqx mqm pas misk len spo kin cam fst lst inr fs fp fn fx fm _ r5 hr5) mX5_records q689 ⟨rfl, rfl, Nat.le_of_ble_eq_true rfl, Nat.le_of_ble_eq_true rfl⟩ hP hD hS hA [0, 1, 2, 3, 4, 5] [] [0, 1, 2, 3, 4, 5] rfl rfl (by decide) (by decide) (by decide) rfl (by decide) rfl rfl rfl rfl hl.1 (Nat.le_of_ble_eq_true rfl) ⟨Nat.le_refl 0, Nat.le_refl 0⟩ dX5_mend_22 (fun H locs hP hD hS => ?_)
      refine lv_aload_n hx hb dX5_mend_25 rfl (lv_at hl 0 rfl) ?_
      refine gf S hK iX5 hP 0 rfl rfl 0 (by decide) q636 rfl dX5_mend_26 ?_
      refine lv_bipush (v := 25) hx hb dX5_mend_29 (by decide) ?_
      refine lv_iload_n hx hb dX5_mend_31 rfl (lv_at hl 1 rfl) ?_
      refine lv_iadd hx hb dX5_mend_32 ?_
      obtain ⟨k6, h⟩ := ck_t h
      refine ald S hK hP 1 rfl (ok_vp k6) dX5_mend_33 ?_
      refine lv_aload_n hx hb dX5_mend_34 rfl (lv_at hl 0 rfl) ?_
      refine gf S hK iX5 hP 0 rfl rfl 0 (by decide) q636 rfl dX5_mend_35 ?_
      refine lv_bipush (v := 37) hx hb dX5_mend_38 (by decide) ?_
      refine lv_iload_n hx hb dX5_mend_40 rfl (lv_at hl 1 rfl) ?_
      refine lv_iadd hx hb dX5_mend_41 ?_
      obtain ⟨k7, h⟩ := ck_t h
      refine ald S hK hP 1 rfl (ok_vp k7) dX5_mend_42 ?_
      refine lv_ixor hx hb dX5_mend_43 ?_
      refine lv_topi (fun v8 ev8 => ?_)
      replace h := nmd_t ev8 h
      obtain ⟨r9, hr9, h⟩ := bd_t h
      refine rdS (As := [.int v8]) (rest := []) S hK (c_X5_ones l G v8 r9 hr9) mX5_ones q758 ⟨rfl, rfl, Nat.le_of_ble_eq_true rfl, Nat.le_of_ble_eq_true rfl⟩ (ws_nil G.1 _) rfl hl.1 (Nat.le_of_ble_eq_true rfl) ⟨Nat.le_refl 0, Nat.le_refl 0⟩ dX5_mend_44 ?_
      refine lv_istore_n (lv' := [(2, .int r9), (0, .ref mqa), (1, .int p1)]) hx hb dX5_mend_47 rfl hl (by decide) rfl (fun ls hl => ?_)
      refine lv_aload_n hx hb dX5_mend_48 rfl (lv_at hl 1 rfl) ?_
      refine gf S hK iX5 hP 0 rfl rfl 0 (by decide) q636 rfl dX5_mend_49 ?_
      refine lv_bipush (v := 25) hx hb dX5_mend_52 (by decide) ?_
      refine lv_iload_n hx hb dX5_mend_54 rfl (lv_at hl 2 rfl) ?_
      refine lv_iadd hx hb dX5_mend_55 ?_
      refine lv_aload_n hx hb dX5_mend_56 rfl (lv_at hl 1 rfl) ?_
      refine gf S hK iX5 hP 0 rfl rfl 0 (by decide) q636 rfl dX5_mend_57 ?_
      refine lv_bipush (v := 37) hx hb dX5_mend_60 (by decide) ?_
      refine lv_iload_n hx hb dX5_mend_62 rfl (lv_at hl 2 rfl) ?_
      refine lv_iadd hx hb dX5_mend_63 ?_
      obtain ⟨k10, h⟩ := ck_t h
      refine ald S hK hP 1 rfl (ok_vp k10) dX5_mend_64 ?_
      obtain ⟨k11, h⟩ := ck_t h
      refine ast S hK hP hD hS 1 rfl (ok_vp k11) [(mqa, .inr (5, [.ref mqs, .ref mqp, .int r5.1, .ref mqn, .int misk, .ref mqx, .int len, .ref mqm, .int spo, .int kin, .int cam, .int fst, .int lst, .int inr])), (mqs, .inl (G.2.2.1, 65, .inl (upd fs (Int32.toNatClampNeg ((25 : Int32) + p1)) (fs (Int32.toNatClampNeg ((37 : Int32) + p1)))))), (mqp, .inl (G.2.2.1, 260, .inl r5.2)), (mqn, .inl (G.2.2.1, 65, .inl fn)), (mqx, .inl (G.2.1, 80, .inl fx)), (mqm, .inl (G.2.2.1, 24, .inl fm))] rfl dX5_mend_65 (fun H locs hP hD hS => ?_)
      refine lv_iload_n hx hb dX5_mend_66 rfl (lv_at hl 0 rfl) ?_
      obtain rfl := Option.some.inj h
      exact retW S hr hlk rfl rfl hP hD hS dX5_mend_67
    · replace h := if_t c4 h
      refine lv_bipush (v := (-5)) hx hb dX5_mend_18 (by decide) ?_
      obtain rfl := Option.some.inj h
      exact retW S hr hlk rfl rfl hP hD hS dX5_mend_20
  · replace h := if_t c2 h
    refine lv_iconst (v := (-1)) hx hb dX5_mend_8 (by decide) ?_
    obtain rfl := Option.some.inj h
    exact retW S hr hlk rfl rfl hP hD hS dX5_mend_9
set_option maxHeartbeats 4000000 in
set_option maxRecDepth 100000 in
theorem c_X5_turn (l : Launch) (G : gG) (mqa mqs mqp mqn mqx mqm : Nat) (pas : Int32) (misk : Int32) (len : Int32) (spo : Int32) (kin : Int32) (cam : Int32) (fst : Int32) (lst : Int32) (inr : Int32) (fs : Nat → Int32) (fp : Nat → Int32) (fn : Nat → Int32) (fx : Nat → Int32) (fm : Nat → Int32) (p1 p2 : Int32) (sz : Nat) (res : Int32 × Int32 × (Nat → Int32) × (Nat → Int32)) (h : F_X5_turn pas fs fp p1 p2 = some res) : WrM l G yX5_turn cX5_turn 3 (some .int) (rmk 4 93) [(mqa, .inr (5, [.ref mqs, .ref mqp, .int pas, .ref mqn, .int misk, .ref mqx, .int len, .ref mqm, .int spo, .int kin, .int cam, .int fst, .int lst, .int inr])), (mqs, .inl (G.2.2.1, 65, .inl fs)), (mqp, .inl (G.2.2.1, 260, .inl fp)), (mqn, .inl (G.2.2.1, 65, .inl fn)), (mqx, .inl (G.2.1, 80, .inl fx)), (mqm, .inl (G.2.2.1, 24, .inl fm))] sz [.ref mqa, .int p1, .int p2] (some res.1) [(mqa, .inr (5, [.ref mqs, .ref mqp, .int res.2.1, .ref mqn, .int misk, .ref mqx, .int len, .ref mqm, .int spo, .int kin, .int cam, .int fst, .int lst, .int inr])), (mqs, .inl (G.2.2.1, 65, .inl res.2.2.1)), (mqp, .inl (G.2.2.1, 260, .inl res.2.2.2)), (mqn, .inl (G.2.2.1, 65, .inl fn)), (mqx, .inl (G.2.1, 80, .inl fx)), (mqm, .inl (G.2.2.1, 24, .inl fm))] := by
  refine ofWr (by decide) (Nat.le_of_ble_eq_true rfl) ?_
  intro p e s m below meth c ls A S hr hlk hK hP hD hS hA hl
  have S : CallFix p m c cX5_turn 3 s ([.ref mqa, .int p1, .int p2] : List Value).toArray T0 RX5 := S
  obtain ⟨hx, hb, hml, hown, hts⟩ := id S
  have hl : lv_has ls 3 [(0, .ref mqa), (1, .int p1), (2, .int p2)] := hl
  rw [F_X5_turn] at h
  refine lv_aload_n hx hb dX5_turn_0 rfl (lv_at hl 0 rfl) ?_
  refine lv_iload_n hx hb dX5_turn_1 rfl (lv_at hl 1 rfl) ?_
  obtain ⟨r1, hr1, h⟩ := bd_t h
  refine rdV (As := [.int p1]) (rest := []) S hK (c_X5_isTicket l G mqa mqs mqp mqn mqx mqm pas misk len spo kin cam fst lst inr fs fp fn fx fm p1 r1 hr1) mX5_isTicket q765 ⟨rfl, rfl, Nat.le_of_ble_eq_true rfl, Nat.le_of_ble_eq_true rfl⟩ hP rfl rfl rfl rfl hl.1 (Nat.le_of_ble_eq_true rfl) ⟨Nat.le_refl 0, Nat.le_refl 0⟩ dX5_turn_2 ?_
  refine lv_if_ne (tgt := 10) hx hb dX5_turn_5 (by decide) (fun c2 => ?_) (fun c2 => ?_)
  · replace h := if_f c2 h
    refine lv_iload_n hx hb dX5_turn_10 rfl (lv_at hl 2 rfl) ?_
    obtain ⟨r3, hr3, h⟩ := bd_t h
    refine rdS (As := [.int p2]) (rest := []) S hK (c_X5_isPower l G p2 r3 hr3) mX5_isPower q785 ⟨rfl, rfl, Nat.le_of_ble_eq_true rfl, Nat.le_of_ble_eq_true rfl⟩ (ws_nil G.1 _) rfl hl.1 (Nat.le_of_ble_eq_true rfl) ⟨Nat.le_refl 0, Nat.le_refl 0⟩ dX5_turn_11 ?_
    refine lv_if_ne (tgt := 20) hx hb dX5_turn_14 (by decide) (fun c4 => ?_) (fun c4 => ?_)
    · replace h := if_f c4 h
      refine lv_aload_n hx hb dX5_turn_20 rfl (lv_at hl 0 rfl) ?_
      refine lv_iload_n hx hb dX5_turn_21 rfl (lv_at hl 2 rfl) ?_
      obtain ⟨r5, hr5, h⟩ := bd_t h
      refine rdV (As := [.int p2]) (rest := []) S hK (c_X5_forward l G mqa mqs mqp mqn mqx mqm pas misk len spo kin cam fst lst inr fs fp fn fx fm p2 r5 hr5) mX5_forward q788 ⟨rfl, rfl, Nat.le_of_ble_eq_true rfl, Nat.le_of_ble_eq_true rfl⟩ hP rfl rfl rfl rfl hl.1 (Nat.le_of_ble_eq_true rfl) ⟨Nat.le_refl 0, Nat.le_refl 0⟩ dX5_turn_22 ?_
      refine lv_if_ne (tgt := 31) hx hb dX5_turn_25 (by decide) (fun c6 => ?_) (fun c6 => ?_)
      · replace h := if_f c6 h
        refine lv_aload_n hx hb dX5_turn_31 rfl (lv_at hl 0 rfl) ?_
        obtain ⟨r7, hr7, h⟩ := bd_t h
        refine wrV (As := []) (rest := []) (ws := [(mqa, .inr (5, [.ref mqs, .ref mqp, .int pas, .ref mqn, .int misk, .ref mqx, .int len, .ref mqm, .int spo, .int kin, .int cam, .int fst, .int lst, .int inr])), (mqs, .inl (G.2.2.1, 65, .inl fs)), (mqp, .inl (G.2.2.1, 260, .inl fp)), (mqn, .inl (G.2.2.1, 65, .inl fn)), (mqx, .inl (G.2.1, 80, .inl fx)), (mqm, .inl (G.2.2.1, 24, .inl fm))]) (wr := []) (ws' := [(mqa, .inr (5, [.ref mqs, .ref mqp, .int r7.1, .ref mqn, .int misk, .ref mqx, .int len, .ref mqm, .int spo, .int kin, .int cam, .int fst, .int lst, .int inr])), (mqs, .inl (G.2.2.1, 65, .inl fs)), (mqp, .inl (G.2.2.1, 260, .inl r7.2)), (mqn, .inl (G.2.2.1, 65, .inl fn)), (mqx, .inl (G.2.1, 80, .inl fx)), (mqm, .inl (G.2.2.1, 24, .inl fm))]) (ws1 := [(mqa, .inr (5, [.ref mqs, .ref mqp, .int r7.1, .ref mqn, .int misk, .ref mqx, .int len, .ref mqm, .int spo, .int kin, .int cam, .int fst, .int lst, .int inr])), (mqs, .inl (G.2.2.1, 65, .inl fs)), (mqp, .inl (G.2.2.1, 260, .inl r7.2)), (mqn, .inl (G.2.2.1, 65, .inl fn)), (mqx, .inl (G.2.1, 80, .inl fx)), (mqm, .inl (G.2.2.1, 24, .inl fm))]) S hK (c_X5_records l G mqa mqs mqp mqn mqx mqm pas misk len spo kin cam fst lst inr fs fp fn fx fm _ r7 hr7) mX5_records q689 ⟨rfl, rfl, Nat.le_of_ble_eq_true rfl, Nat.le_of_ble_eq_true rfl⟩ hP hD hS hA [0, 1, 2, 3, 4, 5] [] [0, 1, 2, 3, 4, 5] rfl rfl (by decide) (by decide) (by decide) rfl (by decide) rfl rfl rfl rfl hl.1 (Nat.le_of_ble_eq_true rfl) ⟨Nat.le_refl 0, Nat.le_refl 0⟩ dX5_turn_32 (fun H locs hP hD hS => ?_)
        refine lv_aload_n hx hb dX5_turn_35 rfl (lv_at hl 0 rfl) ?_
        refine lv_iload_n hx hb dX5_turn_36 rfl (lv_at hl 1 rfl) ?_
        refine lv_iload_n hx hb dX5_turn_37 rfl (lv_at hl 2 rfl) ?_
        obtain ⟨r8, hr8, h⟩ := bd_t h
        refine wrV (As := [.int p1, .int p2]) (rest := []) (ws := [(mqa, .inr (5, [.ref mqs, .ref mqp, .int r7.1, .ref mqn, .int misk, .ref mqx, .int len, .ref mqm, .int spo, .int kin, .int cam, .int fst, .int lst, .int inr])), (mqs, .inl (G.2.2.1, 65, .inl fs)), (mqp, .inl (G.2.2.1, 260, .inl r7.2)), (mqn, .inl (G.2.2.1, 65, .inl fn)), (mqx, .inl (G.2.1, 80, .inl fx)), (mqm, .inl (G.2.2.1, 24, .inl fm))]) (wr := []) (ws' := [(mqa, .inr (5, [.ref mqs, .ref mqp, .int r7.1, .ref mqn, .int misk, .ref mqx, .int len, .ref mqm, .int spo, .int kin, .int cam, .int fst, .int lst, .int inr])), (mqs, .inl (G.2.2.1, 65, .inl r8)), (mqp, .inl (G.2.2.1, 260, .inl r7.2)), (mqn, .inl (G.2.2.1, 65, .inl fn)), (mqx, .inl (G.2.1, 80, .inl fx)), (mqm, .inl (G.2.2.1, 24, .inl fm))]) (ws1 := [(mqa, .inr (5, [.ref mqs, .ref mqp, .int r7.1, .ref mqn, .int misk, .ref mqx, .int len, .ref mqm, .int spo, .int kin, .int cam, .int fst, .int lst, .int inr])), (mqs, .inl (G.2.2.1, 65, .inl r8)), (mqp, .inl (G.2.2.1, 260, .inl r7.2)), (mqn, .inl (G.2.2.1, 65, .inl fn)), (mqx, .inl (G.2.1, 80, .inl fx)), (mqm, .inl (G.2.2.1, 24, .inl fm))]) S hK (c_X5_turns l G mqa mqs mqp mqn mqx mqm r7.1 misk len spo kin cam fst lst inr fs r7.2 fn fx fm p1 p2 _ r8 hr8) mX5_turns q792 ⟨rfl, rfl, Nat.le_of_ble_eq_true rfl, Nat.le_of_ble_eq_true rfl⟩ hP hD hS hA [0, 1, 2, 3, 4, 5] [] [0, 1, 2, 3, 4, 5] rfl rfl (by decide) (by decide) (by decide) rfl (by decide) rfl rfl rfl rfl hl.1 (Nat.le_of_ble_eq_true rfl) ⟨Nat.le_refl 0, Nat.le_refl 0⟩ dX5_turn_38 (fun H locs hP hD hS => ?_)
        refine lv_aload_n hx hb dX5_turn_41 rfl (lv_at hl 0 rfl) ?_
        refine gf S hK iX5 hP 0 rfl rfl 0 (by decide) q636 rfl dX5_turn_42 ?_
        refine lv_bipush (v := 25) hx hb dX5_turn_45 (by decide) ?_
        refine lv_iload_n hx hb dX5_turn_47 rfl (lv_at hl 1 rfl) ?_
        refine lv_iadd hx hb dX5_turn_48 ?_
        obtain ⟨k9, h⟩ := ck_t h
        refine ald S hK hP 1 rfl (ok_vp k9) dX5_turn_49 ?_
        obtain rfl := Option.some.inj h
        exact retW S hr hlk rfl rfl hP hD hS dX5_turn_50
      · replace h := if_t c6 h
        refine lv_bipush (v := (-5)) hx hb dX5_turn_28 (by decide) ?_
        obtain rfl := Option.some.inj h
        exact retW S hr hlk rfl rfl hP hD hS dX5_turn_30
    · replace h := if_t c4 h
      refine lv_bipush (v := (-2)) hx hb dX5_turn_17 (by decide) ?_
      obtain rfl := Option.some.inj h
      exact retW S hr hlk rfl rfl hP hD hS dX5_turn_19
  · replace h := if_t c2 h
    refine lv_iconst (v := (-1)) hx hb dX5_turn_8 (by decide) ?_
    obtain rfl := Option.some.inj h
    exact retW S hr hlk rfl rfl hP hD hS dX5_turn_9
set_option maxHeartbeats 4000000 in
set_option maxRecDepth 100000 in
theorem c_X5_stack (l : Launch) (G : gG) (mqa mqs mqp mqn mqx mqm : Nat) (pas : Int32) (misk : Int32) (len : Int32) (spo : Int32) (kin : Int32) (cam : Int32) (fst : Int32) (lst : Int32) (inr : Int32) (fs : Nat → Int32) (fp : Nat → Int32) (fn : Nat → Int32) (fx : Nat → Int32) (fm : Nat → Int32) (p1 p2 : Int32) (sz : Nat) (res : Int32 × Int32 × (Nat → Int32) × (Nat → Int32)) (h : F_X5_stack pas fs fp p1 p2 = some res) : WrM l G yX5_stack cX5_stack 3 (some .int) (rmk 2 43) [(mqa, .inr (5, [.ref mqs, .ref mqp, .int pas, .ref mqn, .int misk, .ref mqx, .int len, .ref mqm, .int spo, .int kin, .int cam, .int fst, .int lst, .int inr])), (mqs, .inl (G.2.2.1, 65, .inl fs)), (mqp, .inl (G.2.2.1, 260, .inl fp)), (mqn, .inl (G.2.2.1, 65, .inl fn)), (mqx, .inl (G.2.1, 80, .inl fx)), (mqm, .inl (G.2.2.1, 24, .inl fm))] sz [.ref mqa, .int p1, .int p2] (some res.1) [(mqa, .inr (5, [.ref mqs, .ref mqp, .int res.2.1, .ref mqn, .int misk, .ref mqx, .int len, .ref mqm, .int spo, .int kin, .int cam, .int fst, .int lst, .int inr])), (mqs, .inl (G.2.2.1, 65, .inl res.2.2.1)), (mqp, .inl (G.2.2.1, 260, .inl res.2.2.2)), (mqn, .inl (G.2.2.1, 65, .inl fn)), (mqx, .inl (G.2.1, 80, .inl fx)), (mqm, .inl (G.2.2.1, 24, .inl fm))] := by
  refine ofWr (by decide) (Nat.le_of_ble_eq_true rfl) ?_
  intro p e s m below meth c ls A S hr hlk hK hP hD hS hA hl
  have S : CallFix p m c cX5_stack 3 s ([.ref mqa, .int p1, .int p2] : List Value).toArray T0 RX5 := S
  obtain ⟨hx, hb, hml, hown, hts⟩ := id S
  have hl : lv_has ls 3 [(0, .ref mqa), (1, .int p1), (2, .int p2)] := hl
  rw [F_X5_stack] at h
  refine lv_aload_n hx hb dX5_stack_0 rfl (lv_at hl 0 rfl) ?_
  refine lv_iload_n hx hb dX5_stack_1 rfl (lv_at hl 1 rfl) ?_
  obtain ⟨r1, hr1, h⟩ := bd_t h
  refine rdV (As := [.int p1]) (rest := []) S hK (c_X5_isTicket l G mqa mqs mqp mqn mqx mqm pas misk len spo kin cam fst lst inr fs fp fn fx fm p1 r1 hr1) mX5_isTicket q765 ⟨rfl, rfl, Nat.le_of_ble_eq_true rfl, Nat.le_of_ble_eq_true rfl⟩ hP rfl rfl rfl rfl hl.1 (Nat.le_of_ble_eq_true rfl) ⟨Nat.le_refl 0, Nat.le_refl 0⟩ dX5_stack_2 ?_
  refine lv_if_ne (tgt := 10) hx hb dX5_stack_5 (by decide) (fun c2 => ?_) (fun c2 => ?_)
  · replace h := if_f c2 h
    refine lv_aload_n hx hb dX5_stack_10 rfl (lv_at hl 0 rfl) ?_
    refine lv_iload_n hx hb dX5_stack_11 rfl (lv_at hl 1 rfl) ?_
    obtain ⟨r3, hr3, h⟩ := bd_t h
    refine rdV (As := [.int p1]) (rest := []) S hK (c_X5_isOn l G mqa mqs mqp mqn mqx mqm pas misk len spo kin cam fst lst inr fs fp fn fx fm p1 r3 hr3) mX5_isOn q808 ⟨rfl, rfl, Nat.le_of_ble_eq_true rfl, Nat.le_of_ble_eq_true rfl⟩ hP rfl rfl rfl rfl hl.1 (Nat.le_of_ble_eq_true rfl) ⟨Nat.le_refl 0, Nat.le_refl 0⟩ dX5_stack_12 ?_
    refine lv_iload_n hx hb dX5_stack_15 rfl (lv_at hl 2 rfl) ?_
    refine lv_icmp_ne (tgt := 22) hx hb dX5_stack_16 (by decide) (fun c4 => ?_) (fun c4 => ?_)
    · replace h := if_f c4 h
      refine lv_aload_n hx hb dX5_stack_22 rfl (lv_at hl 0 rfl) ?_
      obtain ⟨r5, hr5, h⟩ := bd_t h
      refine wrV (As := []) (rest := []) (ws := [(mqa, .inr (5, [.ref mqs, .ref mqp, .int pas, .ref mqn, .int misk, .ref mqx, .int len, .ref mqm, .int spo, .int kin, .int cam, .int fst, .int lst, .int inr])), (mqs, .inl (G.2.2.1, 65, .inl fs)), (mqp, .inl (G.2.2.1, 260, .inl fp)), (mqn, .inl (G.2.2.1, 65, .inl fn)), (mqx, .inl (G.2.1, 80, .inl fx)), (mqm, .inl (G.2.2.1, 24, .inl fm))]) (wr := []) (ws' := [(mqa, .inr (5, [.ref mqs, .ref mqp, .int r5.1, .ref mqn, .int misk, .ref mqx, .int len, .ref mqm, .int spo, .int kin, .int cam, .int fst, .int lst, .int inr])), (mqs, .inl (G.2.2.1, 65, .inl fs)), (mqp, .inl (G.2.2.1, 260, .inl r5.2)), (mqn, .inl (G.2.2.1, 65, .inl fn)), (mqx, .inl (G.2.1, 80, .inl fx)), (mqm, .inl (G.2.2.1, 24, .inl fm))]) (ws1 := [(mqa, .inr (5, [.ref mqs, .ref mqp, .int r5.1, .ref mqn, .int misk, .ref mqx, .int len, .ref mqm, .int spo, .int kin, .int cam, .int fst, .int lst, .int inr])), (mqs, .inl (G.2.2.1, 65, .inl fs)), (mqp, .inl (G.2.2.1, 260, .inl r5.2)), (mqn, .inl (G.2.2.1, 65, .inl fn)), (mqx, .inl (G.2.1, 80, .inl fx)), (mqm, .inl (G.2.2.1, 24, .inl fm))]) S hK (c_X5_records l G mqa mqs mqp mqn mqx mqm pas misk len spo kin cam fst lst inr fs fp fn fx fm _ r5 hr5) mX5_records q689 ⟨rfl, rfl, Nat.le_of_ble_eq_true rfl, Nat.le_of_ble_eq_true rfl⟩ hP hD hS hA [0, 1, 2, 3, 4, 5] [] [0, 1, 2, 3, 4, 5] rfl rfl (by decide) (by decide) (by decide) rfl (by decide) rfl rfl rfl rfl hl.1 (Nat.le_of_ble_eq_true rfl) ⟨Nat.le_refl 0, Nat.le_refl 0⟩ dX5_stack_23 (fun H locs hP hD hS => ?_)
      refine lv_aload_n hx hb dX5_stack_26 rfl (lv_at hl 0 rfl) ?_
      refine gf S hK iX5 hP 0 rfl rfl 0 (by decide) q636 rfl dX5_stack_27 ?_
      refine lv_bipush (v := 49) hx hb dX5_stack_30 (by decide) ?_
      refine lv_dup2_11 hx hb dX5_stack_32 rfl rfl ?_
      obtain ⟨k6, h⟩ := ck_t h
      refine ald S hK hP 1 rfl (ok_vp k6) dX5_stack_33 ?_
      refine lv_iconst (v := 1) hx hb dX5_stack_34 (by decide) ?_
      refine lv_iload_n hx hb dX5_stack_35 rfl (lv_at hl 1 rfl) ?_
      refine lv_ishl hx hb dX5_stack_36 ?_
      refine lv_ixor hx hb dX5_stack_37 ?_
      refine lv_topi (fun v7 ev7 => ?_)
      replace h := nmd_t ev7 h
      obtain ⟨k8, h⟩ := ck_t h
      refine ast S hK hP hD hS 1 rfl (ok_vp k8) [(mqa, .inr (5, [.ref mqs, .ref mqp, .int r5.1, .ref mqn, .int misk, .ref mqx, .int len, .ref mqm, .int spo, .int kin, .int cam, .int fst, .int lst, .int inr])), (mqs, .inl (G.2.2.1, 65, .inl (upd fs (Int32.toNatClampNeg (49 : Int32)) v7))), (mqp, .inl (G.2.2.1, 260, .inl r5.2)), (mqn, .inl (G.2.2.1, 65, .inl fn)), (mqx, .inl (G.2.1, 80, .inl fx)), (mqm, .inl (G.2.2.1, 24, .inl fm))] rfl dX5_stack_38 (fun H locs hP hD hS => ?_)
      refine lv_aload_n hx hb dX5_stack_39 rfl (lv_at hl 0 rfl) ?_
      refine gf S hK iX5 hP 0 rfl rfl 0 (by decide) q636 rfl dX5_stack_40 ?_
      refine lv_bipush (v := 49) hx hb dX5_stack_43 (by decide) ?_
      obtain ⟨k9, h⟩ := ck_t h
      refine ald S hK hP 1 rfl (ok_vp k9) dX5_stack_45 ?_
      refine lv_topi (fun v10 ev10 => ?_)
      replace h := nmd_t ev10 h
      obtain ⟨r11, hr11, h⟩ := bd_t h
      refine rdS (As := [.int v10]) (rest := []) S hK (c_X5_ones l G v10 r11 hr11) mX5_ones q758 ⟨rfl, rfl, Nat.le_of_ble_eq_true rfl, Nat.le_of_ble_eq_true rfl⟩ (ws_nil G.1 _) rfl hl.1 (Nat.le_of_ble_eq_true rfl) ⟨Nat.le_refl 0, Nat.le_refl 0⟩ dX5_stack_46 ?_
      obtain rfl := Option.some.inj h
      exact retW S hr hlk rfl rfl hP hD hS dX5_stack_49
    · replace h := if_t c4 h
      refine lv_bipush (v := (-5)) hx hb dX5_stack_19 (by decide) ?_
      obtain rfl := Option.some.inj h
      exact retW S hr hlk rfl rfl hP hD hS dX5_stack_21
  · replace h := if_t c2 h
    refine lv_iconst (v := (-1)) hx hb dX5_stack_8 (by decide) ?_
    obtain rfl := Option.some.inj h
    exact retW S hr hlk rfl rfl hP hD hS dX5_stack_9
set_option maxHeartbeats 4000000 in
set_option maxRecDepth 100000 in
theorem c_X5_turnStack (l : Launch) (G : gG) (mqa mqs mqp mqn mqx mqm : Nat) (pas : Int32) (misk : Int32) (len : Int32) (spo : Int32) (kin : Int32) (cam : Int32) (fst : Int32) (lst : Int32) (inr : Int32) (fs : Nat → Int32) (fp : Nat → Int32) (fn : Nat → Int32) (fx : Nat → Int32) (fm : Nat → Int32) (p1 : Int32) (sz : Nat) (res : Int32 × Int32 × (Nat → Int32) × (Nat → Int32)) (h : F_X5_turnStack pas fs fp p1 = some res) : WrM l G yX5_turnStack cX5_turnStack 3 (some .int) (rmk 4 93) [(mqa, .inr (5, [.ref mqs, .ref mqp, .int pas, .ref mqn, .int misk, .ref mqx, .int len, .ref mqm, .int spo, .int kin, .int cam, .int fst, .int lst, .int inr])), (mqs, .inl (G.2.2.1, 65, .inl fs)), (mqp, .inl (G.2.2.1, 260, .inl fp)), (mqn, .inl (G.2.2.1, 65, .inl fn)), (mqx, .inl (G.2.1, 80, .inl fx)), (mqm, .inl (G.2.2.1, 24, .inl fm))] sz [.ref mqa, .int p1] (some res.1) [(mqa, .inr (5, [.ref mqs, .ref mqp, .int res.2.1, .ref mqn, .int misk, .ref mqx, .int len, .ref mqm, .int spo, .int kin, .int cam, .int fst, .int lst, .int inr])), (mqs, .inl (G.2.2.1, 65, .inl res.2.2.1)), (mqp, .inl (G.2.2.1, 260, .inl res.2.2.2)), (mqn, .inl (G.2.2.1, 65, .inl fn)), (mqx, .inl (G.2.1, 80, .inl fx)), (mqm, .inl (G.2.2.1, 24, .inl fm))] := by
  refine ofWr (by decide) (Nat.le_of_ble_eq_true rfl) ?_
  intro p e s m below meth c ls A S hr hlk hK hP hD hS hA hl
  have S : CallFix p m c cX5_turnStack 3 s ([.ref mqa, .int p1] : List Value).toArray T0 RX5 := S
  obtain ⟨hx, hb, hml, hown, hts⟩ := id S
  have hl : lv_has ls 3 [(0, .ref mqa), (1, .int p1)] := hl
  have L37 : ∀ (n : Nat) (x1 x2 : Int32) (pas : Int32) (fs : Nat → Int32) (fp : Nat → Int32), F_X5_turnStack_37 n x1 x2 pas fs fp = some res → ∀ (H : Heap) (locs : List Loc), va_P G.1 vwCl [(mqa, .inr (5, [.ref mqs, .ref mqp, .int pas, .ref mqn, .int misk, .ref mqx, .int len, .ref mqm, .int spo, .int kin, .int cam, .int fst, .int lst, .int inr])), (mqs, .inl (G.2.2.1, 65, .inl fs)), (mqp, .inl (G.2.2.1, 260, .inl fp)), (mqn, .inl (G.2.2.1, 65, .inl fn)), (mqx, .inl (G.2.1, 80, .inl fx)), (mqm, .inl (G.2.2.1, 24, .inl fm))] H → va_D A [(mqa, .inr (5, [.ref mqs, .ref mqp, .int pas, .ref mqn, .int misk, .ref mqx, .int len, .ref mqm, .int spo, .int kin, .int cam, .int fst, .int lst, .int inr])), (mqs, .inl (G.2.2.1, 65, .inl fs)), (mqp, .inl (G.2.2.1, 260, .inl fp)), (mqn, .inl (G.2.2.1, 65, .inl fn)), (mqx, .inl (G.2.1, 80, .inl fx)), (mqm, .inl (G.2.2.1, 24, .inl fm))] → va_S A s.heap H locs → ∀ (ls : Array Slot), lv_has ls 3 [(0, .ref mqa), (1, .int x1), (2, .int x2)] → W p l e (rmk 4 93) s m ([.ref mqa, .int p1] : List Value).toArray below meth c H locs 0 0 (MQ below (gQw G (some res.1) [(mqa, .inr (5, [.ref mqs, .ref mqp, .int res.2.1, .ref mqn, .int misk, .ref mqx, .int len, .ref mqm, .int spo, .int kin, .int cam, .int fst, .int lst, .int inr])), (mqs, .inl (G.2.2.1, 65, .inl res.2.2.1)), (mqp, .inl (G.2.2.1, 260, .inl res.2.2.2)), (mqn, .inl (G.2.2.1, 65, .inl fn)), (mqx, .inl (G.2.1, 80, .inl fx)), (mqm, .inl (G.2.2.1, 24, .inl fm))] A) ([.ref mqa, .int p1] : List Value).toArray s 0 0 A) (F0 m 37 ls []) := by
    intro n
    induction n with
    | zero => intro x1 x2 pas fs fp h; exact absurd (show (none : Option (Int32 × Int32 × (Nat → Int32) × (Nat → Int32))) = some res from h) (fun q => by cases q)
    | succ n ih =>
      intro x1 x2 pas fs fp h H locs hP hD hS ls hl
      rw [F_X5_turnStack_37] at h
      refine lv_iload_n hx hb dX5_turnStack_37 rfl (lv_at hl 2 rfl) ?_
      refine lv_aload_n hx hb dX5_turnStack_38 rfl (lv_at hl 0 rfl) ?_
      refine gf S hK iX5 hP 0 rfl rfl 0 (by decide) q636 rfl dX5_turnStack_39 ?_
      refine lv_bipush (v := 24) hx hb dX5_turnStack_42 (by decide) ?_
      obtain ⟨k8, h⟩ := ck_t h
      refine ald S hK hP 1 rfl (ok_vp k8) dX5_turnStack_44 ?_
      refine lv_icmp_ge (tgt := 68) hx hb dX5_turnStack_45 (by decide) (fun c9 => ?_) (fun c9 => ?_)
      · replace h := if_t c9 h
        refine lv_aload_n hx hb dX5_turnStack_68 rfl (lv_at hl 0 rfl) ?_
        refine gf S hK iX5 hP 0 rfl rfl 0 (by decide) q636 rfl dX5_turnStack_69 ?_
        refine lv_bipush (v := 49) hx hb dX5_turnStack_72 (by decide) ?_
        obtain ⟨k10, h⟩ := ck_t h
        refine ald S hK hP 1 rfl (ok_vp k10) dX5_turnStack_74 ?_
        obtain ⟨r11, hr11, h⟩ := bd_t h
        refine rdS (As := [.int (fs (Int32.toNatClampNeg (49 : Int32)))]) (rest := []) S hK (c_X5_ones l G (fs (Int32.toNatClampNeg (49 : Int32))) r11 hr11) mX5_ones q758 ⟨rfl, rfl, Nat.le_of_ble_eq_true rfl, Nat.le_of_ble_eq_true rfl⟩ (ws_nil G.1 _) rfl hl.1 (Nat.le_of_ble_eq_true rfl) ⟨Nat.le_refl 0, Nat.le_refl 0⟩ dX5_turnStack_75 ?_
        obtain rfl := Option.some.inj h
        exact retW S hr hlk rfl rfl hP hD hS dX5_turnStack_78
      · replace h := if_f c9 h
        refine lv_aload_n hx hb dX5_turnStack_48 rfl (lv_at hl 0 rfl) ?_
        refine lv_iload_n hx hb dX5_turnStack_49 rfl (lv_at hl 2 rfl) ?_
        obtain ⟨r12, hr12, h⟩ := bd_t h
        refine rdV (As := [.int x2]) (rest := []) S hK (c_X5_isOn l G mqa mqs mqp mqn mqx mqm pas misk len spo kin cam fst lst inr fs fp fn fx fm x2 r12 hr12) mX5_isOn q808 ⟨rfl, rfl, Nat.le_of_ble_eq_true rfl, Nat.le_of_ble_eq_true rfl⟩ hP rfl rfl rfl rfl hl.1 (Nat.le_of_ble_eq_true rfl) ⟨Nat.le_refl 0, Nat.le_refl 0⟩ dX5_turnStack_50 ?_
        refine lv_if_eq (tgt := 62) hx hb dX5_turnStack_53 (by decide) (fun c13 => ?_) (fun c13 => ?_)
        · replace h := if_t c13 h
          refine lv_iinc (v := x2 + 1) (lv' := [(2, .int (x2 + 1)), (0, .ref mqa), (1, .int x1)]) hx hb dX5_turnStack_62 hl (k := 2) rfl rfl (by decide) rfl (fun ls hl => ?_)
          refine lv_goto (tgt := 37) hx hb dX5_turnStack_65 (by decide) ?_
          exact ih x1 (x2 + 1) pas fs fp h _ _ hP hD hS ls (lv_sub hl [1, 2, 0] rfl)
        · replace h := if_f c13 h
          refine lv_aload_n hx hb dX5_turnStack_56 rfl (lv_at hl 0 rfl) ?_
          refine lv_iload_n hx hb dX5_turnStack_57 rfl (lv_at hl 2 rfl) ?_
          refine lv_iload_n hx hb dX5_turnStack_58 rfl (lv_at hl 1 rfl) ?_
          obtain ⟨r14, hr14, h⟩ := bd_t h
          refine wrV (As := [.int x2, .int x1]) (rest := []) (ws := [(mqa, .inr (5, [.ref mqs, .ref mqp, .int pas, .ref mqn, .int misk, .ref mqx, .int len, .ref mqm, .int spo, .int kin, .int cam, .int fst, .int lst, .int inr])), (mqs, .inl (G.2.2.1, 65, .inl fs)), (mqp, .inl (G.2.2.1, 260, .inl fp)), (mqn, .inl (G.2.2.1, 65, .inl fn)), (mqx, .inl (G.2.1, 80, .inl fx)), (mqm, .inl (G.2.2.1, 24, .inl fm))]) (wr := []) (ws' := [(mqa, .inr (5, [.ref mqs, .ref mqp, .int pas, .ref mqn, .int misk, .ref mqx, .int len, .ref mqm, .int spo, .int kin, .int cam, .int fst, .int lst, .int inr])), (mqs, .inl (G.2.2.1, 65, .inl r14)), (mqp, .inl (G.2.2.1, 260, .inl fp)), (mqn, .inl (G.2.2.1, 65, .inl fn)), (mqx, .inl (G.2.1, 80, .inl fx)), (mqm, .inl (G.2.2.1, 24, .inl fm))]) (ws1 := [(mqa, .inr (5, [.ref mqs, .ref mqp, .int pas, .ref mqn, .int misk, .ref mqx, .int len, .ref mqm, .int spo, .int kin, .int cam, .int fst, .int lst, .int inr])), (mqs, .inl (G.2.2.1, 65, .inl r14)), (mqp, .inl (G.2.2.1, 260, .inl fp)), (mqn, .inl (G.2.2.1, 65, .inl fn)), (mqx, .inl (G.2.1, 80, .inl fx)), (mqm, .inl (G.2.2.1, 24, .inl fm))]) S hK (c_X5_turns l G mqa mqs mqp mqn mqx mqm pas misk len spo kin cam fst lst inr fs fp fn fx fm x2 x1 _ r14 hr14) mX5_turns q792 ⟨rfl, rfl, Nat.le_of_ble_eq_true rfl, Nat.le_of_ble_eq_true rfl⟩ hP hD hS hA [0, 1, 2, 3, 4, 5] [] [0, 1, 2, 3, 4, 5] rfl rfl (by decide) (by decide) (by decide) rfl (by decide) rfl rfl rfl rfl hl.1 (Nat.le_of_ble_eq_true rfl) ⟨Nat.le_refl 0, Nat.le_refl 0⟩ dX5_turnStack_59 (fun H locs hP hD hS => ?_)
          refine lv_iinc (v := x2 + 1) (lv' := [(2, .int (x2 + 1)), (0, .ref mqa), (1, .int x1)]) hx hb dX5_turnStack_62 hl (k := 2) rfl rfl (by decide) rfl (fun ls hl => ?_)
          refine lv_goto (tgt := 37) hx hb dX5_turnStack_65 (by decide) ?_
          exact ih x1 (x2 + 1) pas r14 fp h _ _ hP hD hS ls (lv_sub hl [1, 2, 0] rfl)
  rw [F_X5_turnStack] at h
  refine lv_iload_n hx hb dX5_turnStack_0 rfl (lv_at hl 1 rfl) ?_
  obtain ⟨r1, hr1, h⟩ := bd_t h
  refine rdS (As := [.int p1]) (rest := []) S hK (c_X5_isPower l G p1 r1 hr1) mX5_isPower q785 ⟨rfl, rfl, Nat.le_of_ble_eq_true rfl, Nat.le_of_ble_eq_true rfl⟩ (ws_nil G.1 _) rfl hl.1 (Nat.le_of_ble_eq_true rfl) ⟨Nat.le_refl 0, Nat.le_refl 0⟩ dX5_turnStack_1 ?_
  refine lv_if_ne (tgt := 10) hx hb dX5_turnStack_4 (by decide) (fun c2 => ?_) (fun c2 => ?_)
  · replace h := if_f c2 h
    refine lv_aload_n hx hb dX5_turnStack_10 rfl (lv_at hl 0 rfl) ?_
    refine gf S hK iX5 hP 0 rfl rfl 0 (by decide) q636 rfl dX5_turnStack_11 ?_
    refine lv_bipush (v := 49) hx hb dX5_turnStack_14 (by decide) ?_
    obtain ⟨k3, h⟩ := ck_t h
    refine ald S hK hP 1 rfl (ok_vp k3) dX5_turnStack_16 ?_
    refine lv_if_eq (tgt := 28) hx hb dX5_turnStack_17 (by decide) (fun c4 => ?_) (fun c4 => ?_)
    · replace h := if_t c4 h
      refine lv_bipush (v := (-5)) hx hb dX5_turnStack_28 (by decide) ?_
      obtain rfl := Option.some.inj h
      exact retW S hr hlk rfl rfl hP hD hS dX5_turnStack_30
    · replace h := if_f c4 h
      refine lv_aload_n hx hb dX5_turnStack_20 rfl (lv_at hl 0 rfl) ?_
      refine lv_iload_n hx hb dX5_turnStack_21 rfl (lv_at hl 1 rfl) ?_
      obtain ⟨r5, hr5, h⟩ := bd_t h
      refine rdV (As := [.int p1]) (rest := []) S hK (c_X5_forward l G mqa mqs mqp mqn mqx mqm pas misk len spo kin cam fst lst inr fs fp fn fx fm p1 r5 hr5) mX5_forward q788 ⟨rfl, rfl, Nat.le_of_ble_eq_true rfl, Nat.le_of_ble_eq_true rfl⟩ hP rfl rfl rfl rfl hl.1 (Nat.le_of_ble_eq_true rfl) ⟨Nat.le_refl 0, Nat.le_refl 0⟩ dX5_turnStack_22 ?_
      refine lv_if_ne (tgt := 31) hx hb dX5_turnStack_25 (by decide) (fun c6 => ?_) (fun c6 => ?_)
      · replace h := if_f c6 h
        refine lv_aload_n hx hb dX5_turnStack_31 rfl (lv_at hl 0 rfl) ?_
        obtain ⟨r7, hr7, h⟩ := bd_t h
        refine wrV (As := []) (rest := []) (ws := [(mqa, .inr (5, [.ref mqs, .ref mqp, .int pas, .ref mqn, .int misk, .ref mqx, .int len, .ref mqm, .int spo, .int kin, .int cam, .int fst, .int lst, .int inr])), (mqs, .inl (G.2.2.1, 65, .inl fs)), (mqp, .inl (G.2.2.1, 260, .inl fp)), (mqn, .inl (G.2.2.1, 65, .inl fn)), (mqx, .inl (G.2.1, 80, .inl fx)), (mqm, .inl (G.2.2.1, 24, .inl fm))]) (wr := []) (ws' := [(mqa, .inr (5, [.ref mqs, .ref mqp, .int r7.1, .ref mqn, .int misk, .ref mqx, .int len, .ref mqm, .int spo, .int kin, .int cam, .int fst, .int lst, .int inr])), (mqs, .inl (G.2.2.1, 65, .inl fs)), (mqp, .inl (G.2.2.1, 260, .inl r7.2)), (mqn, .inl (G.2.2.1, 65, .inl fn)), (mqx, .inl (G.2.1, 80, .inl fx)), (mqm, .inl (G.2.2.1, 24, .inl fm))]) (ws1 := [(mqa, .inr (5, [.ref mqs, .ref mqp, .int r7.1, .ref mqn, .int misk, .ref mqx, .int len, .ref mqm, .int spo, .int kin, .int cam, .int fst, .int lst, .int inr])), (mqs, .inl (G.2.2.1, 65, .inl fs)), (mqp, .inl (G.2.2.1, 260, .inl r7.2)), (mqn, .inl (G.2.2.1, 65, .inl fn)), (mqx, .inl (G.2.1, 80, .inl fx)), (mqm, .inl (G.2.2.1, 24, .inl fm))]) S hK (c_X5_records l G mqa mqs mqp mqn mqx mqm pas misk len spo kin cam fst lst inr fs fp fn fx fm _ r7 hr7) mX5_records q689 ⟨rfl, rfl, Nat.le_of_ble_eq_true rfl, Nat.le_of_ble_eq_true rfl⟩ hP hD hS hA [0, 1, 2, 3, 4, 5] [] [0, 1, 2, 3, 4, 5] rfl rfl (by decide) (by decide) (by decide) rfl (by decide) rfl rfl rfl rfl hl.1 (Nat.le_of_ble_eq_true rfl) ⟨Nat.le_refl 0, Nat.le_refl 0⟩ dX5_turnStack_32 (fun H locs hP hD hS => ?_)
        refine lv_iconst (v := 0) hx hb dX5_turnStack_35 (by decide) ?_
        refine lv_istore_n (lv' := [(2, .int 0), (0, .ref mqa), (1, .int p1)]) hx hb dX5_turnStack_36 rfl hl (by decide) rfl (fun ls hl => ?_)
        exact L37 10000 p1 0 r7.1 fs r7.2 h _ _ hP hD hS ls (lv_sub hl [1, 2, 0] rfl)
      · replace h := if_t c6 h
        refine lv_bipush (v := (-5)) hx hb dX5_turnStack_28 (by decide) ?_
        obtain rfl := Option.some.inj h
        exact retW S hr hlk rfl rfl hP hD hS dX5_turnStack_30
  · replace h := if_t c2 h
    refine lv_bipush (v := (-2)) hx hb dX5_turnStack_7 (by decide) ?_
    obtain rfl := Option.some.inj h
    exact retW S hr hlk rfl rfl hP hD hS dX5_turnStack_9
set_option maxHeartbeats 4000000 in
set_option maxRecDepth 100000 in
theorem c_X5_undo (l : Launch) (G : gG) (mqa mqs mqp mqn mqx mqm : Nat) (pas : Int32) (misk : Int32) (len : Int32) (spo : Int32) (kin : Int32) (cam : Int32) (fst : Int32) (lst : Int32) (inr : Int32) (fs : Nat → Int32) (fp : Nat → Int32) (fn : Nat → Int32) (fx : Nat → Int32) (fm : Nat → Int32) (sz : Nat) (res : Int32 × Int32 × (Nat → Int32)) (h : F_X5_undo pas fs fp = some res) : WrM l G yX5_undo cX5_undo 2 (some .int) (rmk 0 0) [(mqa, .inr (5, [.ref mqs, .ref mqp, .int pas, .ref mqn, .int misk, .ref mqx, .int len, .ref mqm, .int spo, .int kin, .int cam, .int fst, .int lst, .int inr])), (mqs, .inl (G.2.2.1, 65, .inl fs)), (mqp, .inl (G.2.2.1, 260, .inl fp)), (mqn, .inl (G.2.2.1, 65, .inl fn)), (mqx, .inl (G.2.1, 80, .inl fx)), (mqm, .inl (G.2.2.1, 24, .inl fm))] sz [.ref mqa] (some res.1) [(mqa, .inr (5, [.ref mqs, .ref mqp, .int res.2.1, .ref mqn, .int misk, .ref mqx, .int len, .ref mqm, .int spo, .int kin, .int cam, .int fst, .int lst, .int inr])), (mqs, .inl (G.2.2.1, 65, .inl res.2.2)), (mqp, .inl (G.2.2.1, 260, .inl fp)), (mqn, .inl (G.2.2.1, 65, .inl fn)), (mqx, .inl (G.2.1, 80, .inl fx)), (mqm, .inl (G.2.2.1, 24, .inl fm))] := by
  refine ofWr (by decide) (Nat.le_of_ble_eq_true rfl) ?_
  intro p e s m below meth c ls A S hr hlk hK hP hD hS hA hl
  have S : CallFix p m c cX5_undo 2 s ([.ref mqa] : List Value).toArray T0 RX5 := S
  obtain ⟨hx, hb, hml, hown, hts⟩ := id S
  have hl : lv_has ls 2 [(0, .ref mqa)] := hl
  have L22 : ∀ (n : Nat) (x1 : Int32) (pas : Int32) (fs : Nat → Int32), F_X5_undo_22 fp n x1 pas fs = some res → ∀ (H : Heap) (locs : List Loc), va_P G.1 vwCl [(mqa, .inr (5, [.ref mqs, .ref mqp, .int pas, .ref mqn, .int misk, .ref mqx, .int len, .ref mqm, .int spo, .int kin, .int cam, .int fst, .int lst, .int inr])), (mqs, .inl (G.2.2.1, 65, .inl fs)), (mqp, .inl (G.2.2.1, 260, .inl fp)), (mqn, .inl (G.2.2.1, 65, .inl fn)), (mqx, .inl (G.2.1, 80, .inl fx)), (mqm, .inl (G.2.2.1, 24, .inl fm))] H → va_D A [(mqa, .inr (5, [.ref mqs, .ref mqp, .int pas, .ref mqn, .int misk, .ref mqx, .int len, .ref mqm, .int spo, .int kin, .int cam, .int fst, .int lst, .int inr])), (mqs, .inl (G.2.2.1, 65, .inl fs)), (mqp, .inl (G.2.2.1, 260, .inl fp)), (mqn, .inl (G.2.2.1, 65, .inl fn)), (mqx, .inl (G.2.1, 80, .inl fx)), (mqm, .inl (G.2.2.1, 24, .inl fm))] → va_S A s.heap H locs → ∀ (ls : Array Slot), lv_has ls 2 [(0, .ref mqa), (1, .int x1)] → W p l e (rmk 0 0) s m ([.ref mqa] : List Value).toArray below meth c H locs 0 0 (MQ below (gQw G (some res.1) [(mqa, .inr (5, [.ref mqs, .ref mqp, .int res.2.1, .ref mqn, .int misk, .ref mqx, .int len, .ref mqm, .int spo, .int kin, .int cam, .int fst, .int lst, .int inr])), (mqs, .inl (G.2.2.1, 65, .inl res.2.2)), (mqp, .inl (G.2.2.1, 260, .inl fp)), (mqn, .inl (G.2.2.1, 65, .inl fn)), (mqx, .inl (G.2.1, 80, .inl fx)), (mqm, .inl (G.2.2.1, 24, .inl fm))] A) ([.ref mqa] : List Value).toArray s 0 0 A) (F0 m 22 ls []) := by
    intro n
    induction n with
    | zero => intro x1 pas fs h; exact absurd (show (none : Option (Int32 × Int32 × (Nat → Int32))) = some res from h) (fun q => by cases q)
    | succ n ih =>
      intro x1 pas fs h H locs hP hD hS ls hl
      rw [F_X5_undo_22] at h
      refine lv_iload_n hx hb dX5_undo_22 rfl (lv_at hl 1 rfl) ?_
      refine lv_bipush (v := 65) hx hb dX5_undo_23 (by decide) ?_
      refine lv_icmp_ge (tgt := 54) hx hb dX5_undo_25 (by decide) (fun c2 => ?_) (fun c2 => ?_)
      · replace h := if_t c2 h
        refine lv_aload_n hx hb dX5_undo_54 rfl (lv_at hl 0 rfl) ?_
        refine gf S hK iX5 hP 0 rfl rfl 2 (by decide) q638 rfl dX5_undo_55 ?_
        obtain rfl := Option.some.inj h
        exact retW S hr hlk rfl rfl hP hD hS dX5_undo_58
      · replace h := if_f c2 h
        refine lv_aload_n hx hb dX5_undo_28 rfl (lv_at hl 0 rfl) ?_
        refine gf S hK iX5 hP 0 rfl rfl 0 (by decide) q636 rfl dX5_undo_29 ?_
        refine lv_iload_n hx hb dX5_undo_32 rfl (lv_at hl 1 rfl) ?_
        refine lv_aload_n hx hb dX5_undo_33 rfl (lv_at hl 0 rfl) ?_
        refine gf S hK iX5 hP 0 rfl rfl 1 (by decide) q637 rfl dX5_undo_34 ?_
        refine lv_bipush (v := 65) hx hb dX5_undo_37 (by decide) ?_
        refine lv_aload_n hx hb dX5_undo_39 rfl (lv_at hl 0 rfl) ?_
        refine gf S hK iX5 hP 0 rfl rfl 2 (by decide) q638 rfl dX5_undo_40 ?_
        refine lv_imul hx hb dX5_undo_43 ?_
        refine lv_iload_n hx hb dX5_undo_44 rfl (lv_at hl 1 rfl) ?_
        refine lv_iadd hx hb dX5_undo_45 ?_
        obtain ⟨k3, h⟩ := ck_t h
        refine ald S hK hP 2 rfl (ok_vp k3) dX5_undo_46 ?_
        obtain ⟨k4, h⟩ := ck_t h
        refine ast S hK hP hD hS 1 rfl (ok_vp k4) [(mqa, .inr (5, [.ref mqs, .ref mqp, .int pas, .ref mqn, .int misk, .ref mqx, .int len, .ref mqm, .int spo, .int kin, .int cam, .int fst, .int lst, .int inr])), (mqs, .inl (G.2.2.1, 65, .inl (upd fs (Int32.toNatClampNeg x1) (fp (Int32.toNatClampNeg (((65 : Int32) * pas) + x1)))))), (mqp, .inl (G.2.2.1, 260, .inl fp)), (mqn, .inl (G.2.2.1, 65, .inl fn)), (mqx, .inl (G.2.1, 80, .inl fx)), (mqm, .inl (G.2.2.1, 24, .inl fm))] rfl dX5_undo_47 (fun H locs hP hD hS => ?_)
        refine lv_iinc (v := x1 + 1) (lv' := [(1, .int (x1 + 1)), (0, .ref mqa)]) hx hb dX5_undo_48 hl (k := 1) rfl rfl (by decide) rfl (fun ls hl => ?_)
        refine lv_goto (tgt := 22) hx hb dX5_undo_51 (by decide) ?_
        exact ih (x1 + 1) pas (upd fs (Int32.toNatClampNeg x1) (fp (Int32.toNatClampNeg (((65 : Int32) * pas) + x1)))) h _ _ hP hD hS ls (lv_sub hl [1, 0] rfl)
  rw [F_X5_undo] at h
  refine lv_aload_n hx hb dX5_undo_0 rfl (lv_at hl 0 rfl) ?_
  refine gf S hK iX5 hP 0 rfl rfl 2 (by decide) q638 rfl dX5_undo_1 ?_
  refine lv_if_ne (tgt := 10) hx hb dX5_undo_4 (by decide) (fun c1 => ?_) (fun c1 => ?_)
  · replace h := if_f c1 h
    refine lv_aload_n hx hb dX5_undo_10 rfl (lv_at hl 0 rfl) ?_
    refine lv_dup hx hb dX5_undo_11 rfl ?_
    refine gf S hK iX5 hP 0 rfl rfl 2 (by decide) q638 rfl dX5_undo_12 ?_
    refine lv_iconst (v := 1) hx hb dX5_undo_15 (by decide) ?_
    refine lv_isub hx hb dX5_undo_16 ?_
    refine pf S hK iX5 tyX5 tyX5_ok nmX5 hP hD hS 0 rfl rfl 2 (by decide) q638 rfl rfl rfl (Nat.le_of_ble_eq_true rfl) [(mqa, .inr (5, [.ref mqs, .ref mqp, .int (pas - 1), .ref mqn, .int misk, .ref mqx, .int len, .ref mqm, .int spo, .int kin, .int cam, .int fst, .int lst, .int inr])), (mqs, .inl (G.2.2.1, 65, .inl fs)), (mqp, .inl (G.2.2.1, 260, .inl fp)), (mqn, .inl (G.2.2.1, 65, .inl fn)), (mqx, .inl (G.2.1, 80, .inl fx)), (mqm, .inl (G.2.2.1, 24, .inl fm))] rfl dX5_undo_17 (fun H locs hP hD hS => ?_)
    refine lv_iconst (v := 0) hx hb dX5_undo_20 (by decide) ?_
    refine lv_istore_n (lv' := [(1, .int 0), (0, .ref mqa)]) hx hb dX5_undo_21 rfl hl (by decide) rfl (fun ls hl => ?_)
    exact L22 10000 0 (pas - 1) fs h _ _ hP hD hS ls (lv_sub hl [1, 0] rfl)
  · replace h := if_t c1 h
    refine lv_bipush (v := (-5)) hx hb dX5_undo_7 (by decide) ?_
    obtain rfl := Option.some.inj h
    exact retW S hr hlk rfl rfl hP hD hS dX5_undo_9
set_option maxHeartbeats 4000000 in
set_option maxRecDepth 100000 in
theorem c_X5_keep (l : Launch) (G : gG) (mqa mqs mqp mqn mqx mqm : Nat) (pas : Int32) (misk : Int32) (len : Int32) (spo : Int32) (kin : Int32) (cam : Int32) (fst : Int32) (lst : Int32) (inr : Int32) (fs : Nat → Int32) (fp : Nat → Int32) (fn : Nat → Int32) (fx : Nat → Int32) (fm : Nat → Int32) (sz : Nat) (res : Int32 × Int32 × (Nat → Int32)) (h : F_X5_keep misk fs fn = some res) : WrM l G yX5_keep cX5_keep 2 (some .int) (rmk 0 0) [(mqa, .inr (5, [.ref mqs, .ref mqp, .int pas, .ref mqn, .int misk, .ref mqx, .int len, .ref mqm, .int spo, .int kin, .int cam, .int fst, .int lst, .int inr])), (mqs, .inl (G.2.2.1, 65, .inl fs)), (mqp, .inl (G.2.2.1, 260, .inl fp)), (mqn, .inl (G.2.2.1, 65, .inl fn)), (mqx, .inl (G.2.1, 80, .inl fx)), (mqm, .inl (G.2.2.1, 24, .inl fm))] sz [.ref mqa] (some res.1) [(mqa, .inr (5, [.ref mqs, .ref mqp, .int pas, .ref mqn, .int res.2.1, .ref mqx, .int len, .ref mqm, .int spo, .int kin, .int cam, .int fst, .int lst, .int inr])), (mqs, .inl (G.2.2.1, 65, .inl fs)), (mqp, .inl (G.2.2.1, 260, .inl fp)), (mqn, .inl (G.2.2.1, 65, .inl res.2.2)), (mqx, .inl (G.2.1, 80, .inl fx)), (mqm, .inl (G.2.2.1, 24, .inl fm))] := by
  refine ofWr (by decide) (Nat.le_of_ble_eq_true rfl) ?_
  intro p e s m below meth c ls A S hr hlk hK hP hD hS hA hl
  have S : CallFix p m c cX5_keep 2 s ([.ref mqa] : List Value).toArray T0 RX5 := S
  obtain ⟨hx, hb, hml, hown, hts⟩ := id S
  have hl : lv_has ls 2 [(0, .ref mqa)] := hl
  have L2 : ∀ (n : Nat) (x1 : Int32) (misk : Int32) (fn : Nat → Int32), F_X5_keep_2 fs n x1 misk fn = some res → ∀ (H : Heap) (locs : List Loc), va_P G.1 vwCl [(mqa, .inr (5, [.ref mqs, .ref mqp, .int pas, .ref mqn, .int misk, .ref mqx, .int len, .ref mqm, .int spo, .int kin, .int cam, .int fst, .int lst, .int inr])), (mqs, .inl (G.2.2.1, 65, .inl fs)), (mqp, .inl (G.2.2.1, 260, .inl fp)), (mqn, .inl (G.2.2.1, 65, .inl fn)), (mqx, .inl (G.2.1, 80, .inl fx)), (mqm, .inl (G.2.2.1, 24, .inl fm))] H → va_D A [(mqa, .inr (5, [.ref mqs, .ref mqp, .int pas, .ref mqn, .int misk, .ref mqx, .int len, .ref mqm, .int spo, .int kin, .int cam, .int fst, .int lst, .int inr])), (mqs, .inl (G.2.2.1, 65, .inl fs)), (mqp, .inl (G.2.2.1, 260, .inl fp)), (mqn, .inl (G.2.2.1, 65, .inl fn)), (mqx, .inl (G.2.1, 80, .inl fx)), (mqm, .inl (G.2.2.1, 24, .inl fm))] → va_S A s.heap H locs → ∀ (ls : Array Slot), lv_has ls 2 [(0, .ref mqa), (1, .int x1)] → W p l e (rmk 0 0) s m ([.ref mqa] : List Value).toArray below meth c H locs 0 0 (MQ below (gQw G (some res.1) [(mqa, .inr (5, [.ref mqs, .ref mqp, .int pas, .ref mqn, .int res.2.1, .ref mqx, .int len, .ref mqm, .int spo, .int kin, .int cam, .int fst, .int lst, .int inr])), (mqs, .inl (G.2.2.1, 65, .inl fs)), (mqp, .inl (G.2.2.1, 260, .inl fp)), (mqn, .inl (G.2.2.1, 65, .inl res.2.2)), (mqx, .inl (G.2.1, 80, .inl fx)), (mqm, .inl (G.2.2.1, 24, .inl fm))] A) ([.ref mqa] : List Value).toArray s 0 0 A) (F0 m 2 ls []) := by
    intro n
    induction n with
    | zero => intro x1 misk fn h; exact absurd (show (none : Option (Int32 × Int32 × (Nat → Int32))) = some res from h) (fun q => by cases q)
    | succ n ih =>
      intro x1 misk fn h H locs hP hD hS ls hl
      rw [F_X5_keep_2] at h
      refine lv_iload_n hx hb dX5_keep_2 rfl (lv_at hl 1 rfl) ?_
      refine lv_bipush (v := 65) hx hb dX5_keep_3 (by decide) ?_
      refine lv_icmp_ge (tgt := 26) hx hb dX5_keep_5 (by decide) (fun c1 => ?_) (fun c1 => ?_)
      · replace h := if_t c1 h
        refine lv_aload_n hx hb dX5_keep_26 rfl (lv_at hl 0 rfl) ?_
        refine lv_iconst (v := 1) hx hb dX5_keep_27 (by decide) ?_
        refine pf S hK iX5 tyX5 tyX5_ok nmX5 hP hD hS 0 rfl rfl 4 (by decide) q640 rfl rfl rfl (Nat.le_of_ble_eq_true rfl) [(mqa, .inr (5, [.ref mqs, .ref mqp, .int pas, .ref mqn, .int 1, .ref mqx, .int len, .ref mqm, .int spo, .int kin, .int cam, .int fst, .int lst, .int inr])), (mqs, .inl (G.2.2.1, 65, .inl fs)), (mqp, .inl (G.2.2.1, 260, .inl fp)), (mqn, .inl (G.2.2.1, 65, .inl fn)), (mqx, .inl (G.2.1, 80, .inl fx)), (mqm, .inl (G.2.2.1, 24, .inl fm))] rfl dX5_keep_28 (fun H locs hP hD hS => ?_)
        refine lv_aload_n hx hb dX5_keep_31 rfl (lv_at hl 0 rfl) ?_
        refine gf S hK iX5 hP 0 rfl rfl 0 (by decide) q636 rfl dX5_keep_32 ?_
        refine lv_bipush (v := 24) hx hb dX5_keep_35 (by decide) ?_
        obtain ⟨k2, h⟩ := ck_t h
        refine ald S hK hP 1 rfl (ok_vp k2) dX5_keep_37 ?_
        obtain rfl := Option.some.inj h
        exact retW S hr hlk rfl rfl hP hD hS dX5_keep_38
      · replace h := if_f c1 h
        refine lv_aload_n hx hb dX5_keep_8 rfl (lv_at hl 0 rfl) ?_
        refine gf S hK iX5 hP 0 rfl rfl 3 (by decide) q639 rfl dX5_keep_9 ?_
        refine lv_iload_n hx hb dX5_keep_12 rfl (lv_at hl 1 rfl) ?_
        refine lv_aload_n hx hb dX5_keep_13 rfl (lv_at hl 0 rfl) ?_
        refine gf S hK iX5 hP 0 rfl rfl 0 (by decide) q636 rfl dX5_keep_14 ?_
        refine lv_iload_n hx hb dX5_keep_17 rfl (lv_at hl 1 rfl) ?_
        obtain ⟨k3, h⟩ := ck_t h
        refine ald S hK hP 1 rfl (ok_vp k3) dX5_keep_18 ?_
        obtain ⟨k4, h⟩ := ck_t h
        refine ast S hK hP hD hS 3 rfl (ok_vp k4) [(mqa, .inr (5, [.ref mqs, .ref mqp, .int pas, .ref mqn, .int misk, .ref mqx, .int len, .ref mqm, .int spo, .int kin, .int cam, .int fst, .int lst, .int inr])), (mqs, .inl (G.2.2.1, 65, .inl fs)), (mqp, .inl (G.2.2.1, 260, .inl fp)), (mqn, .inl (G.2.2.1, 65, .inl (upd fn (Int32.toNatClampNeg x1) (fs (Int32.toNatClampNeg x1))))), (mqx, .inl (G.2.1, 80, .inl fx)), (mqm, .inl (G.2.2.1, 24, .inl fm))] rfl dX5_keep_19 (fun H locs hP hD hS => ?_)
        refine lv_iinc (v := x1 + 1) (lv' := [(1, .int (x1 + 1)), (0, .ref mqa)]) hx hb dX5_keep_20 hl (k := 1) rfl rfl (by decide) rfl (fun ls hl => ?_)
        refine lv_goto (tgt := 2) hx hb dX5_keep_23 (by decide) ?_
        exact ih (x1 + 1) misk (upd fn (Int32.toNatClampNeg x1) (fs (Int32.toNatClampNeg x1))) h _ _ hP hD hS ls (lv_sub hl [1, 0] rfl)
  rw [F_X5_keep] at h
  refine lv_iconst (v := 0) hx hb dX5_keep_0 (by decide) ?_
  refine lv_istore_n (lv' := [(1, .int 0), (0, .ref mqa)]) hx hb dX5_keep_1 rfl hl (by decide) rfl (fun ls hl => ?_)
  exact L2 10000 0 misk fn h _ _ hP hD hS ls (lv_sub hl [1, 0] rfl)
set_option maxHeartbeats 4000000 in
set_option maxRecDepth 100000 in
theorem c_X5_restore (l : Launch) (G : gG) (mqa mqs mqp mqn mqx mqm : Nat) (pas : Int32) (misk : Int32) (len : Int32) (spo : Int32) (kin : Int32) (cam : Int32) (fst : Int32) (lst : Int32) (inr : Int32) (fs : Nat → Int32) (fp : Nat → Int32) (fn : Nat → Int32) (fx : Nat → Int32) (fm : Nat → Int32) (sz : Nat) (res : Int32 × Int32 × (Nat → Int32) × (Nat → Int32)) (h : F_X5_restore pas misk fs fp fn = some res) : WrM l G yX5_restore cX5_restore 2 (some .int) (rmk 1 21) [(mqa, .inr (5, [.ref mqs, .ref mqp, .int pas, .ref mqn, .int misk, .ref mqx, .int len, .ref mqm, .int spo, .int kin, .int cam, .int fst, .int lst, .int inr])), (mqs, .inl (G.2.2.1, 65, .inl fs)), (mqp, .inl (G.2.2.1, 260, .inl fp)), (mqn, .inl (G.2.2.1, 65, .inl fn)), (mqx, .inl (G.2.1, 80, .inl fx)), (mqm, .inl (G.2.2.1, 24, .inl fm))] sz [.ref mqa] (some res.1) [(mqa, .inr (5, [.ref mqs, .ref mqp, .int res.2.1, .ref mqn, .int misk, .ref mqx, .int len, .ref mqm, .int spo, .int kin, .int cam, .int fst, .int lst, .int inr])), (mqs, .inl (G.2.2.1, 65, .inl res.2.2.1)), (mqp, .inl (G.2.2.1, 260, .inl res.2.2.2)), (mqn, .inl (G.2.2.1, 65, .inl fn)), (mqx, .inl (G.2.1, 80, .inl fx)), (mqm, .inl (G.2.2.1, 24, .inl fm))] := by
  refine ofWr (by decide) (Nat.le_of_ble_eq_true rfl) ?_
  intro p e s m below meth c ls A S hr hlk hK hP hD hS hA hl
  have S : CallFix p m c cX5_restore 2 s ([.ref mqa] : List Value).toArray T0 RX5 := S
  obtain ⟨hx, hb, hml, hown, hts⟩ := id S
  have hl : lv_has ls 2 [(0, .ref mqa)] := hl
  have L16 : ∀ (n : Nat) (x1 : Int32) (pas : Int32) (fs : Nat → Int32) (fp : Nat → Int32), F_X5_restore_16 misk fn n x1 pas fs fp = some res → ∀ (H : Heap) (locs : List Loc), va_P G.1 vwCl [(mqa, .inr (5, [.ref mqs, .ref mqp, .int pas, .ref mqn, .int misk, .ref mqx, .int len, .ref mqm, .int spo, .int kin, .int cam, .int fst, .int lst, .int inr])), (mqs, .inl (G.2.2.1, 65, .inl fs)), (mqp, .inl (G.2.2.1, 260, .inl fp)), (mqn, .inl (G.2.2.1, 65, .inl fn)), (mqx, .inl (G.2.1, 80, .inl fx)), (mqm, .inl (G.2.2.1, 24, .inl fm))] H → va_D A [(mqa, .inr (5, [.ref mqs, .ref mqp, .int pas, .ref mqn, .int misk, .ref mqx, .int len, .ref mqm, .int spo, .int kin, .int cam, .int fst, .int lst, .int inr])), (mqs, .inl (G.2.2.1, 65, .inl fs)), (mqp, .inl (G.2.2.1, 260, .inl fp)), (mqn, .inl (G.2.2.1, 65, .inl fn)), (mqx, .inl (G.2.1, 80, .inl fx)), (mqm, .inl (G.2.2.1, 24, .inl fm))] → va_S A s.heap H locs → ∀ (ls : Array Slot), lv_has ls 2 [(0, .ref mqa), (1, .int x1)] → W p l e (rmk 1 21) s m ([.ref mqa] : List Value).toArray below meth c H locs 0 0 (MQ below (gQw G (some res.1) [(mqa, .inr (5, [.ref mqs, .ref mqp, .int res.2.1, .ref mqn, .int misk, .ref mqx, .int len, .ref mqm, .int spo, .int kin, .int cam, .int fst, .int lst, .int inr])), (mqs, .inl (G.2.2.1, 65, .inl res.2.2.1)), (mqp, .inl (G.2.2.1, 260, .inl res.2.2.2)), (mqn, .inl (G.2.2.1, 65, .inl fn)), (mqx, .inl (G.2.1, 80, .inl fx)), (mqm, .inl (G.2.2.1, 24, .inl fm))] A) ([.ref mqa] : List Value).toArray s 0 0 A) (F0 m 16 ls []) := by
    intro n
    induction n with
    | zero => intro x1 pas fs fp h; exact absurd (show (none : Option (Int32 × Int32 × (Nat → Int32) × (Nat → Int32))) = some res from h) (fun q => by cases q)
    | succ n ih =>
      intro x1 pas fs fp h H locs hP hD hS ls hl
      rw [F_X5_restore_16] at h
      refine lv_iload_n hx hb dX5_restore_16 rfl (lv_at hl 1 rfl) ?_
      refine lv_bipush (v := 65) hx hb dX5_restore_17 (by decide) ?_
      refine lv_icmp_ge (tgt := 40) hx hb dX5_restore_19 (by decide) (fun c3 => ?_) (fun c3 => ?_)
      · replace h := if_t c3 h
        refine lv_aload_n hx hb dX5_restore_40 rfl (lv_at hl 0 rfl) ?_
        refine gf S hK iX5 hP 0 rfl rfl 0 (by decide) q636 rfl dX5_restore_41 ?_
        refine lv_bipush (v := 24) hx hb dX5_restore_44 (by decide) ?_
        obtain ⟨k4, h⟩ := ck_t h
        refine ald S hK hP 1 rfl (ok_vp k4) dX5_restore_46 ?_
        obtain rfl := Option.some.inj h
        exact retW S hr hlk rfl rfl hP hD hS dX5_restore_47
      · replace h := if_f c3 h
        refine lv_aload_n hx hb dX5_restore_22 rfl (lv_at hl 0 rfl) ?_
        refine gf S hK iX5 hP 0 rfl rfl 0 (by decide) q636 rfl dX5_restore_23 ?_
        refine lv_iload_n hx hb dX5_restore_26 rfl (lv_at hl 1 rfl) ?_
        refine lv_aload_n hx hb dX5_restore_27 rfl (lv_at hl 0 rfl) ?_
        refine gf S hK iX5 hP 0 rfl rfl 3 (by decide) q639 rfl dX5_restore_28 ?_
        refine lv_iload_n hx hb dX5_restore_31 rfl (lv_at hl 1 rfl) ?_
        obtain ⟨k5, h⟩ := ck_t h
        refine ald S hK hP 3 rfl (ok_vp k5) dX5_restore_32 ?_
        obtain ⟨k6, h⟩ := ck_t h
        refine ast S hK hP hD hS 1 rfl (ok_vp k6) [(mqa, .inr (5, [.ref mqs, .ref mqp, .int pas, .ref mqn, .int misk, .ref mqx, .int len, .ref mqm, .int spo, .int kin, .int cam, .int fst, .int lst, .int inr])), (mqs, .inl (G.2.2.1, 65, .inl (upd fs (Int32.toNatClampNeg x1) (fn (Int32.toNatClampNeg x1))))), (mqp, .inl (G.2.2.1, 260, .inl fp)), (mqn, .inl (G.2.2.1, 65, .inl fn)), (mqx, .inl (G.2.1, 80, .inl fx)), (mqm, .inl (G.2.2.1, 24, .inl fm))] rfl dX5_restore_33 (fun H locs hP hD hS => ?_)
        refine lv_iinc (v := x1 + 1) (lv' := [(1, .int (x1 + 1)), (0, .ref mqa)]) hx hb dX5_restore_34 hl (k := 1) rfl rfl (by decide) rfl (fun ls hl => ?_)
        refine lv_goto (tgt := 16) hx hb dX5_restore_37 (by decide) ?_
        exact ih (x1 + 1) pas (upd fs (Int32.toNatClampNeg x1) (fn (Int32.toNatClampNeg x1))) fp h _ _ hP hD hS ls (lv_sub hl [1, 0] rfl)
  rw [F_X5_restore] at h
  refine lv_aload_n hx hb dX5_restore_0 rfl (lv_at hl 0 rfl) ?_
  refine gf S hK iX5 hP 0 rfl rfl 4 (by decide) q640 rfl dX5_restore_1 ?_
  refine lv_if_ne (tgt := 10) hx hb dX5_restore_4 (by decide) (fun c1 => ?_) (fun c1 => ?_)
  · replace h := if_f c1 h
    refine lv_aload_n hx hb dX5_restore_10 rfl (lv_at hl 0 rfl) ?_
    obtain ⟨r2, hr2, h⟩ := bd_t h
    refine wrV (As := []) (rest := []) (ws := [(mqa, .inr (5, [.ref mqs, .ref mqp, .int pas, .ref mqn, .int misk, .ref mqx, .int len, .ref mqm, .int spo, .int kin, .int cam, .int fst, .int lst, .int inr])), (mqs, .inl (G.2.2.1, 65, .inl fs)), (mqp, .inl (G.2.2.1, 260, .inl fp)), (mqn, .inl (G.2.2.1, 65, .inl fn)), (mqx, .inl (G.2.1, 80, .inl fx)), (mqm, .inl (G.2.2.1, 24, .inl fm))]) (wr := []) (ws' := [(mqa, .inr (5, [.ref mqs, .ref mqp, .int r2.1, .ref mqn, .int misk, .ref mqx, .int len, .ref mqm, .int spo, .int kin, .int cam, .int fst, .int lst, .int inr])), (mqs, .inl (G.2.2.1, 65, .inl fs)), (mqp, .inl (G.2.2.1, 260, .inl r2.2)), (mqn, .inl (G.2.2.1, 65, .inl fn)), (mqx, .inl (G.2.1, 80, .inl fx)), (mqm, .inl (G.2.2.1, 24, .inl fm))]) (ws1 := [(mqa, .inr (5, [.ref mqs, .ref mqp, .int r2.1, .ref mqn, .int misk, .ref mqx, .int len, .ref mqm, .int spo, .int kin, .int cam, .int fst, .int lst, .int inr])), (mqs, .inl (G.2.2.1, 65, .inl fs)), (mqp, .inl (G.2.2.1, 260, .inl r2.2)), (mqn, .inl (G.2.2.1, 65, .inl fn)), (mqx, .inl (G.2.1, 80, .inl fx)), (mqm, .inl (G.2.2.1, 24, .inl fm))]) S hK (c_X5_records l G mqa mqs mqp mqn mqx mqm pas misk len spo kin cam fst lst inr fs fp fn fx fm _ r2 hr2) mX5_records q689 ⟨rfl, rfl, Nat.le_of_ble_eq_true rfl, Nat.le_of_ble_eq_true rfl⟩ hP hD hS hA [0, 1, 2, 3, 4, 5] [] [0, 1, 2, 3, 4, 5] rfl rfl (by decide) (by decide) (by decide) rfl (by decide) rfl rfl rfl rfl hl.1 (Nat.le_of_ble_eq_true rfl) ⟨Nat.le_refl 0, Nat.le_refl 0⟩ dX5_restore_11 (fun H locs hP hD hS => ?_)
    refine lv_iconst (v := 0) hx hb dX5_restore_14 (by decide) ?_
    refine lv_istore_n (lv' := [(1, .int 0), (0, .ref mqa)]) hx hb dX5_restore_15 rfl hl (by decide) rfl (fun ls hl => ?_)
    exact L16 10000 0 r2.1 fs r2.2 h _ _ hP hD hS ls (lv_sub hl [1, 0] rfl)
  · replace h := if_t c1 h
    refine lv_bipush (v := (-5)) hx hb dX5_restore_7 (by decide) ?_
    obtain rfl := Option.some.inj h
    exact retW S hr hlk rfl rfl hP hD hS dX5_restore_9
