set_option maxHeartbeats 4000000 in
set_option maxRecDepth 100000 in
theorem c_X5_records (l : Launch) (G : gG) (mqa mqs mqp mqn mqx mqm : Nat) (pas : Int32) (misk : Int32) (len : Int32) (spo : Int32) (kin : Int32) (cam : Int32) (fst : Int32) (lst : Int32) (inr : Int32) (fs : Nat → Int32) (fp : Nat → Int32) (fn : Nat → Int32) (fx : Nat → Int32) (fm : Nat → Int32) (sz : Nat) (res : Int32 × (Nat → Int32)) (h : F_X5_records pas fs fp = some res) : WrM l G yX5_records cX5_records 2 none (rmk 0 0) [(mqa, .inr (5, [.ref mqs, .ref mqp, .int pas, .ref mqn, .int misk, .ref mqx, .int len, .ref mqm, .int spo, .int kin, .int cam, .int fst, .int lst, .int inr])), (mqs, .inl (G.2.2.1, 65, .inl fs)), (mqp, .inl (G.2.2.1, 260, .inl fp)), (mqn, .inl (G.2.2.1, 65, .inl fn)), (mqx, .inl (G.2.1, 80, .inl fx)), (mqm, .inl (G.2.2.1, 24, .inl fm))] sz [.ref mqa] none [(mqa, .inr (5, [.ref mqs, .ref mqp, .int res.1, .ref mqn, .int misk, .ref mqx, .int len, .ref mqm, .int spo, .int kin, .int cam, .int fst, .int lst, .int inr])), (mqs, .inl (G.2.2.1, 65, .inl fs)), (mqp, .inl (G.2.2.1, 260, .inl res.2)), (mqn, .inl (G.2.2.1, 65, .inl fn)), (mqx, .inl (G.2.1, 80, .inl fx)), (mqm, .inl (G.2.2.1, 24, .inl fm))] := by
  refine ofWr (by decide) (Nat.le_of_ble_eq_true rfl) ?_
  intro p e s m below meth c ls A S hr hlk hK hP hD hS hA hl
  have S : CallFix p m c cX5_records 2 s ([.ref mqa] : List Value).toArray T0 RX5 := S
  obtain ⟨hx, hb, hml, hown, hts⟩ := id S
  have hl : lv_has ls 2 [(0, .ref mqa)] := hl
  have L50 : ∀ (n : Nat) (x1 : Int32) (pas : Int32) (fp : Nat → Int32), F_X5_records_50 fs n x1 pas fp = some res → ∀ (H : Heap) (locs : List Loc), va_P G.1 vwCl [(mqa, .inr (5, [.ref mqs, .ref mqp, .int pas, .ref mqn, .int misk, .ref mqx, .int len, .ref mqm, .int spo, .int kin, .int cam, .int fst, .int lst, .int inr])), (mqs, .inl (G.2.2.1, 65, .inl fs)), (mqp, .inl (G.2.2.1, 260, .inl fp)), (mqn, .inl (G.2.2.1, 65, .inl fn)), (mqx, .inl (G.2.1, 80, .inl fx)), (mqm, .inl (G.2.2.1, 24, .inl fm))] H → va_D A [(mqa, .inr (5, [.ref mqs, .ref mqp, .int pas, .ref mqn, .int misk, .ref mqx, .int len, .ref mqm, .int spo, .int kin, .int cam, .int fst, .int lst, .int inr])), (mqs, .inl (G.2.2.1, 65, .inl fs)), (mqp, .inl (G.2.2.1, 260, .inl fp)), (mqn, .inl (G.2.2.1, 65, .inl fn)), (mqx, .inl (G.2.1, 80, .inl fx)), (mqm, .inl (G.2.2.1, 24, .inl fm))] → va_S A s.heap H locs → ∀ (ls : Array Slot), lv_has ls 2 [(0, .ref mqa), (1, .int x1)] → W p l e (rmk 0 0) s m ([.ref mqa] : List Value).toArray below meth c H locs 0 0 (MQ below (gQw G none [(mqa, .inr (5, [.ref mqs, .ref mqp, .int res.1, .ref mqn, .int misk, .ref mqx, .int len, .ref mqm, .int spo, .int kin, .int cam, .int fst, .int lst, .int inr])), (mqs, .inl (G.2.2.1, 65, .inl fs)), (mqp, .inl (G.2.2.1, 260, .inl res.2)), (mqn, .inl (G.2.2.1, 65, .inl fn)), (mqx, .inl (G.2.1, 80, .inl fx)), (mqm, .inl (G.2.2.1, 24, .inl fm))] A) ([.ref mqa] : List Value).toArray s 0 0 A) (F0 m 50 ls []) := by
    intro n
    induction n with
    | zero => intro x1 pas fp h; exact absurd (show (none : Option (Int32 × (Nat → Int32))) = some res from h) (fun q => by cases q)
    | succ n ih =>
      intro x1 pas fp h H locs hP hD hS ls hl
      rw [F_X5_records_50] at h
      refine lv_iload_n hx hb dX5_records_50 rfl (lv_at hl 1 rfl) ?_
      refine lv_bipush (v := 65) hx hb dX5_records_51 (by decide) ?_
      refine lv_icmp_ge (tgt := 82) hx hb dX5_records_53 (by decide) (fun c5 => ?_) (fun c5 => ?_)
      · replace h := if_t c5 h
        refine lv_aload_n hx hb dX5_records_82 rfl (lv_at hl 0 rfl) ?_
        refine lv_dup hx hb dX5_records_83 rfl ?_
        refine gf S hK iX5 hP 0 rfl rfl 2 (by decide) q638 rfl dX5_records_84 ?_
        refine lv_iconst (v := 1) hx hb dX5_records_87 (by decide) ?_
        refine lv_iadd hx hb dX5_records_88 ?_
        refine pf S hK iX5 tyX5 tyX5_ok nmX5 hP hD hS 0 rfl rfl 2 (by decide) q638 rfl rfl rfl (Nat.le_of_ble_eq_true rfl) [(mqa, .inr (5, [.ref mqs, .ref mqp, .int (pas + 1), .ref mqn, .int misk, .ref mqx, .int len, .ref mqm, .int spo, .int kin, .int cam, .int fst, .int lst, .int inr])), (mqs, .inl (G.2.2.1, 65, .inl fs)), (mqp, .inl (G.2.2.1, 260, .inl fp)), (mqn, .inl (G.2.2.1, 65, .inl fn)), (mqx, .inl (G.2.1, 80, .inl fx)), (mqm, .inl (G.2.2.1, 24, .inl fm))] rfl dX5_records_89 (fun H locs hP hD hS => ?_)
        obtain rfl := Option.some.inj h
        exact retV S hr hlk hP hD hS dX5_records_92
      · replace h := if_f c5 h
        refine lv_aload_n hx hb dX5_records_56 rfl (lv_at hl 0 rfl) ?_
        refine gf S hK iX5 hP 0 rfl rfl 1 (by decide) q637 rfl dX5_records_57 ?_
        refine lv_bipush (v := 65) hx hb dX5_records_60 (by decide) ?_
        refine lv_aload_n hx hb dX5_records_62 rfl (lv_at hl 0 rfl) ?_
        refine gf S hK iX5 hP 0 rfl rfl 2 (by decide) q638 rfl dX5_records_63 ?_
        refine lv_imul hx hb dX5_records_66 ?_
        refine lv_iload_n hx hb dX5_records_67 rfl (lv_at hl 1 rfl) ?_
        refine lv_iadd hx hb dX5_records_68 ?_
        refine lv_aload_n hx hb dX5_records_69 rfl (lv_at hl 0 rfl) ?_
        refine gf S hK iX5 hP 0 rfl rfl 0 (by decide) q636 rfl dX5_records_70 ?_
        refine lv_iload_n hx hb dX5_records_73 rfl (lv_at hl 1 rfl) ?_
        obtain ⟨k6, h⟩ := ck_t h
        refine ald S hK hP 1 rfl (ok_vp k6) dX5_records_74 ?_
        obtain ⟨k7, h⟩ := ck_t h
        refine ast S hK hP hD hS 2 rfl (ok_vp k7) [(mqa, .inr (5, [.ref mqs, .ref mqp, .int pas, .ref mqn, .int misk, .ref mqx, .int len, .ref mqm, .int spo, .int kin, .int cam, .int fst, .int lst, .int inr])), (mqs, .inl (G.2.2.1, 65, .inl fs)), (mqp, .inl (G.2.2.1, 260, .inl (upd fp (Int32.toNatClampNeg (((65 : Int32) * pas) + x1)) (fs (Int32.toNatClampNeg x1))))), (mqn, .inl (G.2.2.1, 65, .inl fn)), (mqx, .inl (G.2.1, 80, .inl fx)), (mqm, .inl (G.2.2.1, 24, .inl fm))] rfl dX5_records_75 (fun H locs hP hD hS => ?_)
        refine lv_iinc (v := x1 + 1) (lv' := [(1, .int (x1 + 1)), (0, .ref mqa)]) hx hb dX5_records_76 hl (k := 1) rfl rfl (by decide) rfl (fun ls hl => ?_)
        refine lv_goto (tgt := 50) hx hb dX5_records_79 (by decide) ?_
        exact ih (x1 + 1) pas (upd fp (Int32.toNatClampNeg (((65 : Int32) * pas) + x1)) (fs (Int32.toNatClampNeg x1))) h _ _ hP hD hS ls (lv_sub hl [1, 0] rfl)
  have L10 : ∀ (n : Nat) (x1 : Int32) (pas : Int32) (fp : Nat → Int32), F_X5_records_10 fs n x1 pas fp = some res → ∀ (H : Heap) (locs : List Loc), va_P G.1 vwCl [(mqa, .inr (5, [.ref mqs, .ref mqp, .int pas, .ref mqn, .int misk, .ref mqx, .int len, .ref mqm, .int spo, .int kin, .int cam, .int fst, .int lst, .int inr])), (mqs, .inl (G.2.2.1, 65, .inl fs)), (mqp, .inl (G.2.2.1, 260, .inl fp)), (mqn, .inl (G.2.2.1, 65, .inl fn)), (mqx, .inl (G.2.1, 80, .inl fx)), (mqm, .inl (G.2.2.1, 24, .inl fm))] H → va_D A [(mqa, .inr (5, [.ref mqs, .ref mqp, .int pas, .ref mqn, .int misk, .ref mqx, .int len, .ref mqm, .int spo, .int kin, .int cam, .int fst, .int lst, .int inr])), (mqs, .inl (G.2.2.1, 65, .inl fs)), (mqp, .inl (G.2.2.1, 260, .inl fp)), (mqn, .inl (G.2.2.1, 65, .inl fn)), (mqx, .inl (G.2.1, 80, .inl fx)), (mqm, .inl (G.2.2.1, 24, .inl fm))] → va_S A s.heap H locs → ∀ (ls : Array Slot), lv_has ls 2 [(0, .ref mqa), (1, .int x1)] → W p l e (rmk 0 0) s m ([.ref mqa] : List Value).toArray below meth c H locs 0 0 (MQ below (gQw G none [(mqa, .inr (5, [.ref mqs, .ref mqp, .int res.1, .ref mqn, .int misk, .ref mqx, .int len, .ref mqm, .int spo, .int kin, .int cam, .int fst, .int lst, .int inr])), (mqs, .inl (G.2.2.1, 65, .inl fs)), (mqp, .inl (G.2.2.1, 260, .inl res.2)), (mqn, .inl (G.2.2.1, 65, .inl fn)), (mqx, .inl (G.2.1, 80, .inl fx)), (mqm, .inl (G.2.2.1, 24, .inl fm))] A) ([.ref mqa] : List Value).toArray s 0 0 A) (F0 m 10 ls []) := by
    intro n
    induction n with
    | zero => intro x1 pas fp h; exact absurd (show (none : Option (Int32 × (Nat → Int32))) = some res from h) (fun q => by cases q)
    | succ n ih =>
      intro x1 pas fp h H locs hP hD hS ls hl
      rw [F_X5_records_10] at h
      refine lv_iload_n hx hb dX5_records_10 rfl (lv_at hl 1 rfl) ?_
      refine lv_sipush (v := 195) hx hb dX5_records_11 (by decide) ?_
      refine lv_icmp_ge (tgt := 38) hx hb dX5_records_14 (by decide) (fun c2 => ?_) (fun c2 => ?_)
      · replace h := if_t c2 h
        refine lv_aload_n hx hb dX5_records_38 rfl (lv_at hl 0 rfl) ?_
        refine lv_dup hx hb dX5_records_39 rfl ?_
        refine gf S hK iX5 hP 0 rfl rfl 2 (by decide) q638 rfl dX5_records_40 ?_
        refine lv_iconst (v := 1) hx hb dX5_records_43 (by decide) ?_
        refine lv_isub hx hb dX5_records_44 ?_
        refine pf S hK iX5 tyX5 tyX5_ok nmX5 hP hD hS 0 rfl rfl 2 (by decide) q638 rfl rfl rfl (Nat.le_of_ble_eq_true rfl) [(mqa, .inr (5, [.ref mqs, .ref mqp, .int (pas - 1), .ref mqn, .int misk, .ref mqx, .int len, .ref mqm, .int spo, .int kin, .int cam, .int fst, .int lst, .int inr])), (mqs, .inl (G.2.2.1, 65, .inl fs)), (mqp, .inl (G.2.2.1, 260, .inl fp)), (mqn, .inl (G.2.2.1, 65, .inl fn)), (mqx, .inl (G.2.1, 80, .inl fx)), (mqm, .inl (G.2.2.1, 24, .inl fm))] rfl dX5_records_45 (fun H locs hP hD hS => ?_)
        refine lv_iconst (v := 0) hx hb dX5_records_48 (by decide) ?_
        refine lv_istore_n (lv' := [(1, .int 0), (0, .ref mqa)]) hx hb dX5_records_49 rfl hl (by decide) rfl (fun ls hl => ?_)
        exact L50 10000 0 (pas - 1) fp h _ _ hP hD hS ls (lv_sub hl [1, 0] rfl)
      · replace h := if_f c2 h
        refine lv_aload_n hx hb dX5_records_17 rfl (lv_at hl 0 rfl) ?_
        refine gf S hK iX5 hP 0 rfl rfl 1 (by decide) q637 rfl dX5_records_18 ?_
        refine lv_iload_n hx hb dX5_records_21 rfl (lv_at hl 1 rfl) ?_
        refine lv_aload_n hx hb dX5_records_22 rfl (lv_at hl 0 rfl) ?_
        refine gf S hK iX5 hP 0 rfl rfl 1 (by decide) q637 rfl dX5_records_23 ?_
        refine lv_bipush (v := 65) hx hb dX5_records_26 (by decide) ?_
        refine lv_iload_n hx hb dX5_records_28 rfl (lv_at hl 1 rfl) ?_
        refine lv_iadd hx hb dX5_records_29 ?_
        obtain ⟨k3, h⟩ := ck_t h
        refine ald S hK hP 2 rfl (ok_vp k3) dX5_records_30 ?_
        obtain ⟨k4, h⟩ := ck_t h
        refine ast S hK hP hD hS 2 rfl (ok_vp k4) [(mqa, .inr (5, [.ref mqs, .ref mqp, .int pas, .ref mqn, .int misk, .ref mqx, .int len, .ref mqm, .int spo, .int kin, .int cam, .int fst, .int lst, .int inr])), (mqs, .inl (G.2.2.1, 65, .inl fs)), (mqp, .inl (G.2.2.1, 260, .inl (upd fp (Int32.toNatClampNeg x1) (fp (Int32.toNatClampNeg ((65 : Int32) + x1)))))), (mqn, .inl (G.2.2.1, 65, .inl fn)), (mqx, .inl (G.2.1, 80, .inl fx)), (mqm, .inl (G.2.2.1, 24, .inl fm))] rfl dX5_records_31 (fun H locs hP hD hS => ?_)
        refine lv_iinc (v := x1 + 1) (lv' := [(1, .int (x1 + 1)), (0, .ref mqa)]) hx hb dX5_records_32 hl (k := 1) rfl rfl (by decide) rfl (fun ls hl => ?_)
        refine lv_goto (tgt := 10) hx hb dX5_records_35 (by decide) ?_
        exact ih (x1 + 1) pas (upd fp (Int32.toNatClampNeg x1) (fp (Int32.toNatClampNeg ((65 : Int32) + x1)))) h _ _ hP hD hS ls (lv_sub hl [1, 0] rfl)
  rw [F_X5_records] at h
  refine lv_aload_n hx hb dX5_records_0 rfl (lv_at hl 0 rfl) ?_
  refine gf S hK iX5 hP 0 rfl rfl 2 (by decide) q638 rfl dX5_records_1 ?_
  refine lv_iconst (v := 4) hx hb dX5_records_4 (by decide) ?_
  refine lv_icmp_ne (tgt := 48) hx hb dX5_records_5 (by decide) (fun c1 => ?_) (fun c1 => ?_)
  · replace h := if_f c1 h
    refine lv_iconst (v := 0) hx hb dX5_records_48 (by decide) ?_
    refine lv_istore_n (lv' := [(1, .int 0), (0, .ref mqa)]) hx hb dX5_records_49 rfl hl (by decide) rfl (fun ls hl => ?_)
    exact L50 10000 0 pas fp h _ _ hP hD hS ls (lv_sub hl [1, 0] rfl)
  · replace h := if_t c1 h
    refine lv_iconst (v := 0) hx hb dX5_records_8 (by decide) ?_
    refine lv_istore_n (lv' := [(1, .int 0), (0, .ref mqa)]) hx hb dX5_records_9 rfl hl (by decide) rfl (fun ls hl => ?_)
    exact L10 10000 0 pas fp h _ _ hP hD hS ls (lv_sub hl [1, 0] rfl)
set_option maxHeartbeats 4000000 in
set_option maxRecDepth 100000 in
theorem c_X5_takes (l : Launch) (G : gG) (mqa mqs mqp mqn mqx mqm : Nat) (pas : Int32) (misk : Int32) (len : Int32) (spo : Int32) (kin : Int32) (cam : Int32) (fst : Int32) (lst : Int32) (inr : Int32) (fs : Nat → Int32) (fp : Nat → Int32) (fn : Nat → Int32) (fx : Nat → Int32) (fm : Nat → Int32) (sz : Nat) (res : Int32 × (Nat → Int32) × (Nat → Int32)) (h : F_X5_takes pas fs fp fm = some res) : WrM l G yX5_takes cX5_takes 2 none (rmk 1 21) [(mqa, .inr (5, [.ref mqs, .ref mqp, .int pas, .ref mqn, .int misk, .ref mqx, .int len, .ref mqm, .int spo, .int kin, .int cam, .int fst, .int lst, .int inr])), (mqs, .inl (G.2.2.1, 65, .inl fs)), (mqp, .inl (G.2.2.1, 260, .inl fp)), (mqn, .inl (G.2.2.1, 65, .inl fn)), (mqx, .inl (G.2.1, 80, .inl fx)), (mqm, .inl (G.2.2.1, 24, .inl fm))] sz [.ref mqa] none [(mqa, .inr (5, [.ref mqs, .ref mqp, .int res.1, .ref mqn, .int misk, .ref mqx, .int len, .ref mqm, .int spo, .int kin, .int cam, .int fst, .int lst, .int inr])), (mqs, .inl (G.2.2.1, 65, .inl res.2.1)), (mqp, .inl (G.2.2.1, 260, .inl res.2.2)), (mqn, .inl (G.2.2.1, 65, .inl fn)), (mqx, .inl (G.2.1, 80, .inl fx)), (mqm, .inl (G.2.2.1, 24, .inl fm))] := by
  refine ofWr (by decide) (Nat.le_of_ble_eq_true rfl) ?_
  intro p e s m below meth c ls A S hr hlk hK hP hD hS hA hl
  have S : CallFix p m c cX5_takes 2 s ([.ref mqa] : List Value).toArray T0 RX5 := S
  obtain ⟨hx, hb, hml, hown, hts⟩ := id S
  have hl : lv_has ls 2 [(0, .ref mqa)] := hl
  have L6 : ∀ (n : Nat) (x1 : Int32) (pas : Int32) (fs : Nat → Int32) (fp : Nat → Int32), F_X5_takes_6 fm n x1 pas fs fp = some res → ∀ (H : Heap) (locs : List Loc), va_P G.1 vwCl [(mqa, .inr (5, [.ref mqs, .ref mqp, .int pas, .ref mqn, .int misk, .ref mqx, .int len, .ref mqm, .int spo, .int kin, .int cam, .int fst, .int lst, .int inr])), (mqs, .inl (G.2.2.1, 65, .inl fs)), (mqp, .inl (G.2.2.1, 260, .inl fp)), (mqn, .inl (G.2.2.1, 65, .inl fn)), (mqx, .inl (G.2.1, 80, .inl fx)), (mqm, .inl (G.2.2.1, 24, .inl fm))] H → va_D A [(mqa, .inr (5, [.ref mqs, .ref mqp, .int pas, .ref mqn, .int misk, .ref mqx, .int len, .ref mqm, .int spo, .int kin, .int cam, .int fst, .int lst, .int inr])), (mqs, .inl (G.2.2.1, 65, .inl fs)), (mqp, .inl (G.2.2.1, 260, .inl fp)), (mqn, .inl (G.2.2.1, 65, .inl fn)), (mqx, .inl (G.2.1, 80, .inl fx)), (mqm, .inl (G.2.2.1, 24, .inl fm))] → va_S A s.heap H locs → ∀ (ls : Array Slot), lv_has ls 2 [(0, .ref mqa), (1, .int x1)] → W p l e (rmk 1 21) s m ([.ref mqa] : List Value).toArray below meth c H locs 0 0 (MQ below (gQw G none [(mqa, .inr (5, [.ref mqs, .ref mqp, .int res.1, .ref mqn, .int misk, .ref mqx, .int len, .ref mqm, .int spo, .int kin, .int cam, .int fst, .int lst, .int inr])), (mqs, .inl (G.2.2.1, 65, .inl res.2.1)), (mqp, .inl (G.2.2.1, 260, .inl res.2.2)), (mqn, .inl (G.2.2.1, 65, .inl fn)), (mqx, .inl (G.2.1, 80, .inl fx)), (mqm, .inl (G.2.2.1, 24, .inl fm))] A) ([.ref mqa] : List Value).toArray s 0 0 A) (F0 m 6 ls []) := by
    intro n
    induction n with
    | zero => intro x1 pas fs fp h; exact absurd (show (none : Option (Int32 × (Nat → Int32) × (Nat → Int32))) = some res from h) (fun q => by cases q)
    | succ n ih =>
      intro x1 pas fs fp h H locs hP hD hS ls hl
      rw [F_X5_takes_6] at h
      refine lv_iload_n hx hb dX5_takes_6 rfl (lv_at hl 1 rfl) ?_
      refine lv_bipush (v := 24) hx hb dX5_takes_7 (by decide) ?_
      refine lv_icmp_ge (tgt := 32) hx hb dX5_takes_9 (by decide) (fun c2 => ?_) (fun c2 => ?_)
      · replace h := if_t c2 h
        obtain rfl := Option.some.inj h
        exact retV S hr hlk hP hD hS dX5_takes_32
      · replace h := if_f c2 h
        refine lv_aload_n hx hb dX5_takes_12 rfl (lv_at hl 0 rfl) ?_
        refine gf S hK iX5 hP 0 rfl rfl 0 (by decide) q636 rfl dX5_takes_13 ?_
        refine lv_iconst (v := 0) hx hb dX5_takes_16 (by decide) ?_
        refine lv_iload_n hx hb dX5_takes_17 rfl (lv_at hl 1 rfl) ?_
        refine lv_iadd hx hb dX5_takes_18 ?_
        refine lv_aload_n hx hb dX5_takes_19 rfl (lv_at hl 0 rfl) ?_
        refine gf S hK iX5 hP 0 rfl rfl 7 (by decide) q643 rfl dX5_takes_20 ?_
        refine lv_iload_n hx hb dX5_takes_23 rfl (lv_at hl 1 rfl) ?_
        obtain ⟨k3, h⟩ := ck_t h
        refine ald S hK hP 5 rfl (ok_vp k3) dX5_takes_24 ?_
        obtain ⟨k4, h⟩ := ck_t h
        refine ast S hK hP hD hS 1 rfl (ok_vp k4) [(mqa, .inr (5, [.ref mqs, .ref mqp, .int pas, .ref mqn, .int misk, .ref mqx, .int len, .ref mqm, .int spo, .int kin, .int cam, .int fst, .int lst, .int inr])), (mqs, .inl (G.2.2.1, 65, .inl (upd fs (Int32.toNatClampNeg ((0 : Int32) + x1)) (fm (Int32.toNatClampNeg x1))))), (mqp, .inl (G.2.2.1, 260, .inl fp)), (mqn, .inl (G.2.2.1, 65, .inl fn)), (mqx, .inl (G.2.1, 80, .inl fx)), (mqm, .inl (G.2.2.1, 24, .inl fm))] rfl dX5_takes_25 (fun H locs hP hD hS => ?_)
        refine lv_iinc (v := x1 + 1) (lv' := [(1, .int (x1 + 1)), (0, .ref mqa)]) hx hb dX5_takes_26 hl (k := 1) rfl rfl (by decide) rfl (fun ls hl => ?_)
        refine lv_goto (tgt := 6) hx hb dX5_takes_29 (by decide) ?_
        exact ih (x1 + 1) pas (upd fs (Int32.toNatClampNeg ((0 : Int32) + x1)) (fm (Int32.toNatClampNeg x1))) fp h _ _ hP hD hS ls (lv_sub hl [1, 0] rfl)
  rw [F_X5_takes] at h
  refine lv_aload_n hx hb dX5_takes_0 rfl (lv_at hl 0 rfl) ?_
  obtain ⟨r1, hr1, h⟩ := bd_t h
  refine wrV (As := []) (rest := []) (ws := [(mqa, .inr (5, [.ref mqs, .ref mqp, .int pas, .ref mqn, .int misk, .ref mqx, .int len, .ref mqm, .int spo, .int kin, .int cam, .int fst, .int lst, .int inr])), (mqs, .inl (G.2.2.1, 65, .inl fs)), (mqp, .inl (G.2.2.1, 260, .inl fp)), (mqn, .inl (G.2.2.1, 65, .inl fn)), (mqx, .inl (G.2.1, 80, .inl fx)), (mqm, .inl (G.2.2.1, 24, .inl fm))]) (wr := []) (ws' := [(mqa, .inr (5, [.ref mqs, .ref mqp, .int r1.1, .ref mqn, .int misk, .ref mqx, .int len, .ref mqm, .int spo, .int kin, .int cam, .int fst, .int lst, .int inr])), (mqs, .inl (G.2.2.1, 65, .inl fs)), (mqp, .inl (G.2.2.1, 260, .inl r1.2)), (mqn, .inl (G.2.2.1, 65, .inl fn)), (mqx, .inl (G.2.1, 80, .inl fx)), (mqm, .inl (G.2.2.1, 24, .inl fm))]) (ws1 := [(mqa, .inr (5, [.ref mqs, .ref mqp, .int r1.1, .ref mqn, .int misk, .ref mqx, .int len, .ref mqm, .int spo, .int kin, .int cam, .int fst, .int lst, .int inr])), (mqs, .inl (G.2.2.1, 65, .inl fs)), (mqp, .inl (G.2.2.1, 260, .inl r1.2)), (mqn, .inl (G.2.2.1, 65, .inl fn)), (mqx, .inl (G.2.1, 80, .inl fx)), (mqm, .inl (G.2.2.1, 24, .inl fm))]) S hK (c_X5_records l G mqa mqs mqp mqn mqx mqm pas misk len spo kin cam fst lst inr fs fp fn fx fm _ r1 hr1) mX5_records q689 ⟨rfl, rfl, Nat.le_of_ble_eq_true rfl, Nat.le_of_ble_eq_true rfl⟩ hP hD hS hA [0, 1, 2, 3, 4, 5] [] [0, 1, 2, 3, 4, 5] rfl rfl (by decide) (by decide) (by decide) rfl (by decide) rfl rfl rfl rfl hl.1 (Nat.le_of_ble_eq_true rfl) ⟨Nat.le_refl 0, Nat.le_refl 0⟩ dX5_takes_1 (fun H locs hP hD hS => ?_)
  refine lv_iconst (v := 0) hx hb dX5_takes_4 (by decide) ?_
  refine lv_istore_n (lv' := [(1, .int 0), (0, .ref mqa)]) hx hb dX5_takes_5 rfl hl (by decide) rfl (fun ls hl => ?_)
  exact L6 10000 0 r1.1 fs r1.2 h _ _ hP hD hS ls (lv_sub hl [1, 0] rfl)
set_option maxHeartbeats 4000000 in
set_option maxRecDepth 100000 in
theorem c_X5_fails (l : Launch) (G : gG) (mqa mqs mqp mqn mqx mqm : Nat) (pas : Int32) (misk : Int32) (len : Int32) (spo : Int32) (kin : Int32) (cam : Int32) (fst : Int32) (lst : Int32) (inr : Int32) (fs : Nat → Int32) (fp : Nat → Int32) (fn : Nat → Int32) (fx : Nat → Int32) (fm : Nat → Int32) (sz : Nat) (res : Int32) (h : F_X5_fails len spo kin = some res) : WrM l G yX5_fails cX5_fails 1 none (rmk 0 0) [(mqa, .inr (5, [.ref mqs, .ref mqp, .int pas, .ref mqn, .int misk, .ref mqx, .int len, .ref mqm, .int spo, .int kin, .int cam, .int fst, .int lst, .int inr])), (mqs, .inl (G.2.2.1, 65, .inl fs)), (mqp, .inl (G.2.2.1, 260, .inl fp)), (mqn, .inl (G.2.2.1, 65, .inl fn)), (mqx, .inl (G.2.1, 80, .inl fx)), (mqm, .inl (G.2.2.1, 24, .inl fm))] sz [.ref mqa] none [(mqa, .inr (5, [.ref mqs, .ref mqp, .int pas, .ref mqn, .int misk, .ref mqx, .int len, .ref mqm, .int spo, .int res, .int cam, .int fst, .int lst, .int inr])), (mqs, .inl (G.2.2.1, 65, .inl fs)), (mqp, .inl (G.2.2.1, 260, .inl fp)), (mqn, .inl (G.2.2.1, 65, .inl fn)), (mqx, .inl (G.2.1, 80, .inl fx)), (mqm, .inl (G.2.2.1, 24, .inl fm))] := by
  refine ofWr (by decide) (Nat.le_of_ble_eq_true rfl) ?_
  intro p e s m below meth c ls A S hr hlk hK hP hD hS hA hl
  have S : CallFix p m c cX5_fails 1 s ([.ref mqa] : List Value).toArray T0 RX5 := S
  obtain ⟨hx, hb, hml, hown, hts⟩ := id S
  have hl : lv_has ls 1 [(0, .ref mqa)] := hl
  rw [F_X5_fails] at h
  refine lv_aload_n hx hb dX5_fails_0 rfl (lv_at hl 0 rfl) ?_
  refine lv_aload_n hx hb dX5_fails_1 rfl (lv_at hl 0 rfl) ?_
  refine gf S hK iX5 hP 0 rfl rfl 8 (by decide) q644 rfl dX5_fails_2 ?_
  refine lv_aload_n hx hb dX5_fails_5 rfl (lv_at hl 0 rfl) ?_
  refine gf S hK iX5 hP 0 rfl rfl 6 (by decide) q642 rfl dX5_fails_6 ?_
  refine lv_icmp_ne (tgt := 16) hx hb dX5_fails_9 (by decide) (fun c1 => ?_) (fun c1 => ?_)
  · replace h := if_f c1 h
    refine lv_iconst (v := 4) hx hb dX5_fails_16 (by decide) ?_
    refine pf S hK iX5 tyX5 tyX5_ok nmX5 hP hD hS 0 rfl rfl 9 (by decide) q645 rfl rfl rfl (Nat.le_of_ble_eq_true rfl) [(mqa, .inr (5, [.ref mqs, .ref mqp, .int pas, .ref mqn, .int misk, .ref mqx, .int len, .ref mqm, .int spo, .int 4, .int cam, .int fst, .int lst, .int inr])), (mqs, .inl (G.2.2.1, 65, .inl fs)), (mqp, .inl (G.2.2.1, 260, .inl fp)), (mqn, .inl (G.2.2.1, 65, .inl fn)), (mqx, .inl (G.2.1, 80, .inl fx)), (mqm, .inl (G.2.2.1, 24, .inl fm))] rfl dX5_fails_17 (fun H locs hP hD hS => ?_)
    obtain rfl := Option.some.inj h
    exact retV S hr hlk hP hD hS dX5_fails_20
  · replace h := if_t c1 h
    refine lv_iconst (v := 1) hx hb dX5_fails_12 (by decide) ?_
    refine lv_goto (tgt := 17) hx hb dX5_fails_13 (by decide) ?_
    refine pf S hK iX5 tyX5 tyX5_ok nmX5 hP hD hS 0 rfl rfl 9 (by decide) q645 rfl rfl rfl (Nat.le_of_ble_eq_true rfl) [(mqa, .inr (5, [.ref mqs, .ref mqp, .int pas, .ref mqn, .int misk, .ref mqx, .int len, .ref mqm, .int spo, .int 1, .int cam, .int fst, .int lst, .int inr])), (mqs, .inl (G.2.2.1, 65, .inl fs)), (mqp, .inl (G.2.2.1, 260, .inl fp)), (mqn, .inl (G.2.2.1, 65, .inl fn)), (mqx, .inl (G.2.1, 80, .inl fx)), (mqm, .inl (G.2.2.1, 24, .inl fm))] rfl dX5_fails_17 (fun H locs hP hD hS => ?_)
    obtain rfl := Option.some.inj h
    exact retV S hr hlk hP hD hS dX5_fails_20
set_option maxHeartbeats 4000000 in
set_option maxRecDepth 100000 in
theorem c_X5_reads (l : Launch) (G : gG) (mqa mqs mqp mqn mqx mqm : Nat) (pas : Int32) (misk : Int32) (len : Int32) (spo : Int32) (kin : Int32) (cam : Int32) (fst : Int32) (lst : Int32) (inr : Int32) (fs : Nat → Int32) (fp : Nat → Int32) (fn : Nat → Int32) (fx : Nat → Int32) (fm : Nat → Int32) (sz : Nat) (res : Int32 × Int32 × Int32 × Int32 × Int32 × Int32 × (Nat → Int32)) (h : F_X5_reads len spo kin cam fst lst inr fx fm = some res) : WrM l G yX5_reads cX5_reads 3 none (rmk 2 42) [(mqa, .inr (5, [.ref mqs, .ref mqp, .int pas, .ref mqn, .int misk, .ref mqx, .int len, .ref mqm, .int spo, .int kin, .int cam, .int fst, .int lst, .int inr])), (mqs, .inl (G.2.2.1, 65, .inl fs)), (mqp, .inl (G.2.2.1, 260, .inl fp)), (mqn, .inl (G.2.2.1, 65, .inl fn)), (mqx, .inl (G.2.1, 80, .inl fx)), (mqm, .inl (G.2.2.1, 24, .inl fm))] sz [.ref mqa] none [(mqa, .inr (5, [.ref mqs, .ref mqp, .int pas, .ref mqn, .int misk, .ref mqx, .int len, .ref mqm, .int res.1, .int res.2.1, .int res.2.2.1, .int res.2.2.2.1, .int res.2.2.2.2.1, .int res.2.2.2.2.2.1])), (mqs, .inl (G.2.2.1, 65, .inl fs)), (mqp, .inl (G.2.2.1, 260, .inl fp)), (mqn, .inl (G.2.2.1, 65, .inl fn)), (mqx, .inl (G.2.1, 80, .inl fx)), (mqm, .inl (G.2.2.1, 24, .inl res.2.2.2.2.2.2))] := by
  refine ofWr (by decide) (Nat.le_of_ble_eq_true rfl) ?_
  intro p e s m below meth c ls A S hr hlk hK hP hD hS hA hl
  have S : CallFix p m c cX5_reads 3 s ([.ref mqa] : List Value).toArray T0 RX5 := S
  obtain ⟨hx, hb, hml, hown, hts⟩ := id S
  have hl : lv_has ls 3 [(0, .ref mqa)] := hl
  have L35 : ∀ (n : Nat) (x1 : Int32) (spo : Int32) (kin : Int32) (cam : Int32) (fst : Int32) (lst : Int32) (inr : Int32) (fm : Nat → Int32), F_X5_reads_35 len fx n x1 spo kin cam fst lst inr fm = some res → ∀ (H : Heap) (locs : List Loc), va_P G.1 vwCl [(mqa, .inr (5, [.ref mqs, .ref mqp, .int pas, .ref mqn, .int misk, .ref mqx, .int len, .ref mqm, .int spo, .int kin, .int cam, .int fst, .int lst, .int inr])), (mqs, .inl (G.2.2.1, 65, .inl fs)), (mqp, .inl (G.2.2.1, 260, .inl fp)), (mqn, .inl (G.2.2.1, 65, .inl fn)), (mqx, .inl (G.2.1, 80, .inl fx)), (mqm, .inl (G.2.2.1, 24, .inl fm))] H → va_D A [(mqa, .inr (5, [.ref mqs, .ref mqp, .int pas, .ref mqn, .int misk, .ref mqx, .int len, .ref mqm, .int spo, .int kin, .int cam, .int fst, .int lst, .int inr])), (mqs, .inl (G.2.2.1, 65, .inl fs)), (mqp, .inl (G.2.2.1, 260, .inl fp)), (mqn, .inl (G.2.2.1, 65, .inl fn)), (mqx, .inl (G.2.1, 80, .inl fx)), (mqm, .inl (G.2.2.1, 24, .inl fm))] → va_S A s.heap H locs → ∀ (ls : Array Slot), lv_has ls 3 [(0, .ref mqa), (1, .int x1)] → W p l e (rmk 2 42) s m ([.ref mqa] : List Value).toArray below meth c H locs 0 0 (MQ below (gQw G none [(mqa, .inr (5, [.ref mqs, .ref mqp, .int pas, .ref mqn, .int misk, .ref mqx, .int len, .ref mqm, .int res.1, .int res.2.1, .int res.2.2.1, .int res.2.2.2.1, .int res.2.2.2.2.1, .int res.2.2.2.2.2.1])), (mqs, .inl (G.2.2.1, 65, .inl fs)), (mqp, .inl (G.2.2.1, 260, .inl fp)), (mqn, .inl (G.2.2.1, 65, .inl fn)), (mqx, .inl (G.2.1, 80, .inl fx)), (mqm, .inl (G.2.2.1, 24, .inl res.2.2.2.2.2.2))] A) ([.ref mqa] : List Value).toArray s 0 0 A) (F0 m 35 ls []) := by
    intro n
    induction n with
    | zero => intro x1 spo kin cam fst lst inr fm h; exact absurd (show (none : Option (Int32 × Int32 × Int32 × Int32 × Int32 × Int32 × (Nat → Int32))) = some res from h) (fun q => by cases q)
    | succ n ih =>
      intro x1 spo kin cam fst lst inr fm h H locs hP hD hS ls hl
      rw [F_X5_reads_35] at h
      refine lv_aload_n hx hb dX5_reads_35 rfl (lv_at hl 0 rfl) ?_
      obtain ⟨r5, hr5, h⟩ := bd_t h
      refine rdV (As := []) (rest := []) S hK (c_X5_isDigit l G mqa mqs mqp mqn mqx mqm pas misk len spo kin cam fst lst inr fs fp fn fx fm r5 hr5) mX5_isDigit q745 ⟨rfl, rfl, Nat.le_of_ble_eq_true rfl, Nat.le_of_ble_eq_true rfl⟩ hP rfl rfl rfl rfl hl.1 (Nat.le_of_ble_eq_true rfl) ⟨Nat.le_refl 0, Nat.le_refl 0⟩ dX5_reads_36 ?_
      refine lv_if_eq (tgt := 98) hx hb dX5_reads_39 (by decide) (fun c6 => ?_) (fun c6 => ?_)
      · replace h := if_t c6 h
        refine lv_aload_n hx hb dX5_reads_98 rfl (lv_at hl 0 rfl) ?_
        refine gf S hK iX5 hP 0 rfl rfl 10 (by decide) q646 rfl dX5_reads_99 ?_
        refine lv_iload_n hx hb dX5_reads_102 rfl (lv_at hl 1 rfl) ?_
        refine lv_ishr hx hb dX5_reads_103 ?_
        refine lv_iconst (v := 1) hx hb dX5_reads_104 (by decide) ?_
        refine lv_iand hx hb dX5_reads_105 ?_
        refine lv_iconst (v := 1) hx hb dX5_reads_106 (by decide) ?_
        refine lv_icmp_ne (tgt := 116) hx hb dX5_reads_107 (by decide) (fun c7 => ?_) (fun c7 => ?_)
        · replace h := if_f c7 h
          refine lv_aload_n hx hb dX5_reads_116 rfl (lv_at hl 0 rfl) ?_
          refine lv_dup hx hb dX5_reads_117 rfl ?_
          refine gf S hK iX5 hP 0 rfl rfl 10 (by decide) q646 rfl dX5_reads_118 ?_
          refine lv_iconst (v := 1) hx hb dX5_reads_121 (by decide) ?_
          refine lv_iload_n hx hb dX5_reads_122 rfl (lv_at hl 1 rfl) ?_
          refine lv_ishl hx hb dX5_reads_123 ?_
          refine lv_ior hx hb dX5_reads_124 ?_
          refine pf S hK iX5 tyX5 tyX5_ok nmX5 hP hD hS 0 rfl rfl 10 (by decide) q646 rfl rfl rfl (Nat.le_of_ble_eq_true rfl) [(mqa, .inr (5, [.ref mqs, .ref mqp, .int pas, .ref mqn, .int misk, .ref mqx, .int len, .ref mqm, .int spo, .int kin, .int (cam ||| ((1 : Int32) <<< (x1 &&& 31))), .int fst, .int lst, .int inr])), (mqs, .inl (G.2.2.1, 65, .inl fs)), (mqp, .inl (G.2.2.1, 260, .inl fp)), (mqn, .inl (G.2.2.1, 65, .inl fn)), (mqx, .inl (G.2.1, 80, .inl fx)), (mqm, .inl (G.2.2.1, 24, .inl fm))] rfl dX5_reads_125 (fun H locs hP hD hS => ?_)
          refine lv_aload_n hx hb dX5_reads_128 rfl (lv_at hl 0 rfl) ?_
          refine gf S hK iX5 hP 0 rfl rfl 13 (by decide) q649 rfl dX5_reads_129 ?_
          refine lv_if_ne (tgt := 143) hx hb dX5_reads_132 (by decide) (fun c8 => ?_) (fun c8 => ?_)
          · replace h := if_f c8 h
            refine lv_aload_n hx hb dX5_reads_143 rfl (lv_at hl 0 rfl) ?_
            refine gf S hK iX5 hP 0 rfl rfl 7 (by decide) q643 rfl dX5_reads_144 ?_
            refine lv_aload_n hx hb dX5_reads_147 rfl (lv_at hl 0 rfl) ?_
            refine gf S hK iX5 hP 0 rfl rfl 12 (by decide) q648 rfl dX5_reads_148 ?_
            refine lv_iload_n hx hb dX5_reads_151 rfl (lv_at hl 1 rfl) ?_
            obtain ⟨k9, h⟩ := ck_t h
            refine ast S hK hP hD hS 5 rfl (ok_vp k9) [(mqa, .inr (5, [.ref mqs, .ref mqp, .int pas, .ref mqn, .int misk, .ref mqx, .int len, .ref mqm, .int spo, .int kin, .int (cam ||| ((1 : Int32) <<< (x1 &&& 31))), .int fst, .int lst, .int inr])), (mqs, .inl (G.2.2.1, 65, .inl fs)), (mqp, .inl (G.2.2.1, 260, .inl fp)), (mqn, .inl (G.2.2.1, 65, .inl fn)), (mqx, .inl (G.2.1, 80, .inl fx)), (mqm, .inl (G.2.2.1, 24, .inl (upd fm (Int32.toNatClampNeg lst) x1)))] rfl dX5_reads_152 (fun H locs hP hD hS => ?_)
            refine lv_aload_n hx hb dX5_reads_153 rfl (lv_at hl 0 rfl) ?_
            refine gf S hK iX5 hP 0 rfl rfl 7 (by decide) q643 rfl dX5_reads_154 ?_
            refine lv_iload_n hx hb dX5_reads_157 rfl (lv_at hl 1 rfl) ?_
            refine lv_aload_n hx hb dX5_reads_158 rfl (lv_at hl 0 rfl) ?_
            refine gf S hK iX5 hP 0 rfl rfl 11 (by decide) q647 rfl dX5_reads_159 ?_
            obtain ⟨k10, h⟩ := ck_t h
            refine ast S hK hP hD hS 5 rfl (ok_vp k10) [(mqa, .inr (5, [.ref mqs, .ref mqp, .int pas, .ref mqn, .int misk, .ref mqx, .int len, .ref mqm, .int spo, .int kin, .int (cam ||| ((1 : Int32) <<< (x1 &&& 31))), .int fst, .int lst, .int inr])), (mqs, .inl (G.2.2.1, 65, .inl fs)), (mqp, .inl (G.2.2.1, 260, .inl fp)), (mqn, .inl (G.2.2.1, 65, .inl fn)), (mqx, .inl (G.2.1, 80, .inl fx)), (mqm, .inl (G.2.2.1, 24, .inl (upd (upd fm (Int32.toNatClampNeg lst) x1) (Int32.toNatClampNeg x1) fst)))] rfl dX5_reads_162 (fun H locs hP hD hS => ?_)
            refine lv_aload_n hx hb dX5_reads_163 rfl (lv_at hl 0 rfl) ?_
            refine lv_iload_n hx hb dX5_reads_164 rfl (lv_at hl 1 rfl) ?_
            refine pf S hK iX5 tyX5 tyX5_ok nmX5 hP hD hS 0 rfl rfl 12 (by decide) q648 rfl rfl rfl (Nat.le_of_ble_eq_true rfl) [(mqa, .inr (5, [.ref mqs, .ref mqp, .int pas, .ref mqn, .int misk, .ref mqx, .int len, .ref mqm, .int spo, .int kin, .int (cam ||| ((1 : Int32) <<< (x1 &&& 31))), .int fst, .int x1, .int inr])), (mqs, .inl (G.2.2.1, 65, .inl fs)), (mqp, .inl (G.2.2.1, 260, .inl fp)), (mqn, .inl (G.2.2.1, 65, .inl fn)), (mqx, .inl (G.2.1, 80, .inl fx)), (mqm, .inl (G.2.2.1, 24, .inl (upd (upd fm (Int32.toNatClampNeg lst) x1) (Int32.toNatClampNeg x1) fst)))] rfl dX5_reads_165 (fun H locs hP hD hS => ?_)
            refine lv_aload_n hx hb dX5_reads_168 rfl (lv_at hl 0 rfl) ?_
            refine lv_dup hx hb dX5_reads_169 rfl ?_
            refine gf S hK iX5 hP 0 rfl rfl 13 (by decide) q649 rfl dX5_reads_170 ?_
            refine lv_iconst (v := 1) hx hb dX5_reads_173 (by decide) ?_
            refine lv_iadd hx hb dX5_reads_174 ?_
            refine pf S hK iX5 tyX5 tyX5_ok nmX5 hP hD hS 0 rfl rfl 13 (by decide) q649 rfl rfl rfl (Nat.le_of_ble_eq_true rfl) [(mqa, .inr (5, [.ref mqs, .ref mqp, .int pas, .ref mqn, .int misk, .ref mqx, .int len, .ref mqm, .int spo, .int kin, .int (cam ||| ((1 : Int32) <<< (x1 &&& 31))), .int fst, .int x1, .int (inr + 1)])), (mqs, .inl (G.2.2.1, 65, .inl fs)), (mqp, .inl (G.2.2.1, 260, .inl fp)), (mqn, .inl (G.2.2.1, 65, .inl fn)), (mqx, .inl (G.2.1, 80, .inl fx)), (mqm, .inl (G.2.2.1, 24, .inl (upd (upd fm (Int32.toNatClampNeg lst) x1) (Int32.toNatClampNeg x1) fst)))] rfl dX5_reads_175 (fun H locs hP hD hS => ?_)
            obtain rfl := Option.some.inj h
            exact retV S hr hlk hP hD hS dX5_reads_178
          · replace h := if_t c8 h
            refine lv_aload_n hx hb dX5_reads_135 rfl (lv_at hl 0 rfl) ?_
            refine lv_iload_n hx hb dX5_reads_136 rfl (lv_at hl 1 rfl) ?_
            refine pf S hK iX5 tyX5 tyX5_ok nmX5 hP hD hS 0 rfl rfl 11 (by decide) q647 rfl rfl rfl (Nat.le_of_ble_eq_true rfl) [(mqa, .inr (5, [.ref mqs, .ref mqp, .int pas, .ref mqn, .int misk, .ref mqx, .int len, .ref mqm, .int spo, .int kin, .int (cam ||| ((1 : Int32) <<< (x1 &&& 31))), .int x1, .int lst, .int inr])), (mqs, .inl (G.2.2.1, 65, .inl fs)), (mqp, .inl (G.2.2.1, 260, .inl fp)), (mqn, .inl (G.2.2.1, 65, .inl fn)), (mqx, .inl (G.2.1, 80, .inl fx)), (mqm, .inl (G.2.2.1, 24, .inl fm))] rfl dX5_reads_137 (fun H locs hP hD hS => ?_)
            refine lv_goto (tgt := 153) hx hb dX5_reads_140 (by decide) ?_
            refine lv_aload_n hx hb dX5_reads_153 rfl (lv_at hl 0 rfl) ?_
            refine gf S hK iX5 hP 0 rfl rfl 7 (by decide) q643 rfl dX5_reads_154 ?_
            refine lv_iload_n hx hb dX5_reads_157 rfl (lv_at hl 1 rfl) ?_
            refine lv_aload_n hx hb dX5_reads_158 rfl (lv_at hl 0 rfl) ?_
            refine gf S hK iX5 hP 0 rfl rfl 11 (by decide) q647 rfl dX5_reads_159 ?_
            obtain ⟨k11, h⟩ := ck_t h
            refine ast S hK hP hD hS 5 rfl (ok_vp k11) [(mqa, .inr (5, [.ref mqs, .ref mqp, .int pas, .ref mqn, .int misk, .ref mqx, .int len, .ref mqm, .int spo, .int kin, .int (cam ||| ((1 : Int32) <<< (x1 &&& 31))), .int x1, .int lst, .int inr])), (mqs, .inl (G.2.2.1, 65, .inl fs)), (mqp, .inl (G.2.2.1, 260, .inl fp)), (mqn, .inl (G.2.2.1, 65, .inl fn)), (mqx, .inl (G.2.1, 80, .inl fx)), (mqm, .inl (G.2.2.1, 24, .inl (upd fm (Int32.toNatClampNeg x1) x1)))] rfl dX5_reads_162 (fun H locs hP hD hS => ?_)
            refine lv_aload_n hx hb dX5_reads_163 rfl (lv_at hl 0 rfl) ?_
            refine lv_iload_n hx hb dX5_reads_164 rfl (lv_at hl 1 rfl) ?_
            refine pf S hK iX5 tyX5 tyX5_ok nmX5 hP hD hS 0 rfl rfl 12 (by decide) q648 rfl rfl rfl (Nat.le_of_ble_eq_true rfl) [(mqa, .inr (5, [.ref mqs, .ref mqp, .int pas, .ref mqn, .int misk, .ref mqx, .int len, .ref mqm, .int spo, .int kin, .int (cam ||| ((1 : Int32) <<< (x1 &&& 31))), .int x1, .int x1, .int inr])), (mqs, .inl (G.2.2.1, 65, .inl fs)), (mqp, .inl (G.2.2.1, 260, .inl fp)), (mqn, .inl (G.2.2.1, 65, .inl fn)), (mqx, .inl (G.2.1, 80, .inl fx)), (mqm, .inl (G.2.2.1, 24, .inl (upd fm (Int32.toNatClampNeg x1) x1)))] rfl dX5_reads_165 (fun H locs hP hD hS => ?_)
            refine lv_aload_n hx hb dX5_reads_168 rfl (lv_at hl 0 rfl) ?_
            refine lv_dup hx hb dX5_reads_169 rfl ?_
            refine gf S hK iX5 hP 0 rfl rfl 13 (by decide) q649 rfl dX5_reads_170 ?_
            refine lv_iconst (v := 1) hx hb dX5_reads_173 (by decide) ?_
            refine lv_iadd hx hb dX5_reads_174 ?_
            refine pf S hK iX5 tyX5 tyX5_ok nmX5 hP hD hS 0 rfl rfl 13 (by decide) q649 rfl rfl rfl (Nat.le_of_ble_eq_true rfl) [(mqa, .inr (5, [.ref mqs, .ref mqp, .int pas, .ref mqn, .int misk, .ref mqx, .int len, .ref mqm, .int spo, .int kin, .int (cam ||| ((1 : Int32) <<< (x1 &&& 31))), .int x1, .int x1, .int (inr + 1)])), (mqs, .inl (G.2.2.1, 65, .inl fs)), (mqp, .inl (G.2.2.1, 260, .inl fp)), (mqn, .inl (G.2.2.1, 65, .inl fn)), (mqx, .inl (G.2.1, 80, .inl fx)), (mqm, .inl (G.2.2.1, 24, .inl (upd fm (Int32.toNatClampNeg x1) x1)))] rfl dX5_reads_175 (fun H locs hP hD hS => ?_)
            obtain rfl := Option.some.inj h
            exact retV S hr hlk hP hD hS dX5_reads_178
        · replace h := if_t c7 h
          refine lv_aload_n hx hb dX5_reads_110 rfl (lv_at hl 0 rfl) ?_
          refine lv_iconst (v := 3) hx hb dX5_reads_111 (by decide) ?_
          refine pf S hK iX5 tyX5 tyX5_ok nmX5 hP hD hS 0 rfl rfl 9 (by decide) q645 rfl rfl rfl (Nat.le_of_ble_eq_true rfl) [(mqa, .inr (5, [.ref mqs, .ref mqp, .int pas, .ref mqn, .int misk, .ref mqx, .int len, .ref mqm, .int spo, .int 3, .int cam, .int fst, .int lst, .int inr])), (mqs, .inl (G.2.2.1, 65, .inl fs)), (mqp, .inl (G.2.2.1, 260, .inl fp)), (mqn, .inl (G.2.2.1, 65, .inl fn)), (mqx, .inl (G.2.1, 80, .inl fx)), (mqm, .inl (G.2.2.1, 24, .inl fm))] rfl dX5_reads_112 (fun H locs hP hD hS => ?_)
          obtain rfl := Option.some.inj h
          exact retV S hr hlk hP hD hS dX5_reads_115
      · replace h := if_f c6 h
        refine lv_aload_n hx hb dX5_reads_42 rfl (lv_at hl 0 rfl) ?_
        refine gf S hK iX5 hP 0 rfl rfl 9 (by decide) q645 rfl dX5_reads_43 ?_
        refine lv_if_ne (tgt := 98) hx hb dX5_reads_46 (by decide) (fun c12 => ?_) (fun c12 => ?_)
        · replace h := if_f c12 h
          refine lv_aload_n hx hb dX5_reads_98 rfl (lv_at hl 0 rfl) ?_
          refine gf S hK iX5 hP 0 rfl rfl 10 (by decide) q646 rfl dX5_reads_99 ?_
          refine lv_iload_n hx hb dX5_reads_102 rfl (lv_at hl 1 rfl) ?_
          refine lv_ishr hx hb dX5_reads_103 ?_
          refine lv_iconst (v := 1) hx hb dX5_reads_104 (by decide) ?_
          refine lv_iand hx hb dX5_reads_105 ?_
          refine lv_iconst (v := 1) hx hb dX5_reads_106 (by decide) ?_
          refine lv_icmp_ne (tgt := 116) hx hb dX5_reads_107 (by decide) (fun c13 => ?_) (fun c13 => ?_)
          · replace h := if_f c13 h
            refine lv_aload_n hx hb dX5_reads_116 rfl (lv_at hl 0 rfl) ?_
            refine lv_dup hx hb dX5_reads_117 rfl ?_
            refine gf S hK iX5 hP 0 rfl rfl 10 (by decide) q646 rfl dX5_reads_118 ?_
            refine lv_iconst (v := 1) hx hb dX5_reads_121 (by decide) ?_
            refine lv_iload_n hx hb dX5_reads_122 rfl (lv_at hl 1 rfl) ?_
            refine lv_ishl hx hb dX5_reads_123 ?_
            refine lv_ior hx hb dX5_reads_124 ?_
            refine pf S hK iX5 tyX5 tyX5_ok nmX5 hP hD hS 0 rfl rfl 10 (by decide) q646 rfl rfl rfl (Nat.le_of_ble_eq_true rfl) [(mqa, .inr (5, [.ref mqs, .ref mqp, .int pas, .ref mqn, .int misk, .ref mqx, .int len, .ref mqm, .int spo, .int kin, .int (cam ||| ((1 : Int32) <<< (x1 &&& 31))), .int fst, .int lst, .int inr])), (mqs, .inl (G.2.2.1, 65, .inl fs)), (mqp, .inl (G.2.2.1, 260, .inl fp)), (mqn, .inl (G.2.2.1, 65, .inl fn)), (mqx, .inl (G.2.1, 80, .inl fx)), (mqm, .inl (G.2.2.1, 24, .inl fm))] rfl dX5_reads_125 (fun H locs hP hD hS => ?_)
            refine lv_aload_n hx hb dX5_reads_128 rfl (lv_at hl 0 rfl) ?_
            refine gf S hK iX5 hP 0 rfl rfl 13 (by decide) q649 rfl dX5_reads_129 ?_
            refine lv_if_ne (tgt := 143) hx hb dX5_reads_132 (by decide) (fun c14 => ?_) (fun c14 => ?_)
            · replace h := if_f c14 h
              refine lv_aload_n hx hb dX5_reads_143 rfl (lv_at hl 0 rfl) ?_
              refine gf S hK iX5 hP 0 rfl rfl 7 (by decide) q643 rfl dX5_reads_144 ?_
              refine lv_aload_n hx hb dX5_reads_147 rfl (lv_at hl 0 rfl) ?_
              refine gf S hK iX5 hP 0 rfl rfl 12 (by decide) q648 rfl dX5_reads_148 ?_
              refine lv_iload_n hx hb dX5_reads_151 rfl (lv_at hl 1 rfl) ?_
              obtain ⟨k15, h⟩ := ck_t h
              refine ast S hK hP hD hS 5 rfl (ok_vp k15) [(mqa, .inr (5, [.ref mqs, .ref mqp, .int pas, .ref mqn, .int misk, .ref mqx, .int len, .ref mqm, .int spo, .int kin, .int (cam ||| ((1 : Int32) <<< (x1 &&& 31))), .int fst, .int lst, .int inr])), (mqs, .inl (G.2.2.1, 65, .inl fs)), (mqp, .inl (G.2.2.1, 260, .inl fp)), (mqn, .inl (G.2.2.1, 65, .inl fn)), (mqx, .inl (G.2.1, 80, .inl fx)), (mqm, .inl (G.2.2.1, 24, .inl (upd fm (Int32.toNatClampNeg lst) x1)))] rfl dX5_reads_152 (fun H locs hP hD hS => ?_)
              refine lv_aload_n hx hb dX5_reads_153 rfl (lv_at hl 0 rfl) ?_
              refine gf S hK iX5 hP 0 rfl rfl 7 (by decide) q643 rfl dX5_reads_154 ?_
              refine lv_iload_n hx hb dX5_reads_157 rfl (lv_at hl 1 rfl) ?_
              refine lv_aload_n hx hb dX5_reads_158 rfl (lv_at hl 0 rfl) ?_
              refine gf S hK iX5 hP 0 rfl rfl 11 (by decide) q647 rfl dX5_reads_159 ?_
              obtain ⟨k16, h⟩ := ck_t h
              refine ast S hK hP hD hS 5 rfl (ok_vp k16) [(mqa, .inr (5, [.ref mqs, .ref mqp, .int pas, .ref mqn, .int misk, .ref mqx, .int len, .ref mqm, .int spo, .int kin, .int (cam ||| ((1 : Int32) <<< (x1 &&& 31))), .int fst, .int lst, .int inr])), (mqs, .inl (G.2.2.1, 65, .inl fs)), (mqp, .inl (G.2.2.1, 260, .inl fp)), (mqn, .inl (G.2.2.1, 65, .inl fn)), (mqx, .inl (G.2.1, 80, .inl fx)), (mqm, .inl (G.2.2.1, 24, .inl (upd (upd fm (Int32.toNatClampNeg lst) x1) (Int32.toNatClampNeg x1) fst)))] rfl dX5_reads_162 (fun H locs hP hD hS => ?_)
              refine lv_aload_n hx hb dX5_reads_163 rfl (lv_at hl 0 rfl) ?_
              refine lv_iload_n hx hb dX5_reads_164 rfl (lv_at hl 1 rfl) ?_
              refine pf S hK iX5 tyX5 tyX5_ok nmX5 hP hD hS 0 rfl rfl 12 (by decide) q648 rfl rfl rfl (Nat.le_of_ble_eq_true rfl) [(mqa, .inr (5, [.ref mqs, .ref mqp, .int pas, .ref mqn, .int misk, .ref mqx, .int len, .ref mqm, .int spo, .int kin, .int (cam ||| ((1 : Int32) <<< (x1 &&& 31))), .int fst, .int x1, .int inr])), (mqs, .inl (G.2.2.1, 65, .inl fs)), (mqp, .inl (G.2.2.1, 260, .inl fp)), (mqn, .inl (G.2.2.1, 65, .inl fn)), (mqx, .inl (G.2.1, 80, .inl fx)), (mqm, .inl (G.2.2.1, 24, .inl (upd (upd fm (Int32.toNatClampNeg lst) x1) (Int32.toNatClampNeg x1) fst)))] rfl dX5_reads_165 (fun H locs hP hD hS => ?_)
              refine lv_aload_n hx hb dX5_reads_168 rfl (lv_at hl 0 rfl) ?_
              refine lv_dup hx hb dX5_reads_169 rfl ?_
              refine gf S hK iX5 hP 0 rfl rfl 13 (by decide) q649 rfl dX5_reads_170 ?_
              refine lv_iconst (v := 1) hx hb dX5_reads_173 (by decide) ?_
              refine lv_iadd hx hb dX5_reads_174 ?_
              refine pf S hK iX5 tyX5 tyX5_ok nmX5 hP hD hS 0 rfl rfl 13 (by decide) q649 rfl rfl rfl (Nat.le_of_ble_eq_true rfl) [(mqa, .inr (5, [.ref mqs, .ref mqp, .int pas, .ref mqn, .int misk, .ref mqx, .int len, .ref mqm, .int spo, .int kin, .int (cam ||| ((1 : Int32) <<< (x1 &&& 31))), .int fst, .int x1, .int (inr + 1)])), (mqs, .inl (G.2.2.1, 65, .inl fs)), (mqp, .inl (G.2.2.1, 260, .inl fp)), (mqn, .inl (G.2.2.1, 65, .inl fn)), (mqx, .inl (G.2.1, 80, .inl fx)), (mqm, .inl (G.2.2.1, 24, .inl (upd (upd fm (Int32.toNatClampNeg lst) x1) (Int32.toNatClampNeg x1) fst)))] rfl dX5_reads_175 (fun H locs hP hD hS => ?_)
              obtain rfl := Option.some.inj h
              exact retV S hr hlk hP hD hS dX5_reads_178
            · replace h := if_t c14 h
              refine lv_aload_n hx hb dX5_reads_135 rfl (lv_at hl 0 rfl) ?_
              refine lv_iload_n hx hb dX5_reads_136 rfl (lv_at hl 1 rfl) ?_
              refine pf S hK iX5 tyX5 tyX5_ok nmX5 hP hD hS 0 rfl rfl 11 (by decide) q647 rfl rfl rfl (Nat.le_of_ble_eq_true rfl) [(mqa, .inr (5, [.ref mqs, .ref mqp, .int pas, .ref mqn, .int misk, .ref mqx, .int len, .ref mqm, .int spo, .int kin, .int (cam ||| ((1 : Int32) <<< (x1 &&& 31))), .int x1, .int lst, .int inr])), (mqs, .inl (G.2.2.1, 65, .inl fs)), (mqp, .inl (G.2.2.1, 260, .inl fp)), (mqn, .inl (G.2.2.1, 65, .inl fn)), (mqx, .inl (G.2.1, 80, .inl fx)), (mqm, .inl (G.2.2.1, 24, .inl fm))] rfl dX5_reads_137 (fun H locs hP hD hS => ?_)
              refine lv_goto (tgt := 153) hx hb dX5_reads_140 (by decide) ?_
              refine lv_aload_n hx hb dX5_reads_153 rfl (lv_at hl 0 rfl) ?_
              refine gf S hK iX5 hP 0 rfl rfl 7 (by decide) q643 rfl dX5_reads_154 ?_
              refine lv_iload_n hx hb dX5_reads_157 rfl (lv_at hl 1 rfl) ?_
              refine lv_aload_n hx hb dX5_reads_158 rfl (lv_at hl 0 rfl) ?_
              refine gf S hK iX5 hP 0 rfl rfl 11 (by decide) q647 rfl dX5_reads_159 ?_
              obtain ⟨k17, h⟩ := ck_t h
              refine ast S hK hP hD hS 5 rfl (ok_vp k17) [(mqa, .inr (5, [.ref mqs, .ref mqp, .int pas, .ref mqn, .int misk, .ref mqx, .int len, .ref mqm, .int spo, .int kin, .int (cam ||| ((1 : Int32) <<< (x1 &&& 31))), .int x1, .int lst, .int inr])), (mqs, .inl (G.2.2.1, 65, .inl fs)), (mqp, .inl (G.2.2.1, 260, .inl fp)), (mqn, .inl (G.2.2.1, 65, .inl fn)), (mqx, .inl (G.2.1, 80, .inl fx)), (mqm, .inl (G.2.2.1, 24, .inl (upd fm (Int32.toNatClampNeg x1) x1)))] rfl dX5_reads_162 (fun H locs hP hD hS => ?_)
              refine lv_aload_n hx hb dX5_reads_163 rfl (lv_at hl 0 rfl) ?_
              refine lv_iload_n hx hb dX5_reads_164 rfl (lv_at hl 1 rfl) ?_
              refine pf S hK iX5 tyX5 tyX5_ok nmX5 hP hD hS 0 rfl rfl 12 (by decide) q648 rfl rfl rfl (Nat.le_of_ble_eq_true rfl) [(mqa, .inr (5, [.ref mqs, .ref mqp, .int pas, .ref mqn, .int misk, .ref mqx, .int len, .ref mqm, .int spo, .int kin, .int (cam ||| ((1 : Int32) <<< (x1 &&& 31))), .int x1, .int x1, .int inr])), (mqs, .inl (G.2.2.1, 65, .inl fs)), (mqp, .inl (G.2.2.1, 260, .inl fp)), (mqn, .inl (G.2.2.1, 65, .inl fn)), (mqx, .inl (G.2.1, 80, .inl fx)), (mqm, .inl (G.2.2.1, 24, .inl (upd fm (Int32.toNatClampNeg x1) x1)))] rfl dX5_reads_165 (fun H locs hP hD hS => ?_)
              refine lv_aload_n hx hb dX5_reads_168 rfl (lv_at hl 0 rfl) ?_
              refine lv_dup hx hb dX5_reads_169 rfl ?_
              refine gf S hK iX5 hP 0 rfl rfl 13 (by decide) q649 rfl dX5_reads_170 ?_
              refine lv_iconst (v := 1) hx hb dX5_reads_173 (by decide) ?_
              refine lv_iadd hx hb dX5_reads_174 ?_
              refine pf S hK iX5 tyX5 tyX5_ok nmX5 hP hD hS 0 rfl rfl 13 (by decide) q649 rfl rfl rfl (Nat.le_of_ble_eq_true rfl) [(mqa, .inr (5, [.ref mqs, .ref mqp, .int pas, .ref mqn, .int misk, .ref mqx, .int len, .ref mqm, .int spo, .int kin, .int (cam ||| ((1 : Int32) <<< (x1 &&& 31))), .int x1, .int x1, .int (inr + 1)])), (mqs, .inl (G.2.2.1, 65, .inl fs)), (mqp, .inl (G.2.2.1, 260, .inl fp)), (mqn, .inl (G.2.2.1, 65, .inl fn)), (mqx, .inl (G.2.1, 80, .inl fx)), (mqm, .inl (G.2.2.1, 24, .inl (upd fm (Int32.toNatClampNeg x1) x1)))] rfl dX5_reads_175 (fun H locs hP hD hS => ?_)
              obtain rfl := Option.some.inj h
              exact retV S hr hlk hP hD hS dX5_reads_178
          · replace h := if_t c13 h
            refine lv_aload_n hx hb dX5_reads_110 rfl (lv_at hl 0 rfl) ?_
            refine lv_iconst (v := 3) hx hb dX5_reads_111 (by decide) ?_
            refine pf S hK iX5 tyX5 tyX5_ok nmX5 hP hD hS 0 rfl rfl 9 (by decide) q645 rfl rfl rfl (Nat.le_of_ble_eq_true rfl) [(mqa, .inr (5, [.ref mqs, .ref mqp, .int pas, .ref mqn, .int misk, .ref mqx, .int len, .ref mqm, .int spo, .int 3, .int cam, .int fst, .int lst, .int inr])), (mqs, .inl (G.2.2.1, 65, .inl fs)), (mqp, .inl (G.2.2.1, 260, .inl fp)), (mqn, .inl (G.2.2.1, 65, .inl fn)), (mqx, .inl (G.2.1, 80, .inl fx)), (mqm, .inl (G.2.2.1, 24, .inl fm))] rfl dX5_reads_112 (fun H locs hP hD hS => ?_)
            obtain rfl := Option.some.inj h
            exact retV S hr hlk hP hD hS dX5_reads_115
        · replace h := if_t c12 h
          refine lv_bipush (v := 10) hx hb dX5_reads_49 (by decide) ?_
          refine lv_iload_n hx hb dX5_reads_51 rfl (lv_at hl 1 rfl) ?_
          refine lv_imul hx hb dX5_reads_52 ?_
          refine lv_aload_n hx hb dX5_reads_53 rfl (lv_at hl 0 rfl) ?_
          refine gf S hK iX5 hP 0 rfl rfl 5 (by decide) q641 rfl dX5_reads_54 ?_
          refine lv_aload_n hx hb dX5_reads_57 rfl (lv_at hl 0 rfl) ?_
          refine gf S hK iX5 hP 0 rfl rfl 8 (by decide) q644 rfl dX5_reads_58 ?_
          obtain ⟨k18, h⟩ := ck_t h
          refine cald S hK hP 4 rfl (ok_vp k18) dX5_reads_61 ?_
          refine lv_iadd hx hb dX5_reads_62 ?_
          refine lv_bipush (v := 48) hx hb dX5_reads_63 (by decide) ?_
          refine lv_isub hx hb dX5_reads_65 ?_
          refine lv_istore_n (lv' := [(2, .int ((((10 : Int32) * x1) + (fx (Int32.toNatClampNeg spo))) - 48)), (0, .ref mqa), (1, .int x1)]) hx hb dX5_reads_66 rfl hl (by decide) rfl (fun ls hl => ?_)
          refine lv_iload_n hx hb dX5_reads_67 rfl (lv_at hl 2 rfl) ?_
          refine lv_if_eq (tgt := 77) hx hb dX5_reads_68 (by decide) (fun c19 => ?_) (fun c19 => ?_)
          · replace h := if_t c19 h
            refine lv_aload_n hx hb dX5_reads_77 rfl (lv_at hl 1 rfl) ?_
            refine lv_iconst (v := 2) hx hb dX5_reads_78 (by decide) ?_
            refine pf S hK iX5 tyX5 tyX5_ok nmX5 hP hD hS 0 rfl rfl 9 (by decide) q645 rfl rfl rfl (Nat.le_of_ble_eq_true rfl) [(mqa, .inr (5, [.ref mqs, .ref mqp, .int pas, .ref mqn, .int misk, .ref mqx, .int len, .ref mqm, .int spo, .int 2, .int cam, .int fst, .int lst, .int inr])), (mqs, .inl (G.2.2.1, 65, .inl fs)), (mqp, .inl (G.2.2.1, 260, .inl fp)), (mqn, .inl (G.2.2.1, 65, .inl fn)), (mqx, .inl (G.2.1, 80, .inl fx)), (mqm, .inl (G.2.2.1, 24, .inl fm))] rfl dX5_reads_79 (fun H locs hP hD hS => ?_)
            obtain rfl := Option.some.inj h
            exact retV S hr hlk hP hD hS dX5_reads_82
          · replace h := if_f c19 h
            refine lv_iload_n hx hb dX5_reads_71 rfl (lv_at hl 0 rfl) ?_
            refine lv_bipush (v := 24) hx hb dX5_reads_72 (by decide) ?_
            refine lv_icmp_lt (tgt := 83) hx hb dX5_reads_74 (by decide) (fun c20 => ?_) (fun c20 => ?_)
            · replace h := if_t c20 h
              refine lv_iload_n hx hb dX5_reads_83 rfl (lv_at hl 0 rfl) ?_
              refine lv_istore_n (lv' := [(1, .int ((((10 : Int32) * x1) + (fx (Int32.toNatClampNeg spo))) - 48)), (2, .int ((((10 : Int32) * x1) + (fx (Int32.toNatClampNeg spo))) - 48)), (0, .ref mqa)]) hx hb dX5_reads_84 rfl hl (by decide) rfl (fun ls hl => ?_)
              refine lv_aload_n hx hb dX5_reads_85 rfl (lv_at hl 2 rfl) ?_
              refine lv_dup hx hb dX5_reads_86 rfl ?_
              refine gf S hK iX5 hP 0 rfl rfl 8 (by decide) q644 rfl dX5_reads_87 ?_
              refine lv_iconst (v := 1) hx hb dX5_reads_90 (by decide) ?_
              refine lv_iadd hx hb dX5_reads_91 ?_
              refine pf S hK iX5 tyX5 tyX5_ok nmX5 hP hD hS 0 rfl rfl 8 (by decide) q644 rfl rfl rfl (Nat.le_of_ble_eq_true rfl) [(mqa, .inr (5, [.ref mqs, .ref mqp, .int pas, .ref mqn, .int misk, .ref mqx, .int len, .ref mqm, .int (spo + 1), .int kin, .int cam, .int fst, .int lst, .int inr])), (mqs, .inl (G.2.2.1, 65, .inl fs)), (mqp, .inl (G.2.2.1, 260, .inl fp)), (mqn, .inl (G.2.2.1, 65, .inl fn)), (mqx, .inl (G.2.1, 80, .inl fx)), (mqm, .inl (G.2.2.1, 24, .inl fm))] rfl dX5_reads_92 (fun H locs hP hD hS => ?_)
              refine lv_goto (tgt := 35) hx hb dX5_reads_95 (by decide) ?_
              exact ih ((((10 : Int32) * x1) + (fx (Int32.toNatClampNeg spo))) - 48) (spo + 1) kin cam fst lst inr fm h _ _ hP hD hS ls (lv_sub hl [2, 0] rfl)
            · replace h := if_f c20 h
              refine lv_aload_n hx hb dX5_reads_77 rfl (lv_at hl 1 rfl) ?_
              refine lv_iconst (v := 2) hx hb dX5_reads_78 (by decide) ?_
              refine pf S hK iX5 tyX5 tyX5_ok nmX5 hP hD hS 0 rfl rfl 9 (by decide) q645 rfl rfl rfl (Nat.le_of_ble_eq_true rfl) [(mqa, .inr (5, [.ref mqs, .ref mqp, .int pas, .ref mqn, .int misk, .ref mqx, .int len, .ref mqm, .int spo, .int 2, .int cam, .int fst, .int lst, .int inr])), (mqs, .inl (G.2.2.1, 65, .inl fs)), (mqp, .inl (G.2.2.1, 260, .inl fp)), (mqn, .inl (G.2.2.1, 65, .inl fn)), (mqx, .inl (G.2.1, 80, .inl fx)), (mqm, .inl (G.2.2.1, 24, .inl fm))] rfl dX5_reads_79 (fun H locs hP hD hS => ?_)
              obtain rfl := Option.some.inj h
              exact retV S hr hlk hP hD hS dX5_reads_82
  rw [F_X5_reads] at h
  refine lv_aload_n hx hb dX5_reads_0 rfl (lv_at hl 0 rfl) ?_
  obtain ⟨r1, hr1, h⟩ := bd_t h
  refine rdV (As := []) (rest := []) S hK (c_X5_isDigit l G mqa mqs mqp mqn mqx mqm pas misk len spo kin cam fst lst inr fs fp fn fx fm r1 hr1) mX5_isDigit q745 ⟨rfl, rfl, Nat.le_of_ble_eq_true rfl, Nat.le_of_ble_eq_true rfl⟩ hP rfl rfl rfl rfl hl.1 (Nat.le_of_ble_eq_true rfl) ⟨Nat.le_refl 0, Nat.le_refl 0⟩ dX5_reads_1 ?_
  refine lv_if_ne (tgt := 12) hx hb dX5_reads_4 (by decide) (fun c2 => ?_) (fun c2 => ?_)
  · replace h := if_f c2 h
    refine lv_aload_n hx hb dX5_reads_12 rfl (lv_at hl 0 rfl) ?_
    refine gf S hK iX5 hP 0 rfl rfl 5 (by decide) q641 rfl dX5_reads_13 ?_
    refine lv_aload_n hx hb dX5_reads_16 rfl (lv_at hl 0 rfl) ?_
    refine gf S hK iX5 hP 0 rfl rfl 8 (by decide) q644 rfl dX5_reads_17 ?_
    obtain ⟨k3, h⟩ := ck_t h
    refine cald S hK hP 4 rfl (ok_vp k3) dX5_reads_20 ?_
    refine lv_bipush (v := 48) hx hb dX5_reads_21 (by decide) ?_
    refine lv_isub hx hb dX5_reads_23 ?_
    refine lv_istore_n (lv' := [(1, .int ((fx (Int32.toNatClampNeg spo)) - 48)), (0, .ref mqa)]) hx hb dX5_reads_24 rfl hl (by decide) rfl (fun ls hl => ?_)
    refine lv_aload_n hx hb dX5_reads_25 rfl (lv_at hl 1 rfl) ?_
    refine lv_dup hx hb dX5_reads_26 rfl ?_
    refine gf S hK iX5 hP 0 rfl rfl 8 (by decide) q644 rfl dX5_reads_27 ?_
    refine lv_iconst (v := 1) hx hb dX5_reads_30 (by decide) ?_
    refine lv_iadd hx hb dX5_reads_31 ?_
    refine pf S hK iX5 tyX5 tyX5_ok nmX5 hP hD hS 0 rfl rfl 8 (by decide) q644 rfl rfl rfl (Nat.le_of_ble_eq_true rfl) [(mqa, .inr (5, [.ref mqs, .ref mqp, .int pas, .ref mqn, .int misk, .ref mqx, .int len, .ref mqm, .int (spo + 1), .int kin, .int cam, .int fst, .int lst, .int inr])), (mqs, .inl (G.2.2.1, 65, .inl fs)), (mqp, .inl (G.2.2.1, 260, .inl fp)), (mqn, .inl (G.2.2.1, 65, .inl fn)), (mqx, .inl (G.2.1, 80, .inl fx)), (mqm, .inl (G.2.2.1, 24, .inl fm))] rfl dX5_reads_32 (fun H locs hP hD hS => ?_)
    exact L35 10000 ((fx (Int32.toNatClampNeg spo)) - 48) (spo + 1) kin cam fst lst inr fm h _ _ hP hD hS ls (lv_sub hl [1, 0] rfl)
  · replace h := if_t c2 h
    refine lv_aload_n hx hb dX5_reads_7 rfl (lv_at hl 0 rfl) ?_
    obtain ⟨r4, hr4, h⟩ := bd_t h
    refine wrV (As := []) (rest := []) (ws := [(mqa, .inr (5, [.ref mqs, .ref mqp, .int pas, .ref mqn, .int misk, .ref mqx, .int len, .ref mqm, .int spo, .int kin, .int cam, .int fst, .int lst, .int inr])), (mqs, .inl (G.2.2.1, 65, .inl fs)), (mqp, .inl (G.2.2.1, 260, .inl fp)), (mqn, .inl (G.2.2.1, 65, .inl fn)), (mqx, .inl (G.2.1, 80, .inl fx)), (mqm, .inl (G.2.2.1, 24, .inl fm))]) (wr := []) (ws' := [(mqa, .inr (5, [.ref mqs, .ref mqp, .int pas, .ref mqn, .int misk, .ref mqx, .int len, .ref mqm, .int spo, .int r4, .int cam, .int fst, .int lst, .int inr])), (mqs, .inl (G.2.2.1, 65, .inl fs)), (mqp, .inl (G.2.2.1, 260, .inl fp)), (mqn, .inl (G.2.2.1, 65, .inl fn)), (mqx, .inl (G.2.1, 80, .inl fx)), (mqm, .inl (G.2.2.1, 24, .inl fm))]) (ws1 := [(mqa, .inr (5, [.ref mqs, .ref mqp, .int pas, .ref mqn, .int misk, .ref mqx, .int len, .ref mqm, .int spo, .int r4, .int cam, .int fst, .int lst, .int inr])), (mqs, .inl (G.2.2.1, 65, .inl fs)), (mqp, .inl (G.2.2.1, 260, .inl fp)), (mqn, .inl (G.2.2.1, 65, .inl fn)), (mqx, .inl (G.2.1, 80, .inl fx)), (mqm, .inl (G.2.2.1, 24, .inl fm))]) S hK (c_X5_fails l G mqa mqs mqp mqn mqx mqm pas misk len spo kin cam fst lst inr fs fp fn fx fm _ r4 hr4) mX5_fails q737 ⟨rfl, rfl, Nat.le_of_ble_eq_true rfl, Nat.le_of_ble_eq_true rfl⟩ hP hD hS hA [0, 1, 2, 3, 4, 5] [] [0, 1, 2, 3, 4, 5] rfl rfl (by decide) (by decide) (by decide) rfl (by decide) rfl rfl rfl rfl hl.1 (Nat.le_of_ble_eq_true rfl) ⟨Nat.le_refl 0, Nat.le_refl 0⟩ dX5_reads_8 (fun H locs hP hD hS => ?_)
    obtain rfl := Option.some.inj h
    exact retV S hr hlk hP hD hS dX5_reads_11
set_option maxHeartbeats 4000000 in
set_option maxRecDepth 100000 in
theorem c_X5_round (l : Launch) (G : gG) (mqa mqs mqp mqn mqx mqm : Nat) (pas : Int32) (misk : Int32) (len : Int32) (spo : Int32) (kin : Int32) (cam : Int32) (fst : Int32) (lst : Int32) (inr : Int32) (fs : Nat → Int32) (fp : Nat → Int32) (fn : Nat → Int32) (fx : Nat → Int32) (fm : Nat → Int32) (sz : Nat) (res : Int32 × Int32 × Int32 × Int32 × Int32 × Int32 × (Nat → Int32)) (h : F_X5_round len spo kin cam fst lst inr fx fm = some res) : WrM l G yX5_round cX5_round 2 none (rmk 3 64) [(mqa, .inr (5, [.ref mqs, .ref mqp, .int pas, .ref mqn, .int misk, .ref mqx, .int len, .ref mqm, .int spo, .int kin, .int cam, .int fst, .int lst, .int inr])), (mqs, .inl (G.2.2.1, 65, .inl fs)), (mqp, .inl (G.2.2.1, 260, .inl fp)), (mqn, .inl (G.2.2.1, 65, .inl fn)), (mqx, .inl (G.2.1, 80, .inl fx)), (mqm, .inl (G.2.2.1, 24, .inl fm))] sz [.ref mqa] none [(mqa, .inr (5, [.ref mqs, .ref mqp, .int pas, .ref mqn, .int misk, .ref mqx, .int len, .ref mqm, .int res.1, .int res.2.1, .int res.2.2.1, .int res.2.2.2.1, .int res.2.2.2.2.1, .int res.2.2.2.2.2.1])), (mqs, .inl (G.2.2.1, 65, .inl fs)), (mqp, .inl (G.2.2.1, 260, .inl fp)), (mqn, .inl (G.2.2.1, 65, .inl fn)), (mqx, .inl (G.2.1, 80, .inl fx)), (mqm, .inl (G.2.2.1, 24, .inl res.2.2.2.2.2.2))] := by
  refine ofWr (by decide) (Nat.le_of_ble_eq_true rfl) ?_
  intro p e s m below meth c ls A S hr hlk hK hP hD hS hA hl
  have S : CallFix p m c cX5_round 2 s ([.ref mqa] : List Value).toArray T0 RX5 := S
  obtain ⟨hx, hb, hml, hown, hts⟩ := id S
  have hl : lv_has ls 2 [(0, .ref mqa)] := hl
  have L21 : ∀ (n : Nat) (x1 : Int32) (spo : Int32) (kin : Int32) (cam : Int32) (fst : Int32) (lst : Int32) (inr : Int32) (fm : Nat → Int32), F_X5_round_21 len fx n x1 spo kin cam fst lst inr fm = some res → ∀ (H : Heap) (locs : List Loc), va_P G.1 vwCl [(mqa, .inr (5, [.ref mqs, .ref mqp, .int pas, .ref mqn, .int misk, .ref mqx, .int len, .ref mqm, .int spo, .int kin, .int cam, .int fst, .int lst, .int inr])), (mqs, .inl (G.2.2.1, 65, .inl fs)), (mqp, .inl (G.2.2.1, 260, .inl fp)), (mqn, .inl (G.2.2.1, 65, .inl fn)), (mqx, .inl (G.2.1, 80, .inl fx)), (mqm, .inl (G.2.2.1, 24, .inl fm))] H → va_D A [(mqa, .inr (5, [.ref mqs, .ref mqp, .int pas, .ref mqn, .int misk, .ref mqx, .int len, .ref mqm, .int spo, .int kin, .int cam, .int fst, .int lst, .int inr])), (mqs, .inl (G.2.2.1, 65, .inl fs)), (mqp, .inl (G.2.2.1, 260, .inl fp)), (mqn, .inl (G.2.2.1, 65, .inl fn)), (mqx, .inl (G.2.1, 80, .inl fx)), (mqm, .inl (G.2.2.1, 24, .inl fm))] → va_S A s.heap H locs → ∀ (ls : Array Slot), lv_has ls 2 [(0, .ref mqa), (1, .int x1)] → W p l e (rmk 3 64) s m ([.ref mqa] : List Value).toArray below meth c H locs 0 0 (MQ below (gQw G none [(mqa, .inr (5, [.ref mqs, .ref mqp, .int pas, .ref mqn, .int misk, .ref mqx, .int len, .ref mqm, .int res.1, .int res.2.1, .int res.2.2.1, .int res.2.2.2.1, .int res.2.2.2.2.1, .int res.2.2.2.2.2.1])), (mqs, .inl (G.2.2.1, 65, .inl fs)), (mqp, .inl (G.2.2.1, 260, .inl fp)), (mqn, .inl (G.2.2.1, 65, .inl fn)), (mqx, .inl (G.2.1, 80, .inl fx)), (mqm, .inl (G.2.2.1, 24, .inl res.2.2.2.2.2.2))] A) ([.ref mqa] : List Value).toArray s 0 0 A) (F0 m 21 ls []) := by
    intro n
    induction n with
    | zero => intro x1 spo kin cam fst lst inr fm h; exact absurd (show (none : Option (Int32 × Int32 × Int32 × Int32 × Int32 × Int32 × (Nat → Int32))) = some res from h) (fun q => by cases q)
    | succ n ih =>
      intro x1 spo kin cam fst lst inr fm h H locs hP hD hS ls hl
      rw [F_X5_round_21] at h
      refine lv_iload_n hx hb dX5_round_21 rfl (lv_at hl 1 rfl) ?_
      refine lv_if_eq (tgt := 64) hx hb dX5_round_22 (by decide) (fun c4 => ?_) (fun c4 => ?_)
      · replace h := if_t c4 h
        refine lv_aload_n hx hb dX5_round_64 rfl (lv_at hl 0 rfl) ?_
        refine gf S hK iX5 hP 0 rfl rfl 9 (by decide) q645 rfl dX5_round_65 ?_
        refine lv_if_ne (tgt := 105) hx hb dX5_round_68 (by decide) (fun c5 => ?_) (fun c5 => ?_)
        · replace h := if_f c5 h
          obtain rfl := Option.some.inj h
          exact retV S hr hlk hP hD hS dX5_round_105
        · replace h := if_t c5 h
          refine lv_aload_n hx hb dX5_round_71 rfl (lv_at hl 0 rfl) ?_
          refine gf S hK iX5 hP 0 rfl rfl 13 (by decide) q649 rfl dX5_round_72 ?_
          refine lv_iconst (v := 1) hx hb dX5_round_75 (by decide) ?_
          refine lv_icmp_le (tgt := 101) hx hb dX5_round_76 (by decide) (fun c6 => ?_) (fun c6 => ?_)
          · replace h := if_t c6 h
            refine lv_aload_n hx hb dX5_round_101 rfl (lv_at hl 0 rfl) ?_
            obtain ⟨r7, hr7, h⟩ := bd_t h
            refine wrV (As := []) (rest := []) (ws := [(mqa, .inr (5, [.ref mqs, .ref mqp, .int pas, .ref mqn, .int misk, .ref mqx, .int len, .ref mqm, .int spo, .int kin, .int cam, .int fst, .int lst, .int inr])), (mqs, .inl (G.2.2.1, 65, .inl fs)), (mqp, .inl (G.2.2.1, 260, .inl fp)), (mqn, .inl (G.2.2.1, 65, .inl fn)), (mqx, .inl (G.2.1, 80, .inl fx)), (mqm, .inl (G.2.2.1, 24, .inl fm))]) (wr := []) (ws' := [(mqa, .inr (5, [.ref mqs, .ref mqp, .int pas, .ref mqn, .int misk, .ref mqx, .int len, .ref mqm, .int spo, .int r7, .int cam, .int fst, .int lst, .int inr])), (mqs, .inl (G.2.2.1, 65, .inl fs)), (mqp, .inl (G.2.2.1, 260, .inl fp)), (mqn, .inl (G.2.2.1, 65, .inl fn)), (mqx, .inl (G.2.1, 80, .inl fx)), (mqm, .inl (G.2.2.1, 24, .inl fm))]) (ws1 := [(mqa, .inr (5, [.ref mqs, .ref mqp, .int pas, .ref mqn, .int misk, .ref mqx, .int len, .ref mqm, .int spo, .int r7, .int cam, .int fst, .int lst, .int inr])), (mqs, .inl (G.2.2.1, 65, .inl fs)), (mqp, .inl (G.2.2.1, 260, .inl fp)), (mqn, .inl (G.2.2.1, 65, .inl fn)), (mqx, .inl (G.2.1, 80, .inl fx)), (mqm, .inl (G.2.2.1, 24, .inl fm))]) S hK (c_X5_fails l G mqa mqs mqp mqn mqx mqm pas misk len spo kin cam fst lst inr fs fp fn fx fm _ r7 hr7) mX5_fails q737 ⟨rfl, rfl, Nat.le_of_ble_eq_true rfl, Nat.le_of_ble_eq_true rfl⟩ hP hD hS hA [0, 1, 2, 3, 4, 5] [] [0, 1, 2, 3, 4, 5] rfl rfl (by decide) (by decide) (by decide) rfl (by decide) rfl rfl rfl rfl hl.1 (Nat.le_of_ble_eq_true rfl) ⟨Nat.le_refl 0, Nat.le_refl 0⟩ dX5_round_102 (fun H locs hP hD hS => ?_)
            obtain rfl := Option.some.inj h
            exact retV S hr hlk hP hD hS dX5_round_105
          · replace h := if_f c6 h
            refine lv_aload_n hx hb dX5_round_79 rfl (lv_at hl 0 rfl) ?_
            refine lv_bipush (v := 41) hx hb dX5_round_80 (by decide) ?_
            obtain ⟨r8, hr8, h⟩ := bd_t h
            refine rdV (As := [.int 41]) (rest := []) S hK (c_X5_isAt l G mqa mqs mqp mqn mqx mqm pas misk len spo kin cam fst lst inr fs fp fn fx fm 41 r8 hr8) mX5_isAt q733 ⟨rfl, rfl, Nat.le_of_ble_eq_true rfl, Nat.le_of_ble_eq_true rfl⟩ hP rfl rfl rfl rfl hl.1 (Nat.le_of_ble_eq_true rfl) ⟨Nat.le_refl 0, Nat.le_refl 0⟩ dX5_round_82 ?_
            refine lv_if_eq (tgt := 101) hx hb dX5_round_85 (by decide) (fun c9 => ?_) (fun c9 => ?_)
            · replace h := if_t c9 h
              refine lv_aload_n hx hb dX5_round_101 rfl (lv_at hl 0 rfl) ?_
              obtain ⟨r10, hr10, h⟩ := bd_t h
              refine wrV (As := []) (rest := []) (ws := [(mqa, .inr (5, [.ref mqs, .ref mqp, .int pas, .ref mqn, .int misk, .ref mqx, .int len, .ref mqm, .int spo, .int kin, .int cam, .int fst, .int lst, .int inr])), (mqs, .inl (G.2.2.1, 65, .inl fs)), (mqp, .inl (G.2.2.1, 260, .inl fp)), (mqn, .inl (G.2.2.1, 65, .inl fn)), (mqx, .inl (G.2.1, 80, .inl fx)), (mqm, .inl (G.2.2.1, 24, .inl fm))]) (wr := []) (ws' := [(mqa, .inr (5, [.ref mqs, .ref mqp, .int pas, .ref mqn, .int misk, .ref mqx, .int len, .ref mqm, .int spo, .int r10, .int cam, .int fst, .int lst, .int inr])), (mqs, .inl (G.2.2.1, 65, .inl fs)), (mqp, .inl (G.2.2.1, 260, .inl fp)), (mqn, .inl (G.2.2.1, 65, .inl fn)), (mqx, .inl (G.2.1, 80, .inl fx)), (mqm, .inl (G.2.2.1, 24, .inl fm))]) (ws1 := [(mqa, .inr (5, [.ref mqs, .ref mqp, .int pas, .ref mqn, .int misk, .ref mqx, .int len, .ref mqm, .int spo, .int r10, .int cam, .int fst, .int lst, .int inr])), (mqs, .inl (G.2.2.1, 65, .inl fs)), (mqp, .inl (G.2.2.1, 260, .inl fp)), (mqn, .inl (G.2.2.1, 65, .inl fn)), (mqx, .inl (G.2.1, 80, .inl fx)), (mqm, .inl (G.2.2.1, 24, .inl fm))]) S hK (c_X5_fails l G mqa mqs mqp mqn mqx mqm pas misk len spo kin cam fst lst inr fs fp fn fx fm _ r10 hr10) mX5_fails q737 ⟨rfl, rfl, Nat.le_of_ble_eq_true rfl, Nat.le_of_ble_eq_true rfl⟩ hP hD hS hA [0, 1, 2, 3, 4, 5] [] [0, 1, 2, 3, 4, 5] rfl rfl (by decide) (by decide) (by decide) rfl (by decide) rfl rfl rfl rfl hl.1 (Nat.le_of_ble_eq_true rfl) ⟨Nat.le_refl 0, Nat.le_refl 0⟩ dX5_round_102 (fun H locs hP hD hS => ?_)
              obtain rfl := Option.some.inj h
              exact retV S hr hlk hP hD hS dX5_round_105
            · replace h := if_f c9 h
              refine lv_aload_n hx hb dX5_round_88 rfl (lv_at hl 0 rfl) ?_
              refine lv_dup hx hb dX5_round_89 rfl ?_
              refine gf S hK iX5 hP 0 rfl rfl 8 (by decide) q644 rfl dX5_round_90 ?_
              refine lv_iconst (v := 1) hx hb dX5_round_93 (by decide) ?_
              refine lv_iadd hx hb dX5_round_94 ?_
              refine pf S hK iX5 tyX5 tyX5_ok nmX5 hP hD hS 0 rfl rfl 8 (by decide) q644 rfl rfl rfl (Nat.le_of_ble_eq_true rfl) [(mqa, .inr (5, [.ref mqs, .ref mqp, .int pas, .ref mqn, .int misk, .ref mqx, .int len, .ref mqm, .int (spo + 1), .int kin, .int cam, .int fst, .int lst, .int inr])), (mqs, .inl (G.2.2.1, 65, .inl fs)), (mqp, .inl (G.2.2.1, 260, .inl fp)), (mqn, .inl (G.2.2.1, 65, .inl fn)), (mqx, .inl (G.2.1, 80, .inl fx)), (mqm, .inl (G.2.2.1, 24, .inl fm))] rfl dX5_round_95 (fun H locs hP hD hS => ?_)
              refine lv_goto (tgt := 105) hx hb dX5_round_98 (by decide) ?_
              obtain rfl := Option.some.inj h
              exact retV S hr hlk hP hD hS dX5_round_105
      · replace h := if_f c4 h
        refine lv_aload_n hx hb dX5_round_25 rfl (lv_at hl 0 rfl) ?_
        refine lv_dup hx hb dX5_round_26 rfl ?_
        refine gf S hK iX5 hP 0 rfl rfl 8 (by decide) q644 rfl dX5_round_27 ?_
        refine lv_iconst (v := 1) hx hb dX5_round_30 (by decide) ?_
        refine lv_iadd hx hb dX5_round_31 ?_
        refine pf S hK iX5 tyX5 tyX5_ok nmX5 hP hD hS 0 rfl rfl 8 (by decide) q644 rfl rfl rfl (Nat.le_of_ble_eq_true rfl) [(mqa, .inr (5, [.ref mqs, .ref mqp, .int pas, .ref mqn, .int misk, .ref mqx, .int len, .ref mqm, .int (spo + 1), .int kin, .int cam, .int fst, .int lst, .int inr])), (mqs, .inl (G.2.2.1, 65, .inl fs)), (mqp, .inl (G.2.2.1, 260, .inl fp)), (mqn, .inl (G.2.2.1, 65, .inl fn)), (mqx, .inl (G.2.1, 80, .inl fx)), (mqm, .inl (G.2.2.1, 24, .inl fm))] rfl dX5_round_32 (fun H locs hP hD hS => ?_)
        refine lv_aload_n hx hb dX5_round_35 rfl (lv_at hl 0 rfl) ?_
        obtain ⟨r11, hr11, h⟩ := bd_t h
        refine wrV (As := []) (rest := []) (ws := [(mqa, .inr (5, [.ref mqs, .ref mqp, .int pas, .ref mqn, .int misk, .ref mqx, .int len, .ref mqm, .int (spo + 1), .int kin, .int cam, .int fst, .int lst, .int inr])), (mqs, .inl (G.2.2.1, 65, .inl fs)), (mqp, .inl (G.2.2.1, 260, .inl fp)), (mqn, .inl (G.2.2.1, 65, .inl fn)), (mqx, .inl (G.2.1, 80, .inl fx)), (mqm, .inl (G.2.2.1, 24, .inl fm))]) (wr := []) (ws' := [(mqa, .inr (5, [.ref mqs, .ref mqp, .int pas, .ref mqn, .int misk, .ref mqx, .int len, .ref mqm, .int r11.1, .int r11.2.1, .int r11.2.2.1, .int r11.2.2.2.1, .int r11.2.2.2.2.1, .int r11.2.2.2.2.2.1])), (mqs, .inl (G.2.2.1, 65, .inl fs)), (mqp, .inl (G.2.2.1, 260, .inl fp)), (mqn, .inl (G.2.2.1, 65, .inl fn)), (mqx, .inl (G.2.1, 80, .inl fx)), (mqm, .inl (G.2.2.1, 24, .inl r11.2.2.2.2.2.2))]) (ws1 := [(mqa, .inr (5, [.ref mqs, .ref mqp, .int pas, .ref mqn, .int misk, .ref mqx, .int len, .ref mqm, .int r11.1, .int r11.2.1, .int r11.2.2.1, .int r11.2.2.2.1, .int r11.2.2.2.2.1, .int r11.2.2.2.2.2.1])), (mqs, .inl (G.2.2.1, 65, .inl fs)), (mqp, .inl (G.2.2.1, 260, .inl fp)), (mqn, .inl (G.2.2.1, 65, .inl fn)), (mqx, .inl (G.2.1, 80, .inl fx)), (mqm, .inl (G.2.2.1, 24, .inl r11.2.2.2.2.2.2))]) S hK (c_X5_reads l G mqa mqs mqp mqn mqx mqm pas misk len (spo + 1) kin cam fst lst inr fs fp fn fx fm _ r11 hr11) mX5_reads q741 ⟨rfl, rfl, Nat.le_of_ble_eq_true rfl, Nat.le_of_ble_eq_true rfl⟩ hP hD hS hA [0, 1, 2, 3, 4, 5] [] [0, 1, 2, 3, 4, 5] rfl rfl (by decide) (by decide) (by decide) rfl (by decide) rfl rfl rfl rfl hl.1 (Nat.le_of_ble_eq_true rfl) ⟨Nat.le_refl 0, Nat.le_refl 0⟩ dX5_round_36 (fun H locs hP hD hS => ?_)
        refine lv_aload_n hx hb dX5_round_39 rfl (lv_at hl 0 rfl) ?_
        refine gf S hK iX5 hP 0 rfl rfl 9 (by decide) q645 rfl dX5_round_40 ?_
        refine lv_if_ne (tgt := 59) hx hb dX5_round_43 (by decide) (fun c12 => ?_) (fun c12 => ?_)
        · replace h := if_f c12 h
          refine lv_iconst (v := 0) hx hb dX5_round_59 (by decide) ?_
          refine lv_istore_n (lv' := [(1, .int 0), (0, .ref mqa)]) hx hb dX5_round_60 rfl hl (by decide) rfl (fun ls hl => ?_)
          refine lv_goto (tgt := 21) hx hb dX5_round_61 (by decide) ?_
          exact ih 0 r11.1 r11.2.1 r11.2.2.1 r11.2.2.2.1 r11.2.2.2.2.1 r11.2.2.2.2.2.1 r11.2.2.2.2.2.2 h _ _ hP hD hS ls (lv_sub hl [1, 0] rfl)
        · replace h := if_t c12 h
          refine lv_aload_n hx hb dX5_round_46 rfl (lv_at hl 0 rfl) ?_
          refine lv_bipush (v := 44) hx hb dX5_round_47 (by decide) ?_
          obtain ⟨r13, hr13, h⟩ := bd_t h
          refine rdV (As := [.int 44]) (rest := []) S hK (c_X5_isAt l G mqa mqs mqp mqn mqx mqm pas misk len r11.1 r11.2.1 r11.2.2.1 r11.2.2.2.1 r11.2.2.2.2.1 r11.2.2.2.2.2.1 fs fp fn fx r11.2.2.2.2.2.2 44 r13 hr13) mX5_isAt q733 ⟨rfl, rfl, Nat.le_of_ble_eq_true rfl, Nat.le_of_ble_eq_true rfl⟩ hP rfl rfl rfl rfl hl.1 (Nat.le_of_ble_eq_true rfl) ⟨Nat.le_refl 0, Nat.le_refl 0⟩ dX5_round_49 ?_
          refine lv_if_eq (tgt := 59) hx hb dX5_round_52 (by decide) (fun c14 => ?_) (fun c14 => ?_)
          · replace h := if_t c14 h
            refine lv_iconst (v := 0) hx hb dX5_round_59 (by decide) ?_
            refine lv_istore_n (lv' := [(1, .int 0), (0, .ref mqa)]) hx hb dX5_round_60 rfl hl (by decide) rfl (fun ls hl => ?_)
            refine lv_goto (tgt := 21) hx hb dX5_round_61 (by decide) ?_
            exact ih 0 r11.1 r11.2.1 r11.2.2.1 r11.2.2.2.1 r11.2.2.2.2.1 r11.2.2.2.2.2.1 r11.2.2.2.2.2.2 h _ _ hP hD hS ls (lv_sub hl [1, 0] rfl)
          · replace h := if_f c14 h
            refine lv_iconst (v := 1) hx hb dX5_round_55 (by decide) ?_
            refine lv_goto (tgt := 60) hx hb dX5_round_56 (by decide) ?_
            refine lv_istore_n (lv' := [(1, .int 1), (0, .ref mqa)]) hx hb dX5_round_60 rfl hl (by decide) rfl (fun ls hl => ?_)
            refine lv_goto (tgt := 21) hx hb dX5_round_61 (by decide) ?_
            exact ih 1 r11.1 r11.2.1 r11.2.2.1 r11.2.2.2.1 r11.2.2.2.2.1 r11.2.2.2.2.2.1 r11.2.2.2.2.2.2 h _ _ hP hD hS ls (lv_sub hl [1, 0] rfl)
  rw [F_X5_round] at h
  refine lv_aload_n hx hb dX5_round_0 rfl (lv_at hl 0 rfl) ?_
  refine lv_iconst (v := 0) hx hb dX5_round_1 (by decide) ?_
  refine pf S hK iX5 tyX5 tyX5_ok nmX5 hP hD hS 0 rfl rfl 13 (by decide) q649 rfl rfl rfl (Nat.le_of_ble_eq_true rfl) [(mqa, .inr (5, [.ref mqs, .ref mqp, .int pas, .ref mqn, .int misk, .ref mqx, .int len, .ref mqm, .int spo, .int kin, .int cam, .int fst, .int lst, .int 0])), (mqs, .inl (G.2.2.1, 65, .inl fs)), (mqp, .inl (G.2.2.1, 260, .inl fp)), (mqn, .inl (G.2.2.1, 65, .inl fn)), (mqx, .inl (G.2.1, 80, .inl fx)), (mqm, .inl (G.2.2.1, 24, .inl fm))] rfl dX5_round_2 (fun H locs hP hD hS => ?_)
  refine lv_aload_n hx hb dX5_round_5 rfl (lv_at hl 0 rfl) ?_
  refine lv_bipush (v := 40) hx hb dX5_round_6 (by decide) ?_
  obtain ⟨r1, hr1, h⟩ := bd_t h
  refine rdV (As := [.int 40]) (rest := []) S hK (c_X5_isAt l G mqa mqs mqp mqn mqx mqm pas misk len spo kin cam fst lst 0 fs fp fn fx fm 40 r1 hr1) mX5_isAt q733 ⟨rfl, rfl, Nat.le_of_ble_eq_true rfl, Nat.le_of_ble_eq_true rfl⟩ hP rfl rfl rfl rfl hl.1 (Nat.le_of_ble_eq_true rfl) ⟨Nat.le_refl 0, Nat.le_refl 0⟩ dX5_round_8 ?_
  refine lv_if_ne (tgt := 19) hx hb dX5_round_11 (by decide) (fun c2 => ?_) (fun c2 => ?_)
  · replace h := if_f c2 h
    refine lv_iconst (v := 1) hx hb dX5_round_19 (by decide) ?_
    refine lv_istore_n (lv' := [(1, .int 1), (0, .ref mqa)]) hx hb dX5_round_20 rfl hl (by decide) rfl (fun ls hl => ?_)
    exact L21 10000 1 spo kin cam fst lst 0 fm h _ _ hP hD hS ls (lv_sub hl [1, 0] rfl)
  · replace h := if_t c2 h
    refine lv_aload_n hx hb dX5_round_14 rfl (lv_at hl 0 rfl) ?_
    obtain ⟨r3, hr3, h⟩ := bd_t h
    refine wrV (As := []) (rest := []) (ws := [(mqa, .inr (5, [.ref mqs, .ref mqp, .int pas, .ref mqn, .int misk, .ref mqx, .int len, .ref mqm, .int spo, .int kin, .int cam, .int fst, .int lst, .int 0])), (mqs, .inl (G.2.2.1, 65, .inl fs)), (mqp, .inl (G.2.2.1, 260, .inl fp)), (mqn, .inl (G.2.2.1, 65, .inl fn)), (mqx, .inl (G.2.1, 80, .inl fx)), (mqm, .inl (G.2.2.1, 24, .inl fm))]) (wr := []) (ws' := [(mqa, .inr (5, [.ref mqs, .ref mqp, .int pas, .ref mqn, .int misk, .ref mqx, .int len, .ref mqm, .int spo, .int r3, .int cam, .int fst, .int lst, .int 0])), (mqs, .inl (G.2.2.1, 65, .inl fs)), (mqp, .inl (G.2.2.1, 260, .inl fp)), (mqn, .inl (G.2.2.1, 65, .inl fn)), (mqx, .inl (G.2.1, 80, .inl fx)), (mqm, .inl (G.2.2.1, 24, .inl fm))]) (ws1 := [(mqa, .inr (5, [.ref mqs, .ref mqp, .int pas, .ref mqn, .int misk, .ref mqx, .int len, .ref mqm, .int spo, .int r3, .int cam, .int fst, .int lst, .int 0])), (mqs, .inl (G.2.2.1, 65, .inl fs)), (mqp, .inl (G.2.2.1, 260, .inl fp)), (mqn, .inl (G.2.2.1, 65, .inl fn)), (mqx, .inl (G.2.1, 80, .inl fx)), (mqm, .inl (G.2.2.1, 24, .inl fm))]) S hK (c_X5_fails l G mqa mqs mqp mqn mqx mqm pas misk len spo kin cam fst lst 0 fs fp fn fx fm _ r3 hr3) mX5_fails q737 ⟨rfl, rfl, Nat.le_of_ble_eq_true rfl, Nat.le_of_ble_eq_true rfl⟩ hP hD hS hA [0, 1, 2, 3, 4, 5] [] [0, 1, 2, 3, 4, 5] rfl rfl (by decide) (by decide) (by decide) rfl (by decide) rfl rfl rfl rfl hl.1 (Nat.le_of_ble_eq_true rfl) ⟨Nat.le_refl 0, Nat.le_refl 0⟩ dX5_round_15 (fun H locs hP hD hS => ?_)
    obtain rfl := Option.some.inj h
    exact retV S hr hlk hP hD hS dX5_round_18
set_option maxHeartbeats 4000000 in
set_option maxRecDepth 100000 in
theorem c_X5_isMove (l : Launch) (G : gG) (mqa mqs mqp mqn mqx mqm : Nat) (pas : Int32) (misk : Int32) (len : Int32) (spo : Int32) (kin : Int32) (cam : Int32) (fst : Int32) (lst : Int32) (inr : Int32) (fs : Nat → Int32) (fp : Nat → Int32) (fn : Nat → Int32) (fx : Nat → Int32) (fm : Nat → Int32) (sz : Nat) (res : Int32 × Int32 × Int32 × Int32 × Int32 × Int32 × Int32 × (Nat → Int32)) (h : F_X5_isMove len spo kin cam fst lst inr fx fm = some res) : WrM l G yX5_isMove cX5_isMove 2 (some .boolean) (rmk 4 85) [(mqa, .inr (5, [.ref mqs, .ref mqp, .int pas, .ref mqn, .int misk, .ref mqx, .int len, .ref mqm, .int spo, .int kin, .int cam, .int fst, .int lst, .int inr])), (mqs, .inl (G.2.2.1, 65, .inl fs)), (mqp, .inl (G.2.2.1, 260, .inl fp)), (mqn, .inl (G.2.2.1, 65, .inl fn)), (mqx, .inl (G.2.1, 80, .inl fx)), (mqm, .inl (G.2.2.1, 24, .inl fm))] sz [.ref mqa] (some res.1) [(mqa, .inr (5, [.ref mqs, .ref mqp, .int pas, .ref mqn, .int misk, .ref mqx, .int len, .ref mqm, .int res.2.1, .int res.2.2.1, .int res.2.2.2.1, .int res.2.2.2.2.1, .int res.2.2.2.2.2.1, .int res.2.2.2.2.2.2.1])), (mqs, .inl (G.2.2.1, 65, .inl fs)), (mqp, .inl (G.2.2.1, 260, .inl fp)), (mqn, .inl (G.2.2.1, 65, .inl fn)), (mqx, .inl (G.2.1, 80, .inl fx)), (mqm, .inl (G.2.2.1, 24, .inl res.2.2.2.2.2.2.2))] := by
  refine ofWr (by decide) (Nat.le_of_ble_eq_true rfl) ?_
  intro p e s m below meth c ls A S hr hlk hK hP hD hS hA hl
  have S : CallFix p m c cX5_isMove 2 s ([.ref mqa] : List Value).toArray T0 RX5 := S
  obtain ⟨hx, hb, hml, hown, hts⟩ := id S
  have hl : lv_has ls 2 [(0, .ref mqa)] := hl
  have L36 : ∀ (n : Nat) (x1 : Int32) (spo : Int32) (kin : Int32) (cam : Int32) (fst : Int32) (lst : Int32) (inr : Int32) (fm : Nat → Int32), F_X5_isMove_36 len fx n x1 spo kin cam fst lst inr fm = some res → ∀ (H : Heap) (locs : List Loc), va_P G.1 vwCl [(mqa, .inr (5, [.ref mqs, .ref mqp, .int pas, .ref mqn, .int misk, .ref mqx, .int len, .ref mqm, .int spo, .int kin, .int cam, .int fst, .int lst, .int inr])), (mqs, .inl (G.2.2.1, 65, .inl fs)), (mqp, .inl (G.2.2.1, 260, .inl fp)), (mqn, .inl (G.2.2.1, 65, .inl fn)), (mqx, .inl (G.2.1, 80, .inl fx)), (mqm, .inl (G.2.2.1, 24, .inl fm))] H → va_D A [(mqa, .inr (5, [.ref mqs, .ref mqp, .int pas, .ref mqn, .int misk, .ref mqx, .int len, .ref mqm, .int spo, .int kin, .int cam, .int fst, .int lst, .int inr])), (mqs, .inl (G.2.2.1, 65, .inl fs)), (mqp, .inl (G.2.2.1, 260, .inl fp)), (mqn, .inl (G.2.2.1, 65, .inl fn)), (mqx, .inl (G.2.1, 80, .inl fx)), (mqm, .inl (G.2.2.1, 24, .inl fm))] → va_S A s.heap H locs → ∀ (ls : Array Slot), lv_has ls 2 [(0, .ref mqa), (1, .int x1)] → W p l e (rmk 4 85) s m ([.ref mqa] : List Value).toArray below meth c H locs 0 0 (MQ below (gQw G (some res.1) [(mqa, .inr (5, [.ref mqs, .ref mqp, .int pas, .ref mqn, .int misk, .ref mqx, .int len, .ref mqm, .int res.2.1, .int res.2.2.1, .int res.2.2.2.1, .int res.2.2.2.2.1, .int res.2.2.2.2.2.1, .int res.2.2.2.2.2.2.1])), (mqs, .inl (G.2.2.1, 65, .inl fs)), (mqp, .inl (G.2.2.1, 260, .inl fp)), (mqn, .inl (G.2.2.1, 65, .inl fn)), (mqx, .inl (G.2.1, 80, .inl fx)), (mqm, .inl (G.2.2.1, 24, .inl res.2.2.2.2.2.2.2))] A) ([.ref mqa] : List Value).toArray s 0 0 A) (F0 m 36 ls []) := by
    intro n
    induction n with
    | zero => intro x1 spo kin cam fst lst inr fm h; exact absurd (show (none : Option (Int32 × Int32 × Int32 × Int32 × Int32 × Int32 × Int32 × (Nat → Int32))) = some res from h) (fun q => by cases q)
    | succ n ih =>
      intro x1 spo kin cam fst lst inr fm h H locs hP hD hS ls hl
      rw [F_X5_isMove_36] at h
      refine lv_aload_n hx hb dX5_isMove_36 rfl (lv_at hl 0 rfl) ?_
      obtain ⟨r3, hr3, h⟩ := bd_t h
      refine wrV (As := []) (rest := []) (ws := [(mqa, .inr (5, [.ref mqs, .ref mqp, .int pas, .ref mqn, .int misk, .ref mqx, .int len, .ref mqm, .int spo, .int kin, .int cam, .int fst, .int lst, .int inr])), (mqs, .inl (G.2.2.1, 65, .inl fs)), (mqp, .inl (G.2.2.1, 260, .inl fp)), (mqn, .inl (G.2.2.1, 65, .inl fn)), (mqx, .inl (G.2.1, 80, .inl fx)), (mqm, .inl (G.2.2.1, 24, .inl fm))]) (wr := []) (ws' := [(mqa, .inr (5, [.ref mqs, .ref mqp, .int pas, .ref mqn, .int misk, .ref mqx, .int len, .ref mqm, .int r3.1, .int r3.2.1, .int r3.2.2.1, .int r3.2.2.2.1, .int r3.2.2.2.2.1, .int r3.2.2.2.2.2.1])), (mqs, .inl (G.2.2.1, 65, .inl fs)), (mqp, .inl (G.2.2.1, 260, .inl fp)), (mqn, .inl (G.2.2.1, 65, .inl fn)), (mqx, .inl (G.2.1, 80, .inl fx)), (mqm, .inl (G.2.2.1, 24, .inl r3.2.2.2.2.2.2))]) (ws1 := [(mqa, .inr (5, [.ref mqs, .ref mqp, .int pas, .ref mqn, .int misk, .ref mqx, .int len, .ref mqm, .int r3.1, .int r3.2.1, .int r3.2.2.1, .int r3.2.2.2.1, .int r3.2.2.2.2.1, .int r3.2.2.2.2.2.1])), (mqs, .inl (G.2.2.1, 65, .inl fs)), (mqp, .inl (G.2.2.1, 260, .inl fp)), (mqn, .inl (G.2.2.1, 65, .inl fn)), (mqx, .inl (G.2.1, 80, .inl fx)), (mqm, .inl (G.2.2.1, 24, .inl r3.2.2.2.2.2.2))]) S hK (c_X5_round l G mqa mqs mqp mqn mqx mqm pas misk len spo kin cam fst lst inr fs fp fn fx fm _ r3 hr3) mX5_round q729 ⟨rfl, rfl, Nat.le_of_ble_eq_true rfl, Nat.le_of_ble_eq_true rfl⟩ hP hD hS hA [0, 1, 2, 3, 4, 5] [] [0, 1, 2, 3, 4, 5] rfl rfl (by decide) (by decide) (by decide) rfl (by decide) rfl rfl rfl rfl hl.1 (Nat.le_of_ble_eq_true rfl) ⟨Nat.le_refl 0, Nat.le_refl 0⟩ dX5_isMove_37 (fun H locs hP hD hS => ?_)
      refine lv_aload_n hx hb dX5_isMove_40 rfl (lv_at hl 0 rfl) ?_
      refine gf S hK iX5 hP 0 rfl rfl 9 (by decide) q645 rfl dX5_isMove_41 ?_
      refine lv_if_ne (tgt := 58) hx hb dX5_isMove_44 (by decide) (fun c4 => ?_) (fun c4 => ?_)
      · replace h := if_f c4 h
        refine lv_aload_n hx hb dX5_isMove_58 rfl (lv_at hl 0 rfl) ?_
        refine gf S hK iX5 hP 0 rfl rfl 9 (by decide) q645 rfl dX5_isMove_59 ?_
        refine lv_if_ne (tgt := 69) hx hb dX5_isMove_62 (by decide) (fun c5 => ?_) (fun c5 => ?_)
        · replace h := if_f c5 h
          refine lv_iconst (v := 0) hx hb dX5_isMove_69 (by decide) ?_
          obtain rfl := Option.some.inj h
          exact retW S hr hlk rfl rfl hP hD hS dX5_isMove_70
        · replace h := if_t c5 h
          refine lv_iconst (v := 1) hx hb dX5_isMove_65 (by decide) ?_
          refine lv_goto (tgt := 70) hx hb dX5_isMove_66 (by decide) ?_
          obtain rfl := Option.some.inj h
          exact retW S hr hlk rfl rfl hP hD hS dX5_isMove_70
      · replace h := if_t c4 h
        refine lv_aload_n hx hb dX5_isMove_47 rfl (lv_at hl 0 rfl) ?_
        refine gf S hK iX5 hP 0 rfl rfl 8 (by decide) q644 rfl dX5_isMove_48 ?_
        refine lv_aload_n hx hb dX5_isMove_51 rfl (lv_at hl 0 rfl) ?_
        refine gf S hK iX5 hP 0 rfl rfl 6 (by decide) q642 rfl dX5_isMove_52 ?_
        refine lv_icmp_lt (tgt := 36) hx hb dX5_isMove_55 (by decide) (fun c6 => ?_) (fun c6 => ?_)
        · replace h := if_t c6 h
          exact ih x1 r3.1 r3.2.1 r3.2.2.1 r3.2.2.2.1 r3.2.2.2.2.1 r3.2.2.2.2.2.1 r3.2.2.2.2.2.2 h _ _ hP hD hS ls (lv_sub hl [0, 1] rfl)
        · replace h := if_f c6 h
          refine lv_aload_n hx hb dX5_isMove_58 rfl (lv_at hl 0 rfl) ?_
          refine gf S hK iX5 hP 0 rfl rfl 9 (by decide) q645 rfl dX5_isMove_59 ?_
          refine lv_if_ne (tgt := 69) hx hb dX5_isMove_62 (by decide) (fun c7 => ?_) (fun c7 => ?_)
          · replace h := if_f c7 h
            refine lv_iconst (v := 0) hx hb dX5_isMove_69 (by decide) ?_
            obtain rfl := Option.some.inj h
            exact retW S hr hlk rfl rfl hP hD hS dX5_isMove_70
          · replace h := if_t c7 h
            refine lv_iconst (v := 1) hx hb dX5_isMove_65 (by decide) ?_
            refine lv_goto (tgt := 70) hx hb dX5_isMove_66 (by decide) ?_
            obtain rfl := Option.some.inj h
            exact retW S hr hlk rfl rfl hP hD hS dX5_isMove_70
  have L2 : ∀ (n : Nat) (x1 : Int32) (spo : Int32) (kin : Int32) (cam : Int32) (fst : Int32) (lst : Int32) (inr : Int32) (fm : Nat → Int32), F_X5_isMove_2 len fx n x1 spo kin cam fst lst inr fm = some res → ∀ (H : Heap) (locs : List Loc), va_P G.1 vwCl [(mqa, .inr (5, [.ref mqs, .ref mqp, .int pas, .ref mqn, .int misk, .ref mqx, .int len, .ref mqm, .int spo, .int kin, .int cam, .int fst, .int lst, .int inr])), (mqs, .inl (G.2.2.1, 65, .inl fs)), (mqp, .inl (G.2.2.1, 260, .inl fp)), (mqn, .inl (G.2.2.1, 65, .inl fn)), (mqx, .inl (G.2.1, 80, .inl fx)), (mqm, .inl (G.2.2.1, 24, .inl fm))] H → va_D A [(mqa, .inr (5, [.ref mqs, .ref mqp, .int pas, .ref mqn, .int misk, .ref mqx, .int len, .ref mqm, .int spo, .int kin, .int cam, .int fst, .int lst, .int inr])), (mqs, .inl (G.2.2.1, 65, .inl fs)), (mqp, .inl (G.2.2.1, 260, .inl fp)), (mqn, .inl (G.2.2.1, 65, .inl fn)), (mqx, .inl (G.2.1, 80, .inl fx)), (mqm, .inl (G.2.2.1, 24, .inl fm))] → va_S A s.heap H locs → ∀ (ls : Array Slot), lv_has ls 2 [(0, .ref mqa), (1, .int x1)] → W p l e (rmk 4 85) s m ([.ref mqa] : List Value).toArray below meth c H locs 0 0 (MQ below (gQw G (some res.1) [(mqa, .inr (5, [.ref mqs, .ref mqp, .int pas, .ref mqn, .int misk, .ref mqx, .int len, .ref mqm, .int res.2.1, .int res.2.2.1, .int res.2.2.2.1, .int res.2.2.2.2.1, .int res.2.2.2.2.2.1, .int res.2.2.2.2.2.2.1])), (mqs, .inl (G.2.2.1, 65, .inl fs)), (mqp, .inl (G.2.2.1, 260, .inl fp)), (mqn, .inl (G.2.2.1, 65, .inl fn)), (mqx, .inl (G.2.1, 80, .inl fx)), (mqm, .inl (G.2.2.1, 24, .inl res.2.2.2.2.2.2.2))] A) ([.ref mqa] : List Value).toArray s 0 0 A) (F0 m 2 ls []) := by
    intro n
    induction n with
    | zero => intro x1 spo kin cam fst lst inr fm h; exact absurd (show (none : Option (Int32 × Int32 × Int32 × Int32 × Int32 × Int32 × Int32 × (Nat → Int32))) = some res from h) (fun q => by cases q)
    | succ n ih =>
      intro x1 spo kin cam fst lst inr fm h H locs hP hD hS ls hl
      rw [F_X5_isMove_2] at h
      refine lv_iload_n hx hb dX5_isMove_2 rfl (lv_at hl 1 rfl) ?_
      refine lv_bipush (v := 24) hx hb dX5_isMove_3 (by decide) ?_
      refine lv_icmp_ge (tgt := 21) hx hb dX5_isMove_5 (by decide) (fun c1 => ?_) (fun c1 => ?_)
      · replace h := if_t c1 h
        refine lv_aload_n hx hb dX5_isMove_21 rfl (lv_at hl 0 rfl) ?_
        refine lv_iconst (v := 0) hx hb dX5_isMove_22 (by decide) ?_
        refine pf S hK iX5 tyX5 tyX5_ok nmX5 hP hD hS 0 rfl rfl 8 (by decide) q644 rfl rfl rfl (Nat.le_of_ble_eq_true rfl) [(mqa, .inr (5, [.ref mqs, .ref mqp, .int pas, .ref mqn, .int misk, .ref mqx, .int len, .ref mqm, .int 0, .int kin, .int cam, .int fst, .int lst, .int inr])), (mqs, .inl (G.2.2.1, 65, .inl fs)), (mqp, .inl (G.2.2.1, 260, .inl fp)), (mqn, .inl (G.2.2.1, 65, .inl fn)), (mqx, .inl (G.2.1, 80, .inl fx)), (mqm, .inl (G.2.2.1, 24, .inl fm))] rfl dX5_isMove_23 (fun H locs hP hD hS => ?_)
        refine lv_aload_n hx hb dX5_isMove_26 rfl (lv_at hl 0 rfl) ?_
        refine lv_iconst (v := 0) hx hb dX5_isMove_27 (by decide) ?_
        refine pf S hK iX5 tyX5 tyX5_ok nmX5 hP hD hS 0 rfl rfl 9 (by decide) q645 rfl rfl rfl (Nat.le_of_ble_eq_true rfl) [(mqa, .inr (5, [.ref mqs, .ref mqp, .int pas, .ref mqn, .int misk, .ref mqx, .int len, .ref mqm, .int 0, .int 0, .int cam, .int fst, .int lst, .int inr])), (mqs, .inl (G.2.2.1, 65, .inl fs)), (mqp, .inl (G.2.2.1, 260, .inl fp)), (mqn, .inl (G.2.2.1, 65, .inl fn)), (mqx, .inl (G.2.1, 80, .inl fx)), (mqm, .inl (G.2.2.1, 24, .inl fm))] rfl dX5_isMove_28 (fun H locs hP hD hS => ?_)
        refine lv_aload_n hx hb dX5_isMove_31 rfl (lv_at hl 0 rfl) ?_
        refine lv_iconst (v := 0) hx hb dX5_isMove_32 (by decide) ?_
        refine pf S hK iX5 tyX5 tyX5_ok nmX5 hP hD hS 0 rfl rfl 10 (by decide) q646 rfl rfl rfl (Nat.le_of_ble_eq_true rfl) [(mqa, .inr (5, [.ref mqs, .ref mqp, .int pas, .ref mqn, .int misk, .ref mqx, .int len, .ref mqm, .int 0, .int 0, .int 0, .int fst, .int lst, .int inr])), (mqs, .inl (G.2.2.1, 65, .inl fs)), (mqp, .inl (G.2.2.1, 260, .inl fp)), (mqn, .inl (G.2.2.1, 65, .inl fn)), (mqx, .inl (G.2.1, 80, .inl fx)), (mqm, .inl (G.2.2.1, 24, .inl fm))] rfl dX5_isMove_33 (fun H locs hP hD hS => ?_)
        exact L36 10000 x1 0 0 0 fst lst inr fm h _ _ hP hD hS ls (lv_sub hl [0, 1] rfl)
      · replace h := if_f c1 h
        refine lv_aload_n hx hb dX5_isMove_8 rfl (lv_at hl 0 rfl) ?_
        refine gf S hK iX5 hP 0 rfl rfl 7 (by decide) q643 rfl dX5_isMove_9 ?_
        refine lv_iload_n hx hb dX5_isMove_12 rfl (lv_at hl 1 rfl) ?_
        refine lv_iload_n hx hb dX5_isMove_13 rfl (lv_at hl 1 rfl) ?_
        obtain ⟨k2, h⟩ := ck_t h
        refine ast S hK hP hD hS 5 rfl (ok_vp k2) [(mqa, .inr (5, [.ref mqs, .ref mqp, .int pas, .ref mqn, .int misk, .ref mqx, .int len, .ref mqm, .int spo, .int kin, .int cam, .int fst, .int lst, .int inr])), (mqs, .inl (G.2.2.1, 65, .inl fs)), (mqp, .inl (G.2.2.1, 260, .inl fp)), (mqn, .inl (G.2.2.1, 65, .inl fn)), (mqx, .inl (G.2.1, 80, .inl fx)), (mqm, .inl (G.2.2.1, 24, .inl (upd fm (Int32.toNatClampNeg x1) x1)))] rfl dX5_isMove_14 (fun H locs hP hD hS => ?_)
        refine lv_iinc (v := x1 + 1) (lv' := [(1, .int (x1 + 1)), (0, .ref mqa)]) hx hb dX5_isMove_15 hl (k := 1) rfl rfl (by decide) rfl (fun ls hl => ?_)
        refine lv_goto (tgt := 2) hx hb dX5_isMove_18 (by decide) ?_
        exact ih (x1 + 1) spo kin cam fst lst inr (upd fm (Int32.toNatClampNeg x1) x1) h _ _ hP hD hS ls (lv_sub hl [1, 0] rfl)
  rw [F_X5_isMove] at h
  refine lv_iconst (v := 0) hx hb dX5_isMove_0 (by decide) ?_
  refine lv_istore_n (lv' := [(1, .int 0), (0, .ref mqa)]) hx hb dX5_isMove_1 rfl hl (by decide) rfl (fun ls hl => ?_)
  exact L2 10000 0 spo kin cam fst lst inr fm h _ _ hP hD hS ls (lv_sub hl [1, 0] rfl)
set_option maxHeartbeats 4000000 in
set_option maxRecDepth 100000 in
theorem c_X5_turns (l : Launch) (G : gG) (mqa mqs mqp mqn mqx mqm : Nat) (pas : Int32) (misk : Int32) (len : Int32) (spo : Int32) (kin : Int32) (cam : Int32) (fst : Int32) (lst : Int32) (inr : Int32) (fs : Nat → Int32) (fp : Nat → Int32) (fn : Nat → Int32) (fx : Nat → Int32) (fm : Nat → Int32) (p1 p2 : Int32) (sz : Nat) (res : (Nat → Int32)) (h : F_X5_turns fs p1 p2 = some res) : WrM l G yX5_turns cX5_turns 4 none (rmk 3 70) [(mqa, .inr (5, [.ref mqs, .ref mqp, .int pas, .ref mqn, .int misk, .ref mqx, .int len, .ref mqm, .int spo, .int kin, .int cam, .int fst, .int lst, .int inr])), (mqs, .inl (G.2.2.1, 65, .inl fs)), (mqp, .inl (G.2.2.1, 260, .inl fp)), (mqn, .inl (G.2.2.1, 65, .inl fn)), (mqx, .inl (G.2.1, 80, .inl fx)), (mqm, .inl (G.2.2.1, 24, .inl fm))] sz [.ref mqa, .int p1, .int p2] none [(mqa, .inr (5, [.ref mqs, .ref mqp, .int pas, .ref mqn, .int misk, .ref mqx, .int len, .ref mqm, .int spo, .int kin, .int cam, .int fst, .int lst, .int inr])), (mqs, .inl (G.2.2.1, 65, .inl res)), (mqp, .inl (G.2.2.1, 260, .inl fp)), (mqn, .inl (G.2.2.1, 65, .inl fn)), (mqx, .inl (G.2.1, 80, .inl fx)), (mqm, .inl (G.2.2.1, 24, .inl fm))] := by
  refine ofWr (by decide) (Nat.le_of_ble_eq_true rfl) ?_
  intro p e s m below meth c ls A S hr hlk hK hP hD hS hA hl
  have S : CallFix p m c cX5_turns 4 s ([.ref mqa, .int p1, .int p2] : List Value).toArray T0 RX5 := S
  obtain ⟨hx, hb, hml, hown, hts⟩ := id S
  have hl : lv_has ls 4 [(0, .ref mqa), (1, .int p1), (2, .int p2)] := hl
  rw [F_X5_turns] at h
  refine lv_aload_n hx hb dX5_turns_0 rfl (lv_at hl 0 rfl) ?_
  refine lv_iload_n hx hb dX5_turns_1 rfl (lv_at hl 2 rfl) ?_
  obtain ⟨r1, hr1, h⟩ := bd_t h
  refine rdV (As := [.int p2]) (rest := []) S hK (c_X5_forward l G mqa mqs mqp mqn mqx mqm pas misk len spo kin cam fst lst inr fs fp fn fx fm p2 r1 hr1) mX5_forward q788 ⟨rfl, rfl, Nat.le_of_ble_eq_true rfl, Nat.le_of_ble_eq_true rfl⟩ hP rfl rfl rfl rfl hl.1 (Nat.le_of_ble_eq_true rfl) ⟨Nat.le_refl 0, Nat.le_refl 0⟩ dX5_turns_2 ?_
  refine lv_istore_n (lv' := [(3, .int r1), (0, .ref mqa), (1, .int p1), (2, .int p2)]) hx hb dX5_turns_5 rfl hl (by decide) rfl (fun ls hl => ?_)
  refine lv_aload_n hx hb dX5_turns_6 rfl (lv_at hl 1 rfl) ?_
  refine gf S hK iX5 hP 0 rfl rfl 0 (by decide) q636 rfl dX5_turns_7 ?_
  refine lv_bipush (v := 25) hx hb dX5_turns_10 (by decide) ?_
  refine lv_iload_n hx hb dX5_turns_12 rfl (lv_at hl 2 rfl) ?_
  refine lv_iadd hx hb dX5_turns_13 ?_
  refine lv_aload_n hx hb dX5_turns_14 rfl (lv_at hl 1 rfl) ?_
  refine lv_aload_n hx hb dX5_turns_15 rfl (lv_at hl 1 rfl) ?_
  refine gf S hK iX5 hP 0 rfl rfl 0 (by decide) q636 rfl dX5_turns_16 ?_
  refine lv_bipush (v := 25) hx hb dX5_turns_19 (by decide) ?_
  refine lv_iload_n hx hb dX5_turns_21 rfl (lv_at hl 2 rfl) ?_
  refine lv_iadd hx hb dX5_turns_22 ?_
  obtain ⟨k2, h⟩ := ck_t h
  refine ald S hK hP 1 rfl (ok_vp k2) dX5_turns_23 ?_
  refine lv_iload_n hx hb dX5_turns_24 rfl (lv_at hl 0 rfl) ?_
  obtain ⟨r3, hr3, h⟩ := bd_t h
  refine rdV (As := [.int (fs (Int32.toNatClampNeg ((25 : Int32) + p1))), .int r1]) (rest := [.int ((25 : Int32) + p1), .ref mqs]) S hK (c_X5_turned l G mqa mqs mqp mqn mqx mqm pas misk len spo kin cam fst lst inr fs fp fn fx fm (fs (Int32.toNatClampNeg ((25 : Int32) + p1))) r1 r3 hr3) mX5_turned q796 ⟨rfl, rfl, Nat.le_of_ble_eq_true rfl, Nat.le_of_ble_eq_true rfl⟩ hP rfl rfl rfl rfl hl.1 (Nat.le_of_ble_eq_true rfl) ⟨Nat.le_refl 0, Nat.le_refl 0⟩ dX5_turns_25 ?_
  obtain ⟨k4, h⟩ := ck_t h
  refine ast S hK hP hD hS 1 rfl (ok_vp k4) [(mqa, .inr (5, [.ref mqs, .ref mqp, .int pas, .ref mqn, .int misk, .ref mqx, .int len, .ref mqm, .int spo, .int kin, .int cam, .int fst, .int lst, .int inr])), (mqs, .inl (G.2.2.1, 65, .inl (upd fs (Int32.toNatClampNeg ((25 : Int32) + p1)) r3))), (mqp, .inl (G.2.2.1, 260, .inl fp)), (mqn, .inl (G.2.2.1, 65, .inl fn)), (mqx, .inl (G.2.1, 80, .inl fx)), (mqm, .inl (G.2.2.1, 24, .inl fm))] rfl dX5_turns_28 (fun H locs hP hD hS => ?_)
  refine lv_aload_n hx hb dX5_turns_29 rfl (lv_at hl 1 rfl) ?_
  refine gf S hK iX5 hP 0 rfl rfl 0 (by decide) q636 rfl dX5_turns_30 ?_
  refine lv_bipush (v := 37) hx hb dX5_turns_33 (by decide) ?_
  refine lv_iload_n hx hb dX5_turns_35 rfl (lv_at hl 2 rfl) ?_
  refine lv_iadd hx hb dX5_turns_36 ?_
  refine lv_aload_n hx hb dX5_turns_37 rfl (lv_at hl 1 rfl) ?_
  refine lv_aload_n hx hb dX5_turns_38 rfl (lv_at hl 1 rfl) ?_
  refine gf S hK iX5 hP 0 rfl rfl 0 (by decide) q636 rfl dX5_turns_39 ?_
  refine lv_bipush (v := 37) hx hb dX5_turns_42 (by decide) ?_
  refine lv_iload_n hx hb dX5_turns_44 rfl (lv_at hl 2 rfl) ?_
  refine lv_iadd hx hb dX5_turns_45 ?_
  obtain ⟨k5, h⟩ := ck_t h
  refine ald S hK hP 1 rfl (ok_vp k5) dX5_turns_46 ?_
  refine lv_topi (fun v6 ev6 => ?_)
  replace h := nmd_t ev6 h
  refine lv_iload_n hx hb dX5_turns_47 rfl (lv_at hl 0 rfl) ?_
  obtain ⟨r7, hr7, h⟩ := bd_t h
  refine rdV (As := [.int v6, .int r1]) (rest := [.int ((37 : Int32) + p1), .ref mqs]) S hK (c_X5_turned l G mqa mqs mqp mqn mqx mqm pas misk len spo kin cam fst lst inr (upd fs (Int32.toNatClampNeg ((25 : Int32) + p1)) r3) fp fn fx fm v6 r1 r7 hr7) mX5_turned q796 ⟨rfl, rfl, Nat.le_of_ble_eq_true rfl, Nat.le_of_ble_eq_true rfl⟩ hP rfl rfl rfl rfl hl.1 (Nat.le_of_ble_eq_true rfl) ⟨Nat.le_refl 0, Nat.le_refl 0⟩ dX5_turns_48 ?_
  obtain ⟨k8, h⟩ := ck_t h
  refine ast S hK hP hD hS 1 rfl (ok_vp k8) [(mqa, .inr (5, [.ref mqs, .ref mqp, .int pas, .ref mqn, .int misk, .ref mqx, .int len, .ref mqm, .int spo, .int kin, .int cam, .int fst, .int lst, .int inr])), (mqs, .inl (G.2.2.1, 65, .inl (upd (upd fs (Int32.toNatClampNeg ((25 : Int32) + p1)) r3) (Int32.toNatClampNeg ((37 : Int32) + p1)) r7))), (mqp, .inl (G.2.2.1, 260, .inl fp)), (mqn, .inl (G.2.2.1, 65, .inl fn)), (mqx, .inl (G.2.1, 80, .inl fx)), (mqm, .inl (G.2.2.1, 24, .inl fm))] rfl dX5_turns_51 (fun H locs hP hD hS => ?_)
  refine lv_aload_n hx hb dX5_turns_52 rfl (lv_at hl 1 rfl) ?_
  refine gf S hK iX5 hP 0 rfl rfl 0 (by decide) q636 rfl dX5_turns_53 ?_
  refine lv_bipush (v := 50) hx hb dX5_turns_56 (by decide) ?_
  refine lv_iload_n hx hb dX5_turns_58 rfl (lv_at hl 2 rfl) ?_
  refine lv_iadd hx hb dX5_turns_59 ?_
  refine lv_dup2_11 hx hb dX5_turns_60 rfl rfl ?_
  obtain ⟨k9, h⟩ := ck_t h
  refine ald S hK hP 1 rfl (ok_vp k9) dX5_turns_61 ?_
  refine lv_topi (fun v10 ev10 => ?_)
  replace h := nmd_t ev10 h
  refine lv_iload_n hx hb dX5_turns_62 rfl (lv_at hl 3 rfl) ?_
  refine lv_iadd hx hb dX5_turns_63 ?_
  obtain ⟨k11, h⟩ := ck_t h
  refine ast S hK hP hD hS 1 rfl (ok_vp k11) [(mqa, .inr (5, [.ref mqs, .ref mqp, .int pas, .ref mqn, .int misk, .ref mqx, .int len, .ref mqm, .int spo, .int kin, .int cam, .int fst, .int lst, .int inr])), (mqs, .inl (G.2.2.1, 65, .inl (upd (upd (upd fs (Int32.toNatClampNeg ((25 : Int32) + p1)) r3) (Int32.toNatClampNeg ((37 : Int32) + p1)) r7) (Int32.toNatClampNeg ((50 : Int32) + p1)) (v10 + p2)))), (mqp, .inl (G.2.2.1, 260, .inl fp)), (mqn, .inl (G.2.2.1, 65, .inl fn)), (mqx, .inl (G.2.1, 80, .inl fx)), (mqm, .inl (G.2.2.1, 24, .inl fm))] rfl dX5_turns_64 (fun H locs hP hD hS => ?_)
  refine lv_aload_n hx hb dX5_turns_65 rfl (lv_at hl 1 rfl) ?_
  refine gf S hK iX5 hP 0 rfl rfl 0 (by decide) q636 rfl dX5_turns_66 ?_
  refine lv_bipush (v := 64) hx hb dX5_turns_69 (by decide) ?_
  refine lv_dup2_11 hx hb dX5_turns_71 rfl rfl ?_
  obtain ⟨k12, h⟩ := ck_t h
  refine ald S hK hP 1 rfl (ok_vp k12) dX5_turns_72 ?_
  refine lv_topi (fun v13 ev13 => ?_)
  replace h := nmd_t ev13 h
  refine lv_iconst (v := 1) hx hb dX5_turns_73 (by decide) ?_
  refine lv_iadd hx hb dX5_turns_74 ?_
  obtain ⟨k14, h⟩ := ck_t h
  refine ast S hK hP hD hS 1 rfl (ok_vp k14) [(mqa, .inr (5, [.ref mqs, .ref mqp, .int pas, .ref mqn, .int misk, .ref mqx, .int len, .ref mqm, .int spo, .int kin, .int cam, .int fst, .int lst, .int inr])), (mqs, .inl (G.2.2.1, 65, .inl (upd (upd (upd (upd fs (Int32.toNatClampNeg ((25 : Int32) + p1)) r3) (Int32.toNatClampNeg ((37 : Int32) + p1)) r7) (Int32.toNatClampNeg ((50 : Int32) + p1)) (v10 + p2)) (Int32.toNatClampNeg (64 : Int32)) (v13 + 1)))), (mqp, .inl (G.2.2.1, 260, .inl fp)), (mqn, .inl (G.2.2.1, 65, .inl fn)), (mqx, .inl (G.2.1, 80, .inl fx)), (mqm, .inl (G.2.2.1, 24, .inl fm))] rfl dX5_turns_75 (fun H locs hP hD hS => ?_)
  obtain rfl := Option.some.inj h
  exact retV S hr hlk hP hD hS dX5_turns_76
