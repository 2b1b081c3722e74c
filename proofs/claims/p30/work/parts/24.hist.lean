theorem ofRq {l : Launch} {G : gG} {y : MethodName} {cc : ByteArray} {nL : Nat} {rt : FieldType} {rm : Room} {ws : va_W} {av : List Value} {res : Option Nat} (hy : plainName y.cls = true) (hav : (lg_sl av).length ≤ nL)
    (k : ∀ (p : Program) (e : Env) (s : State) (m : MethodId) (below : List Frame) (meth : Method) (c : Code) (ls : Array Slot), CallFix p m c cc nL s av.toArray T0 y.cls → meth.sig.returnType = some rt → meth.locks = false → gK G s → va_P G.1 vwCl ws s.heap → lv_has ls nL (lv_args 0 av) →
      W p l e rm s m av.toArray below meth c s.heap [] 0 0 (MQ below (va_Sq (fun x => x = res)) av.toArray s 0 0 (fun _ => False)) (F0 m 0 ls [])) : RqM l G y cc nL rt rm ws av res := by
  refine Met.ofW (cc := cc) (maxL := nL) (ret := some rt) hy rfl ?_
  intro p e s m args below meth c s₁ B hml hv
  obtain ⟨rfl, hP, hK⟩ := hv
  have hts := atoms_spec (ws := wq y cc nL (some rt)) B.pre
  rw [lg_entry_eq]
  exact k p e s m below meth c _ ⟨B.exec, B.bytes, hml, findClass_of_methodNamed B.named, fun w h => hts w (List.mem_cons_of_mem _ h)⟩ B.returns B.notSynchronized hK hP (lv_entry av hav)
set_option maxHeartbeats 4000000 in
set_option maxRecDepth 100000 in
theorem c_X0_row (l : Launch) (G : gG) (hqa hqr : Nat) (fr : Nat → Option Nat) (hnx hsz p1 : Int32) (res : Option Nat) (h : F_X0_row fr p1 = some res) : RqM l G yX0_row cX0_row 2 (.object "HoleTickets$State") (rmk 0 0) [(hqa, .inr (0, [.ref hqr, .int hnx, .int hsz])), (hqr, .inl (G.2.2.2, 4, .inr (.inr (.inr (.inr fr)))))] [.ref hqa, .int p1] res := by
  refine ofRq (by decide) (Nat.le_of_ble_eq_true rfl) ?_
  intro p e s m below meth c ls S hr hlk hK hP hl
  have S : CallFix p m c cX0_row 2 s ([.ref hqa, .int p1] : List Value).toArray T0 RX0 := S
  obtain ⟨hx, hb, hml, hown, hts⟩ := id S
  have hl : lv_has ls 2 [(0, .ref hqa), (1, .int p1)] := hl
  rw [F_X0_row] at h
  have fin : ∀ (v : Option Nat) (ls : Array Slot), v = res → W p l e (rmk 0 0) s m ([.ref hqa, .int p1] : List Value).toArray below meth c s.heap [] 0 0 (MQ below (va_Sq (fun x => x = res)) ([.ref hqa, .int p1] : List Value).toArray s 0 0 (fun _ => False)) (F0 m 19 ls [va_rf v]) := fun v ls hv =>
    W.aret hx hb hr (Or.inl ⟨_, rfl⟩) (va_rf_or v) (fun t ht _ => ⟨v, rfl, hv, ht⟩) (fun q hq => by cases hq) dX0_row_19 hlk
  refine lv_iload_n hx hb dX0_row_0 rfl (lv_at hl 1 rfl) ?_
  refine lv_if_lt (tgt := 18) hx hb dX0_row_1 (by decide) (fun c1 => ?_) (fun c1 => ?_)
  · replace h := if_t c1 h
    refine lv_null hx hb dX0_row_18 ?_
    exact fin none ls (Option.some.inj h)
  · replace h := if_f c1 h
    refine lv_iload_n hx hb dX0_row_4 rfl (lv_at hl 1 rfl) ?_
    refine lv_iconst (v := 4) hx hb dX0_row_5 (by decide) ?_
    refine lv_icmp_ge (tgt := 18) hx hb dX0_row_6 (by decide) (fun c2 => ?_) (fun c2 => ?_)
    · replace h := if_t c2 h
      refine lv_null hx hb dX0_row_18 ?_
      exact fin none ls (Option.some.inj h)
    · replace h := if_f c2 h
      obtain ⟨k1, h⟩ := ck_t h
      refine lv_aload_n hx hb dX0_row_9 rfl (lv_at hl 0 rfl) ?_
      refine gf S hK iX0 hP 0 rfl rfl 0 (by decide) q87 rfl dX0_row_10 ?_
      refine lv_iload_n hx hb dX0_row_13 rfl (lv_at hl 1 rfl) ?_
      refine va_aldq hx hb hK.1 hP 1 2 rfl rfl (ok_vp k1) dX0_row_14 ?_
      refine lv_goto (tgt := 19) hx hb dX0_row_15 (by decide) ?_
      exact fin _ ls (Option.some.inj h)

set_option maxHeartbeats 4000000 in
set_option maxRecDepth 100000 in
theorem c_X0_size (l : Launch) (G : gG) (hqa hqr : Nat) (hnx : Int32) (hsz : Int32) (fr : Nat → Option Nat) (res : Int32) (h : F_X0_size hsz = some res) : RdM l G yX0_size cX0_size 1 .int (rmk 0 0) [(hqa, .inr (0, [.ref hqr, .int hnx, .int hsz])), (hqr, .inl (G.2.2.2, 4, .inr (.inr (.inr (.inr fr)))))] [.ref hqa] res := by
  refine ofR (by decide) (Nat.le_of_ble_eq_true rfl) ?_
  intro p e s m below meth c ls S hr hlk hK hP hl
  have S : CallFix p m c cX0_size 1 s ([.ref hqa] : List Value).toArray T0 RX0 := S
  obtain ⟨hx, hb, hml, hown, hts⟩ := id S
  have hl : lv_has ls 1 [(0, .ref hqa)] := hl
  rw [F_X0_size] at h
  refine lv_aload_n hx hb dX0_size_0 rfl (lv_at hl 0 rfl) ?_
  refine gf S hK iX0 hP 0 rfl rfl 2 (by decide) q89 rfl dX0_size_1 ?_
  obtain rfl := Option.some.inj h
  exact retR S hr hlk rfl rfl dX0_size_4
set_option maxHeartbeats 4000000 in
set_option maxRecDepth 100000 in
theorem c_X0_record (l : Launch) (G : gG) (hqa hqr sqa sqw sqt squ sqh sqd sqb rqa rqw rqt rqu rqh rqd rqb : Nat) (hnx : Int32) (hsz : Int32) (fr : Nat → Option Nat) (ssold : Int32) (sstk : Int32) (spun : Int32) (sfra : Int32) (stur : Int32) (sft : Nat → Int32) (sfu : Nat → Int32) (sfh : Nat → Int32) (sfd : Nat → Int32) (sfb : Nat → Int32) (rsold : Int32) (rstk : Int32) (rpun : Int32) (rfra : Int32) (rtur : Int32) (rft : Nat → Int32) (rfu : Nat → Int32) (rfh : Nat → Int32) (rfd : Nat → Int32) (rfb : Nat → Int32) (sz : Nat) (res : Int32 × Int32 × Int32 × Int32 × Int32 × Int32 × Int32 × (Nat → Int32) × (Nat → Int32) × (Nat → Int32) × (Nat → Int32) × (Nat → Int32)) (h : F_X0_record hnx hsz fr ssold sstk spun sfra stur sft sfu sfh sfd sfb rsold rstk rpun rfra rtur rft rfu rfh rfd rfb rqa = some res) : WrM l G yX0_record cX0_record 3 none (rmk 3 82) [(hqa, .inr (0, [.ref hqr, .int hnx, .int hsz])), (hqr, .inl (G.2.2.2, 4, .inr (.inr (.inr (.inr fr))))), (sqa, .inr (3, [.ref sqw, .ref sqh, .ref sqd, .ref sqb, .int ssold, .int sstk, .int spun, .int sfra, .int stur])), (sqw, .inr (1, [.ref sqt, .ref squ])), (sqt, .inl (G.2.2.1, 24, .inl sft)), (squ, .inl (G.2.2.1, 24, .inl sfu)), (sqh, .inl (G.2.2.1, 12, .inl sfh)), (sqd, .inl (G.2.2.1, 12, .inl sfd)), (sqb, .inl (G.2.2.1, 12, .inl sfb)), (rqa, .inr (3, [.ref rqw, .ref rqh, .ref rqd, .ref rqb, .int rsold, .int rstk, .int rpun, .int rfra, .int rtur])), (rqw, .inr (1, [.ref rqt, .ref rqu])), (rqt, .inl (G.2.2.1, 24, .inl rft)), (rqu, .inl (G.2.2.1, 24, .inl rfu)), (rqh, .inl (G.2.2.1, 12, .inl rfh)), (rqd, .inl (G.2.2.1, 12, .inl rfd)), (rqb, .inl (G.2.2.1, 12, .inl rfb))] sz [.ref hqa, .ref sqa] none [(hqa, .inr (0, [.ref hqr, .int res.1, .int res.2.1])), (hqr, .inl (G.2.2.2, 4, .inr (.inr (.inr (.inr fr))))), (sqa, .inr (3, [.ref sqw, .ref sqh, .ref sqd, .ref sqb, .int ssold, .int sstk, .int spun, .int sfra, .int stur])), (sqw, .inr (1, [.ref sqt, .ref squ])), (sqt, .inl (G.2.2.1, 24, .inl sft)), (squ, .inl (G.2.2.1, 24, .inl sfu)), (sqh, .inl (G.2.2.1, 12, .inl sfh)), (sqd, .inl (G.2.2.1, 12, .inl sfd)), (sqb, .inl (G.2.2.1, 12, .inl sfb)), (rqa, .inr (3, [.ref rqw, .ref rqh, .ref rqd, .ref rqb, .int res.2.2.1, .int res.2.2.2.1, .int res.2.2.2.2.1, .int res.2.2.2.2.2.1, .int res.2.2.2.2.2.2.1])), (rqw, .inr (1, [.ref rqt, .ref rqu])), (rqt, .inl (G.2.2.1, 24, .inl res.2.2.2.2.2.2.2.1)), (rqu, .inl (G.2.2.1, 24, .inl res.2.2.2.2.2.2.2.2.1)), (rqh, .inl (G.2.2.1, 12, .inl res.2.2.2.2.2.2.2.2.2.1)), (rqd, .inl (G.2.2.1, 12, .inl res.2.2.2.2.2.2.2.2.2.2.1)), (rqb, .inl (G.2.2.1, 12, .inl res.2.2.2.2.2.2.2.2.2.2.2))] := by
  refine ofWr (by decide) (Nat.le_of_ble_eq_true rfl) ?_
  intro p e s m below meth c ls A S hr hlk hK hP hD hS hA hl
  have S : CallFix p m c cX0_record 3 s ([.ref hqa, .ref sqa] : List Value).toArray T0 RX0 := S
  obtain ⟨hx, hb, hml, hown, hts⟩ := id S
  have hl : lv_has ls 3 [(0, .ref hqa), (1, .ref sqa)] := hl
  rw [F_X0_record] at h
  refine lv_aload_n hx hb dX0_record_0 rfl (lv_at hl 0 rfl) ?_
  refine lv_aload_n hx hb dX0_record_1 rfl (lv_at hl 0 rfl) ?_
  refine gf S hK iX0 hP 0 rfl rfl 1 (by decide) q88 rfl dX0_record_2 ?_
  obtain ⟨r1, hr1, h⟩ := bd_t h
  obtain ⟨k2, h⟩ := ck_t h
  refine rdQ (As := [.int hnx]) (rest := []) S hK (c_X0_row l G hqa hqr fr hnx hsz hnx r1 hr1) mX0_row q215 ⟨rfl, rfl, Nat.le_of_ble_eq_true rfl, Nat.le_of_ble_eq_true rfl⟩ (hP.sub (ws' := [(hqa, .inr (0, [.ref hqr, .int hnx, .int hsz])), (hqr, .inl (G.2.2.2, 4, .inr (.inr (.inr (.inr fr)))))]) [0, 1] rfl) rfl rfl rfl rfl hl.1 (Nat.le_of_ble_eq_true rfl) ⟨Nat.le_refl 0, Nat.le_refl 0⟩ dX0_record_5 (of_decide_eq_true k2) ?_
  refine lv_astore_n (lv' := [(2, .ref rqa), (0, .ref hqa), (1, .ref sqa)]) hx hb dX0_record_8 rfl hl (by decide) rfl (fun ls hl => ?_)
  refine lv_aload_n hx hb dX0_record_9 rfl (lv_at hl 0 rfl) ?_
  refine lv_ifnull hx hb dX0_record_10 ?_
  refine lv_aload_n hx hb dX0_record_13 rfl (lv_at hl 0 rfl) ?_
  refine lv_aload_n hx hb dX0_record_14 rfl (lv_at hl 2 rfl) ?_
  obtain ⟨r3, hr3, h⟩ := bd_t h
  refine wrV (As := [.ref sqa]) (rest := []) (ws := [(rqa, .inr (3, [.ref rqw, .ref rqh, .ref rqd, .ref rqb, .int rsold, .int rstk, .int rpun, .int rfra, .int rtur])), (rqw, .inr (1, [.ref rqt, .ref rqu])), (rqt, .inl (G.2.2.1, 24, .inl rft)), (rqu, .inl (G.2.2.1, 24, .inl rfu)), (rqh, .inl (G.2.2.1, 12, .inl rfh)), (rqd, .inl (G.2.2.1, 12, .inl rfd)), (rqb, .inl (G.2.2.1, 12, .inl rfb)), (sqa, .inr (3, [.ref sqw, .ref sqh, .ref sqd, .ref sqb, .int ssold, .int sstk, .int spun, .int sfra, .int stur])), (sqw, .inr (1, [.ref sqt, .ref squ])), (sqt, .inl (G.2.2.1, 24, .inl sft)), (squ, .inl (G.2.2.1, 24, .inl sfu)), (sqh, .inl (G.2.2.1, 12, .inl sfh)), (sqd, .inl (G.2.2.1, 12, .inl sfd)), (sqb, .inl (G.2.2.1, 12, .inl sfb))]) (wr := [(hqa, .inr (0, [.ref hqr, .int hnx, .int hsz])), (hqr, .inl (G.2.2.2, 4, .inr (.inr (.inr (.inr fr)))))]) (ws' := [(rqa, .inr (3, [.ref rqw, .ref rqh, .ref rqd, .ref rqb, .int r3.1, .int r3.2.1, .int r3.2.2.1, .int r3.2.2.2.1, .int r3.2.2.2.2.1])), (rqw, .inr (1, [.ref rqt, .ref rqu])), (rqt, .inl (G.2.2.1, 24, .inl r3.2.2.2.2.2.1)), (rqu, .inl (G.2.2.1, 24, .inl r3.2.2.2.2.2.2.1)), (rqh, .inl (G.2.2.1, 12, .inl r3.2.2.2.2.2.2.2.1)), (rqd, .inl (G.2.2.1, 12, .inl r3.2.2.2.2.2.2.2.2.1)), (rqb, .inl (G.2.2.1, 12, .inl r3.2.2.2.2.2.2.2.2.2)), (sqa, .inr (3, [.ref sqw, .ref sqh, .ref sqd, .ref sqb, .int ssold, .int sstk, .int spun, .int sfra, .int stur])), (sqw, .inr (1, [.ref sqt, .ref squ])), (sqt, .inl (G.2.2.1, 24, .inl sft)), (squ, .inl (G.2.2.1, 24, .inl sfu)), (sqh, .inl (G.2.2.1, 12, .inl sfh)), (sqd, .inl (G.2.2.1, 12, .inl sfd)), (sqb, .inl (G.2.2.1, 12, .inl sfb))]) (ws1 := [(hqa, .inr (0, [.ref hqr, .int hnx, .int hsz])), (hqr, .inl (G.2.2.2, 4, .inr (.inr (.inr (.inr fr))))), (sqa, .inr (3, [.ref sqw, .ref sqh, .ref sqd, .ref sqb, .int ssold, .int sstk, .int spun, .int sfra, .int stur])), (sqw, .inr (1, [.ref sqt, .ref squ])), (sqt, .inl (G.2.2.1, 24, .inl sft)), (squ, .inl (G.2.2.1, 24, .inl sfu)), (sqh, .inl (G.2.2.1, 12, .inl sfh)), (sqd, .inl (G.2.2.1, 12, .inl sfd)), (sqb, .inl (G.2.2.1, 12, .inl sfb)), (rqa, .inr (3, [.ref rqw, .ref rqh, .ref rqd, .ref rqb, .int r3.1, .int r3.2.1, .int r3.2.2.1, .int r3.2.2.2.1, .int r3.2.2.2.2.1])), (rqw, .inr (1, [.ref rqt, .ref rqu])), (rqt, .inl (G.2.2.1, 24, .inl r3.2.2.2.2.2.1)), (rqu, .inl (G.2.2.1, 24, .inl r3.2.2.2.2.2.2.1)), (rqh, .inl (G.2.2.1, 12, .inl r3.2.2.2.2.2.2.2.1)), (rqd, .inl (G.2.2.1, 12, .inl r3.2.2.2.2.2.2.2.2.1)), (rqb, .inl (G.2.2.1, 12, .inl r3.2.2.2.2.2.2.2.2.2))]) S hK (c_X3_copy l G rqa rqw rqt rqu rqh rqd rqb sqa sqw sqt squ sqh sqd sqb rsold rstk rpun rfra rtur rft rfu rfh rfd rfb ssold sstk spun sfra stur sft sfu sfh sfd sfb _ r3 hr3) mX3_copy q219 ⟨rfl, rfl, Nat.le_of_ble_eq_true rfl, Nat.le_of_ble_eq_true rfl⟩ hP hD hS hA [9, 10, 11, 12, 13, 14, 15, 2, 3, 4, 5, 6, 7, 8] [0, 1] [0, 1, 9, 10, 11, 12, 13, 14, 15, 2, 3, 4, 5, 6, 7, 8] rfl rfl (by decide) (by decide) (by decide) rfl (by decide) rfl rfl rfl rfl hl.1 (Nat.le_of_ble_eq_true rfl) ⟨Nat.le_refl 0, Nat.le_refl 0⟩ dX0_record_15 (fun H locs hP hD hS => ?_)
  refine lv_aload_n hx hb dX0_record_18 rfl (lv_at hl 1 rfl) ?_
  refine lv_aload_n hx hb dX0_record_19 rfl (lv_at hl 1 rfl) ?_
  refine gf S hK iX0 hP 0 rfl rfl 1 (by decide) q88 rfl dX0_record_20 ?_
  refine lv_iconst (v := 1) hx hb dX0_record_23 (by decide) ?_
  refine lv_iadd hx hb dX0_record_24 ?_
  refine lv_iconst (v := 4) hx hb dX0_record_25 (by decide) ?_
  refine lv_icmp_ge (tgt := 38) hx hb dX0_record_26 (by decide) (fun c4 => ?_) (fun c4 => ?_)
  · replace h := if_t c4 h
    refine lv_iconst (v := 0) hx hb dX0_record_38 (by decide) ?_
    refine pf S hK iX0 tyX0 tyX0_ok nmX0 hP hD hS 0 rfl rfl 1 (by decide) q88 rfl rfl rfl (Nat.le_of_ble_eq_true rfl) [(hqa, .inr (0, [.ref hqr, .int 0, .int hsz])), (hqr, .inl (G.2.2.2, 4, .inr (.inr (.inr (.inr fr))))), (sqa, .inr (3, [.ref sqw, .ref sqh, .ref sqd, .ref sqb, .int ssold, .int sstk, .int spun, .int sfra, .int stur])), (sqw, .inr (1, [.ref sqt, .ref squ])), (sqt, .inl (G.2.2.1, 24, .inl sft)), (squ, .inl (G.2.2.1, 24, .inl sfu)), (sqh, .inl (G.2.2.1, 12, .inl sfh)), (sqd, .inl (G.2.2.1, 12, .inl sfd)), (sqb, .inl (G.2.2.1, 12, .inl sfb)), (rqa, .inr (3, [.ref rqw, .ref rqh, .ref rqd, .ref rqb, .int r3.1, .int r3.2.1, .int r3.2.2.1, .int r3.2.2.2.1, .int r3.2.2.2.2.1])), (rqw, .inr (1, [.ref rqt, .ref rqu])), (rqt, .inl (G.2.2.1, 24, .inl r3.2.2.2.2.2.1)), (rqu, .inl (G.2.2.1, 24, .inl r3.2.2.2.2.2.2.1)), (rqh, .inl (G.2.2.1, 12, .inl r3.2.2.2.2.2.2.2.1)), (rqd, .inl (G.2.2.1, 12, .inl r3.2.2.2.2.2.2.2.2.1)), (rqb, .inl (G.2.2.1, 12, .inl r3.2.2.2.2.2.2.2.2.2))] rfl dX0_record_39 (fun H locs hP hD hS => ?_)
    refine lv_aload_n hx hb dX0_record_42 rfl (lv_at hl 1 rfl) ?_
    refine lv_aload_n hx hb dX0_record_43 rfl (lv_at hl 1 rfl) ?_
    refine gf S hK iX0 hP 0 rfl rfl 2 (by decide) q89 rfl dX0_record_44 ?_
    refine lv_iconst (v := 1) hx hb dX0_record_47 (by decide) ?_
    refine lv_iadd hx hb dX0_record_48 ?_
    refine lv_iconst (v := 4) hx hb dX0_record_49 (by decide) ?_
    refine va_mmin hx hb (hml.trans hl.1.symm) hown (hts _ q231) (hts _ q232) (hts _ q19) (hts _ q233) (Nat.le_of_ble_eq_true rfl) (Nat.le_of_ble_eq_true rfl) (Nat.le_refl 0) (Nat.le_refl 0) dX0_record_50 ?_
    refine lv_topi (fun v5 ev5 => ?_)
    replace h := nmd_t ev5 h
    refine pf S hK iX0 tyX0 tyX0_ok nmX0 hP hD hS 0 rfl rfl 2 (by decide) q89 rfl rfl rfl (Nat.le_of_ble_eq_true rfl) [(hqa, .inr (0, [.ref hqr, .int 0, .int v5])), (hqr, .inl (G.2.2.2, 4, .inr (.inr (.inr (.inr fr))))), (sqa, .inr (3, [.ref sqw, .ref sqh, .ref sqd, .ref sqb, .int ssold, .int sstk, .int spun, .int sfra, .int stur])), (sqw, .inr (1, [.ref sqt, .ref squ])), (sqt, .inl (G.2.2.1, 24, .inl sft)), (squ, .inl (G.2.2.1, 24, .inl sfu)), (sqh, .inl (G.2.2.1, 12, .inl sfh)), (sqd, .inl (G.2.2.1, 12, .inl sfd)), (sqb, .inl (G.2.2.1, 12, .inl sfb)), (rqa, .inr (3, [.ref rqw, .ref rqh, .ref rqd, .ref rqb, .int r3.1, .int r3.2.1, .int r3.2.2.1, .int r3.2.2.2.1, .int r3.2.2.2.2.1])), (rqw, .inr (1, [.ref rqt, .ref rqu])), (rqt, .inl (G.2.2.1, 24, .inl r3.2.2.2.2.2.1)), (rqu, .inl (G.2.2.1, 24, .inl r3.2.2.2.2.2.2.1)), (rqh, .inl (G.2.2.1, 12, .inl r3.2.2.2.2.2.2.2.1)), (rqd, .inl (G.2.2.1, 12, .inl r3.2.2.2.2.2.2.2.2.1)), (rqb, .inl (G.2.2.1, 12, .inl r3.2.2.2.2.2.2.2.2.2))] rfl dX0_record_53 (fun H locs hP hD hS => ?_)
    obtain rfl := Option.some.inj h
    exact retV S hr hlk hP hD hS dX0_record_56
  · replace h := if_f c4 h
    refine lv_aload_n hx hb dX0_record_29 rfl (lv_at hl 1 rfl) ?_
    refine gf S hK iX0 hP 0 rfl rfl 1 (by decide) q88 rfl dX0_record_30 ?_
    refine lv_iconst (v := 1) hx hb dX0_record_33 (by decide) ?_
    refine lv_iadd hx hb dX0_record_34 ?_
    refine lv_goto (tgt := 39) hx hb dX0_record_35 (by decide) ?_
    refine pf S hK iX0 tyX0 tyX0_ok nmX0 hP hD hS 0 rfl rfl 1 (by decide) q88 rfl rfl rfl (Nat.le_of_ble_eq_true rfl) [(hqa, .inr (0, [.ref hqr, .int (hnx + 1), .int hsz])), (hqr, .inl (G.2.2.2, 4, .inr (.inr (.inr (.inr fr))))), (sqa, .inr (3, [.ref sqw, .ref sqh, .ref sqd, .ref sqb, .int ssold, .int sstk, .int spun, .int sfra, .int stur])), (sqw, .inr (1, [.ref sqt, .ref squ])), (sqt, .inl (G.2.2.1, 24, .inl sft)), (squ, .inl (G.2.2.1, 24, .inl sfu)), (sqh, .inl (G.2.2.1, 12, .inl sfh)), (sqd, .inl (G.2.2.1, 12, .inl sfd)), (sqb, .inl (G.2.2.1, 12, .inl sfb)), (rqa, .inr (3, [.ref rqw, .ref rqh, .ref rqd, .ref rqb, .int r3.1, .int r3.2.1, .int r3.2.2.1, .int r3.2.2.2.1, .int r3.2.2.2.2.1])), (rqw, .inr (1, [.ref rqt, .ref rqu])), (rqt, .inl (G.2.2.1, 24, .inl r3.2.2.2.2.2.1)), (rqu, .inl (G.2.2.1, 24, .inl r3.2.2.2.2.2.2.1)), (rqh, .inl (G.2.2.1, 12, .inl r3.2.2.2.2.2.2.2.1)), (rqd, .inl (G.2.2.1, 12, .inl r3.2.2.2.2.2.2.2.2.1)), (rqb, .inl (G.2.2.1, 12, .inl r3.2.2.2.2.2.2.2.2.2))] rfl dX0_record_39 (fun H locs hP hD hS => ?_)
    refine lv_aload_n hx hb dX0_record_42 rfl (lv_at hl 1 rfl) ?_
    refine lv_aload_n hx hb dX0_record_43 rfl (lv_at hl 1 rfl) ?_
    refine gf S hK iX0 hP 0 rfl rfl 2 (by decide) q89 rfl dX0_record_44 ?_
    refine lv_iconst (v := 1) hx hb dX0_record_47 (by decide) ?_
    refine lv_iadd hx hb dX0_record_48 ?_
    refine lv_iconst (v := 4) hx hb dX0_record_49 (by decide) ?_
    refine va_mmin hx hb (hml.trans hl.1.symm) hown (hts _ q231) (hts _ q232) (hts _ q19) (hts _ q233) (Nat.le_of_ble_eq_true rfl) (Nat.le_of_ble_eq_true rfl) (Nat.le_refl 0) (Nat.le_refl 0) dX0_record_50 ?_
    refine lv_topi (fun v6 ev6 => ?_)
    replace h := nmd_t ev6 h
    refine pf S hK iX0 tyX0 tyX0_ok nmX0 hP hD hS 0 rfl rfl 2 (by decide) q89 rfl rfl rfl (Nat.le_of_ble_eq_true rfl) [(hqa, .inr (0, [.ref hqr, .int (hnx + 1), .int v6])), (hqr, .inl (G.2.2.2, 4, .inr (.inr (.inr (.inr fr))))), (sqa, .inr (3, [.ref sqw, .ref sqh, .ref sqd, .ref sqb, .int ssold, .int sstk, .int spun, .int sfra, .int stur])), (sqw, .inr (1, [.ref sqt, .ref squ])), (sqt, .inl (G.2.2.1, 24, .inl sft)), (squ, .inl (G.2.2.1, 24, .inl sfu)), (sqh, .inl (G.2.2.1, 12, .inl sfh)), (sqd, .inl (G.2.2.1, 12, .inl sfd)), (sqb, .inl (G.2.2.1, 12, .inl sfb)), (rqa, .inr (3, [.ref rqw, .ref rqh, .ref rqd, .ref rqb, .int r3.1, .int r3.2.1, .int r3.2.2.1, .int r3.2.2.2.1, .int r3.2.2.2.2.1])), (rqw, .inr (1, [.ref rqt, .ref rqu])), (rqt, .inl (G.2.2.1, 24, .inl r3.2.2.2.2.2.1)), (rqu, .inl (G.2.2.1, 24, .inl r3.2.2.2.2.2.2.1)), (rqh, .inl (G.2.2.1, 12, .inl r3.2.2.2.2.2.2.2.1)), (rqd, .inl (G.2.2.1, 12, .inl r3.2.2.2.2.2.2.2.2.1)), (rqb, .inl (G.2.2.1, 12, .inl r3.2.2.2.2.2.2.2.2.2))] rfl dX0_record_53 (fun H locs hP hD hS => ?_)
    obtain rfl := Option.some.inj h
    exact retV S hr hlk hP hD hS dX0_record_56
set_option maxHeartbeats 4000000 in
set_option maxRecDepth 100000 in
theorem c_X0_takeLatest (l : Launch) (G : gG) (hqa hqr sqa sqw sqt squ sqh sqd sqb rqa rqw rqt rqu rqh rqd rqb : Nat) (hnx : Int32) (hsz : Int32) (fr : Nat → Option Nat) (ssold : Int32) (sstk : Int32) (spun : Int32) (sfra : Int32) (stur : Int32) (sft : Nat → Int32) (sfu : Nat → Int32) (sfh : Nat → Int32) (sfd : Nat → Int32) (sfb : Nat → Int32) (rsold : Int32) (rstk : Int32) (rpun : Int32) (rfra : Int32) (rtur : Int32) (rft : Nat → Int32) (rfu : Nat → Int32) (rfh : Nat → Int32) (rfd : Nat → Int32) (rfb : Nat → Int32) (sz : Nat) (res : Int32 × Int32 × Int32 × Int32 × Int32 × Int32 × Int32 × (Nat → Int32) × (Nat → Int32) × (Nat → Int32) × (Nat → Int32) × (Nat → Int32)) (h : F_X0_takeLatest hnx hsz fr ssold sstk spun sfra stur sft sfu sfh sfd sfb rsold rstk rpun rfra rtur rft rfu rfh rfd rfb rqa = some res) : WrM l G yX0_takeLatest cX0_takeLatest 4 none (rmk 3 82) [(hqa, .inr (0, [.ref hqr, .int hnx, .int hsz])), (hqr, .inl (G.2.2.2, 4, .inr (.inr (.inr (.inr fr))))), (sqa, .inr (3, [.ref sqw, .ref sqh, .ref sqd, .ref sqb, .int ssold, .int sstk, .int spun, .int sfra, .int stur])), (sqw, .inr (1, [.ref sqt, .ref squ])), (sqt, .inl (G.2.2.1, 24, .inl sft)), (squ, .inl (G.2.2.1, 24, .inl sfu)), (sqh, .inl (G.2.2.1, 12, .inl sfh)), (sqd, .inl (G.2.2.1, 12, .inl sfd)), (sqb, .inl (G.2.2.1, 12, .inl sfb)), (rqa, .inr (3, [.ref rqw, .ref rqh, .ref rqd, .ref rqb, .int rsold, .int rstk, .int rpun, .int rfra, .int rtur])), (rqw, .inr (1, [.ref rqt, .ref rqu])), (rqt, .inl (G.2.2.1, 24, .inl rft)), (rqu, .inl (G.2.2.1, 24, .inl rfu)), (rqh, .inl (G.2.2.1, 12, .inl rfh)), (rqd, .inl (G.2.2.1, 12, .inl rfd)), (rqb, .inl (G.2.2.1, 12, .inl rfb))] sz [.ref hqa, .ref sqa] none [(hqa, .inr (0, [.ref hqr, .int res.1, .int res.2.1])), (hqr, .inl (G.2.2.2, 4, .inr (.inr (.inr (.inr fr))))), (sqa, .inr (3, [.ref sqw, .ref sqh, .ref sqd, .ref sqb, .int res.2.2.1, .int res.2.2.2.1, .int res.2.2.2.2.1, .int res.2.2.2.2.2.1, .int res.2.2.2.2.2.2.1])), (sqw, .inr (1, [.ref sqt, .ref squ])), (sqt, .inl (G.2.2.1, 24, .inl res.2.2.2.2.2.2.2.1)), (squ, .inl (G.2.2.1, 24, .inl res.2.2.2.2.2.2.2.2.1)), (sqh, .inl (G.2.2.1, 12, .inl res.2.2.2.2.2.2.2.2.2.1)), (sqd, .inl (G.2.2.1, 12, .inl res.2.2.2.2.2.2.2.2.2.2.1)), (sqb, .inl (G.2.2.1, 12, .inl res.2.2.2.2.2.2.2.2.2.2.2)), (rqa, .inr (3, [.ref rqw, .ref rqh, .ref rqd, .ref rqb, .int rsold, .int rstk, .int rpun, .int rfra, .int rtur])), (rqw, .inr (1, [.ref rqt, .ref rqu])), (rqt, .inl (G.2.2.1, 24, .inl rft)), (rqu, .inl (G.2.2.1, 24, .inl rfu)), (rqh, .inl (G.2.2.1, 12, .inl rfh)), (rqd, .inl (G.2.2.1, 12, .inl rfd)), (rqb, .inl (G.2.2.1, 12, .inl rfb))] := by
  refine ofWr (by decide) (Nat.le_of_ble_eq_true rfl) ?_
  intro p e s m below meth c ls A S hr hlk hK hP hD hS hA hl
  have S : CallFix p m c cX0_takeLatest 4 s ([.ref hqa, .ref sqa] : List Value).toArray T0 RX0 := S
  obtain ⟨hx, hb, hml, hown, hts⟩ := id S
  have hl : lv_has ls 4 [(0, .ref hqa), (1, .ref sqa)] := hl
  rw [F_X0_takeLatest] at h
  refine lv_aload_n hx hb dX0_takeLatest_0 rfl (lv_at hl 0 rfl) ?_
  refine gf S hK iX0 hP 0 rfl rfl 1 (by decide) q88 rfl dX0_takeLatest_1 ?_
  refine lv_if_le (tgt := 16) hx hb dX0_takeLatest_4 (by decide) (fun c1 => ?_) (fun c1 => ?_)
  · replace h := if_t c1 h
    refine lv_iconst (v := 3) hx hb dX0_takeLatest_16 (by decide) ?_
    refine lv_istore_n (lv' := [(2, .int 3), (0, .ref hqa), (1, .ref sqa)]) hx hb dX0_takeLatest_17 rfl hl (by decide) rfl (fun ls hl => ?_)
    refine lv_aload_n hx hb dX0_takeLatest_18 rfl (lv_at hl 1 rfl) ?_
    refine lv_iload_n hx hb dX0_takeLatest_19 rfl (lv_at hl 0 rfl) ?_
    obtain ⟨r2, hr2, h⟩ := bd_t h
    obtain ⟨k3, h⟩ := ck_t h
    refine rdQ (As := [.int 3]) (rest := []) S hK (c_X0_row l G hqa hqr fr hnx hsz 3 r2 hr2) mX0_row q215 ⟨rfl, rfl, Nat.le_of_ble_eq_true rfl, Nat.le_of_ble_eq_true rfl⟩ (hP.sub (ws' := [(hqa, .inr (0, [.ref hqr, .int hnx, .int hsz])), (hqr, .inl (G.2.2.2, 4, .inr (.inr (.inr (.inr fr)))))]) [0, 1] rfl) rfl rfl rfl rfl hl.1 (Nat.le_of_ble_eq_true rfl) ⟨Nat.le_refl 0, Nat.le_refl 0⟩ dX0_takeLatest_20 (of_decide_eq_true k3) ?_
    refine lv_astore_n (lv' := [(3, .ref rqa), (2, .int 3), (0, .ref hqa), (1, .ref sqa)]) hx hb dX0_takeLatest_23 rfl hl (by decide) rfl (fun ls hl => ?_)
    refine lv_aload_n hx hb dX0_takeLatest_24 rfl (lv_at hl 0 rfl) ?_
    refine lv_ifnull hx hb dX0_takeLatest_25 ?_
    refine lv_aload_n hx hb dX0_takeLatest_28 rfl (lv_at hl 2 rfl) ?_
    refine gf S hK iX0 hP 0 rfl rfl 2 (by decide) q89 rfl dX0_takeLatest_29 ?_
    refine lv_if_le (tgt := 55) hx hb dX0_takeLatest_32 (by decide) (fun c4 => ?_) (fun c4 => ?_)
    · replace h := if_t c4 h
      obtain rfl := Option.some.inj h
      exact retV S hr hlk hP hD hS dX0_takeLatest_55
    · replace h := if_f c4 h
      refine lv_aload_n hx hb dX0_takeLatest_35 rfl (lv_at hl 3 rfl) ?_
      refine lv_aload_n hx hb dX0_takeLatest_36 rfl (lv_at hl 0 rfl) ?_
      obtain ⟨r5, hr5, h⟩ := bd_t h
      refine wrV (As := [.ref rqa]) (rest := []) (ws := [(sqa, .inr (3, [.ref sqw, .ref sqh, .ref sqd, .ref sqb, .int ssold, .int sstk, .int spun, .int sfra, .int stur])), (sqw, .inr (1, [.ref sqt, .ref squ])), (sqt, .inl (G.2.2.1, 24, .inl sft)), (squ, .inl (G.2.2.1, 24, .inl sfu)), (sqh, .inl (G.2.2.1, 12, .inl sfh)), (sqd, .inl (G.2.2.1, 12, .inl sfd)), (sqb, .inl (G.2.2.1, 12, .inl sfb)), (rqa, .inr (3, [.ref rqw, .ref rqh, .ref rqd, .ref rqb, .int rsold, .int rstk, .int rpun, .int rfra, .int rtur])), (rqw, .inr (1, [.ref rqt, .ref rqu])), (rqt, .inl (G.2.2.1, 24, .inl rft)), (rqu, .inl (G.2.2.1, 24, .inl rfu)), (rqh, .inl (G.2.2.1, 12, .inl rfh)), (rqd, .inl (G.2.2.1, 12, .inl rfd)), (rqb, .inl (G.2.2.1, 12, .inl rfb))]) (wr := [(hqa, .inr (0, [.ref hqr, .int hnx, .int hsz])), (hqr, .inl (G.2.2.2, 4, .inr (.inr (.inr (.inr fr)))))]) (ws' := [(sqa, .inr (3, [.ref sqw, .ref sqh, .ref sqd, .ref sqb, .int r5.1, .int r5.2.1, .int r5.2.2.1, .int r5.2.2.2.1, .int r5.2.2.2.2.1])), (sqw, .inr (1, [.ref sqt, .ref squ])), (sqt, .inl (G.2.2.1, 24, .inl r5.2.2.2.2.2.1)), (squ, .inl (G.2.2.1, 24, .inl r5.2.2.2.2.2.2.1)), (sqh, .inl (G.2.2.1, 12, .inl r5.2.2.2.2.2.2.2.1)), (sqd, .inl (G.2.2.1, 12, .inl r5.2.2.2.2.2.2.2.2.1)), (sqb, .inl (G.2.2.1, 12, .inl r5.2.2.2.2.2.2.2.2.2)), (rqa, .inr (3, [.ref rqw, .ref rqh, .ref rqd, .ref rqb, .int rsold, .int rstk, .int rpun, .int rfra, .int rtur])), (rqw, .inr (1, [.ref rqt, .ref rqu])), (rqt, .inl (G.2.2.1, 24, .inl rft)), (rqu, .inl (G.2.2.1, 24, .inl rfu)), (rqh, .inl (G.2.2.1, 12, .inl rfh)), (rqd, .inl (G.2.2.1, 12, .inl rfd)), (rqb, .inl (G.2.2.1, 12, .inl rfb))]) (ws1 := [(hqa, .inr (0, [.ref hqr, .int hnx, .int hsz])), (hqr, .inl (G.2.2.2, 4, .inr (.inr (.inr (.inr fr))))), (sqa, .inr (3, [.ref sqw, .ref sqh, .ref sqd, .ref sqb, .int r5.1, .int r5.2.1, .int r5.2.2.1, .int r5.2.2.2.1, .int r5.2.2.2.2.1])), (sqw, .inr (1, [.ref sqt, .ref squ])), (sqt, .inl (G.2.2.1, 24, .inl r5.2.2.2.2.2.1)), (squ, .inl (G.2.2.1, 24, .inl r5.2.2.2.2.2.2.1)), (sqh, .inl (G.2.2.1, 12, .inl r5.2.2.2.2.2.2.2.1)), (sqd, .inl (G.2.2.1, 12, .inl r5.2.2.2.2.2.2.2.2.1)), (sqb, .inl (G.2.2.1, 12, .inl r5.2.2.2.2.2.2.2.2.2)), (rqa, .inr (3, [.ref rqw, .ref rqh, .ref rqd, .ref rqb, .int rsold, .int rstk, .int rpun, .int rfra, .int rtur])), (rqw, .inr (1, [.ref rqt, .ref rqu])), (rqt, .inl (G.2.2.1, 24, .inl rft)), (rqu, .inl (G.2.2.1, 24, .inl rfu)), (rqh, .inl (G.2.2.1, 12, .inl rfh)), (rqd, .inl (G.2.2.1, 12, .inl rfd)), (rqb, .inl (G.2.2.1, 12, .inl rfb))]) S hK (c_X3_copy l G sqa sqw sqt squ sqh sqd sqb rqa rqw rqt rqu rqh rqd rqb ssold sstk spun sfra stur sft sfu sfh sfd sfb rsold rstk rpun rfra rtur rft rfu rfh rfd rfb _ r5 hr5) mX3_copy q219 ⟨rfl, rfl, Nat.le_of_ble_eq_true rfl, Nat.le_of_ble_eq_true rfl⟩ hP hD hS hA [2, 3, 4, 5, 6, 7, 8, 9, 10, 11, 12, 13, 14, 15] [0, 1] [0, 1, 2, 3, 4, 5, 6, 7, 8, 9, 10, 11, 12, 13, 14, 15] rfl rfl (by decide) (by decide) (by decide) rfl (by decide) rfl rfl rfl rfl hl.1 (Nat.le_of_ble_eq_true rfl) ⟨Nat.le_refl 0, Nat.le_refl 0⟩ dX0_takeLatest_37 (fun H locs hP hD hS => ?_)
      refine lv_aload_n hx hb dX0_takeLatest_40 rfl (lv_at hl 2 rfl) ?_
      refine lv_iload_n hx hb dX0_takeLatest_41 rfl (lv_at hl 1 rfl) ?_
      refine pf S hK iX0 tyX0 tyX0_ok nmX0 hP hD hS 0 rfl rfl 1 (by decide) q88 rfl rfl rfl (Nat.le_of_ble_eq_true rfl) [(hqa, .inr (0, [.ref hqr, .int 3, .int hsz])), (hqr, .inl (G.2.2.2, 4, .inr (.inr (.inr (.inr fr))))), (sqa, .inr (3, [.ref sqw, .ref sqh, .ref sqd, .ref sqb, .int r5.1, .int r5.2.1, .int r5.2.2.1, .int r5.2.2.2.1, .int r5.2.2.2.2.1])), (sqw, .inr (1, [.ref sqt, .ref squ])), (sqt, .inl (G.2.2.1, 24, .inl r5.2.2.2.2.2.1)), (squ, .inl (G.2.2.1, 24, .inl r5.2.2.2.2.2.2.1)), (sqh, .inl (G.2.2.1, 12, .inl r5.2.2.2.2.2.2.2.1)), (sqd, .inl (G.2.2.1, 12, .inl r5.2.2.2.2.2.2.2.2.1)), (sqb, .inl (G.2.2.1, 12, .inl r5.2.2.2.2.2.2.2.2.2)), (rqa, .inr (3, [.ref rqw, .ref rqh, .ref rqd, .ref rqb, .int rsold, .int rstk, .int rpun, .int rfra, .int rtur])), (rqw, .inr (1, [.ref rqt, .ref rqu])), (rqt, .inl (G.2.2.1, 24, .inl rft)), (rqu, .inl (G.2.2.1, 24, .inl rfu)), (rqh, .inl (G.2.2.1, 12, .inl rfh)), (rqd, .inl (G.2.2.1, 12, .inl rfd)), (rqb, .inl (G.2.2.1, 12, .inl rfb))] rfl dX0_takeLatest_42 (fun H locs hP hD hS => ?_)
      refine lv_aload_n hx hb dX0_takeLatest_45 rfl (lv_at hl 2 rfl) ?_
      refine lv_dup hx hb dX0_takeLatest_46 rfl ?_
      refine gf S hK iX0 hP 0 rfl rfl 2 (by decide) q89 rfl dX0_takeLatest_47 ?_
      refine lv_iconst (v := 1) hx hb dX0_takeLatest_50 (by decide) ?_
      refine lv_isub hx hb dX0_takeLatest_51 ?_
      refine pf S hK iX0 tyX0 tyX0_ok nmX0 hP hD hS 0 rfl rfl 2 (by decide) q89 rfl rfl rfl (Nat.le_of_ble_eq_true rfl) [(hqa, .inr (0, [.ref hqr, .int 3, .int (hsz - 1)])), (hqr, .inl (G.2.2.2, 4, .inr (.inr (.inr (.inr fr))))), (sqa, .inr (3, [.ref sqw, .ref sqh, .ref sqd, .ref sqb, .int r5.1, .int r5.2.1, .int r5.2.2.1, .int r5.2.2.2.1, .int r5.2.2.2.2.1])), (sqw, .inr (1, [.ref sqt, .ref squ])), (sqt, .inl (G.2.2.1, 24, .inl r5.2.2.2.2.2.1)), (squ, .inl (G.2.2.1, 24, .inl r5.2.2.2.2.2.2.1)), (sqh, .inl (G.2.2.1, 12, .inl r5.2.2.2.2.2.2.2.1)), (sqd, .inl (G.2.2.1, 12, .inl r5.2.2.2.2.2.2.2.2.1)), (sqb, .inl (G.2.2.1, 12, .inl r5.2.2.2.2.2.2.2.2.2)), (rqa, .inr (3, [.ref rqw, .ref rqh, .ref rqd, .ref rqb, .int rsold, .int rstk, .int rpun, .int rfra, .int rtur])), (rqw, .inr (1, [.ref rqt, .ref rqu])), (rqt, .inl (G.2.2.1, 24, .inl rft)), (rqu, .inl (G.2.2.1, 24, .inl rfu)), (rqh, .inl (G.2.2.1, 12, .inl rfh)), (rqd, .inl (G.2.2.1, 12, .inl rfd)), (rqb, .inl (G.2.2.1, 12, .inl rfb))] rfl dX0_takeLatest_52 (fun H locs hP hD hS => ?_)
      obtain rfl := Option.some.inj h
      exact retV S hr hlk hP hD hS dX0_takeLatest_55
  · replace h := if_f c1 h
    refine lv_aload_n hx hb dX0_takeLatest_7 rfl (lv_at hl 0 rfl) ?_
    refine gf S hK iX0 hP 0 rfl rfl 1 (by decide) q88 rfl dX0_takeLatest_8 ?_
    refine lv_iconst (v := 1) hx hb dX0_takeLatest_11 (by decide) ?_
    refine lv_isub hx hb dX0_takeLatest_12 ?_
    refine lv_goto (tgt := 17) hx hb dX0_takeLatest_13 (by decide) ?_
    refine lv_istore_n (lv' := [(2, .int (hnx - 1)), (0, .ref hqa), (1, .ref sqa)]) hx hb dX0_takeLatest_17 rfl hl (by decide) rfl (fun ls hl => ?_)
    refine lv_aload_n hx hb dX0_takeLatest_18 rfl (lv_at hl 1 rfl) ?_
    refine lv_iload_n hx hb dX0_takeLatest_19 rfl (lv_at hl 0 rfl) ?_
    obtain ⟨r6, hr6, h⟩ := bd_t h
    obtain ⟨k7, h⟩ := ck_t h
    refine rdQ (As := [.int (hnx - 1)]) (rest := []) S hK (c_X0_row l G hqa hqr fr hnx hsz (hnx - 1) r6 hr6) mX0_row q215 ⟨rfl, rfl, Nat.le_of_ble_eq_true rfl, Nat.le_of_ble_eq_true rfl⟩ (hP.sub (ws' := [(hqa, .inr (0, [.ref hqr, .int hnx, .int hsz])), (hqr, .inl (G.2.2.2, 4, .inr (.inr (.inr (.inr fr)))))]) [0, 1] rfl) rfl rfl rfl rfl hl.1 (Nat.le_of_ble_eq_true rfl) ⟨Nat.le_refl 0, Nat.le_refl 0⟩ dX0_takeLatest_20 (of_decide_eq_true k7) ?_
    refine lv_astore_n (lv' := [(3, .ref rqa), (2, .int (hnx - 1)), (0, .ref hqa), (1, .ref sqa)]) hx hb dX0_takeLatest_23 rfl hl (by decide) rfl (fun ls hl => ?_)
    refine lv_aload_n hx hb dX0_takeLatest_24 rfl (lv_at hl 0 rfl) ?_
    refine lv_ifnull hx hb dX0_takeLatest_25 ?_
    refine lv_aload_n hx hb dX0_takeLatest_28 rfl (lv_at hl 2 rfl) ?_
    refine gf S hK iX0 hP 0 rfl rfl 2 (by decide) q89 rfl dX0_takeLatest_29 ?_
    refine lv_if_le (tgt := 55) hx hb dX0_takeLatest_32 (by decide) (fun c8 => ?_) (fun c8 => ?_)
    · replace h := if_t c8 h
      obtain rfl := Option.some.inj h
      exact retV S hr hlk hP hD hS dX0_takeLatest_55
    · replace h := if_f c8 h
      refine lv_aload_n hx hb dX0_takeLatest_35 rfl (lv_at hl 3 rfl) ?_
      refine lv_aload_n hx hb dX0_takeLatest_36 rfl (lv_at hl 0 rfl) ?_
      obtain ⟨r9, hr9, h⟩ := bd_t h
      refine wrV (As := [.ref rqa]) (rest := []) (ws := [(sqa, .inr (3, [.ref sqw, .ref sqh, .ref sqd, .ref sqb, .int ssold, .int sstk, .int spun, .int sfra, .int stur])), (sqw, .inr (1, [.ref sqt, .ref squ])), (sqt, .inl (G.2.2.1, 24, .inl sft)), (squ, .inl (G.2.2.1, 24, .inl sfu)), (sqh, .inl (G.2.2.1, 12, .inl sfh)), (sqd, .inl (G.2.2.1, 12, .inl sfd)), (sqb, .inl (G.2.2.1, 12, .inl sfb)), (rqa, .inr (3, [.ref rqw, .ref rqh, .ref rqd, .ref rqb, .int rsold, .int rstk, .int rpun, .int rfra, .int rtur])), (rqw, .inr (1, [.ref rqt, .ref rqu])), (rqt, .inl (G.2.2.1, 24, .inl rft)), (rqu, .inl (G.2.2.1, 24, .inl rfu)), (rqh, .inl (G.2.2.1, 12, .inl rfh)), (rqd, .inl (G.2.2.1, 12, .inl rfd)), (rqb, .inl (G.2.2.1, 12, .inl rfb))]) (wr := [(hqa, .inr (0, [.ref hqr, .int hnx, .int hsz])), (hqr, .inl (G.2.2.2, 4, .inr (.inr (.inr (.inr fr)))))]) (ws' := [(sqa, .inr (3, [.ref sqw, .ref sqh, .ref sqd, .ref sqb, .int r9.1, .int r9.2.1, .int r9.2.2.1, .int r9.2.2.2.1, .int r9.2.2.2.2.1])), (sqw, .inr (1, [.ref sqt, .ref squ])), (sqt, .inl (G.2.2.1, 24, .inl r9.2.2.2.2.2.1)), (squ, .inl (G.2.2.1, 24, .inl r9.2.2.2.2.2.2.1)), (sqh, .inl (G.2.2.1, 12, .inl r9.2.2.2.2.2.2.2.1)), (sqd, .inl (G.2.2.1, 12, .inl r9.2.2.2.2.2.2.2.2.1)), (sqb, .inl (G.2.2.1, 12, .inl r9.2.2.2.2.2.2.2.2.2)), (rqa, .inr (3, [.ref rqw, .ref rqh, .ref rqd, .ref rqb, .int rsold, .int rstk, .int rpun, .int rfra, .int rtur])), (rqw, .inr (1, [.ref rqt, .ref rqu])), (rqt, .inl (G.2.2.1, 24, .inl rft)), (rqu, .inl (G.2.2.1, 24, .inl rfu)), (rqh, .inl (G.2.2.1, 12, .inl rfh)), (rqd, .inl (G.2.2.1, 12, .inl rfd)), (rqb, .inl (G.2.2.1, 12, .inl rfb))]) (ws1 := [(hqa, .inr (0, [.ref hqr, .int hnx, .int hsz])), (hqr, .inl (G.2.2.2, 4, .inr (.inr (.inr (.inr fr))))), (sqa, .inr (3, [.ref sqw, .ref sqh, .ref sqd, .ref sqb, .int r9.1, .int r9.2.1, .int r9.2.2.1, .int r9.2.2.2.1, .int r9.2.2.2.2.1])), (sqw, .inr (1, [.ref sqt, .ref squ])), (sqt, .inl (G.2.2.1, 24, .inl r9.2.2.2.2.2.1)), (squ, .inl (G.2.2.1, 24, .inl r9.2.2.2.2.2.2.1)), (sqh, .inl (G.2.2.1, 12, .inl r9.2.2.2.2.2.2.2.1)), (sqd, .inl (G.2.2.1, 12, .inl r9.2.2.2.2.2.2.2.2.1)), (sqb, .inl (G.2.2.1, 12, .inl r9.2.2.2.2.2.2.2.2.2)), (rqa, .inr (3, [.ref rqw, .ref rqh, .ref rqd, .ref rqb, .int rsold, .int rstk, .int rpun, .int rfra, .int rtur])), (rqw, .inr (1, [.ref rqt, .ref rqu])), (rqt, .inl (G.2.2.1, 24, .inl rft)), (rqu, .inl (G.2.2.1, 24, .inl rfu)), (rqh, .inl (G.2.2.1, 12, .inl rfh)), (rqd, .inl (G.2.2.1, 12, .inl rfd)), (rqb, .inl (G.2.2.1, 12, .inl rfb))]) S hK (c_X3_copy l G sqa sqw sqt squ sqh sqd sqb rqa rqw rqt rqu rqh rqd rqb ssold sstk spun sfra stur sft sfu sfh sfd sfb rsold rstk rpun rfra rtur rft rfu rfh rfd rfb _ r9 hr9) mX3_copy q219 ⟨rfl, rfl, Nat.le_of_ble_eq_true rfl, Nat.le_of_ble_eq_true rfl⟩ hP hD hS hA [2, 3, 4, 5, 6, 7, 8, 9, 10, 11, 12, 13, 14, 15] [0, 1] [0, 1, 2, 3, 4, 5, 6, 7, 8, 9, 10, 11, 12, 13, 14, 15] rfl rfl (by decide) (by decide) (by decide) rfl (by decide) rfl rfl rfl rfl hl.1 (Nat.le_of_ble_eq_true rfl) ⟨Nat.le_refl 0, Nat.le_refl 0⟩ dX0_takeLatest_37 (fun H locs hP hD hS => ?_)
      refine lv_aload_n hx hb dX0_takeLatest_40 rfl (lv_at hl 2 rfl) ?_
      refine lv_iload_n hx hb dX0_takeLatest_41 rfl (lv_at hl 1 rfl) ?_
      refine pf S hK iX0 tyX0 tyX0_ok nmX0 hP hD hS 0 rfl rfl 1 (by decide) q88 rfl rfl rfl (Nat.le_of_ble_eq_true rfl) [(hqa, .inr (0, [.ref hqr, .int (hnx - 1), .int hsz])), (hqr, .inl (G.2.2.2, 4, .inr (.inr (.inr (.inr fr))))), (sqa, .inr (3, [.ref sqw, .ref sqh, .ref sqd, .ref sqb, .int r9.1, .int r9.2.1, .int r9.2.2.1, .int r9.2.2.2.1, .int r9.2.2.2.2.1])), (sqw, .inr (1, [.ref sqt, .ref squ])), (sqt, .inl (G.2.2.1, 24, .inl r9.2.2.2.2.2.1)), (squ, .inl (G.2.2.1, 24, .inl r9.2.2.2.2.2.2.1)), (sqh, .inl (G.2.2.1, 12, .inl r9.2.2.2.2.2.2.2.1)), (sqd, .inl (G.2.2.1, 12, .inl r9.2.2.2.2.2.2.2.2.1)), (sqb, .inl (G.2.2.1, 12, .inl r9.2.2.2.2.2.2.2.2.2)), (rqa, .inr (3, [.ref rqw, .ref rqh, .ref rqd, .ref rqb, .int rsold, .int rstk, .int rpun, .int rfra, .int rtur])), (rqw, .inr (1, [.ref rqt, .ref rqu])), (rqt, .inl (G.2.2.1, 24, .inl rft)), (rqu, .inl (G.2.2.1, 24, .inl rfu)), (rqh, .inl (G.2.2.1, 12, .inl rfh)), (rqd, .inl (G.2.2.1, 12, .inl rfd)), (rqb, .inl (G.2.2.1, 12, .inl rfb))] rfl dX0_takeLatest_42 (fun H locs hP hD hS => ?_)
      refine lv_aload_n hx hb dX0_takeLatest_45 rfl (lv_at hl 2 rfl) ?_
      refine lv_dup hx hb dX0_takeLatest_46 rfl ?_
      refine gf S hK iX0 hP 0 rfl rfl 2 (by decide) q89 rfl dX0_takeLatest_47 ?_
      refine lv_iconst (v := 1) hx hb dX0_takeLatest_50 (by decide) ?_
      refine lv_isub hx hb dX0_takeLatest_51 ?_
      refine pf S hK iX0 tyX0 tyX0_ok nmX0 hP hD hS 0 rfl rfl 2 (by decide) q89 rfl rfl rfl (Nat.le_of_ble_eq_true rfl) [(hqa, .inr (0, [.ref hqr, .int (hnx - 1), .int (hsz - 1)])), (hqr, .inl (G.2.2.2, 4, .inr (.inr (.inr (.inr fr))))), (sqa, .inr (3, [.ref sqw, .ref sqh, .ref sqd, .ref sqb, .int r9.1, .int r9.2.1, .int r9.2.2.1, .int r9.2.2.2.1, .int r9.2.2.2.2.1])), (sqw, .inr (1, [.ref sqt, .ref squ])), (sqt, .inl (G.2.2.1, 24, .inl r9.2.2.2.2.2.1)), (squ, .inl (G.2.2.1, 24, .inl r9.2.2.2.2.2.2.1)), (sqh, .inl (G.2.2.1, 12, .inl r9.2.2.2.2.2.2.2.1)), (sqd, .inl (G.2.2.1, 12, .inl r9.2.2.2.2.2.2.2.2.1)), (sqb, .inl (G.2.2.1, 12, .inl r9.2.2.2.2.2.2.2.2.2)), (rqa, .inr (3, [.ref rqw, .ref rqh, .ref rqd, .ref rqb, .int rsold, .int rstk, .int rpun, .int rfra, .int rtur])), (rqw, .inr (1, [.ref rqt, .ref rqu])), (rqt, .inl (G.2.2.1, 24, .inl rft)), (rqu, .inl (G.2.2.1, 24, .inl rfu)), (rqh, .inl (G.2.2.1, 12, .inl rfh)), (rqd, .inl (G.2.2.1, 12, .inl rfd)), (rqb, .inl (G.2.2.1, 12, .inl rfb))] rfl dX0_takeLatest_52 (fun H locs hP hD hS => ?_)
      obtain rfl := Option.some.inj h
      exact retV S hr hlk hP hD hS dX0_takeLatest_55
