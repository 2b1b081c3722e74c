set_option maxHeartbeats 8000000 in
set_option maxRecDepth 100000 in
theorem c_L_hangs (l : Launch) (G : gG) {oqa c0 : Nat} {M : MT} {L : List va_W} (hO : Obj G oqa c0 M L) (hcb : c0 < 10000000) : RbM l G yL_hangs cL_hangs 19 .boolean (rmk 6 141) L [.ref oqa] 1 := by
  obtain ⟨σ, k, Ho, Du, ms, hV⟩ := VR_of hO
  obtain ⟨pn, hpn4, hpn⟩ := pas_of hO
  obtain ⟨pu, hpu, hpu2, hpud⟩ := pun_of hO hV hcb
  obtain ⟨hPm, hMv, ⟨hk12, h24⟩, hHo', hDu', hms, h49⟩ := id hV
  have hHo : ∀ t, t < 12 → Ho t < 2 ^ 24 := fun t ht => (hHo' t ht).1
  have hDu : ∀ t, t < 12 → Du t < 2 ^ 24 := fun t ht => (hDu' t ht).1
  have hod := od840 hPm
  have hod1 := od_pos σ
  have hrc1 := rc_mono hPm 24 (by omega) (by omega)
  have hrc2 := rcF_le σ 24
  have hpw : 2 ^ k ≤ 2 ^ 12 := Nat.pow_le_pow_right (by decide) hk12
  have hpcm := pc_le ms
  obtain ⟨LT, hLTe⟩ : ∃ LT, LT = lt_ Ho ms k := ⟨_, rfl⟩
  have hLT : LT < 2 ^ 24 := by rw [hLTe]; exact lt_lt Ho ms k
  have hpcl := pc_le LT
  have hms24 : ms < 2 ^ 24 := Nat.lt_of_lt_of_le hms (Nat.pow_le_pow_right (by decide) (by omega))
  have hlight : F_X5_light M.2.2.2.2.2.2.2.2.2.1 = some (nI LT) := by rw [hLTe]; exact v_light hV
  have hc5 : ∀ pas len, F_X5_count pas len M.2.2.2.2.2.2.2.2.2.1 5 = some (nI (pc LT)) := fun pas len => by rw [hLTe]; exact v_count5 hV pas len
  refine ofRb (by decide) (Nat.le_of_ble_eq_true rfl) ?_
  intro p e s m below meth c ls S hr hlk hK hP hl
  have S : CallFix p m c cL_hangs 19 s ([.ref oqa] : List Value).toArray T0 RL := S
  obtain ⟨hx, hb, hml, hown, hts⟩ := id S
  have hl : lv_has ls 19 [(0, .ref oqa)] := hl
  have L344 : ∀ (n t : Nat), t ≤ k → k - t < n → ∀ ls : Array Slot, lv_has ls 19 [(12, .int (nI t)), (11, .int (nI LT)), (10, .int (nI (onC ms t))), (9, .int (nI (flF Ho Du t))), (8, .int (nI (fb_sm (fun t => pc (Du t)) t))), (7, .int (nI (fb_sm (fun t => pc (Ho t)) t))), (5, .int 1), (2, .int (nI (od σ))), (1, .int (nI k)), (0, .ref oqa)] → W p l e (rmk 6 141) s m ([.ref oqa] : List Value).toArray below meth c s.heap [] 0 0 (MQ below (vp_Si (fun x => x = 1)) ([.ref oqa] : List Value).toArray s 0 0 (fun _ => False)) (F0 m 344 ls []) := by
    intro n
    induction n with
    | zero => intro t _ h; omega
    | succ n ih =>
      intro t ht1 hn ls hl
      by_cases hk : t = k
      · skip
        refine lv_iload hx hb dL_hangs_344 (lv_at hl 0 rfl) ?_
        refine lv_iload_n hx hb dL_hangs_346 rfl (lv_at hl 8 rfl) ?_
        refine lv_icmp_ge (tgt := 867) hx hb dL_hangs_347 (by decide) (fun _ => ?_) (fun cn => absurd (k_ge (a := t) (b := k) (by omega) (by omega) (by omega)) cn)
        refine lv_iload hx hb dL_hangs_867 (lv_at hl 6 rfl) ?_
        refine lv_if_eq (tgt := 969) hx hb dL_hangs_869 (by decide) (fun cn => absurd cn i10) (fun _ => ?_)
        refine lv_aload_n hx hb dL_hangs_872 rfl (lv_at hl 9 rfl) ?_
        refine lv_iconst (v := 1) hx hb dL_hangs_873 (by decide) ?_
        refine kr_count S hK hO q399 ⟨Nat.le_of_ble_eq_true rfl, Nat.le_of_ble_eq_true rfl⟩ hP rfl hl.1 (Nat.le_of_ble_eq_true rfl) ⟨Nat.le_refl 0, Nat.le_refl 0⟩ dL_hangs_874 (v_count1 hV _ _) ?_
        refine lv_iload hx hb dL_hangs_877 (lv_at hl 2 rfl) ?_
        refine lv_icmp_ne (tgt := 969) hx hb dL_hangs_879 (by decide) (fun cn => absurd (by rw [hk, onC_all hk12 hms]) cn) (fun _ => ?_)
        refine lv_aload_n hx hb dL_hangs_882 rfl (lv_at hl 9 rfl) ?_
        refine lv_iconst (v := 2) hx hb dL_hangs_883 (by decide) ?_
        refine kr_count S hK hO q399 ⟨Nat.le_of_ble_eq_true rfl, Nat.le_of_ble_eq_true rfl⟩ hP rfl hl.1 (Nat.le_of_ble_eq_true rfl) ⟨Nat.le_refl 0, Nat.le_refl 0⟩ dL_hangs_884 (v_count2 hV _ _) ?_
        refine lv_iload hx hb dL_hangs_887 (lv_at hl 3 rfl) ?_
        refine lv_icmp_ne (tgt := 969) hx hb dL_hangs_889 (by decide) (fun cn => absurd (by rw [hk]) cn) (fun _ => ?_)
        refine lv_aload_n hx hb dL_hangs_892 rfl (lv_at hl 9 rfl) ?_
        refine lv_iconst (v := 3) hx hb dL_hangs_893 (by decide) ?_
        refine kr_count S hK hO q399 ⟨Nat.le_of_ble_eq_true rfl, Nat.le_of_ble_eq_true rfl⟩ hP rfl hl.1 (Nat.le_of_ble_eq_true rfl) ⟨Nat.le_refl 0, Nat.le_refl 0⟩ dL_hangs_894 (v_count3 hV _ _) ?_
        refine lv_iload hx hb dL_hangs_897 (lv_at hl 5 rfl) ?_
        refine lv_icmp_ne (tgt := 969) hx hb dL_hangs_899 (by decide) (fun cn => absurd (by rw [hk]) cn) (fun _ => ?_)
        refine lv_aload_n hx hb dL_hangs_902 rfl (lv_at hl 9 rfl) ?_
        refine lv_iconst (v := 4) hx hb dL_hangs_903 (by decide) ?_
        refine kr_count S hK hO q399 ⟨Nat.le_of_ble_eq_true rfl, Nat.le_of_ble_eq_true rfl⟩ hP rfl hl.1 (Nat.le_of_ble_eq_true rfl) ⟨Nat.le_refl 0, Nat.le_refl 0⟩ dL_hangs_904 (v_count4 hV _ _) ?_
        refine lv_iload hx hb dL_hangs_907 (lv_at hl 4 rfl) ?_
        refine lv_icmp_ne (tgt := 969) hx hb dL_hangs_909 (by decide) (fun cn => absurd (by rw [hk]) cn) (fun _ => ?_)
        refine lv_aload_n hx hb dL_hangs_912 rfl (lv_at hl 9 rfl) ?_
        refine lv_iconst (v := 5) hx hb dL_hangs_913 (by decide) ?_
        refine kr_count S hK hO q399 ⟨Nat.le_of_ble_eq_true rfl, Nat.le_of_ble_eq_true rfl⟩ hP rfl hl.1 (Nat.le_of_ble_eq_true rfl) ⟨Nat.le_refl 0, Nat.le_refl 0⟩ dL_hangs_914 (hc5 _ _) ?_
        refine lv_iload hx hb dL_hangs_917 (lv_at hl 1 rfl) ?_
        refine rdS (As := [.int (nI LT)]) (rest := [.int (nI (pc LT))]) S hK (c_L_ones l G (nI LT) (nI (pc LT)) (onesL (by have := hLT; omega))) mL_ones q560 ⟨rfl, rfl, Nat.le_of_ble_eq_true rfl, Nat.le_of_ble_eq_true rfl⟩ (ws_nil G.1 _) rfl hl.1 (Nat.le_of_ble_eq_true rfl) ⟨Nat.le_refl 0, Nat.le_refl 0⟩ dL_hangs_919 ?_
        refine lv_icmp_ne (tgt := 969) hx hb dL_hangs_922 (by decide) (fun cn => absurd rfl cn) (fun _ => ?_)
        have K935 : ∀ ls : Array Slot, lv_has ls 19 [(12, .int (nI t)), (11, .int (nI LT)), (10, .int (nI (onC ms t))), (9, .int (nI (flF Ho Du t))), (8, .int (nI (fb_sm (fun t => pc (Du t)) t))), (7, .int (nI (fb_sm (fun t => pc (Ho t)) t))), (5, .int 1), (2, .int (nI (od σ))), (1, .int (nI k)), (0, .ref oqa)] → W p l e (rmk 6 141) s m ([.ref oqa] : List Value).toArray below meth c s.heap [] 0 0 (MQ below (vp_Si (fun x => x = 1)) ([.ref oqa] : List Value).toArray s 0 0 (fun _ => False)) (F0 m 935 ls []) := by
          intro ls hl
          refine lv_aload_n hx hb dL_hangs_935 rfl (lv_at hl 9 rfl) ?_
          refine lv_bipush (v := 6) hx hb dL_hangs_936 (by decide) ?_
          refine kr_count S hK hO q399 ⟨Nat.le_of_ble_eq_true rfl, Nat.le_of_ble_eq_true rfl⟩ hP rfl hl.1 (Nat.le_of_ble_eq_true rfl) ⟨Nat.le_refl 0, Nat.le_refl 0⟩ dL_hangs_938 ((v_count6 _ _ _).trans (congrArg some hpu)) ?_
          refine lv_iload hx hb dL_hangs_941 (lv_at hl 4 rfl) ?_
          refine lv_re (y := nI (fb_sm (fun t => pc (Du t)) k)) (by rw [hk]) ?_
          refine lv_icmp_lt (tgt := 969) hx hb dL_hangs_943 (by decide) (fun cn => absurd cn (k_nlt (a := pu) (b := (fb_sm (fun t => pc (Du t)) k)) (by omega) (by omega) (by omega))) (fun _ => ?_)
          refine lv_aload_n hx hb dL_hangs_946 rfl (lv_at hl 9 rfl) ?_
          refine lv_bipush (v := 9) hx hb dL_hangs_947 (by decide) ?_
          refine kr_count S hK hO q399 ⟨Nat.le_of_ble_eq_true rfl, Nat.le_of_ble_eq_true rfl⟩ hP rfl hl.1 (Nat.le_of_ble_eq_true rfl) ⟨Nat.le_refl 0, Nat.le_refl 0⟩ dL_hangs_949 ((v_count9 _ _ _).trans (congrArg some hpn)) ?_
          refine lv_if_lt (tgt := 969) hx hb dL_hangs_952 (by decide) (fun cn => absurd cn (k_nlt (a := pn) (b := 0) (by omega) (by omega) (by omega))) (fun _ => ?_)
          refine lv_aload_n hx hb dL_hangs_955 rfl (lv_at hl 9 rfl) ?_
          refine lv_bipush (v := 9) hx hb dL_hangs_956 (by decide) ?_
          refine kr_count S hK hO q399 ⟨Nat.le_of_ble_eq_true rfl, Nat.le_of_ble_eq_true rfl⟩ hP rfl hl.1 (Nat.le_of_ble_eq_true rfl) ⟨Nat.le_refl 0, Nat.le_refl 0⟩ dL_hangs_958 ((v_count9 _ _ _).trans (congrArg some hpn)) ?_
          refine lv_iconst (v := 5) hx hb dL_hangs_961 (by decide) ?_
          refine lv_icmp_ge (tgt := 969) hx hb dL_hangs_962 (by decide) (fun cn => absurd cn (k_nge (a := pn) (b := 5) (by omega) (by omega) (by omega))) (fun _ => ?_)
          refine lv_iconst (v := 1) hx hb dL_hangs_965 (by decide) ?_
          refine lv_goto (tgt := 970) hx hb dL_hangs_966 (by decide) ?_
          exact retR S hr hlk rfl rfl dL_hangs_970
        by_cases co : 0 < pc ms
        · skip
          refine lv_iload hx hb dL_hangs_925 (lv_at hl 2 rfl) ?_
          refine lv_re (y := nI (pc ms)) (by rw [hk, onC_all hk12 hms]) ?_
          refine lv_if_gt (tgt := 935) hx hb dL_hangs_927 (by decide) (fun _ => ?_) (fun cn => absurd (k_lt (a := 0) (by omega) (by omega) co) cn)
          exact K935 ls (lv_sub hl [0, 1, 2, 3, 4, 5, 6, 7, 8, 9] rfl)
        · skip
          refine lv_iload hx hb dL_hangs_925 (lv_at hl 2 rfl) ?_
          refine lv_re (y := nI (pc ms)) (by rw [hk, onC_all hk12 hms]) ?_
          refine lv_if_gt (tgt := 935) hx hb dL_hangs_927 (by decide) (fun cn => absurd cn (k_nlt (a := 0) (by omega) (by omega) (by omega))) (fun _ => ?_)
          refine lv_iload hx hb dL_hangs_930 (lv_at hl 1 rfl) ?_
          refine lv_if_ne (tgt := 969) hx hb dL_hangs_932 (by decide) (fun cn => absurd (by rw [hLTe, lt_zero hms24 co]; rfl) cn) (fun _ => ?_)
          exact K935 ls (lv_sub hl [0, 1, 2, 3, 4, 5, 6, 7, 8, 9] rfl)
      have ht : t < k := by omega
      have ht12 : t < 12 := by omega
      have hH1 := hHo t ht12
      have hD1 := hDu t ht12
      have hpd := pd_le hPm hH1
      have hpd1 : 1 ≤ pd σ (Ho t) := Nat.succ_pos _
      obtain ⟨u, hu, hu1⟩ := nextT hk12 ht
      have hU1 := hHo u (by omega)
      obtain ⟨rs, hrs, hr1⟩ := v_reason hV ht hu
      have hr0 := reason_iff hV ht hu hr1
      have hal1 := al_le σ (Ho t) (Ho u)
      have hal2 := al_le σ (Ho u) (Ho t)
      obtain ⟨b0, hb0p, hb0⟩ := best0 hV ht
      obtain ⟨b1, hb1l, hb1g, hb1⟩ := best1 hV ht hLTe
      refine lv_iload hx hb dL_hangs_344 (lv_at hl 0 rfl) ?_
      refine lv_iload_n hx hb dL_hangs_346 rfl (lv_at hl 8 rfl) ?_
      refine lv_icmp_ge (tgt := 867) hx hb dL_hangs_347 (by decide) (fun cn => absurd cn (k_nge (a := t) (b := k) (by omega) (by omega) (by omega))) (fun _ => ?_)
      refine lv_iload hx hb dL_hangs_350 (lv_at hl 6 rfl) ?_
      refine lv_if_eq (tgt := 867) hx hb dL_hangs_352 (by decide) (fun cn => absurd cn i10) (fun _ => ?_)
      refine lv_aload_n hx hb dL_hangs_355 rfl (lv_at hl 9 rfl) ?_
      refine lv_iload hx hb dL_hangs_356 (lv_at hl 0 rfl) ?_
      refine lv_iconst (v := 0) hx hb dL_hangs_358 (by decide) ?_
      refine kr_ticket S hK hO q539 ⟨Nat.le_of_ble_eq_true rfl, Nat.le_of_ble_eq_true rfl⟩ hP rfl hl.1 (Nat.le_of_ble_eq_true rfl) ⟨Nat.le_refl 0, Nat.le_refl 0⟩ dL_hangs_359 (v_ticket hV ht 0) ?_
      refine lv_istore (lv' := [(13, .int (nI (Ho t))), (12, .int (nI t)), (11, .int (nI LT)), (10, .int (nI (onC ms t))), (9, .int (nI (flF Ho Du t))), (8, .int (nI (fb_sm (fun t => pc (Du t)) t))), (7, .int (nI (fb_sm (fun t => pc (Ho t)) t))), (5, .int 1), (2, .int (nI (od σ))), (1, .int (nI k)), (0, .ref oqa)]) hx hb dL_hangs_362 hl (by decide) rfl (fun ls hl => ?_)
      refine lv_aload_n hx hb dL_hangs_364 rfl (lv_at hl 10 rfl) ?_
      refine lv_iload hx hb dL_hangs_365 (lv_at hl 1 rfl) ?_
      refine lv_iconst (v := 1) hx hb dL_hangs_367 (by decide) ?_
      refine kr_ticket S hK hO q539 ⟨Nat.le_of_ble_eq_true rfl, Nat.le_of_ble_eq_true rfl⟩ hP rfl hl.1 (Nat.le_of_ble_eq_true rfl) ⟨Nat.le_refl 0, Nat.le_refl 0⟩ dL_hangs_368 (v_ticket hV ht 1) ?_
      refine lv_istore (lv' := [(14, .int (nI (Du t))), (13, .int (nI (Ho t))), (12, .int (nI t)), (11, .int (nI LT)), (10, .int (nI (onC ms t))), (9, .int (nI (flF Ho Du t))), (8, .int (nI (fb_sm (fun t => pc (Du t)) t))), (7, .int (nI (fb_sm (fun t => pc (Ho t)) t))), (5, .int 1), (2, .int (nI (od σ))), (1, .int (nI k)), (0, .ref oqa)]) hx hb dL_hangs_371 hl (by decide) rfl (fun ls hl => ?_)
      refine lv_aload_n hx hb dL_hangs_373 rfl (lv_at hl 11 rfl) ?_
      refine lv_iload hx hb dL_hangs_374 (lv_at hl 2 rfl) ?_
      refine lv_bipush (v := 6) hx hb dL_hangs_376 (by decide) ?_
      refine kr_ticket S hK hO q539 ⟨Nat.le_of_ble_eq_true rfl, Nat.le_of_ble_eq_true rfl⟩ hP rfl hl.1 (Nat.le_of_ble_eq_true rfl) ⟨Nat.le_refl 0, Nat.le_refl 0⟩ dL_hangs_378 (v_ticket hV ht 6) ?_
      refine lv_istore (lv' := [(15, .int (nI (pd σ (Ho t)))), (14, .int (nI (Du t))), (13, .int (nI (Ho t))), (12, .int (nI t)), (11, .int (nI LT)), (10, .int (nI (onC ms t))), (9, .int (nI (flF Ho Du t))), (8, .int (nI (fb_sm (fun t => pc (Du t)) t))), (7, .int (nI (fb_sm (fun t => pc (Ho t)) t))), (5, .int 1), (2, .int (nI (od σ))), (1, .int (nI k)), (0, .ref oqa)]) hx hb dL_hangs_381 hl (by decide) rfl (fun ls hl => ?_)
      refine lv_iload hx hb dL_hangs_383 (lv_at hl 2 rfl) ?_
      refine lv_if_lt (tgt := 584) hx hb dL_hangs_385 (by decide) (fun cn => absurd cn (k_nlt (a := (Ho t)) (b := 0) (by omega) (by omega) (by omega))) (fun _ => ?_)
      refine lv_iload hx hb dL_hangs_388 (lv_at hl 2 rfl) ?_
      refine lv_ldc (v := 16777216) hx hb hown (hts _ q559) dL_hangs_390 ?_
      refine lv_icmp_ge (tgt := 584) hx hb dL_hangs_392 (by decide) (fun cn => absurd cn (k_nge (a := (Ho t)) (b := 16777216) (by omega) (by omega) (by omega))) (fun _ => ?_)
      refine lv_iload hx hb dL_hangs_395 (lv_at hl 1 rfl) ?_
      refine lv_if_lt (tgt := 584) hx hb dL_hangs_397 (by decide) (fun cn => absurd cn (k_nlt (a := (Du t)) (b := 0) (by omega) (by omega) (by omega))) (fun _ => ?_)
      refine lv_iload hx hb dL_hangs_400 (lv_at hl 1 rfl) ?_
      refine lv_ldc (v := 16777216) hx hb hown (hts _ q559) dL_hangs_402 ?_
      refine lv_icmp_ge (tgt := 584) hx hb dL_hangs_404 (by decide) (fun cn => absurd cn (k_nge (a := (Du t)) (b := 16777216) (by omega) (by omega) (by omega))) (fun _ => ?_)
      refine lv_aload_n hx hb dL_hangs_407 rfl (lv_at hl 12 rfl) ?_
      refine lv_iload hx hb dL_hangs_408 (lv_at hl 3 rfl) ?_
      refine lv_iconst (v := 2) hx hb dL_hangs_410 (by decide) ?_
      refine kr_ticket S hK hO q539 ⟨Nat.le_of_ble_eq_true rfl, Nat.le_of_ble_eq_true rfl⟩ hP rfl hl.1 (Nat.le_of_ble_eq_true rfl) ⟨Nat.le_refl 0, Nat.le_refl 0⟩ dL_hangs_411 (v_ticket hV ht 2) ?_
      refine lv_iload hx hb dL_hangs_414 (lv_at hl 2 rfl) ?_
      refine lv_iload hx hb dL_hangs_416 (lv_at hl 1 rfl) ?_
      refine lv_iconst (v := (-1)) hx hb dL_hangs_418 (by decide) ?_
      refine lv_ixor hx hb dL_hangs_419 ?_
      refine lv_iand hx hb dL_hangs_420 ?_
      refine lv_icmp_ne (tgt := 584) hx hb dL_hangs_421 (by decide) (fun cn => absurd rfl cn) (fun _ => ?_)
      refine lv_aload_n hx hb dL_hangs_424 rfl (lv_at hl 12 rfl) ?_
      refine lv_iload hx hb dL_hangs_425 (lv_at hl 3 rfl) ?_
      refine lv_iconst (v := 3) hx hb dL_hangs_427 (by decide) ?_
      refine kr_ticket S hK hO q539 ⟨Nat.le_of_ble_eq_true rfl, Nat.le_of_ble_eq_true rfl⟩ hP rfl hl.1 (Nat.le_of_ble_eq_true rfl) ⟨Nat.le_refl 0, Nat.le_refl 0⟩ dL_hangs_428 (v_ticket hV ht 3) ?_
      refine lv_iload hx hb dL_hangs_431 (lv_at hl 1 rfl) ?_
      refine lv_iload hx hb dL_hangs_433 (lv_at hl 2 rfl) ?_
      refine lv_iconst (v := (-1)) hx hb dL_hangs_435 (by decide) ?_
      refine lv_ixor hx hb dL_hangs_436 ?_
      refine lv_iand hx hb dL_hangs_437 ?_
      refine lv_icmp_ne (tgt := 584) hx hb dL_hangs_438 (by decide) (fun cn => absurd rfl cn) (fun _ => ?_)
      refine lv_aload_n hx hb dL_hangs_441 rfl (lv_at hl 12 rfl) ?_
      refine lv_iload hx hb dL_hangs_442 (lv_at hl 3 rfl) ?_
      refine lv_iconst (v := 4) hx hb dL_hangs_444 (by decide) ?_
      refine kr_ticket S hK hO q539 ⟨Nat.le_of_ble_eq_true rfl, Nat.le_of_ble_eq_true rfl⟩ hP rfl hl.1 (Nat.le_of_ble_eq_true rfl) ⟨Nat.le_refl 0, Nat.le_refl 0⟩ dL_hangs_445 (v_ticket hV ht 4) ?_
      refine lv_iload hx hb dL_hangs_448 (lv_at hl 2 rfl) ?_
      refine rdS (As := [.int (nI (Ho t))]) (rest := [.int (nI (pc (Ho t)))]) S hK (c_L_ones l G (nI (Ho t)) (nI (pc (Ho t))) (onesL (by have := (hHo t ht12); omega))) mL_ones q560 ⟨rfl, rfl, Nat.le_of_ble_eq_true rfl, Nat.le_of_ble_eq_true rfl⟩ (ws_nil G.1 _) rfl hl.1 (Nat.le_of_ble_eq_true rfl) ⟨Nat.le_refl 0, Nat.le_refl 0⟩ dL_hangs_450 ?_
      refine lv_icmp_ne (tgt := 584) hx hb dL_hangs_453 (by decide) (fun cn => absurd rfl cn) (fun _ => ?_)
      have K487 : ∀ ls : Array Slot, lv_has ls 19 [(15, .int (nI (pd σ (Ho t)))), (14, .int (nI (Du t))), (13, .int (nI (Ho t))), (12, .int (nI t)), (11, .int (nI LT)), (10, .int (nI (onC ms t))), (9, .int (nI (flF Ho Du t))), (8, .int (nI (fb_sm (fun t => pc (Du t)) t))), (7, .int (nI (fb_sm (fun t => pc (Ho t)) t))), (5, .int 1), (2, .int (nI (od σ))), (1, .int (nI k)), (0, .ref oqa)] → W p l e (rmk 6 141) s m ([.ref oqa] : List Value).toArray below meth c s.heap [] 0 0 (MQ below (vp_Si (fun x => x = 1)) ([.ref oqa] : List Value).toArray s 0 0 (fun _ => False)) (F0 m 487 ls []) := by
        intro ls hl
        refine lv_iload hx hb dL_hangs_487 (lv_at hl 0 rfl) ?_
        refine lv_iconst (v := 1) hx hb dL_hangs_489 (by decide) ?_
        refine lv_icmp_lt (tgt := 584) hx hb dL_hangs_490 (by decide) (fun cn => absurd cn (k_nlt (a := (pd σ (Ho t))) (b := 1) (by omega) (by omega) (by omega))) (fun _ => ?_)
        refine lv_iload_n hx hb dL_hangs_493 rfl (lv_at hl 10 rfl) ?_
        refine lv_iload hx hb dL_hangs_494 (lv_at hl 0 rfl) ?_
        refine lv_irem hx hb dL_hangs_496 (nI_nz (by omega) (by omega)) ?_
        refine lv_if_ne (tgt := 584) hx hb dL_hangs_497 (by decide) (fun cn => absurd ((rem0 (by omega) (by omega) (by omega)).mpr (pd_od hPm (hHo t ht12))) cn) (fun _ => ?_)
        have K521 : ∀ ls : Array Slot, lv_has ls 19 [(15, .int (nI (pd σ (Ho t)))), (14, .int (nI (Du t))), (13, .int (nI (Ho t))), (12, .int (nI t)), (11, .int (nI LT)), (10, .int (nI (onC ms t))), (9, .int (nI (flF Ho Du t))), (8, .int (nI (fb_sm (fun t => pc (Du t)) t))), (7, .int (nI (fb_sm (fun t => pc (Ho t)) t))), (5, .int 1), (2, .int (nI (od σ))), (1, .int (nI k)), (0, .ref oqa)] → W p l e (rmk 6 141) s m ([.ref oqa] : List Value).toArray below meth c s.heap [] 0 0 (MQ below (vp_Si (fun x => x = 1)) ([.ref oqa] : List Value).toArray s 0 0 (fun _ => False)) (F0 m 521 ls []) := by
          intro ls hl
          refine lv_aload_n hx hb dL_hangs_521 rfl (lv_at hl 12 rfl) ?_
          refine lv_iload hx hb dL_hangs_522 (lv_at hl 3 rfl) ?_
          refine lv_iload hx hb dL_hangs_524 (lv_at hl 3 rfl) ?_
          refine kr_alikeIn S hK hO q563 ⟨Nat.le_of_ble_eq_true rfl, Nat.le_of_ble_eq_true rfl⟩ hP rfl hl.1 (Nat.le_of_ble_eq_true rfl) ⟨Nat.le_refl 0, Nat.le_refl 0⟩ dL_hangs_526 (al0 hV ht) ?_
          refine lv_if_ne (tgt := 584) hx hb dL_hangs_529 (by decide) (fun cn => absurd rfl cn) (fun _ => ?_)
          refine lv_aload_n hx hb dL_hangs_532 rfl (lv_at hl 12 rfl) ?_
          refine lv_iload hx hb dL_hangs_533 (lv_at hl 3 rfl) ?_
          refine lv_iload hx hb dL_hangs_535 (lv_at hl 3 rfl) ?_
          refine kr_reason S hK hO q568 ⟨Nat.le_of_ble_eq_true rfl, Nat.le_of_ble_eq_true rfl⟩ hP rfl hl.1 (Nat.le_of_ble_eq_true rfl) ⟨Nat.le_refl 0, Nat.le_refl 0⟩ dL_hangs_537 (reason0 hV ht) ?_
          refine lv_if_ne (tgt := 584) hx hb dL_hangs_540 (by decide) (fun cn => absurd rfl cn) (fun _ => ?_)
          refine lv_aload_n hx hb dL_hangs_543 rfl (lv_at hl 12 rfl) ?_
          refine lv_iload hx hb dL_hangs_544 (lv_at hl 3 rfl) ?_
          refine kr_kin S hK hO q576 ⟨Nat.le_of_ble_eq_true rfl, Nat.le_of_ble_eq_true rfl⟩ hP rfl hl.1 (Nat.le_of_ble_eq_true rfl) ⟨Nat.le_refl 0, Nat.le_refl 0⟩ dL_hangs_546 (v_kin hV ht) ?_
          refine lv_iload hx hb dL_hangs_549 (lv_at hl 3 rfl) ?_
          refine lv_ishr hx hb dL_hangs_551 ?_
          refine lv_iconst (v := 1) hx hb dL_hangs_552 (by decide) ?_
          refine lv_iand hx hb dL_hangs_553 ?_
          refine lv_iconst (v := 1) hx hb dL_hangs_554 (by decide) ?_
          refine lv_icmp_ne (tgt := 584) hx hb dL_hangs_555 (by decide) (fun cn => absurd (kin1 hV ht) cn) (fun _ => ?_)
          have K580 : ∀ ls : Array Slot, lv_has ls 19 [(15, .int (nI (pd σ (Ho t)))), (14, .int (nI (Du t))), (13, .int (nI (Ho t))), (12, .int (nI t)), (11, .int (nI LT)), (10, .int (nI (onC ms t))), (9, .int (nI (flF Ho Du t))), (8, .int (nI (fb_sm (fun t => pc (Du t)) t))), (7, .int (nI (fb_sm (fun t => pc (Ho t)) t))), (5, .int 1), (2, .int (nI (od σ))), (1, .int (nI k)), (0, .ref oqa)] → W p l e (rmk 6 141) s m ([.ref oqa] : List Value).toArray below meth c s.heap [] 0 0 (MQ below (vp_Si (fun x => x = 1)) ([.ref oqa] : List Value).toArray s 0 0 (fun _ => False)) (F0 m 580 ls []) := by
            intro ls hl
            refine lv_iconst (v := 1) hx hb dL_hangs_580 (by decide) ?_
            refine lv_goto (tgt := 585) hx hb dL_hangs_581 (by decide) ?_
            refine lv_istore (lv' := [(5, .int 1), (15, .int (nI (pd σ (Ho t)))), (14, .int (nI (Du t))), (13, .int (nI (Ho t))), (12, .int (nI t)), (11, .int (nI LT)), (10, .int (nI (onC ms t))), (9, .int (nI (flF Ho Du t))), (8, .int (nI (fb_sm (fun t => pc (Du t)) t))), (7, .int (nI (fb_sm (fun t => pc (Ho t)) t))), (2, .int (nI (od σ))), (1, .int (nI k)), (0, .ref oqa)]) hx hb dL_hangs_585 hl (by decide) rfl (fun ls hl => ?_)
            refine lv_iload hx hb dL_hangs_587 (lv_at hl 4 rfl) ?_
            refine lv_iconst (v := 1) hx hb dL_hangs_589 (by decide) ?_
            refine lv_iadd hx hb dL_hangs_590 ?_
            refine lv_iload_n hx hb dL_hangs_591 rfl (lv_at hl 11 rfl) ?_
            refine lv_irem hx hb dL_hangs_592 (nI_nz (by omega) (by omega)) ?_
            refine lv_re (y := nI u) hu1 ?_
            refine lv_istore (lv' := [(16, .int (nI u)), (5, .int 1), (15, .int (nI (pd σ (Ho t)))), (14, .int (nI (Du t))), (13, .int (nI (Ho t))), (12, .int (nI t)), (11, .int (nI LT)), (10, .int (nI (onC ms t))), (9, .int (nI (flF Ho Du t))), (8, .int (nI (fb_sm (fun t => pc (Du t)) t))), (7, .int (nI (fb_sm (fun t => pc (Ho t)) t))), (2, .int (nI (od σ))), (1, .int (nI k)), (0, .ref oqa)]) hx hb dL_hangs_593 hl (by decide) rfl (fun ls hl => ?_)
            refine lv_aload_n hx hb dL_hangs_595 rfl (lv_at hl 13 rfl) ?_
            refine lv_iload hx hb dL_hangs_596 (lv_at hl 5 rfl) ?_
            refine lv_iload hx hb dL_hangs_598 (lv_at hl 0 rfl) ?_
            refine kr_alikeIn S hK hO q563 ⟨Nat.le_of_ble_eq_true rfl, Nat.le_of_ble_eq_true rfl⟩ hP rfl hl.1 (Nat.le_of_ble_eq_true rfl) ⟨Nat.le_refl 0, Nat.le_refl 0⟩ dL_hangs_600 (v_alike hV ht hu) ?_
            refine lv_istore (lv' := [(17, .int (alv σ (Ho t) (Ho u))), (16, .int (nI u)), (5, .int 1), (15, .int (nI (pd σ (Ho t)))), (14, .int (nI (Du t))), (13, .int (nI (Ho t))), (12, .int (nI t)), (11, .int (nI LT)), (10, .int (nI (onC ms t))), (9, .int (nI (flF Ho Du t))), (8, .int (nI (fb_sm (fun t => pc (Du t)) t))), (7, .int (nI (fb_sm (fun t => pc (Ho t)) t))), (2, .int (nI (od σ))), (1, .int (nI k)), (0, .ref oqa)]) hx hb dL_hangs_603 hl (by decide) rfl (fun ls hl => ?_)
            refine lv_aload_n hx hb dL_hangs_605 rfl (lv_at hl 14 rfl) ?_
            refine lv_iload hx hb dL_hangs_606 (lv_at hl 1 rfl) ?_
            refine lv_iload hx hb dL_hangs_608 (lv_at hl 6 rfl) ?_
            refine kr_alikeIn S hK hO q563 ⟨Nat.le_of_ble_eq_true rfl, Nat.le_of_ble_eq_true rfl⟩ hP rfl hl.1 (Nat.le_of_ble_eq_true rfl) ⟨Nat.le_refl 0, Nat.le_refl 0⟩ dL_hangs_610 (v_alike hV hu ht) ?_
            refine lv_istore (lv' := [(18, .int (alv σ (Ho u) (Ho t))), (17, .int (alv σ (Ho t) (Ho u))), (16, .int (nI u)), (5, .int 1), (15, .int (nI (pd σ (Ho t)))), (14, .int (nI (Du t))), (13, .int (nI (Ho t))), (12, .int (nI t)), (11, .int (nI LT)), (10, .int (nI (onC ms t))), (9, .int (nI (flF Ho Du t))), (8, .int (nI (fb_sm (fun t => pc (Du t)) t))), (7, .int (nI (fb_sm (fun t => pc (Ho t)) t))), (2, .int (nI (od σ))), (1, .int (nI k)), (0, .ref oqa)]) hx hb dL_hangs_613 hl (by decide) rfl (fun ls hl => ?_)
            refine lv_iload hx hb dL_hangs_615 (lv_at hl 3 rfl) ?_
            refine lv_if_eq (tgt := 747) hx hb dL_hangs_617 (by decide) (fun cn => absurd cn i10) (fun _ => ?_)
            have K743 : ∀ ls : Array Slot, lv_has ls 19 [(18, .int (alv σ (Ho u) (Ho t))), (17, .int (alv σ (Ho t) (Ho u))), (16, .int (nI u)), (5, .int 1), (15, .int (nI (pd σ (Ho t)))), (14, .int (nI (Du t))), (13, .int (nI (Ho t))), (12, .int (nI t)), (11, .int (nI LT)), (10, .int (nI (onC ms t))), (9, .int (nI (flF Ho Du t))), (8, .int (nI (fb_sm (fun t => pc (Du t)) t))), (7, .int (nI (fb_sm (fun t => pc (Ho t)) t))), (2, .int (nI (od σ))), (1, .int (nI k)), (0, .ref oqa)] → W p l e (rmk 6 141) s m ([.ref oqa] : List Value).toArray below meth c s.heap [] 0 0 (MQ below (vp_Si (fun x => x = 1)) ([.ref oqa] : List Value).toArray s 0 0 (fun _ => False)) (F0 m 743 ls []) := by
              intro ls hl
              refine lv_iconst (v := 1) hx hb dL_hangs_743 (by decide) ?_
              refine lv_goto (tgt := 748) hx hb dL_hangs_744 (by decide) ?_
              refine lv_istore (lv' := [(5, .int 1), (18, .int (alv σ (Ho u) (Ho t))), (17, .int (alv σ (Ho t) (Ho u))), (16, .int (nI u)), (15, .int (nI (pd σ (Ho t)))), (14, .int (nI (Du t))), (13, .int (nI (Ho t))), (12, .int (nI t)), (11, .int (nI LT)), (10, .int (nI (onC ms t))), (9, .int (nI (flF Ho Du t))), (8, .int (nI (fb_sm (fun t => pc (Du t)) t))), (7, .int (nI (fb_sm (fun t => pc (Ho t)) t))), (2, .int (nI (od σ))), (1, .int (nI k)), (0, .ref oqa)]) hx hb dL_hangs_748 hl (by decide) rfl (fun ls hl => ?_)
              refine lv_iload hx hb dL_hangs_750 (lv_at hl 12 rfl) ?_
              refine lv_iload hx hb dL_hangs_752 (lv_at hl 6 rfl) ?_
              refine rdS (As := [.int (nI (Ho t))]) (rest := [.int (nI (fb_sm (fun t => pc (Ho t)) t))]) S hK (c_L_ones l G (nI (Ho t)) (nI (pc (Ho t))) (onesL (by have := (hHo t ht12); omega))) mL_ones q560 ⟨rfl, rfl, Nat.le_of_ble_eq_true rfl, Nat.le_of_ble_eq_true rfl⟩ (ws_nil G.1 _) rfl hl.1 (Nat.le_of_ble_eq_true rfl) ⟨Nat.le_refl 0, Nat.le_refl 0⟩ dL_hangs_754 ?_
              refine lv_iadd hx hb dL_hangs_757 ?_
              refine lv_re (y := nI (fb_sm (fun t => pc (Ho t)) (t + 1))) (nI_add _ _) ?_
              refine lv_istore (lv' := [(7, .int (nI (fb_sm (fun t => pc (Ho t)) (t + 1)))), (5, .int 1), (18, .int (alv σ (Ho u) (Ho t))), (17, .int (alv σ (Ho t) (Ho u))), (16, .int (nI u)), (15, .int (nI (pd σ (Ho t)))), (14, .int (nI (Du t))), (13, .int (nI (Ho t))), (12, .int (nI t)), (11, .int (nI LT)), (10, .int (nI (onC ms t))), (9, .int (nI (flF Ho Du t))), (8, .int (nI (fb_sm (fun t => pc (Du t)) t))), (2, .int (nI (od σ))), (1, .int (nI k)), (0, .ref oqa)]) hx hb dL_hangs_758 hl (by decide) rfl (fun ls hl => ?_)
              refine lv_iload hx hb dL_hangs_760 (lv_at hl 12 rfl) ?_
              refine lv_iload hx hb dL_hangs_762 (lv_at hl 6 rfl) ?_
              refine rdS (As := [.int (nI (Du t))]) (rest := [.int (nI (fb_sm (fun t => pc (Du t)) t))]) S hK (c_L_ones l G (nI (Du t)) (nI (pc (Du t))) (onesL (by have := (hDu t ht12); omega))) mL_ones q560 ⟨rfl, rfl, Nat.le_of_ble_eq_true rfl, Nat.le_of_ble_eq_true rfl⟩ (ws_nil G.1 _) rfl hl.1 (Nat.le_of_ble_eq_true rfl) ⟨Nat.le_refl 0, Nat.le_refl 0⟩ dL_hangs_764 ?_
              refine lv_iadd hx hb dL_hangs_767 ?_
              refine lv_re (y := nI (fb_sm (fun t => pc (Du t)) (t + 1))) (nI_add _ _) ?_
              refine lv_istore (lv' := [(8, .int (nI (fb_sm (fun t => pc (Du t)) (t + 1)))), (7, .int (nI (fb_sm (fun t => pc (Ho t)) (t + 1)))), (5, .int 1), (18, .int (alv σ (Ho u) (Ho t))), (17, .int (alv σ (Ho t) (Ho u))), (16, .int (nI u)), (15, .int (nI (pd σ (Ho t)))), (14, .int (nI (Du t))), (13, .int (nI (Ho t))), (12, .int (nI t)), (11, .int (nI LT)), (10, .int (nI (onC ms t))), (9, .int (nI (flF Ho Du t))), (2, .int (nI (od σ))), (1, .int (nI k)), (0, .ref oqa)]) hx hb dL_hangs_768 hl (by decide) rfl (fun ls hl => ?_)
              refine lv_iload hx hb dL_hangs_770 (lv_at hl 12 rfl) ?_
              refine lv_aload_n hx hb dL_hangs_772 rfl (lv_at hl 15 rfl) ?_
              refine lv_iload hx hb dL_hangs_773 (lv_at hl 9 rfl) ?_
              refine lv_iconst (v := 5) hx hb dL_hangs_775 (by decide) ?_
              refine kr_ticket S hK hO q539 ⟨Nat.le_of_ble_eq_true rfl, Nat.le_of_ble_eq_true rfl⟩ hP rfl hl.1 (Nat.le_of_ble_eq_true rfl) ⟨Nat.le_refl 0, Nat.le_refl 0⟩ dL_hangs_776 (v_ticket hV ht 5) ?_
              refine lv_iadd hx hb dL_hangs_779 ?_
              refine lv_re (y := nI (flF Ho Du (t + 1))) (fls Ho Du t) ?_
              refine lv_istore (lv' := [(9, .int (nI (flF Ho Du (t + 1)))), (8, .int (nI (fb_sm (fun t => pc (Du t)) (t + 1)))), (7, .int (nI (fb_sm (fun t => pc (Ho t)) (t + 1)))), (5, .int 1), (18, .int (alv σ (Ho u) (Ho t))), (17, .int (alv σ (Ho t) (Ho u))), (16, .int (nI u)), (15, .int (nI (pd σ (Ho t)))), (14, .int (nI (Du t))), (13, .int (nI (Ho t))), (12, .int (nI t)), (11, .int (nI LT)), (10, .int (nI (onC ms t))), (2, .int (nI (od σ))), (1, .int (nI k)), (0, .ref oqa)]) hx hb dL_hangs_780 hl (by decide) rfl (fun ls hl => ?_)
              refine lv_iload hx hb dL_hangs_782 (lv_at hl 12 rfl) ?_
              refine lv_aload_n hx hb dL_hangs_784 rfl (lv_at hl 15 rfl) ?_
              refine lv_iload hx hb dL_hangs_785 (lv_at hl 10 rfl) ?_
              refine lv_bipush (v := 7) hx hb dL_hangs_787 (by decide) ?_
              refine kr_ticket S hK hO q539 ⟨Nat.le_of_ble_eq_true rfl, Nat.le_of_ble_eq_true rfl⟩ hP rfl hl.1 (Nat.le_of_ble_eq_true rfl) ⟨Nat.le_refl 0, Nat.le_refl 0⟩ dL_hangs_789 (v_ticket hV ht 7) ?_
              refine lv_iadd hx hb dL_hangs_792 ?_
              refine lv_re (y := nI (onC ms (t + 1))) (ons ms t) ?_
              refine lv_istore (lv' := [(10, .int (nI (onC ms (t + 1)))), (9, .int (nI (flF Ho Du (t + 1)))), (8, .int (nI (fb_sm (fun t => pc (Du t)) (t + 1)))), (7, .int (nI (fb_sm (fun t => pc (Ho t)) (t + 1)))), (5, .int 1), (18, .int (alv σ (Ho u) (Ho t))), (17, .int (alv σ (Ho t) (Ho u))), (16, .int (nI u)), (15, .int (nI (pd σ (Ho t)))), (14, .int (nI (Du t))), (13, .int (nI (Ho t))), (12, .int (nI t)), (11, .int (nI LT)), (2, .int (nI (od σ))), (1, .int (nI k)), (0, .ref oqa)]) hx hb dL_hangs_793 hl (by decide) rfl (fun ls hl => ?_)
              refine lv_iload hx hb dL_hangs_795 (lv_at hl 4 rfl) ?_
              refine lv_if_eq (tgt := 858) hx hb dL_hangs_797 (by decide) (fun cn => absurd cn i10) (fun _ => ?_)
              have K854 : ∀ ls : Array Slot, lv_has ls 19 [(10, .int (nI (onC ms (t + 1)))), (9, .int (nI (flF Ho Du (t + 1)))), (8, .int (nI (fb_sm (fun t => pc (Du t)) (t + 1)))), (7, .int (nI (fb_sm (fun t => pc (Ho t)) (t + 1)))), (5, .int 1), (18, .int (alv σ (Ho u) (Ho t))), (17, .int (alv σ (Ho t) (Ho u))), (16, .int (nI u)), (15, .int (nI (pd σ (Ho t)))), (14, .int (nI (Du t))), (13, .int (nI (Ho t))), (12, .int (nI t)), (11, .int (nI LT)), (2, .int (nI (od σ))), (1, .int (nI k)), (0, .ref oqa)] → W p l e (rmk 6 141) s m ([.ref oqa] : List Value).toArray below meth c s.heap [] 0 0 (MQ below (vp_Si (fun x => x = 1)) ([.ref oqa] : List Value).toArray s 0 0 (fun _ => False)) (F0 m 854 ls []) := by
                intro ls hl
                refine lv_iconst (v := 1) hx hb dL_hangs_854 (by decide) ?_
                refine lv_goto (tgt := 859) hx hb dL_hangs_855 (by decide) ?_
                refine lv_istore (lv' := [(5, .int 1), (10, .int (nI (onC ms (t + 1)))), (9, .int (nI (flF Ho Du (t + 1)))), (8, .int (nI (fb_sm (fun t => pc (Du t)) (t + 1)))), (7, .int (nI (fb_sm (fun t => pc (Ho t)) (t + 1)))), (18, .int (alv σ (Ho u) (Ho t))), (17, .int (alv σ (Ho t) (Ho u))), (16, .int (nI u)), (15, .int (nI (pd σ (Ho t)))), (14, .int (nI (Du t))), (13, .int (nI (Ho t))), (12, .int (nI t)), (11, .int (nI LT)), (2, .int (nI (od σ))), (1, .int (nI k)), (0, .ref oqa)]) hx hb dL_hangs_859 hl (by decide) rfl (fun ls hl => ?_)
                refine lv_iinc (v := nI (t + 1)) (lv' := [(12, .int (nI (t + 1))), (5, .int 1), (10, .int (nI (onC ms (t + 1)))), (9, .int (nI (flF Ho Du (t + 1)))), (8, .int (nI (fb_sm (fun t => pc (Du t)) (t + 1)))), (7, .int (nI (fb_sm (fun t => pc (Ho t)) (t + 1)))), (18, .int (alv σ (Ho u) (Ho t))), (17, .int (alv σ (Ho t) (Ho u))), (16, .int (nI u)), (15, .int (nI (pd σ (Ho t)))), (14, .int (nI (Du t))), (13, .int (nI (Ho t))), (11, .int (nI LT)), (2, .int (nI (od σ))), (1, .int (nI k)), (0, .ref oqa)]) hx hb dL_hangs_861 hl (k := 11) rfl (nI_1 t) (by decide) rfl (fun ls hl => ?_)
                refine lv_goto (tgt := 344) hx hb dL_hangs_864 (by decide) ?_
                exact ih (t + 1) (by omega) (by omega) ls (lv_sub hl [0, 12, 2, 3, 4, 5, 1, 13, 14, 15] rfl)
              by_cases cb : ms.testBit t = true
              · skip
                refine lv_aload_n hx hb dL_hangs_800 rfl (lv_at hl 15 rfl) ?_
                refine lv_iload hx hb dL_hangs_801 (lv_at hl 11 rfl) ?_
                refine lv_bipush (v := 7) hx hb dL_hangs_803 (by decide) ?_
                refine kr_ticket S hK hO q539 ⟨Nat.le_of_ble_eq_true rfl, Nat.le_of_ble_eq_true rfl⟩ hP rfl hl.1 (Nat.le_of_ble_eq_true rfl) ⟨Nat.le_refl 0, Nat.le_refl 0⟩ dL_hangs_805 (v_ticket hV ht 7) ?_
                refine lv_iconst (v := 1) hx hb dL_hangs_808 (by decide) ?_
                refine lv_icmp_ne (tgt := 842) hx hb dL_hangs_809 (by decide) (fun cn => absurd (if_pos cb) cn) (fun _ => ?_)
                refine lv_aload_n hx hb dL_hangs_812 rfl (lv_at hl 15 rfl) ?_
                refine lv_iload hx hb dL_hangs_813 (lv_at hl 11 rfl) ?_
                refine lv_iconst (v := 1) hx hb dL_hangs_815 (by decide) ?_
                refine kr_bestTurn S hK hO q598 ⟨Nat.le_of_ble_eq_true rfl, Nat.le_of_ble_eq_true rfl⟩ hP rfl hl.1 (Nat.le_of_ble_eq_true rfl) ⟨Nat.le_refl 0, Nat.le_refl 0⟩ dL_hangs_816 (hb1 cb) ?_
                refine lv_iload hx hb dL_hangs_819 (lv_at hl 12 rfl) ?_
                refine rdS (As := [.int (nI LT)]) (rest := [.int (nI b1)]) S hK (c_L_ones l G (nI LT) (nI (pc LT)) (onesL (by have := hLT; omega))) mL_ones q560 ⟨rfl, rfl, Nat.le_of_ble_eq_true rfl, Nat.le_of_ble_eq_true rfl⟩ (ws_nil G.1 _) rfl hl.1 (Nat.le_of_ble_eq_true rfl) ⟨Nat.le_refl 0, Nat.le_refl 0⟩ dL_hangs_821 ?_
                refine lv_icmp_lt (tgt := 858) hx hb dL_hangs_824 (by decide) (fun cn => absurd cn (k_nlt (a := b1) (b := pc LT) (by omega) (by omega) (hb1g cb))) (fun _ => ?_)
                refine lv_aload_n hx hb dL_hangs_827 rfl (lv_at hl 15 rfl) ?_
                refine lv_iload hx hb dL_hangs_828 (lv_at hl 11 rfl) ?_
                refine lv_iconst (v := 0) hx hb dL_hangs_830 (by decide) ?_
                refine kr_bestTurn S hK hO q598 ⟨Nat.le_of_ble_eq_true rfl, Nat.le_of_ble_eq_true rfl⟩ hP rfl hl.1 (Nat.le_of_ble_eq_true rfl) ⟨Nat.le_refl 0, Nat.le_refl 0⟩ dL_hangs_831 (hb0 cb) ?_
                refine lv_iload hx hb dL_hangs_834 (lv_at hl 8 rfl) ?_
                refine lv_icmp_ge (tgt := 858) hx hb dL_hangs_836 (by decide) (fun cn => absurd cn (k_nge (a := b0) (b := (pd σ (Ho t))) (by omega) (by omega) (by omega))) (fun _ => ?_)
                refine lv_goto (tgt := 854) hx hb dL_hangs_839 (by decide) ?_
                exact K854 ls (lv_sub hl [0, 1, 2, 3, 4, 5, 6, 7, 8, 9, 10, 11, 12, 13, 14, 15] rfl)
              · skip
                refine lv_aload_n hx hb dL_hangs_800 rfl (lv_at hl 15 rfl) ?_
                refine lv_iload hx hb dL_hangs_801 (lv_at hl 11 rfl) ?_
                refine lv_bipush (v := 7) hx hb dL_hangs_803 (by decide) ?_
                refine kr_ticket S hK hO q539 ⟨Nat.le_of_ble_eq_true rfl, Nat.le_of_ble_eq_true rfl⟩ hP rfl hl.1 (Nat.le_of_ble_eq_true rfl) ⟨Nat.le_refl 0, Nat.le_refl 0⟩ dL_hangs_805 (v_ticket hV ht 7) ?_
                refine lv_iconst (v := 1) hx hb dL_hangs_808 (by decide) ?_
                refine lv_icmp_ne (tgt := 842) hx hb dL_hangs_809 (by decide) (fun _ => ?_) (fun cn => absurd cn (by rw [if_neg cb]; decide))
                refine lv_aload_n hx hb dL_hangs_842 rfl (lv_at hl 15 rfl) ?_
                refine lv_iload hx hb dL_hangs_843 (lv_at hl 11 rfl) ?_
                refine lv_iconst (v := 0) hx hb dL_hangs_845 (by decide) ?_
                refine kr_bestTurn S hK hO q598 ⟨Nat.le_of_ble_eq_true rfl, Nat.le_of_ble_eq_true rfl⟩ hP rfl hl.1 (Nat.le_of_ble_eq_true rfl) ⟨Nat.le_refl 0, Nat.le_refl 0⟩ dL_hangs_846 (v_bestN hV ht (bf cb)) ?_
                refine lv_bipush (v := (-4)) hx hb dL_hangs_849 (by decide) ?_
                refine lv_icmp_ne (tgt := 858) hx hb dL_hangs_851 (by decide) (fun cn => absurd rfl cn) (fun _ => ?_)
                exact K854 ls (lv_sub hl [0, 1, 2, 3, 4, 5, 6, 7, 8, 9, 10, 11, 12, 13, 14, 15] rfl)
            by_cases ca : al σ (Ho t) (Ho u) < od σ
            · skip
              refine lv_iload hx hb dL_hangs_620 (lv_at hl 1 rfl) ?_
              refine lv_if_lt (tgt := 629) hx hb dL_hangs_622 (by decide) (fun cn => absurd cn (alv_ge hV ca)) (fun _ => ?_)
              refine lv_iconst (v := 1) hx hb dL_hangs_625 (by decide) ?_
              refine lv_goto (tgt := 630) hx hb dL_hangs_626 (by decide) ?_
              refine lv_iload hx hb dL_hangs_630 (lv_at hl 0 rfl) ?_
              refine lv_if_lt (tgt := 639) hx hb dL_hangs_632 (by decide) (fun cn => absurd cn (alv_ge hV (al_s hV ht hu ca))) (fun _ => ?_)
              refine lv_iconst (v := 1) hx hb dL_hangs_635 (by decide) ?_
              refine lv_goto (tgt := 640) hx hb dL_hangs_636 (by decide) ?_
              refine lv_icmp_ne (tgt := 747) hx hb dL_hangs_640 (by decide) (fun cn => absurd rfl cn) (fun _ => ?_)
              refine lv_iload hx hb dL_hangs_643 (lv_at hl 1 rfl) ?_
              refine lv_if_lt (tgt := 652) hx hb dL_hangs_645 (by decide) (fun cn => absurd cn (alv_ge hV ca)) (fun _ => ?_)
              refine lv_iconst (v := 1) hx hb dL_hangs_648 (by decide) ?_
              refine lv_goto (tgt := 653) hx hb dL_hangs_649 (by decide) ?_
              refine lv_aload_n hx hb dL_hangs_653 rfl (lv_at hl 15 rfl) ?_
              refine lv_iload hx hb dL_hangs_654 (lv_at hl 7 rfl) ?_
              refine lv_iload hx hb dL_hangs_656 (lv_at hl 2 rfl) ?_
              refine kr_reason S hK hO q568 ⟨Nat.le_of_ble_eq_true rfl, Nat.le_of_ble_eq_true rfl⟩ hP rfl hl.1 (Nat.le_of_ble_eq_true rfl) ⟨Nat.le_refl 0, Nat.le_refl 0⟩ dL_hangs_658 hrs ?_
              refine lv_if_ne (tgt := 668) hx hb dL_hangs_661 (by decide) (fun cn => absurd (hr0.mpr ca) cn) (fun _ => ?_)
              refine lv_iconst (v := 1) hx hb dL_hangs_664 (by decide) ?_
              refine lv_goto (tgt := 669) hx hb dL_hangs_665 (by decide) ?_
              refine lv_icmp_ne (tgt := 747) hx hb dL_hangs_669 (by decide) (fun cn => absurd rfl cn) (fun _ => ?_)
              refine lv_iload hx hb dL_hangs_672 (lv_at hl 1 rfl) ?_
              refine lv_if_lt (tgt := 681) hx hb dL_hangs_674 (by decide) (fun cn => absurd cn (alv_ge hV ca)) (fun _ => ?_)
              refine lv_iconst (v := 1) hx hb dL_hangs_677 (by decide) ?_
              refine lv_goto (tgt := 682) hx hb dL_hangs_678 (by decide) ?_
              refine lv_aload_n hx hb dL_hangs_682 rfl (lv_at hl 15 rfl) ?_
              refine lv_iload hx hb dL_hangs_683 (lv_at hl 7 rfl) ?_
              refine kr_kin S hK hO q576 ⟨Nat.le_of_ble_eq_true rfl, Nat.le_of_ble_eq_true rfl⟩ hP rfl hl.1 (Nat.le_of_ble_eq_true rfl) ⟨Nat.le_refl 0, Nat.le_refl 0⟩ dL_hangs_685 (v_kin hV ht) ?_
              refine lv_iload hx hb dL_hangs_688 (lv_at hl 2 rfl) ?_
              refine lv_ishr hx hb dL_hangs_690 ?_
              refine lv_iconst (v := 1) hx hb dL_hangs_691 (by decide) ?_
              refine lv_iand hx hb dL_hangs_692 ?_
              refine lv_iconst (v := 1) hx hb dL_hangs_693 (by decide) ?_
              refine lv_icmp_ne (tgt := 701) hx hb dL_hangs_694 (by decide) (fun cn => absurd (kin_t hV hu (al_s hV ht hu ca)) cn) (fun _ => ?_)
              refine lv_iconst (v := 1) hx hb dL_hangs_697 (by decide) ?_
              refine lv_goto (tgt := 702) hx hb dL_hangs_698 (by decide) ?_
              refine lv_icmp_ne (tgt := 747) hx hb dL_hangs_702 (by decide) (fun cn => absurd rfl cn) (fun _ => ?_)
              refine lv_iload hx hb dL_hangs_705 (lv_at hl 1 rfl) ?_
              refine lv_if_lt (tgt := 743) hx hb dL_hangs_707 (by decide) (fun cn => absurd cn (alv_ge hV ca)) (fun _ => ?_)
              refine lv_iload hx hb dL_hangs_710 (lv_at hl 1 rfl) ?_
              refine lv_re (y := nI (al σ (Ho t) (Ho u))) (alv_n ca) ?_
              refine lv_iload hx hb dL_hangs_712 (lv_at hl 0 rfl) ?_
              refine lv_re (y := nI (al σ (Ho u) (Ho t))) (alv_n (al_s hV ht hu ca)) ?_
              refine lv_iadd hx hb dL_hangs_714 ?_
              refine lv_re (y := nI (al σ (Ho t) (Ho u) + al σ (Ho u) (Ho t))) (nI_add _ _) ?_
              refine lv_iload hx hb dL_hangs_715 (lv_at hl 4 rfl) ?_
              refine lv_irem hx hb dL_hangs_717 (nI_nz (by omega) (by omega)) ?_
              refine lv_if_ne (tgt := 747) hx hb dL_hangs_718 (by decide) (fun cn => absurd ((rem0 (by omega) (by omega) (by omega)).mpr (al_sum hPm (hHo t ht12) ca)) cn) (fun _ => ?_)
              refine lv_iload hx hb dL_hangs_721 (lv_at hl 1 rfl) ?_
              refine lv_re (y := nI (al σ (Ho t) (Ho u))) (alv_n ca) ?_
              refine lv_iload hx hb dL_hangs_723 (lv_at hl 4 rfl) ?_
              refine lv_icmp_ge (tgt := 747) hx hb dL_hangs_725 (by decide) (fun cn => absurd cn (k_nge (a := al σ (Ho t) (Ho u)) (b := pd σ (Ho t)) (by omega) (by omega) (al_pd hPm hH1 ca))) (fun _ => ?_)
              refine lv_aload_n hx hb dL_hangs_728 rfl (lv_at hl 15 rfl) ?_
              refine lv_iload hx hb dL_hangs_729 (lv_at hl 7 rfl) ?_
              refine kr_kin S hK hO q576 ⟨Nat.le_of_ble_eq_true rfl, Nat.le_of_ble_eq_true rfl⟩ hP rfl hl.1 (Nat.le_of_ble_eq_true rfl) ⟨Nat.le_refl 0, Nat.le_refl 0⟩ dL_hangs_731 (v_kin hV ht) ?_
              refine lv_aload_n hx hb dL_hangs_734 rfl (lv_at hl 15 rfl) ?_
              refine lv_iload hx hb dL_hangs_735 (lv_at hl 2 rfl) ?_
              refine kr_kin S hK hO q576 ⟨Nat.le_of_ble_eq_true rfl, Nat.le_of_ble_eq_true rfl⟩ hP rfl hl.1 (Nat.le_of_ble_eq_true rfl) ⟨Nat.le_refl 0, Nat.le_refl 0⟩ dL_hangs_737 (v_kin hV hu) ?_
              refine lv_icmp_ne (tgt := 747) hx hb dL_hangs_740 (by decide) (fun cn => absurd (congrArg nI (kin_eq hPm (fun s hs => hHo s (by omega)) ht hu ca)) cn) (fun _ => ?_)
              exact K743 ls (lv_sub hl [0, 1, 2, 3, 4, 5, 6, 7, 8, 9, 10, 11, 12, 13, 14, 15] rfl)
            · skip
              refine lv_iload hx hb dL_hangs_620 (lv_at hl 1 rfl) ?_
              refine lv_if_lt (tgt := 629) hx hb dL_hangs_622 (by decide) (fun _ => ?_) (fun cn => absurd (alv_lt ca) cn)
              refine lv_iconst (v := 0) hx hb dL_hangs_629 (by decide) ?_
              refine lv_iload hx hb dL_hangs_630 (lv_at hl 0 rfl) ?_
              refine lv_if_lt (tgt := 639) hx hb dL_hangs_632 (by decide) (fun _ => ?_) (fun cn => absurd (alv_lt (fun q => ca (al_s hV hu ht q))) cn)
              refine lv_iconst (v := 0) hx hb dL_hangs_639 (by decide) ?_
              refine lv_icmp_ne (tgt := 747) hx hb dL_hangs_640 (by decide) (fun cn => absurd rfl cn) (fun _ => ?_)
              refine lv_iload hx hb dL_hangs_643 (lv_at hl 1 rfl) ?_
              refine lv_if_lt (tgt := 652) hx hb dL_hangs_645 (by decide) (fun _ => ?_) (fun cn => absurd (alv_lt ca) cn)
              refine lv_iconst (v := 0) hx hb dL_hangs_652 (by decide) ?_
              refine lv_aload_n hx hb dL_hangs_653 rfl (lv_at hl 15 rfl) ?_
              refine lv_iload hx hb dL_hangs_654 (lv_at hl 7 rfl) ?_
              refine lv_iload hx hb dL_hangs_656 (lv_at hl 2 rfl) ?_
              refine kr_reason S hK hO q568 ⟨Nat.le_of_ble_eq_true rfl, Nat.le_of_ble_eq_true rfl⟩ hP rfl hl.1 (Nat.le_of_ble_eq_true rfl) ⟨Nat.le_refl 0, Nat.le_refl 0⟩ dL_hangs_658 hrs ?_
              refine lv_if_ne (tgt := 668) hx hb dL_hangs_661 (by decide) (fun _ => ?_) (fun cn => absurd cn (fun q => ca (hr0.mp q)))
              refine lv_iconst (v := 0) hx hb dL_hangs_668 (by decide) ?_
              refine lv_icmp_ne (tgt := 747) hx hb dL_hangs_669 (by decide) (fun cn => absurd rfl cn) (fun _ => ?_)
              refine lv_iload hx hb dL_hangs_672 (lv_at hl 1 rfl) ?_
              refine lv_if_lt (tgt := 681) hx hb dL_hangs_674 (by decide) (fun _ => ?_) (fun cn => absurd (alv_lt ca) cn)
              refine lv_iconst (v := 0) hx hb dL_hangs_681 (by decide) ?_
              refine lv_aload_n hx hb dL_hangs_682 rfl (lv_at hl 15 rfl) ?_
              refine lv_iload hx hb dL_hangs_683 (lv_at hl 7 rfl) ?_
              refine kr_kin S hK hO q576 ⟨Nat.le_of_ble_eq_true rfl, Nat.le_of_ble_eq_true rfl⟩ hP rfl hl.1 (Nat.le_of_ble_eq_true rfl) ⟨Nat.le_refl 0, Nat.le_refl 0⟩ dL_hangs_685 (v_kin hV ht) ?_
              refine lv_iload hx hb dL_hangs_688 (lv_at hl 2 rfl) ?_
              refine lv_ishr hx hb dL_hangs_690 ?_
              refine lv_iconst (v := 1) hx hb dL_hangs_691 (by decide) ?_
              refine lv_iand hx hb dL_hangs_692 ?_
              refine lv_iconst (v := 1) hx hb dL_hangs_693 (by decide) ?_
              refine lv_icmp_ne (tgt := 701) hx hb dL_hangs_694 (by decide) (fun _ => ?_) (fun cn => absurd cn (kin_f hV hu (fun q => ca (al_s hV hu ht q))))
              refine lv_iconst (v := 0) hx hb dL_hangs_701 (by decide) ?_
              refine lv_icmp_ne (tgt := 747) hx hb dL_hangs_702 (by decide) (fun cn => absurd rfl cn) (fun _ => ?_)
              refine lv_iload hx hb dL_hangs_705 (lv_at hl 1 rfl) ?_
              refine lv_if_lt (tgt := 743) hx hb dL_hangs_707 (by decide) (fun _ => ?_) (fun cn => absurd (alv_lt ca) cn)
              exact K743 ls (lv_sub hl [0, 1, 2, 3, 4, 5, 6, 7, 8, 9, 10, 11, 12, 13, 14, 15] rfl)
          by_cases cz : Ho t = 0
          · skip
            refine lv_aload_n hx hb dL_hangs_558 rfl (lv_at hl 12 rfl) ?_
            refine lv_iload hx hb dL_hangs_559 (lv_at hl 3 rfl) ?_
            refine lv_iload hx hb dL_hangs_561 (lv_at hl 3 rfl) ?_
            refine kr_meetsIn S hK hO q590 ⟨Nat.le_of_ble_eq_true rfl, Nat.le_of_ble_eq_true rfl⟩ hP rfl hl.1 (Nat.le_of_ble_eq_true rfl) ⟨Nat.le_refl 0, Nat.le_refl 0⟩ dL_hangs_563 (meets0 hV ht) ?_
            refine lv_iload hx hb dL_hangs_566 (lv_at hl 2 rfl) ?_
            refine lv_if_ne (tgt := 576) hx hb dL_hangs_568 (by decide) (fun cn => absurd (congrArg nI cz) cn) (fun _ => ?_)
            refine lv_bipush (v := (-5)) hx hb dL_hangs_571 (by decide) ?_
            refine lv_goto (tgt := 577) hx hb dL_hangs_573 (by decide) ?_
            refine lv_icmp_ne (tgt := 584) hx hb dL_hangs_577 (by decide) (fun cn => absurd (if_pos cz) cn) (fun _ => ?_)
            exact K580 ls (lv_sub hl [0, 1, 2, 3, 4, 5, 6, 7, 8, 9, 10, 11, 12] rfl)
          · skip
            refine lv_aload_n hx hb dL_hangs_558 rfl (lv_at hl 12 rfl) ?_
            refine lv_iload hx hb dL_hangs_559 (lv_at hl 3 rfl) ?_
            refine lv_iload hx hb dL_hangs_561 (lv_at hl 3 rfl) ?_
            refine kr_meetsIn S hK hO q590 ⟨Nat.le_of_ble_eq_true rfl, Nat.le_of_ble_eq_true rfl⟩ hP rfl hl.1 (Nat.le_of_ble_eq_true rfl) ⟨Nat.le_refl 0, Nat.le_refl 0⟩ dL_hangs_563 (meets0 hV ht) ?_
            refine lv_iload hx hb dL_hangs_566 (lv_at hl 2 rfl) ?_
            refine lv_if_ne (tgt := 576) hx hb dL_hangs_568 (by decide) (fun _ => ?_) (fun cn => absurd cn (k_ne (b := 0) (by omega) (by omega) cz))
            refine lv_iconst (v := 0) hx hb dL_hangs_576 (by decide) ?_
            refine lv_icmp_ne (tgt := 584) hx hb dL_hangs_577 (by decide) (fun cn => absurd (if_neg cz) cn) (fun _ => ?_)
            exact K580 ls (lv_sub hl [0, 1, 2, 3, 4, 5, 6, 7, 8, 9, 10, 11, 12] rfl)
        by_cases ct : ms.testBit t = true
        · skip
          refine lv_aload_n hx hb dL_hangs_500 rfl (lv_at hl 12 rfl) ?_
          refine lv_iload hx hb dL_hangs_501 (lv_at hl 3 rfl) ?_
          refine lv_bipush (v := 7) hx hb dL_hangs_503 (by decide) ?_
          refine kr_ticket S hK hO q539 ⟨Nat.le_of_ble_eq_true rfl, Nat.le_of_ble_eq_true rfl⟩ hP rfl hl.1 (Nat.le_of_ble_eq_true rfl) ⟨Nat.le_refl 0, Nat.le_refl 0⟩ dL_hangs_505 (v_ticket hV ht 7) ?_
          refine lv_if_eq (tgt := 521) hx hb dL_hangs_508 (by decide) (fun cn => absurd cn (by rw [if_pos ct]; decide)) (fun _ => ?_)
          refine lv_iload hx hb dL_hangs_511 (lv_at hl 4 rfl) ?_
          refine lv_iload hx hb dL_hangs_513 (lv_at hl 2 rfl) ?_
          refine lv_iconst (v := (-1)) hx hb dL_hangs_515 (by decide) ?_
          refine lv_ixor hx hb dL_hangs_516 ?_
          refine lv_iand hx hb dL_hangs_517 ?_
          refine lv_if_ne (tgt := 584) hx hb dL_hangs_518 (by decide) (fun cn => absurd (by rw [hLTe]; exact and_not0 (fun _ => lt_in ht ct)) cn) (fun _ => ?_)
          exact K521 ls (lv_sub hl [0, 1, 2, 3, 4, 5, 6, 7, 8, 9, 10, 11, 12] rfl)
        · skip
          refine lv_aload_n hx hb dL_hangs_500 rfl (lv_at hl 12 rfl) ?_
          refine lv_iload hx hb dL_hangs_501 (lv_at hl 3 rfl) ?_
          refine lv_bipush (v := 7) hx hb dL_hangs_503 (by decide) ?_
          refine kr_ticket S hK hO q539 ⟨Nat.le_of_ble_eq_true rfl, Nat.le_of_ble_eq_true rfl⟩ hP rfl hl.1 (Nat.le_of_ble_eq_true rfl) ⟨Nat.le_refl 0, Nat.le_refl 0⟩ dL_hangs_505 (v_ticket hV ht 7) ?_
          refine lv_if_eq (tgt := 521) hx hb dL_hangs_508 (by decide) (fun _ => ?_) (fun cn => absurd (if_neg ct) cn)
          exact K521 ls (lv_sub hl [0, 1, 2, 3, 4, 5, 6, 7, 8, 9, 10, 11, 12] rfl)
      by_cases ch : Ho t = Du t
      · skip
        refine lv_aload_n hx hb dL_hangs_456 rfl (lv_at hl 12 rfl) ?_
        refine lv_iload hx hb dL_hangs_457 (lv_at hl 3 rfl) ?_
        refine lv_iconst (v := 5) hx hb dL_hangs_459 (by decide) ?_
        refine kr_ticket S hK hO q539 ⟨Nat.le_of_ble_eq_true rfl, Nat.le_of_ble_eq_true rfl⟩ hP rfl hl.1 (Nat.le_of_ble_eq_true rfl) ⟨Nat.le_refl 0, Nat.le_refl 0⟩ dL_hangs_460 (v_ticket hV ht 5) ?_
        refine lv_iconst (v := 1) hx hb dL_hangs_463 (by decide) ?_
        refine lv_icmp_ne (tgt := 471) hx hb dL_hangs_464 (by decide) (fun _ => ?_) (fun cn => absurd cn (by rw [if_pos ch]; decide))
        refine lv_iconst (v := 0) hx hb dL_hangs_471 (by decide) ?_
        refine lv_iload hx hb dL_hangs_472 (lv_at hl 2 rfl) ?_
        refine lv_iload hx hb dL_hangs_474 (lv_at hl 1 rfl) ?_
        refine lv_icmp_eq (tgt := 483) hx hb dL_hangs_476 (by decide) (fun _ => ?_) (fun cn => absurd (congrArg nI ch) cn)
        refine lv_iconst (v := 0) hx hb dL_hangs_483 (by decide) ?_
        refine lv_icmp_ne (tgt := 584) hx hb dL_hangs_484 (by decide) (fun cn => absurd rfl cn) (fun _ => ?_)
        exact K487 ls (lv_sub hl [0, 1, 2, 3, 4, 5, 6, 7, 8, 9, 10, 11, 12] rfl)
      · skip
        refine lv_aload_n hx hb dL_hangs_456 rfl (lv_at hl 12 rfl) ?_
        refine lv_iload hx hb dL_hangs_457 (lv_at hl 3 rfl) ?_
        refine lv_iconst (v := 5) hx hb dL_hangs_459 (by decide) ?_
        refine kr_ticket S hK hO q539 ⟨Nat.le_of_ble_eq_true rfl, Nat.le_of_ble_eq_true rfl⟩ hP rfl hl.1 (Nat.le_of_ble_eq_true rfl) ⟨Nat.le_refl 0, Nat.le_refl 0⟩ dL_hangs_460 (v_ticket hV ht 5) ?_
        refine lv_iconst (v := 1) hx hb dL_hangs_463 (by decide) ?_
        refine lv_icmp_ne (tgt := 471) hx hb dL_hangs_464 (by decide) (fun cn => absurd (if_neg ch) cn) (fun _ => ?_)
        refine lv_iconst (v := 1) hx hb dL_hangs_467 (by decide) ?_
        refine lv_goto (tgt := 472) hx hb dL_hangs_468 (by decide) ?_
        refine lv_iload hx hb dL_hangs_472 (lv_at hl 2 rfl) ?_
        refine lv_iload hx hb dL_hangs_474 (lv_at hl 1 rfl) ?_
        refine lv_icmp_eq (tgt := 483) hx hb dL_hangs_476 (by decide) (fun cn => absurd cn (k_ne (by omega) (by omega) ch)) (fun _ => ?_)
        refine lv_iconst (v := 1) hx hb dL_hangs_479 (by decide) ?_
        refine lv_goto (tgt := 484) hx hb dL_hangs_480 (by decide) ?_
        refine lv_icmp_ne (tgt := 584) hx hb dL_hangs_484 (by decide) (fun cn => absurd rfl cn) (fun _ => ?_)
        exact K487 ls (lv_sub hl [0, 1, 2, 3, 4, 5, 6, 7, 8, 9, 10, 11, 12] rfl)
  have L71 : ∀ (n j : Nat), j ≤ 24 → 24 - j < n → ∀ ls : Array Slot, lv_has ls 19 [(7, .int (nI j)), (6, .int (nI (TG σ j))), (5, .int 1), (4, .int (nI (fxF σ j))), (3, .int (nI (rcF σ j))), (2, .int (nI (od σ))), (1, .int (nI k)), (0, .ref oqa)] → W p l e (rmk 6 141) s m ([.ref oqa] : List Value).toArray below meth c s.heap [] 0 0 (MQ below (vp_Si (fun x => x = 1)) ([.ref oqa] : List Value).toArray s 0 0 (fun _ => False)) (F0 m 71 ls []) := by
    intro n
    induction n with
    | zero => intro j _ h; omega
    | succ n ih =>
      intro j hj1 hn ls hl
      by_cases hj2 : j = 24
      · subst hj2
        refine lv_iload hx hb dL_hangs_71 (lv_at hl 0 rfl) ?_
        refine lv_bipush (v := 24) hx hb dL_hangs_73 (by decide) ?_
        refine lv_icmp_ge (tgt := 273) hx hb dL_hangs_75 (by decide) (fun _ => ?_) (fun cn => absurd (k_ge (a := 24) (b := 24) (by omega) (by omega) (by omega)) cn)
        refine lv_iload hx hb dL_hangs_273 (lv_at hl 2 rfl) ?_
        refine lv_if_eq (tgt := 320) hx hb dL_hangs_275 (by decide) (fun cn => absurd cn i10) (fun _ => ?_)
        refine lv_iload_n hx hb dL_hangs_278 rfl (lv_at hl 4 rfl) ?_
        refine lv_aload_n hx hb dL_hangs_279 rfl (lv_at hl 7 rfl) ?_
        refine lv_iconst (v := 1) hx hb dL_hangs_280 (by decide) ?_
        refine kr_move S hK hO q359 ⟨Nat.le_of_ble_eq_true rfl, Nat.le_of_ble_eq_true rfl⟩ hP rfl hl.1 (Nat.le_of_ble_eq_true rfl) ⟨Nat.le_refl 0, Nat.le_refl 0⟩ dL_hangs_281 (v_move1 hV) ?_
        refine lv_icmp_ne (tgt := 320) hx hb dL_hangs_284 (by decide) (fun cn => absurd rfl cn) (fun _ => ?_)
        refine lv_iload hx hb dL_hangs_287 (lv_at hl 3 rfl) ?_
        refine lv_aload_n hx hb dL_hangs_289 rfl (lv_at hl 7 rfl) ?_
        refine lv_iconst (v := 2) hx hb dL_hangs_290 (by decide) ?_
        refine kr_move S hK hO q359 ⟨Nat.le_of_ble_eq_true rfl, Nat.le_of_ble_eq_true rfl⟩ hP rfl hl.1 (Nat.le_of_ble_eq_true rfl) ⟨Nat.le_refl 0, Nat.le_refl 0⟩ dL_hangs_291 (v_move2 hV) ?_
        refine lv_icmp_ne (tgt := 320) hx hb dL_hangs_294 (by decide) (fun cn => absurd rfl cn) (fun _ => ?_)
        have K316 : ∀ ls : Array Slot, lv_has ls 19 [(7, .int (nI 24)), (6, .int (nI (TG σ 24))), (5, .int 1), (4, .int (nI (fxF σ 24))), (3, .int (nI (rcF σ 24))), (2, .int (nI (od σ))), (1, .int (nI k)), (0, .ref oqa)] → W p l e (rmk 6 141) s m ([.ref oqa] : List Value).toArray below meth c s.heap [] 0 0 (MQ below (vp_Si (fun x => x = 1)) ([.ref oqa] : List Value).toArray s 0 0 (fun _ => False)) (F0 m 316 ls []) := by
          intro ls hl
          refine lv_iconst (v := 1) hx hb dL_hangs_316 (by decide) ?_
          refine lv_goto (tgt := 321) hx hb dL_hangs_317 (by decide) ?_
          refine lv_istore (lv' := [(5, .int 1), (7, .int (nI 24)), (6, .int (nI (TG σ 24))), (4, .int (nI (fxF σ 24))), (3, .int (nI (rcF σ 24))), (2, .int (nI (od σ))), (1, .int (nI k)), (0, .ref oqa)]) hx hb dL_hangs_321 hl (by decide) rfl (fun ls hl => ?_)
          refine lv_iconst (v := 0) hx hb dL_hangs_323 (by decide) ?_
          refine lv_istore (lv' := [(7, .int 0), (5, .int 1), (6, .int (nI (TG σ 24))), (4, .int (nI (fxF σ 24))), (3, .int (nI (rcF σ 24))), (2, .int (nI (od σ))), (1, .int (nI k)), (0, .ref oqa)]) hx hb dL_hangs_324 hl (by decide) rfl (fun ls hl => ?_)
          refine lv_iconst (v := 0) hx hb dL_hangs_326 (by decide) ?_
          refine lv_istore (lv' := [(8, .int 0), (7, .int 0), (5, .int 1), (6, .int (nI (TG σ 24))), (4, .int (nI (fxF σ 24))), (3, .int (nI (rcF σ 24))), (2, .int (nI (od σ))), (1, .int (nI k)), (0, .ref oqa)]) hx hb dL_hangs_327 hl (by decide) rfl (fun ls hl => ?_)
          refine lv_iconst (v := 0) hx hb dL_hangs_329 (by decide) ?_
          refine lv_istore (lv' := [(9, .int 0), (8, .int 0), (7, .int 0), (5, .int 1), (6, .int (nI (TG σ 24))), (4, .int (nI (fxF σ 24))), (3, .int (nI (rcF σ 24))), (2, .int (nI (od σ))), (1, .int (nI k)), (0, .ref oqa)]) hx hb dL_hangs_330 hl (by decide) rfl (fun ls hl => ?_)
          refine lv_iconst (v := 0) hx hb dL_hangs_332 (by decide) ?_
          refine lv_istore (lv' := [(10, .int 0), (9, .int 0), (8, .int 0), (7, .int 0), (5, .int 1), (6, .int (nI (TG σ 24))), (4, .int (nI (fxF σ 24))), (3, .int (nI (rcF σ 24))), (2, .int (nI (od σ))), (1, .int (nI k)), (0, .ref oqa)]) hx hb dL_hangs_333 hl (by decide) rfl (fun ls hl => ?_)
          refine lv_aload_n hx hb dL_hangs_335 rfl (lv_at hl 10 rfl) ?_
          refine kr_light S hK hO q386 ⟨Nat.le_of_ble_eq_true rfl, Nat.le_of_ble_eq_true rfl⟩ hP rfl hl.1 (Nat.le_of_ble_eq_true rfl) ⟨Nat.le_refl 0, Nat.le_refl 0⟩ dL_hangs_336 hlight ?_
          refine lv_istore (lv' := [(11, .int (nI LT)), (10, .int 0), (9, .int 0), (8, .int 0), (7, .int 0), (5, .int 1), (6, .int (nI (TG σ 24))), (4, .int (nI (fxF σ 24))), (3, .int (nI (rcF σ 24))), (2, .int (nI (od σ))), (1, .int (nI k)), (0, .ref oqa)]) hx hb dL_hangs_339 hl (by decide) rfl (fun ls hl => ?_)
          refine lv_iconst (v := 0) hx hb dL_hangs_341 (by decide) ?_
          refine lv_istore (lv' := [(12, .int 0), (11, .int (nI LT)), (10, .int 0), (9, .int 0), (8, .int 0), (7, .int 0), (5, .int 1), (6, .int (nI (TG σ 24))), (4, .int (nI (fxF σ 24))), (3, .int (nI (rcF σ 24))), (2, .int (nI (od σ))), (1, .int (nI k)), (0, .ref oqa)]) hx hb dL_hangs_342 hl (by decide) rfl (fun ls hl => ?_)
          exact L344 (k + 1) 0 (by omega) (by omega) ls (lv_sub hl [0, 1, 2, 3, 4, 5, 6, 10, 11, 12] rfl)
        by_cases cr : rcF σ 24 % 2 = 0
        · skip
          refine lv_aload_n hx hb dL_hangs_297 rfl (lv_at hl 7 rfl) ?_
          refine lv_iconst (v := 4) hx hb dL_hangs_298 (by decide) ?_
          refine kr_move S hK hO q359 ⟨Nat.le_of_ble_eq_true rfl, Nat.le_of_ble_eq_true rfl⟩ hP rfl hl.1 (Nat.le_of_ble_eq_true rfl) ⟨Nat.le_refl 0, Nat.le_refl 0⟩ dL_hangs_299 (v_move4 hV) ?_
          refine lv_iload_n hx hb dL_hangs_302 rfl (lv_at hl 4 rfl) ?_
          refine lv_iconst (v := 2) hx hb dL_hangs_303 (by decide) ?_
          refine lv_irem hx hb dL_hangs_304 (by decide) ?_
          refine lv_if_ne (tgt := 312) hx hb dL_hangs_305 (by decide) (fun cn => absurd ((rem0 (by omega) (by omega) (by omega)).mpr (Nat.dvd_of_mod_eq_zero cr)) cn) (fun _ => ?_)
          refine lv_iconst (v := 1) hx hb dL_hangs_308 (by decide) ?_
          refine lv_goto (tgt := 313) hx hb dL_hangs_309 (by decide) ?_
          refine lv_icmp_ne (tgt := 320) hx hb dL_hangs_313 (by decide) (fun cn => absurd (if_pos cr) cn) (fun _ => ?_)
          exact K316 ls (lv_sub hl [0, 1, 2, 3, 4, 5, 6, 7] rfl)
        · skip
          refine lv_aload_n hx hb dL_hangs_297 rfl (lv_at hl 7 rfl) ?_
          refine lv_iconst (v := 4) hx hb dL_hangs_298 (by decide) ?_
          refine kr_move S hK hO q359 ⟨Nat.le_of_ble_eq_true rfl, Nat.le_of_ble_eq_true rfl⟩ hP rfl hl.1 (Nat.le_of_ble_eq_true rfl) ⟨Nat.le_refl 0, Nat.le_refl 0⟩ dL_hangs_299 (v_move4 hV) ?_
          refine lv_iload_n hx hb dL_hangs_302 rfl (lv_at hl 4 rfl) ?_
          refine lv_iconst (v := 2) hx hb dL_hangs_303 (by decide) ?_
          refine lv_irem hx hb dL_hangs_304 (by decide) ?_
          refine lv_if_ne (tgt := 312) hx hb dL_hangs_305 (by decide) (fun _ => ?_) (fun cn => absurd cn (fun q => cr (Nat.mod_eq_zero_of_dvd ((rem0 (by omega) (by omega) (by omega)).mp q))))
          refine lv_iconst (v := 0) hx hb dL_hangs_312 (by decide) ?_
          refine lv_icmp_ne (tgt := 320) hx hb dL_hangs_313 (by decide) (fun cn => absurd (if_neg cr) cn) (fun _ => ?_)
          exact K316 ls (lv_sub hl [0, 1, 2, 3, 4, 5, 6, 7] rfl)
      have hj : j < 24 := by omega
      have hsj := hPm.1 j hj
      have hln := ln_le hPm hj
      have hln1 := ln_pos σ j
      have hlg := ln_lgF σ 24 hj
      have hlg2 := lgF_le hPm 24 (Nat.le_refl 24)
      have hlow := low_le (σ := σ) j
      have hlow2 := low_lt hPm hj
      have hlow3 := low_lt hPm hsj
      have hwh := whF_lt Ho j k
      have hrc := rcF_le σ j
      have hfx := fx_le σ j
      refine lv_iload hx hb dL_hangs_71 (lv_at hl 0 rfl) ?_
      refine lv_bipush (v := 24) hx hb dL_hangs_73 (by decide) ?_
      refine lv_icmp_ge (tgt := 273) hx hb dL_hangs_75 (by decide) (fun cn => absurd cn (k_nge (a := j) (b := 24) (by omega) (by omega) (by omega))) (fun _ => ?_)
      refine lv_iload hx hb dL_hangs_78 (lv_at hl 2 rfl) ?_
      refine lv_if_eq (tgt := 273) hx hb dL_hangs_80 (by decide) (fun cn => absurd cn i10) (fun _ => ?_)
      refine lv_aload_n hx hb dL_hangs_83 rfl (lv_at hl 7 rfl) ?_
      refine lv_iload hx hb dL_hangs_84 (lv_at hl 0 rfl) ?_
      refine lv_iconst (v := 0) hx hb dL_hangs_86 (by decide) ?_
      refine kr_place S hK hO q332 ⟨Nat.le_of_ble_eq_true rfl, Nat.le_of_ble_eq_true rfl⟩ hP rfl hl.1 (Nat.le_of_ble_eq_true rfl) ⟨Nat.le_refl 0, Nat.le_refl 0⟩ dL_hangs_87 (v_place0 hV hj) ?_
      refine lv_istore (lv' := [(8, .int (nI (σ j))), (7, .int (nI j)), (6, .int (nI (TG σ j))), (5, .int 1), (4, .int (nI (fxF σ j))), (3, .int (nI (rcF σ j))), (2, .int (nI (od σ))), (1, .int (nI k)), (0, .ref oqa)]) hx hb dL_hangs_90 hl (by decide) rfl (fun ls hl => ?_)
      refine lv_iload hx hb dL_hangs_92 (lv_at hl 0 rfl) ?_
      refine lv_if_lt (tgt := 199) hx hb dL_hangs_94 (by decide) (fun cn => absurd cn (k_nlt (a := (σ j)) (b := 0) (by omega) (by omega) (by omega))) (fun _ => ?_)
      refine lv_iload hx hb dL_hangs_97 (lv_at hl 0 rfl) ?_
      refine lv_bipush (v := 24) hx hb dL_hangs_99 (by decide) ?_
      refine lv_icmp_ge (tgt := 199) hx hb dL_hangs_101 (by decide) (fun cn => absurd cn (k_nge (a := (σ j)) (b := 24) (by omega) (by omega) (by omega))) (fun _ => ?_)
      refine lv_iload hx hb dL_hangs_104 (lv_at hl 2 rfl) ?_
      refine lv_iload hx hb dL_hangs_106 (lv_at hl 0 rfl) ?_
      refine lv_ishr hx hb dL_hangs_108 ?_
      refine lv_iconst (v := 1) hx hb dL_hangs_109 (by decide) ?_
      refine lv_iand hx hb dL_hangs_110 ?_
      refine lv_if_ne (tgt := 199) hx hb dL_hangs_111 (by decide) (fun cn => absurd (tg0 hV hj) cn) (fun _ => ?_)
      refine lv_aload_n hx hb dL_hangs_114 rfl (lv_at hl 8 rfl) ?_
      refine lv_iload hx hb dL_hangs_115 (lv_at hl 0 rfl) ?_
      refine lv_iconst (v := 1) hx hb dL_hangs_117 (by decide) ?_
      refine kr_place S hK hO q332 ⟨Nat.le_of_ble_eq_true rfl, Nat.le_of_ble_eq_true rfl⟩ hP rfl hl.1 (Nat.le_of_ble_eq_true rfl) ⟨Nat.le_refl 0, Nat.le_refl 0⟩ dL_hangs_118 (v_place1 hV hj) ?_
      refine lv_iload hx hb dL_hangs_121 (lv_at hl 1 rfl) ?_
      refine lv_icmp_ne (tgt := 199) hx hb dL_hangs_123 (by decide) (fun cn => absurd rfl cn) (fun _ => ?_)
      refine lv_iload_n hx hb dL_hangs_126 rfl (lv_at hl 6 rfl) ?_
      refine lv_aload_n hx hb dL_hangs_127 rfl (lv_at hl 8 rfl) ?_
      refine lv_iload hx hb dL_hangs_128 (lv_at hl 1 rfl) ?_
      refine lv_iconst (v := 2) hx hb dL_hangs_130 (by decide) ?_
      refine kr_place S hK hO q332 ⟨Nat.le_of_ble_eq_true rfl, Nat.le_of_ble_eq_true rfl⟩ hP rfl hl.1 (Nat.le_of_ble_eq_true rfl) ⟨Nat.le_refl 0, Nat.le_refl 0⟩ dL_hangs_131 (v_place2 hV hj) ?_
      refine lv_irem hx hb dL_hangs_134 (nI_nz (by omega) (by omega)) ?_
      refine lv_if_ne (tgt := 199) hx hb dL_hangs_135 (by decide) (fun cn => absurd ((rem0 (by omega) (by omega) (by omega)).mpr (od_dvd σ hj)) cn) (fun _ => ?_)
      refine lv_aload_n hx hb dL_hangs_138 rfl (lv_at hl 8 rfl) ?_
      refine lv_iload hx hb dL_hangs_139 (lv_at hl 1 rfl) ?_
      refine lv_iconst (v := 2) hx hb dL_hangs_141 (by decide) ?_
      refine kr_place S hK hO q332 ⟨Nat.le_of_ble_eq_true rfl, Nat.le_of_ble_eq_true rfl⟩ hP rfl hl.1 (Nat.le_of_ble_eq_true rfl) ⟨Nat.le_refl 0, Nat.le_refl 0⟩ dL_hangs_142 (v_place2 hV hj) ?_
      refine lv_aload_n hx hb dL_hangs_145 rfl (lv_at hl 8 rfl) ?_
      refine lv_iconst (v := 3) hx hb dL_hangs_146 (by decide) ?_
      refine kr_move S hK hO q359 ⟨Nat.le_of_ble_eq_true rfl, Nat.le_of_ble_eq_true rfl⟩ hP rfl hl.1 (Nat.le_of_ble_eq_true rfl) ⟨Nat.le_refl 0, Nat.le_refl 0⟩ dL_hangs_147 (v_move3 hV) ?_
      refine lv_icmp_gt (tgt := 199) hx hb dL_hangs_150 (by decide) (fun cn => absurd cn (k_nlt (a := (lgF σ 24)) (b := (ln σ j)) (by omega) (by omega) (by omega))) (fun _ => ?_)
      refine lv_aload_n hx hb dL_hangs_153 rfl (lv_at hl 8 rfl) ?_
      refine lv_iload hx hb dL_hangs_154 (lv_at hl 1 rfl) ?_
      refine lv_iconst (v := 3) hx hb dL_hangs_156 (by decide) ?_
      refine kr_place S hK hO q332 ⟨Nat.le_of_ble_eq_true rfl, Nat.le_of_ble_eq_true rfl⟩ hP rfl hl.1 (Nat.le_of_ble_eq_true rfl) ⟨Nat.le_refl 0, Nat.le_refl 0⟩ dL_hangs_157 (v_place3 hV hj) ?_
      refine lv_iload hx hb dL_hangs_160 (lv_at hl 1 rfl) ?_
      refine lv_icmp_gt (tgt := 199) hx hb dL_hangs_162 (by decide) (fun cn => absurd cn (k_nlt (a := j) (b := (low σ j)) (by omega) (by omega) (by omega))) (fun _ => ?_)
      refine lv_aload_n hx hb dL_hangs_165 rfl (lv_at hl 8 rfl) ?_
      refine lv_iload hx hb dL_hangs_166 (lv_at hl 0 rfl) ?_
      refine lv_iconst (v := 3) hx hb dL_hangs_168 (by decide) ?_
      refine kr_place S hK hO q332 ⟨Nat.le_of_ble_eq_true rfl, Nat.le_of_ble_eq_true rfl⟩ hP rfl hl.1 (Nat.le_of_ble_eq_true rfl) ⟨Nat.le_refl 0, Nat.le_refl 0⟩ dL_hangs_169 (v_place3 hV hsj) ?_
      refine lv_aload_n hx hb dL_hangs_172 rfl (lv_at hl 8 rfl) ?_
      refine lv_iload hx hb dL_hangs_173 (lv_at hl 1 rfl) ?_
      refine lv_iconst (v := 3) hx hb dL_hangs_175 (by decide) ?_
      refine kr_place S hK hO q332 ⟨Nat.le_of_ble_eq_true rfl, Nat.le_of_ble_eq_true rfl⟩ hP rfl hl.1 (Nat.le_of_ble_eq_true rfl) ⟨Nat.le_refl 0, Nat.le_refl 0⟩ dL_hangs_176 (v_place3 hV hj) ?_
      refine lv_icmp_ne (tgt := 199) hx hb dL_hangs_179 (by decide) (fun cn => absurd (by rw [low_step hPm hj]) cn) (fun _ => ?_)
      refine lv_aload_n hx hb dL_hangs_182 rfl (lv_at hl 8 rfl) ?_
      refine lv_iload hx hb dL_hangs_183 (lv_at hl 1 rfl) ?_
      refine lv_iconst (v := 4) hx hb dL_hangs_185 (by decide) ?_
      refine kr_place S hK hO q332 ⟨Nat.le_of_ble_eq_true rfl, Nat.le_of_ble_eq_true rfl⟩ hP rfl hl.1 (Nat.le_of_ble_eq_true rfl) ⟨Nat.le_refl 0, Nat.le_refl 0⟩ dL_hangs_186 (v_place4 hV hj) ?_
      refine lv_iconst (v := 1) hx hb dL_hangs_189 (by decide) ?_
      refine lv_iload_n hx hb dL_hangs_190 rfl (lv_at hl 7 rfl) ?_
      refine lv_ishl hx hb dL_hangs_191 ?_
      refine lv_re (y := nI (2 ^ k)) (z_one (by omega)) ?_
      refine lv_icmp_ge (tgt := 199) hx hb dL_hangs_192 (by decide) (fun cn => absurd cn (k_nge (a := (whF Ho j k)) (b := (2 ^ k)) (by omega) (by omega) (by omega))) (fun _ => ?_)
      refine lv_iconst (v := 1) hx hb dL_hangs_195 (by decide) ?_
      refine lv_goto (tgt := 200) hx hb dL_hangs_196 (by decide) ?_
      refine lv_istore (lv' := [(5, .int 1), (8, .int (nI (σ j))), (7, .int (nI j)), (6, .int (nI (TG σ j))), (4, .int (nI (fxF σ j))), (3, .int (nI (rcF σ j))), (2, .int (nI (od σ))), (1, .int (nI k)), (0, .ref oqa)]) hx hb dL_hangs_200 hl (by decide) rfl (fun ls hl => ?_)
      refine lv_iload hx hb dL_hangs_202 (lv_at hl 3 rfl) ?_
      refine lv_iload hx hb dL_hangs_204 (lv_at hl 0 rfl) ?_
      refine lv_if_eq (tgt := 216) hx hb dL_hangs_206 (by decide) (fun cn => absurd cn i10) (fun _ => ?_)
      refine lv_iconst (v := 1) hx hb dL_hangs_209 (by decide) ?_
      refine lv_iload hx hb dL_hangs_210 (lv_at hl 1 rfl) ?_
      refine lv_ishl hx hb dL_hangs_212 ?_
      refine lv_goto (tgt := 217) hx hb dL_hangs_213 (by decide) ?_
      refine lv_ior hx hb dL_hangs_217 ?_
      refine lv_re (y := nI (TG σ (j + 1))) (tgs hV hj) ?_
      refine lv_istore (lv' := [(6, .int (nI (TG σ (j + 1)))), (5, .int 1), (8, .int (nI (σ j))), (7, .int (nI j)), (4, .int (nI (fxF σ j))), (3, .int (nI (rcF σ j))), (2, .int (nI (od σ))), (1, .int (nI k)), (0, .ref oqa)]) hx hb dL_hangs_218 hl (by decide) rfl (fun ls hl => ?_)
      refine lv_iload_n hx hb dL_hangs_220 rfl (lv_at hl 5 rfl) ?_
      refine lv_iload hx hb dL_hangs_221 (lv_at hl 1 rfl) ?_
      refine lv_if_eq (tgt := 242) hx hb dL_hangs_223 (by decide) (fun cn => absurd cn i10) (fun _ => ?_)
      have K245 : ∀ ls : Array Slot, lv_has ls 19 [(3, .int (nI (rcF σ (j + 1)))), (6, .int (nI (TG σ (j + 1)))), (5, .int 1), (8, .int (nI (σ j))), (7, .int (nI j)), (4, .int (nI (fxF σ j))), (2, .int (nI (od σ))), (1, .int (nI k)), (0, .ref oqa)] → W p l e (rmk 6 141) s m ([.ref oqa] : List Value).toArray below meth c s.heap [] 0 0 (MQ below (vp_Si (fun x => x = 1)) ([.ref oqa] : List Value).toArray s 0 0 (fun _ => False)) (F0 m 245 ls []) := by
        intro ls hl
        refine lv_iload hx hb dL_hangs_245 (lv_at hl 5 rfl) ?_
        refine lv_iload hx hb dL_hangs_247 (lv_at hl 2 rfl) ?_
        refine lv_if_eq (tgt := 263) hx hb dL_hangs_249 (by decide) (fun cn => absurd cn i10) (fun _ => ?_)
        have K267 : ∀ ls : Array Slot, lv_has ls 19 [(4, .int (nI (fxF σ (j + 1)))), (3, .int (nI (rcF σ (j + 1)))), (6, .int (nI (TG σ (j + 1)))), (5, .int 1), (8, .int (nI (σ j))), (7, .int (nI j)), (2, .int (nI (od σ))), (1, .int (nI k)), (0, .ref oqa)] → W p l e (rmk 6 141) s m ([.ref oqa] : List Value).toArray below meth c s.heap [] 0 0 (MQ below (vp_Si (fun x => x = 1)) ([.ref oqa] : List Value).toArray s 0 0 (fun _ => False)) (F0 m 267 ls []) := by
          intro ls hl
          refine lv_iinc (v := nI (j + 1)) (lv' := [(7, .int (nI (j + 1))), (4, .int (nI (fxF σ (j + 1)))), (3, .int (nI (rcF σ (j + 1)))), (6, .int (nI (TG σ (j + 1)))), (5, .int 1), (8, .int (nI (σ j))), (2, .int (nI (od σ))), (1, .int (nI k)), (0, .ref oqa)]) hx hb dL_hangs_267 hl (k := 5) rfl (nI_1 j) (by decide) rfl (fun ls hl => ?_)
          refine lv_goto (tgt := 71) hx hb dL_hangs_270 (by decide) ?_
          exact ih (j + 1) (by omega) (by omega) ls (lv_sub hl [0, 3, 4, 1, 2, 6, 7, 8] rfl)
        by_cases cf : σ j = j
        · skip
          refine lv_iload hx hb dL_hangs_252 (lv_at hl 3 rfl) ?_
          refine lv_iload hx hb dL_hangs_254 (lv_at hl 4 rfl) ?_
          refine lv_icmp_ne (tgt := 263) hx hb dL_hangs_256 (by decide) (fun cn => absurd (congrArg nI cf) cn) (fun _ => ?_)
          refine lv_iconst (v := 1) hx hb dL_hangs_259 (by decide) ?_
          refine lv_goto (tgt := 264) hx hb dL_hangs_260 (by decide) ?_
          refine lv_iadd hx hb dL_hangs_264 ?_
          refine lv_re (y := nI (fxF σ (j + 1))) (fxs1 cf) ?_
          refine lv_istore (lv' := [(4, .int (nI (fxF σ (j + 1)))), (3, .int (nI (rcF σ (j + 1)))), (6, .int (nI (TG σ (j + 1)))), (5, .int 1), (8, .int (nI (σ j))), (7, .int (nI j)), (2, .int (nI (od σ))), (1, .int (nI k)), (0, .ref oqa)]) hx hb dL_hangs_265 hl (by decide) rfl (fun ls hl => ?_)
          exact K267 ls (lv_sub hl [0, 1, 2, 3, 4, 5, 6, 7, 8] rfl)
        · skip
          refine lv_iload hx hb dL_hangs_252 (lv_at hl 3 rfl) ?_
          refine lv_iload hx hb dL_hangs_254 (lv_at hl 4 rfl) ?_
          refine lv_icmp_ne (tgt := 263) hx hb dL_hangs_256 (by decide) (fun _ => ?_) (fun cn => absurd cn (k_ne (by omega) (by omega) cf))
          refine lv_iconst (v := 0) hx hb dL_hangs_263 (by decide) ?_
          refine lv_iadd hx hb dL_hangs_264 ?_
          refine lv_re (y := nI (fxF σ (j + 1))) (fxs0 cf) ?_
          refine lv_istore (lv' := [(4, .int (nI (fxF σ (j + 1)))), (3, .int (nI (rcF σ (j + 1)))), (6, .int (nI (TG σ (j + 1)))), (5, .int 1), (8, .int (nI (σ j))), (7, .int (nI j)), (2, .int (nI (od σ))), (1, .int (nI k)), (0, .ref oqa)]) hx hb dL_hangs_265 hl (by decide) rfl (fun ls hl => ?_)
          exact K267 ls (lv_sub hl [0, 1, 2, 3, 4, 5, 6, 7, 8] rfl)
      by_cases cl : low σ j = j
      · skip
        refine lv_aload_n hx hb dL_hangs_226 rfl (lv_at hl 8 rfl) ?_
        refine lv_iload hx hb dL_hangs_227 (lv_at hl 3 rfl) ?_
        refine lv_iconst (v := 3) hx hb dL_hangs_229 (by decide) ?_
        refine kr_place S hK hO q332 ⟨Nat.le_of_ble_eq_true rfl, Nat.le_of_ble_eq_true rfl⟩ hP rfl hl.1 (Nat.le_of_ble_eq_true rfl) ⟨Nat.le_refl 0, Nat.le_refl 0⟩ dL_hangs_230 (v_place3 hV hj) ?_
        refine lv_iload hx hb dL_hangs_233 (lv_at hl 3 rfl) ?_
        refine lv_icmp_ne (tgt := 242) hx hb dL_hangs_235 (by decide) (fun cn => absurd (congrArg nI cl) cn) (fun _ => ?_)
        refine lv_iconst (v := 1) hx hb dL_hangs_238 (by decide) ?_
        refine lv_goto (tgt := 243) hx hb dL_hangs_239 (by decide) ?_
        refine lv_iadd hx hb dL_hangs_243 ?_
        refine lv_re (y := nI (rcF σ (j + 1))) (rcs1 hPm hj cl) ?_
        refine lv_istore_n (lv' := [(3, .int (nI (rcF σ (j + 1)))), (6, .int (nI (TG σ (j + 1)))), (5, .int 1), (8, .int (nI (σ j))), (7, .int (nI j)), (4, .int (nI (fxF σ j))), (2, .int (nI (od σ))), (1, .int (nI k)), (0, .ref oqa)]) hx hb dL_hangs_244 rfl hl (by decide) rfl (fun ls hl => ?_)
        exact K245 ls (lv_sub hl [0, 1, 2, 3, 4, 5, 6, 7, 8] rfl)
      · skip
        refine lv_aload_n hx hb dL_hangs_226 rfl (lv_at hl 8 rfl) ?_
        refine lv_iload hx hb dL_hangs_227 (lv_at hl 3 rfl) ?_
        refine lv_iconst (v := 3) hx hb dL_hangs_229 (by decide) ?_
        refine kr_place S hK hO q332 ⟨Nat.le_of_ble_eq_true rfl, Nat.le_of_ble_eq_true rfl⟩ hP rfl hl.1 (Nat.le_of_ble_eq_true rfl) ⟨Nat.le_refl 0, Nat.le_refl 0⟩ dL_hangs_230 (v_place3 hV hj) ?_
        refine lv_iload hx hb dL_hangs_233 (lv_at hl 3 rfl) ?_
        refine lv_icmp_ne (tgt := 242) hx hb dL_hangs_235 (by decide) (fun _ => ?_) (fun cn => absurd cn (k_ne (by omega) (by omega) cl))
        refine lv_iconst (v := 0) hx hb dL_hangs_242 (by decide) ?_
        refine lv_iadd hx hb dL_hangs_243 ?_
        refine lv_re (y := nI (rcF σ (j + 1))) (rcs0 hPm hj cl) ?_
        refine lv_istore_n (lv' := [(3, .int (nI (rcF σ (j + 1)))), (6, .int (nI (TG σ (j + 1)))), (5, .int 1), (8, .int (nI (σ j))), (7, .int (nI j)), (4, .int (nI (fxF σ j))), (2, .int (nI (od σ))), (1, .int (nI k)), (0, .ref oqa)]) hx hb dL_hangs_244 rfl hl (by decide) rfl (fun ls hl => ?_)
        exact K245 ls (lv_sub hl [0, 1, 2, 3, 4, 5, 6, 7, 8] rfl)
  refine lv_aload_n hx hb dL_hangs_0 rfl (lv_at hl 0 rfl) ?_
  refine lv_iconst (v := 0) hx hb dL_hangs_1 (by decide) ?_
  refine kr_count S hK hO q399 ⟨Nat.le_of_ble_eq_true rfl, Nat.le_of_ble_eq_true rfl⟩ hP rfl hl.1 (Nat.le_of_ble_eq_true rfl) ⟨Nat.le_refl 0, Nat.le_refl 0⟩ dL_hangs_2 (v_count0 hV _ _) ?_
  refine lv_istore_n (lv' := [(1, .int (nI k)), (0, .ref oqa)]) hx hb dL_hangs_5 rfl hl (by decide) rfl (fun ls hl => ?_)
  refine lv_aload_n hx hb dL_hangs_6 rfl (lv_at hl 1 rfl) ?_
  refine lv_iconst (v := 0) hx hb dL_hangs_7 (by decide) ?_
  refine kr_move S hK hO q359 ⟨Nat.le_of_ble_eq_true rfl, Nat.le_of_ble_eq_true rfl⟩ hP rfl hl.1 (Nat.le_of_ble_eq_true rfl) ⟨Nat.le_refl 0, Nat.le_refl 0⟩ dL_hangs_8 (v_move0 hV) ?_
  refine lv_istore_n (lv' := [(2, .int (nI (od σ))), (1, .int (nI k)), (0, .ref oqa)]) hx hb dL_hangs_11 rfl hl (by decide) rfl (fun ls hl => ?_)
  refine lv_iconst (v := 0) hx hb dL_hangs_12 (by decide) ?_
  refine lv_istore_n (lv' := [(3, .int 0), (2, .int (nI (od σ))), (1, .int (nI k)), (0, .ref oqa)]) hx hb dL_hangs_13 rfl hl (by decide) rfl (fun ls hl => ?_)
  refine lv_iconst (v := 0) hx hb dL_hangs_14 (by decide) ?_
  refine lv_istore (lv' := [(4, .int 0), (3, .int 0), (2, .int (nI (od σ))), (1, .int (nI k)), (0, .ref oqa)]) hx hb dL_hangs_15 hl (by decide) rfl (fun ls hl => ?_)
  refine lv_iload_n hx hb dL_hangs_17 rfl (lv_at hl 3 rfl) ?_
  refine lv_if_lt (tgt := 62) hx hb dL_hangs_18 (by decide) (fun cn => absurd cn (k_nlt (a := k) (b := 0) (by omega) (by omega) (by omega))) (fun _ => ?_)
  refine lv_iload_n hx hb dL_hangs_21 rfl (lv_at hl 3 rfl) ?_
  refine lv_bipush (v := 12) hx hb dL_hangs_22 (by decide) ?_
  refine lv_icmp_gt (tgt := 62) hx hb dL_hangs_24 (by decide) (fun cn => absurd cn (k_nlt (a := 12) (b := k) (by omega) (by omega) (by omega))) (fun _ => ?_)
  refine lv_iload_n hx hb dL_hangs_27 rfl (lv_at hl 2 rfl) ?_
  refine lv_iconst (v := 1) hx hb dL_hangs_28 (by decide) ?_
  refine lv_icmp_lt (tgt := 62) hx hb dL_hangs_29 (by decide) (fun cn => absurd cn (k_nlt (a := (od σ)) (b := 1) (by omega) (by omega) (by omega))) (fun _ => ?_)
  refine lv_iload_n hx hb dL_hangs_32 rfl (lv_at hl 2 rfl) ?_
  refine lv_sipush (v := 840) hx hb dL_hangs_33 (by decide) ?_
  refine lv_icmp_gt (tgt := 62) hx hb dL_hangs_36 (by decide) (fun cn => absurd cn (k_nlt (a := 840) (b := (od σ)) (by omega) (by omega) (by omega))) (fun _ => ?_)
  refine lv_aload_n hx hb dL_hangs_39 rfl (lv_at hl 4 rfl) ?_
  refine lv_iconst (v := 1) hx hb dL_hangs_40 (by decide) ?_
  refine kr_move S hK hO q359 ⟨Nat.le_of_ble_eq_true rfl, Nat.le_of_ble_eq_true rfl⟩ hP rfl hl.1 (Nat.le_of_ble_eq_true rfl) ⟨Nat.le_refl 0, Nat.le_refl 0⟩ dL_hangs_41 (v_move1 hV) ?_
  refine lv_iconst (v := 1) hx hb dL_hangs_44 (by decide) ?_
  refine lv_icmp_lt (tgt := 62) hx hb dL_hangs_45 (by decide) (fun cn => absurd cn (k_nlt (a := (rcF σ 24)) (b := 1) (by omega) (by omega) (by omega))) (fun _ => ?_)
  refine lv_aload_n hx hb dL_hangs_48 rfl (lv_at hl 4 rfl) ?_
  refine lv_iconst (v := 1) hx hb dL_hangs_49 (by decide) ?_
  refine kr_move S hK hO q359 ⟨Nat.le_of_ble_eq_true rfl, Nat.le_of_ble_eq_true rfl⟩ hP rfl hl.1 (Nat.le_of_ble_eq_true rfl) ⟨Nat.le_refl 0, Nat.le_refl 0⟩ dL_hangs_50 (v_move1 hV) ?_
  refine lv_bipush (v := 24) hx hb dL_hangs_53 (by decide) ?_
  refine lv_icmp_gt (tgt := 62) hx hb dL_hangs_55 (by decide) (fun cn => absurd cn (k_nlt (a := 24) (b := (rcF σ 24)) (by omega) (by omega) (by omega))) (fun _ => ?_)
  refine lv_iconst (v := 1) hx hb dL_hangs_58 (by decide) ?_
  refine lv_goto (tgt := 63) hx hb dL_hangs_59 (by decide) ?_
  refine lv_istore (lv' := [(5, .int 1), (4, .int 0), (3, .int 0), (2, .int (nI (od σ))), (1, .int (nI k)), (0, .ref oqa)]) hx hb dL_hangs_63 hl (by decide) rfl (fun ls hl => ?_)
  refine lv_iconst (v := 0) hx hb dL_hangs_65 (by decide) ?_
  refine lv_istore (lv' := [(6, .int 0), (5, .int 1), (4, .int 0), (3, .int 0), (2, .int (nI (od σ))), (1, .int (nI k)), (0, .ref oqa)]) hx hb dL_hangs_66 hl (by decide) rfl (fun ls hl => ?_)
  refine lv_iconst (v := 0) hx hb dL_hangs_68 (by decide) ?_
  refine lv_istore (lv' := [(7, .int 0), (6, .int 0), (5, .int 1), (4, .int 0), (3, .int 0), (2, .int (nI (od σ))), (1, .int (nI k)), (0, .ref oqa)]) hx hb dL_hangs_69 hl (by decide) rfl (fun ls hl => ?_)
  exact L71 25 0 (by omega) (by omega) ls (lv_sub hl [0, 1, 2, 3, 4, 5, 6, 7] rfl)
