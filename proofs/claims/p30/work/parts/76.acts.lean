/-! what the law does with an object, step by step, on its state -/
def A_lp (y : Int32) : Nat → Int32 → Int32 → Int32 → MT → Option (Int32 × MT)
  | 0, _, _, _, _ => none
  | n + 1, len, at_, kx, M => if (2 : Int32) + ((y / 32) - (y / 32) / 4 * 4) ≤ kx then Option.bind (k_type 41 M) (fun r => if r.1 < 1 then some (-9, r.2) else k_readMove r.2)
    else Option.bind (k_type (if kx = 0 then 40 else 44) M) (fun r1 => Option.bind (if at_ ≤ 9 then some r1 else k_type ((((48 : Int32) + (at_ / 10)).toUInt32 % 65536).toInt32) r1.2) (fun r2 => Option.bind (k_type ((((48 : Int32) + (at_ - at_ / 10 * 10)).toUInt32 % 65536).toInt32) r2.2) (fun r3 => A_lp y n r3.1 (((at_ + 1) + ((y / 128) - (y / 128) / 5 * 5)) - ((at_ + 1) + ((y / 128) - (y / 128) / 5 * 5)) / 24 * 24) (kx + 1) r3.2)))
def A_at (i : Nat) (y t : Int32) (M : MT) : Option (Int32 × MT) :=
  if i < 3 then k_sell (y &&& 16777215) M
  else if i < 5 then k_exchange (y - y / 24 * 24) ((y / 32) - (y / 32) / 24 * 24) M
  else if i < 6 then k_reverse M
  else if i < 9 then k_punch t ((y / 16) - (y / 16) / 24 * 24) M
  else if i < 13 then (if (y / 512) - (y / 512) / 2 * 2 = 0 then k_forge t ((y / 16) - (y / 16) / 24 * 24) 1 M else k_forge t ((y / 16) - (y / 16) / 24 * 24) 0 M)
  else if i < 15 then k_mend t M
  else if i < 19 then k_turn t (((y / 16) - (y / 16) / 19999 * 19999) - 9999) M
  else if i < 22 then (if (y / 16) - (y / 16) / 3 * 3 ≤ 0 then k_stack t 0 M else k_stack t 1 M)
  else if i < 24 then k_turnStack ((y - y / 61 * 61) - 30) M
  else if i < 25 then k_keep M
  else if i < 26 then k_restore M
  else if i < 28 then k_undo M
  else Option.bind (k_clearText M) (fun r => A_lp y 10 r.1 (y - y / 24 * 24) 0 r.2)
def A_acts (cN k : Nat) (M : MT) : Option (Int32 × MT) := A_at (if k < 2 then 0 else cN % 32) (nI cN / 32) (if k < 1 then 0 else (nI cN / 32) - (nI cN / 32) / (nI k) * (nI k)) M
theorem ch_idem (a : Int32) : (((a.toUInt32 % 65536).toInt32).toUInt32 % 65536).toInt32 = (a.toUInt32 % 65536).toInt32 := by
  apply Int32.toBitVec_inj.mp
  show (a.toBitVec % 65536#32) % 65536#32 = a.toBitVec % 65536#32
  apply BitVec.eq_of_toNat_eq
  rw [BitVec.toNat_umod, BitVec.toNat_umod]
  exact Nat.mod_mod _ _
theorem R4le {cN : Nat} (hcN : cN < 2 ^ 31) (kx : Nat) (h : 4 < kx) (h6 : kx ≤ 6) : (2 : Int32) + ((nI cN / 32) / 32 - (nI cN / 32) / 32 / 4 * 4) ≤ nI kx := by
  have e1 : nI cN / 32 = nI (cN / 32) := pk_div (d := 32) hcN (by omega) (by omega)
  have e2 : nI (cN / 32) / 32 = nI (cN / 32 / 32) := pk_div (d := 32) (by omega) (by omega) (by omega)
  have e3 : nI (cN / 32 / 32) - nI (cN / 32 / 32) / 4 * 4 = nI (cN / 32 / 32 % 4) := pk_rem (d := 4) (by omega) (by omega) (by omega)
  rw [e1, e2, e3, show (2 : Int32) + nI (cN / 32 / 32 % 4) = nI (2 + cN / 32 / 32 % 4) from nI_add 2 _]
  exact k_ge (by omega) (by omega) (by omega)
set_option maxHeartbeats 8000000 in
set_option maxRecDepth 100000 in
theorem c_L_acts (l : Launch) (G : gG) {oqa c0 : Nat} {M : MT} {L : List va_W} (hO : Obj G oqa c0 M L) (hcb : c0 < 9000000) {cN : Nat} (hcN : cN < 2 ^ 31) (sz : Nat) : ObM l G yL_acts cL_acts 8 .int (rmk 7 160) L sz [.ref oqa, .int (nI cN)] (fun r L2 => ∃ k2 M2, k2 ≤ 12 ∧ M.2.2.2.2.2.2.2.2.2.1 24 = nI k2 ∧ A_acts cN k2 M = some (r, M2) ∧ Obj G oqa (c0 + 1000) M2 L2) := by
  obtain ⟨σ, k, Ho, Du, ms, hV⟩ := VR_of hO
  obtain ⟨hPm, hMv, ⟨hk12, h24⟩, hHo, hDu, hms, h49⟩ := id hV
  obtain ⟨t, ht⟩ : ∃ t : Int32, t = if k < 1 then 0 else (nI cN / 32) - (nI cN / 32) / (nI k) * (nI k) := ⟨_, rfl⟩
  have ht1 : k < 1 → 0 = t := fun h => by rw [ht, if_pos h]
  have ht2 : ¬ k < 1 → (nI cN / 32) - (nI cN / 32) / (nI k) * (nI k) = t := fun h => by rw [ht, if_neg h]
  obtain ⟨i, hi⟩ : ∃ i, i = if k < 2 then 0 else cN % 32 := ⟨_, rfl⟩
  have hi1 : k < 2 → 0 = nI i := fun h => by rw [hi, if_pos h]; rfl
  have hi2 : ¬ k < 2 → nI cN - nI cN / 32 * 32 = nI i := fun h => by rw [hi, if_neg h]; exact pk_rem (d := 32) hcN (by omega) (by omega)
  have hi32 : i < 32 := by
    rw [hi]
    split
    · omega
    · exact Nat.mod_lt _ (by omega)
  have hat : A_acts cN k M = A_at i (nI cN / 32) t M := by
    unfold A_acts
    rw [← ht, ← hi]
  refine ofOb (by decide) (Nat.le_of_ble_eq_true rfl) ?_
  intro p e s m below meth c ls A S hr hlk hK hP hD hS hA hl
  have S : CallFix p m c cL_acts 8 s ([.ref oqa, .int (nI cN)] : List Value).toArray T0 RL := S
  obtain ⟨hx, hb, hml, hown, hts⟩ := id S
  have hl : lv_has ls 8 [(0, .ref oqa), (1, .int (nI cN))] := hl
  obtain ⟨H, hH⟩ : ∃ H, H = s.heap := ⟨_, rfl⟩
  obtain ⟨locs, hlo⟩ : ∃ locs : List Loc, locs = [] := ⟨_, rfl⟩
  rw [← hH] at hP
  have hS : va_S A s.heap H locs := by rw [hH, hlo]; exact hS
  rw [show W p l e (rmk 7 160) s m ([.ref oqa, .int (nI cN)] : List Value).toArray below meth c s.heap [] 0 0 (MQ below (gQo G (fun r L2 => ∃ k2 M2, k2 ≤ 12 ∧ M.2.2.2.2.2.2.2.2.2.1 24 = nI k2 ∧ A_acts cN k2 M = some (r, M2) ∧ Obj G oqa (c0 + 1000) M2 L2) A) ([.ref oqa, .int (nI cN)] : List Value).toArray s 0 0 A) (F0 m 0 ls []) = W p l e (rmk 7 160) s m ([.ref oqa, .int (nI cN)] : List Value).toArray below meth c H locs 0 0 (MQ below (gQo G (fun r L2 => ∃ k2 M2, k2 ≤ 12 ∧ M.2.2.2.2.2.2.2.2.2.1 24 = nI k2 ∧ A_acts cN k2 M = some (r, M2) ∧ Obj G oqa (c0 + 1000) M2 L2) A) ([.ref oqa, .int (nI cN)] : List Value).toArray s 0 0 A) (F0 m 0 ls []) by rw [hH, hlo]]
  have L326 : ∀ (n kx : Nat) (len at_ : Int32) (M1 : MT) (ci : Nat) (L1 : List va_W) (H : Heap) (locs : List Loc), kx ≤ 6 → 7 - kx < n → ci ≤ c0 + 10 + 4 * kx → Obj G oqa ci M1 L1 → bP G (L1 ++ []) H → bD A (L1 ++ []) → va_S A s.heap H locs → (∀ (r : Int32) (M2 : MT), A_lp (nI cN / 32) n len at_ (nI kx) M1 = some (r, M2) → A_acts cN k M = some (r, M2)) → ∀ ls : Array Slot, lv_has ls 8 [(7, .int (nI kx)), (6, .int at_), (5, .int len), (2, .int (nI cN / 32)), (0, .ref oqa)] → W p l e (rmk 7 160) s m ([.ref oqa, .int (nI cN)] : List Value).toArray below meth c H locs 0 0 (MQ below (gQo G (fun r L2 => ∃ k2 M2, k2 ≤ 12 ∧ M.2.2.2.2.2.2.2.2.2.1 24 = nI k2 ∧ A_acts cN k2 M = some (r, M2) ∧ Obj G oqa (c0 + 1000) M2 L2) A) ([.ref oqa, .int (nI cN)] : List Value).toArray s 0 0 A) (F0 m 326 ls []) := by
    intro n
    induction n with
    | zero => intro kx len at_ M1 ci L1 H locs _ h; omega
    | succ n ih =>
      intro kx len at_ M1 ci L1 H locs hk6 hn hci hO hP hD hS hfin ls hl
      rw [A_lp] at hfin
      by_cases cx : (2 : Int32) + ((nI cN / 32) / 32 - (nI cN / 32) / 32 / 4 * 4) ≤ nI kx
      · rw [if_pos cx] at hfin
        refine lv_iload hx hb dL_acts_326 (lv_at hl 0 rfl) ?_
        refine lv_iconst (v := 2) hx hb dL_acts_328 (by decide) ?_
        refine lv_iload_n hx hb dL_acts_329 rfl (lv_at hl 3 rfl) ?_
        refine lv_bipush (v := 32) hx hb dL_acts_330 (by decide) ?_
        refine lv_idiv hx hb dL_acts_332 (by decide) ?_
        refine lv_iconst (v := 4) hx hb dL_acts_333 (by decide) ?_
        refine lv_irem hx hb dL_acts_334 (by decide) ?_
        refine lv_iadd hx hb dL_acts_335 ?_
        refine lv_icmp_ge (tgt := 422) hx hb dL_acts_336 (by decide) (fun _ => ?_) (fun cn => absurd cx cn)
        refine lv_aload_n hx hb dL_acts_422 rfl (lv_at hl 4 rfl) ?_
        refine lv_bipush (v := 41) hx hb dL_acts_423 (by decide) ?_
        refine cl_type S hK hO (by omega) (by decide) q528 ⟨Nat.le_of_ble_eq_true rfl, Nat.le_of_ble_eq_true rfl⟩ hP hD hS hA rfl hl.1 (Nat.le_of_ble_eq_true rfl) ⟨Nat.le_refl 0, Nat.le_refl 0⟩ dL_acts_425 (fun r1 M1 L1 H locs h1 hO hP hD hS => ?_)
        refine lv_istore (lv' := [(5, .int r1), (7, .int (nI kx)), (6, .int at_), (2, .int (nI cN / 32)), (0, .ref oqa)]) hx hb dL_acts_428 hl (by decide) rfl (fun ls hl => ?_)
        by_cases cl : r1 < 1
        · skip
          refine lv_iload hx hb dL_acts_430 (lv_at hl 0 rfl) ?_
          refine lv_iconst (v := 1) hx hb dL_acts_432 (by decide) ?_
          refine lv_icmp_ge (tgt := 441) hx hb dL_acts_433 (by decide) (fun cn => absurd cn (fa_of_lt cl).2.1) (fun _ => ?_)
          refine lv_bipush (v := (-9)) hx hb dL_acts_436 (by decide) ?_
          refine lv_goto (tgt := 445) hx hb dL_acts_438 (by decide) ?_
          exact retO S hr hlk rfl ⟨k, _, hk12, h24, hfin _ _ (by rw [h1]; show (if r1 < 1 then some (-9, M1) else k_readMove M1) = _; rw [if_pos cl]), hO.mono (by omega)⟩ hP.left (bD_app.mp hD).1 hS dL_acts_445
        · skip
          refine lv_iload hx hb dL_acts_430 (lv_at hl 0 rfl) ?_
          refine lv_iconst (v := 1) hx hb dL_acts_432 (by decide) ?_
          refine lv_icmp_ge (tgt := 441) hx hb dL_acts_433 (by decide) (fun _ => ?_) (fun cn => absurd (fa_of_nlt cl) cn)
          refine lv_aload_n hx hb dL_acts_441 rfl (lv_at hl 4 rfl) ?_
          refine cl_readMove S hK hO (by omega) q151 ⟨Nat.le_of_ble_eq_true rfl, Nat.le_of_ble_eq_true rfl⟩ hP hD hS hA rfl hl.1 (Nat.le_of_ble_eq_true rfl) ⟨Nat.le_refl 0, Nat.le_refl 0⟩ dL_acts_442 (fun r2 M2 L1 H locs h2 hO hP hD hS => ?_)
          exact retO S hr hlk rfl ⟨k, _, hk12, h24, hfin _ _ (by rw [h1]; show (if r1 < 1 then some (-9, M1) else k_readMove M1) = _; rw [if_neg cl]; exact h2), hO.mono (by omega)⟩ hP.left (bD_app.mp hD).1 hS dL_acts_445
      have hkx : kx ≤ 4 := by
        rcases Nat.lt_or_ge 4 kx with g | g
        · exact absurd (R4le hcN kx g hk6) cx
        · exact g
      rw [if_neg cx] at hfin
      by_cases c0_ : nI kx = 0
      · rw [if_pos c0_] at hfin
        by_cases c9_ : at_ ≤ 9
        · skip
          refine lv_iload hx hb dL_acts_326 (lv_at hl 0 rfl) ?_
          refine lv_iconst (v := 2) hx hb dL_acts_328 (by decide) ?_
          refine lv_iload_n hx hb dL_acts_329 rfl (lv_at hl 3 rfl) ?_
          refine lv_bipush (v := 32) hx hb dL_acts_330 (by decide) ?_
          refine lv_idiv hx hb dL_acts_332 (by decide) ?_
          refine lv_iconst (v := 4) hx hb dL_acts_333 (by decide) ?_
          refine lv_irem hx hb dL_acts_334 (by decide) ?_
          refine lv_iadd hx hb dL_acts_335 ?_
          refine lv_icmp_ge (tgt := 422) hx hb dL_acts_336 (by decide) (fun cn => absurd cn cx) (fun _ => ?_)
          refine lv_aload_n hx hb dL_acts_339 rfl (lv_at hl 4 rfl) ?_
          refine lv_iload hx hb dL_acts_340 (lv_at hl 0 rfl) ?_
          refine lv_if_ne (tgt := 350) hx hb dL_acts_342 (by decide) (fun cn => absurd c0_ cn) (fun _ => ?_)
          refine lv_bipush (v := 40) hx hb dL_acts_345 (by decide) ?_
          refine lv_goto (tgt := 352) hx hb dL_acts_347 (by decide) ?_
          refine cl_type S hK hO (by omega) (by decide) q528 ⟨Nat.le_of_ble_eq_true rfl, Nat.le_of_ble_eq_true rfl⟩ hP hD hS hA rfl hl.1 (Nat.le_of_ble_eq_true rfl) ⟨Nat.le_refl 0, Nat.le_refl 0⟩ dL_acts_352 (fun r11 M11 L1 H locs h11 hO hP hD hS => ?_)
          refine lv_istore (lv' := [(5, .int r11), (7, .int (nI kx)), (6, .int at_), (2, .int (nI cN / 32)), (0, .ref oqa)]) hx hb dL_acts_355 hl (by decide) rfl (fun ls hl => ?_)
          refine lv_iload hx hb dL_acts_357 (lv_at hl 2 rfl) ?_
          refine lv_bipush (v := 9) hx hb dL_acts_359 (by decide) ?_
          refine lv_icmp_le (tgt := 380) hx hb dL_acts_361 (by decide) (fun _ => ?_) (fun cn => absurd c9_ cn)
          refine lv_iload hx hb dL_acts_380 (lv_at hl 0 rfl) ?_
          refine lv_istore (lv' := [(5, .int r11), (7, .int (nI kx)), (6, .int at_), (2, .int (nI cN / 32)), (0, .ref oqa)]) hx hb dL_acts_382 hl (by decide) rfl (fun ls hl => ?_)
          refine lv_aload_n hx hb dL_acts_384 rfl (lv_at hl 4 rfl) ?_
          refine lv_bipush (v := 48) hx hb dL_acts_385 (by decide) ?_
          refine lv_iload hx hb dL_acts_387 (lv_at hl 2 rfl) ?_
          refine lv_bipush (v := 10) hx hb dL_acts_389 (by decide) ?_
          refine lv_irem hx hb dL_acts_391 (by decide) ?_
          refine lv_iadd hx hb dL_acts_392 ?_
          refine lv_i2c (v := (((48 : Int32) + (at_ - at_ / 10 * 10)).toUInt32 % 65536).toInt32) hx hb dL_acts_393 rfl ?_
          refine cl_type S hK hO (by omega) (ch_idem _) q528 ⟨Nat.le_of_ble_eq_true rfl, Nat.le_of_ble_eq_true rfl⟩ hP hD hS hA rfl hl.1 (Nat.le_of_ble_eq_true rfl) ⟨Nat.le_refl 0, Nat.le_refl 0⟩ dL_acts_394 (fun r12 M12 L1 H locs h12 hO hP hD hS => ?_)
          refine lv_istore (lv' := [(5, .int r12), (7, .int (nI kx)), (6, .int at_), (2, .int (nI cN / 32)), (0, .ref oqa)]) hx hb dL_acts_397 hl (by decide) rfl (fun ls hl => ?_)
          refine lv_iload hx hb dL_acts_399 (lv_at hl 2 rfl) ?_
          refine lv_iconst (v := 1) hx hb dL_acts_401 (by decide) ?_
          refine lv_iadd hx hb dL_acts_402 ?_
          refine lv_iload_n hx hb dL_acts_403 rfl (lv_at hl 3 rfl) ?_
          refine lv_sipush (v := 128) hx hb dL_acts_404 (by decide) ?_
          refine lv_idiv hx hb dL_acts_407 (by decide) ?_
          refine lv_iconst (v := 5) hx hb dL_acts_408 (by decide) ?_
          refine lv_irem hx hb dL_acts_409 (by decide) ?_
          refine lv_iadd hx hb dL_acts_410 ?_
          refine lv_bipush (v := 24) hx hb dL_acts_411 (by decide) ?_
          refine lv_irem hx hb dL_acts_413 (by decide) ?_
          refine lv_istore (lv' := [(6, .int (((at_ + 1) + (((nI cN / 32) / 128) - ((nI cN / 32) / 128) / 5 * 5)) - ((at_ + 1) + (((nI cN / 32) / 128) - ((nI cN / 32) / 128) / 5 * 5)) / 24 * 24)), (5, .int r12), (7, .int (nI kx)), (2, .int (nI cN / 32)), (0, .ref oqa)]) hx hb dL_acts_414 hl (by decide) rfl (fun ls hl => ?_)
          refine lv_iinc (v := nI (kx + 1)) (lv' := [(7, .int (nI (kx + 1))), (6, .int (((at_ + 1) + (((nI cN / 32) / 128) - ((nI cN / 32) / 128) / 5 * 5)) - ((at_ + 1) + (((nI cN / 32) / 128) - ((nI cN / 32) / 128) / 5 * 5)) / 24 * 24)), (5, .int r12), (2, .int (nI cN / 32)), (0, .ref oqa)]) hx hb dL_acts_416 hl (k := 2) rfl (nI_1 kx) (by decide) rfl (fun ls hl => ?_)
          refine lv_goto (tgt := 326) hx hb dL_acts_419 (by decide) ?_
          exact ih (kx + 1) _ _ _ _ _ _ _ (by omega) (by omega) (by omega) hO hP hD hS (fun r M2 hq => hfin r M2 (by rw [h11, Option.bind_some, if_pos c9_, Option.bind_some, h12, Option.bind_some, nI_1 kx]; exact hq)) ls (lv_sub hl [0, 1, 2, 3, 4] rfl)
        · skip
          refine lv_iload hx hb dL_acts_326 (lv_at hl 0 rfl) ?_
          refine lv_iconst (v := 2) hx hb dL_acts_328 (by decide) ?_
          refine lv_iload_n hx hb dL_acts_329 rfl (lv_at hl 3 rfl) ?_
          refine lv_bipush (v := 32) hx hb dL_acts_330 (by decide) ?_
          refine lv_idiv hx hb dL_acts_332 (by decide) ?_
          refine lv_iconst (v := 4) hx hb dL_acts_333 (by decide) ?_
          refine lv_irem hx hb dL_acts_334 (by decide) ?_
          refine lv_iadd hx hb dL_acts_335 ?_
          refine lv_icmp_ge (tgt := 422) hx hb dL_acts_336 (by decide) (fun cn => absurd cn cx) (fun _ => ?_)
          refine lv_aload_n hx hb dL_acts_339 rfl (lv_at hl 4 rfl) ?_
          refine lv_iload hx hb dL_acts_340 (lv_at hl 0 rfl) ?_
          refine lv_if_ne (tgt := 350) hx hb dL_acts_342 (by decide) (fun cn => absurd c0_ cn) (fun _ => ?_)
          refine lv_bipush (v := 40) hx hb dL_acts_345 (by decide) ?_
          refine lv_goto (tgt := 352) hx hb dL_acts_347 (by decide) ?_
          refine cl_type S hK hO (by omega) (by decide) q528 ⟨Nat.le_of_ble_eq_true rfl, Nat.le_of_ble_eq_true rfl⟩ hP hD hS hA rfl hl.1 (Nat.le_of_ble_eq_true rfl) ⟨Nat.le_refl 0, Nat.le_refl 0⟩ dL_acts_352 (fun r11 M11 L1 H locs h11 hO hP hD hS => ?_)
          refine lv_istore (lv' := [(5, .int r11), (7, .int (nI kx)), (6, .int at_), (2, .int (nI cN / 32)), (0, .ref oqa)]) hx hb dL_acts_355 hl (by decide) rfl (fun ls hl => ?_)
          refine lv_iload hx hb dL_acts_357 (lv_at hl 2 rfl) ?_
          refine lv_bipush (v := 9) hx hb dL_acts_359 (by decide) ?_
          refine lv_icmp_le (tgt := 380) hx hb dL_acts_361 (by decide) (fun cn => absurd cn c9_) (fun _ => ?_)
          refine lv_aload_n hx hb dL_acts_364 rfl (lv_at hl 4 rfl) ?_
          refine lv_bipush (v := 48) hx hb dL_acts_365 (by decide) ?_
          refine lv_iload hx hb dL_acts_367 (lv_at hl 2 rfl) ?_
          refine lv_bipush (v := 10) hx hb dL_acts_369 (by decide) ?_
          refine lv_idiv hx hb dL_acts_371 (by decide) ?_
          refine lv_iadd hx hb dL_acts_372 ?_
          refine lv_i2c (v := (((48 : Int32) + (at_ / 10)).toUInt32 % 65536).toInt32) hx hb dL_acts_373 rfl ?_
          refine cl_type S hK hO (by omega) (ch_idem _) q528 ⟨Nat.le_of_ble_eq_true rfl, Nat.le_of_ble_eq_true rfl⟩ hP hD hS hA rfl hl.1 (Nat.le_of_ble_eq_true rfl) ⟨Nat.le_refl 0, Nat.le_refl 0⟩ dL_acts_374 (fun r12 M12 L1 H locs h12 hO hP hD hS => ?_)
          refine lv_goto (tgt := 382) hx hb dL_acts_377 (by decide) ?_
          refine lv_istore (lv' := [(5, .int r12), (7, .int (nI kx)), (6, .int at_), (2, .int (nI cN / 32)), (0, .ref oqa)]) hx hb dL_acts_382 hl (by decide) rfl (fun ls hl => ?_)
          refine lv_aload_n hx hb dL_acts_384 rfl (lv_at hl 4 rfl) ?_
          refine lv_bipush (v := 48) hx hb dL_acts_385 (by decide) ?_
          refine lv_iload hx hb dL_acts_387 (lv_at hl 2 rfl) ?_
          refine lv_bipush (v := 10) hx hb dL_acts_389 (by decide) ?_
          refine lv_irem hx hb dL_acts_391 (by decide) ?_
          refine lv_iadd hx hb dL_acts_392 ?_
          refine lv_i2c (v := (((48 : Int32) + (at_ - at_ / 10 * 10)).toUInt32 % 65536).toInt32) hx hb dL_acts_393 rfl ?_
          refine cl_type S hK hO (by omega) (ch_idem _) q528 ⟨Nat.le_of_ble_eq_true rfl, Nat.le_of_ble_eq_true rfl⟩ hP hD hS hA rfl hl.1 (Nat.le_of_ble_eq_true rfl) ⟨Nat.le_refl 0, Nat.le_refl 0⟩ dL_acts_394 (fun r13 M13 L1 H locs h13 hO hP hD hS => ?_)
          refine lv_istore (lv' := [(5, .int r13), (7, .int (nI kx)), (6, .int at_), (2, .int (nI cN / 32)), (0, .ref oqa)]) hx hb dL_acts_397 hl (by decide) rfl (fun ls hl => ?_)
          refine lv_iload hx hb dL_acts_399 (lv_at hl 2 rfl) ?_
          refine lv_iconst (v := 1) hx hb dL_acts_401 (by decide) ?_
          refine lv_iadd hx hb dL_acts_402 ?_
          refine lv_iload_n hx hb dL_acts_403 rfl (lv_at hl 3 rfl) ?_
          refine lv_sipush (v := 128) hx hb dL_acts_404 (by decide) ?_
          refine lv_idiv hx hb dL_acts_407 (by decide) ?_
          refine lv_iconst (v := 5) hx hb dL_acts_408 (by decide) ?_
          refine lv_irem hx hb dL_acts_409 (by decide) ?_
          refine lv_iadd hx hb dL_acts_410 ?_
          refine lv_bipush (v := 24) hx hb dL_acts_411 (by decide) ?_
          refine lv_irem hx hb dL_acts_413 (by decide) ?_
          refine lv_istore (lv' := [(6, .int (((at_ + 1) + (((nI cN / 32) / 128) - ((nI cN / 32) / 128) / 5 * 5)) - ((at_ + 1) + (((nI cN / 32) / 128) - ((nI cN / 32) / 128) / 5 * 5)) / 24 * 24)), (5, .int r13), (7, .int (nI kx)), (2, .int (nI cN / 32)), (0, .ref oqa)]) hx hb dL_acts_414 hl (by decide) rfl (fun ls hl => ?_)
          refine lv_iinc (v := nI (kx + 1)) (lv' := [(7, .int (nI (kx + 1))), (6, .int (((at_ + 1) + (((nI cN / 32) / 128) - ((nI cN / 32) / 128) / 5 * 5)) - ((at_ + 1) + (((nI cN / 32) / 128) - ((nI cN / 32) / 128) / 5 * 5)) / 24 * 24)), (5, .int r13), (2, .int (nI cN / 32)), (0, .ref oqa)]) hx hb dL_acts_416 hl (k := 2) rfl (nI_1 kx) (by decide) rfl (fun ls hl => ?_)
          refine lv_goto (tgt := 326) hx hb dL_acts_419 (by decide) ?_
          exact ih (kx + 1) _ _ _ _ _ _ _ (by omega) (by omega) (by omega) hO hP hD hS (fun r M2 hq => hfin r M2 (by rw [h11, Option.bind_some, if_neg c9_, h12, Option.bind_some, h13, Option.bind_some, nI_1 kx]; exact hq)) ls (lv_sub hl [0, 1, 2, 3, 4] rfl)
      · rw [if_neg c0_] at hfin
        by_cases c9_ : at_ ≤ 9
        · skip
          refine lv_iload hx hb dL_acts_326 (lv_at hl 0 rfl) ?_
          refine lv_iconst (v := 2) hx hb dL_acts_328 (by decide) ?_
          refine lv_iload_n hx hb dL_acts_329 rfl (lv_at hl 3 rfl) ?_
          refine lv_bipush (v := 32) hx hb dL_acts_330 (by decide) ?_
          refine lv_idiv hx hb dL_acts_332 (by decide) ?_
          refine lv_iconst (v := 4) hx hb dL_acts_333 (by decide) ?_
          refine lv_irem hx hb dL_acts_334 (by decide) ?_
          refine lv_iadd hx hb dL_acts_335 ?_
          refine lv_icmp_ge (tgt := 422) hx hb dL_acts_336 (by decide) (fun cn => absurd cn cx) (fun _ => ?_)
          refine lv_aload_n hx hb dL_acts_339 rfl (lv_at hl 4 rfl) ?_
          refine lv_iload hx hb dL_acts_340 (lv_at hl 0 rfl) ?_
          refine lv_if_ne (tgt := 350) hx hb dL_acts_342 (by decide) (fun _ => ?_) (fun cn => absurd cn c0_)
          refine lv_bipush (v := 44) hx hb dL_acts_350 (by decide) ?_
          refine cl_type S hK hO (by omega) (by decide) q528 ⟨Nat.le_of_ble_eq_true rfl, Nat.le_of_ble_eq_true rfl⟩ hP hD hS hA rfl hl.1 (Nat.le_of_ble_eq_true rfl) ⟨Nat.le_refl 0, Nat.le_refl 0⟩ dL_acts_352 (fun r11 M11 L1 H locs h11 hO hP hD hS => ?_)
          refine lv_istore (lv' := [(5, .int r11), (7, .int (nI kx)), (6, .int at_), (2, .int (nI cN / 32)), (0, .ref oqa)]) hx hb dL_acts_355 hl (by decide) rfl (fun ls hl => ?_)
          refine lv_iload hx hb dL_acts_357 (lv_at hl 2 rfl) ?_
          refine lv_bipush (v := 9) hx hb dL_acts_359 (by decide) ?_
          refine lv_icmp_le (tgt := 380) hx hb dL_acts_361 (by decide) (fun _ => ?_) (fun cn => absurd c9_ cn)
          refine lv_iload hx hb dL_acts_380 (lv_at hl 0 rfl) ?_
          refine lv_istore (lv' := [(5, .int r11), (7, .int (nI kx)), (6, .int at_), (2, .int (nI cN / 32)), (0, .ref oqa)]) hx hb dL_acts_382 hl (by decide) rfl (fun ls hl => ?_)
          refine lv_aload_n hx hb dL_acts_384 rfl (lv_at hl 4 rfl) ?_
          refine lv_bipush (v := 48) hx hb dL_acts_385 (by decide) ?_
          refine lv_iload hx hb dL_acts_387 (lv_at hl 2 rfl) ?_
          refine lv_bipush (v := 10) hx hb dL_acts_389 (by decide) ?_
          refine lv_irem hx hb dL_acts_391 (by decide) ?_
          refine lv_iadd hx hb dL_acts_392 ?_
          refine lv_i2c (v := (((48 : Int32) + (at_ - at_ / 10 * 10)).toUInt32 % 65536).toInt32) hx hb dL_acts_393 rfl ?_
          refine cl_type S hK hO (by omega) (ch_idem _) q528 ⟨Nat.le_of_ble_eq_true rfl, Nat.le_of_ble_eq_true rfl⟩ hP hD hS hA rfl hl.1 (Nat.le_of_ble_eq_true rfl) ⟨Nat.le_refl 0, Nat.le_refl 0⟩ dL_acts_394 (fun r12 M12 L1 H locs h12 hO hP hD hS => ?_)
          refine lv_istore (lv' := [(5, .int r12), (7, .int (nI kx)), (6, .int at_), (2, .int (nI cN / 32)), (0, .ref oqa)]) hx hb dL_acts_397 hl (by decide) rfl (fun ls hl => ?_)
          refine lv_iload hx hb dL_acts_399 (lv_at hl 2 rfl) ?_
          refine lv_iconst (v := 1) hx hb dL_acts_401 (by decide) ?_
          refine lv_iadd hx hb dL_acts_402 ?_
          refine lv_iload_n hx hb dL_acts_403 rfl (lv_at hl 3 rfl) ?_
          refine lv_sipush (v := 128) hx hb dL_acts_404 (by decide) ?_
          refine lv_idiv hx hb dL_acts_407 (by decide) ?_
          refine lv_iconst (v := 5) hx hb dL_acts_408 (by decide) ?_
          refine lv_irem hx hb dL_acts_409 (by decide) ?_
          refine lv_iadd hx hb dL_acts_410 ?_
          refine lv_bipush (v := 24) hx hb dL_acts_411 (by decide) ?_
          refine lv_irem hx hb dL_acts_413 (by decide) ?_
          refine lv_istore (lv' := [(6, .int (((at_ + 1) + (((nI cN / 32) / 128) - ((nI cN / 32) / 128) / 5 * 5)) - ((at_ + 1) + (((nI cN / 32) / 128) - ((nI cN / 32) / 128) / 5 * 5)) / 24 * 24)), (5, .int r12), (7, .int (nI kx)), (2, .int (nI cN / 32)), (0, .ref oqa)]) hx hb dL_acts_414 hl (by decide) rfl (fun ls hl => ?_)
          refine lv_iinc (v := nI (kx + 1)) (lv' := [(7, .int (nI (kx + 1))), (6, .int (((at_ + 1) + (((nI cN / 32) / 128) - ((nI cN / 32) / 128) / 5 * 5)) - ((at_ + 1) + (((nI cN / 32) / 128) - ((nI cN / 32) / 128) / 5 * 5)) / 24 * 24)), (5, .int r12), (2, .int (nI cN / 32)), (0, .ref oqa)]) hx hb dL_acts_416 hl (k := 2) rfl (nI_1 kx) (by decide) rfl (fun ls hl => ?_)
          refine lv_goto (tgt := 326) hx hb dL_acts_419 (by decide) ?_
          exact ih (kx + 1) _ _ _ _ _ _ _ (by omega) (by omega) (by omega) hO hP hD hS (fun r M2 hq => hfin r M2 (by rw [h11, Option.bind_some, if_pos c9_, Option.bind_some, h12, Option.bind_some, nI_1 kx]; exact hq)) ls (lv_sub hl [0, 1, 2, 3, 4] rfl)
        · skip
          refine lv_iload hx hb dL_acts_326 (lv_at hl 0 rfl) ?_
          refine lv_iconst (v := 2) hx hb dL_acts_328 (by decide) ?_
          refine lv_iload_n hx hb dL_acts_329 rfl (lv_at hl 3 rfl) ?_
          refine lv_bipush (v := 32) hx hb dL_acts_330 (by decide) ?_
          refine lv_idiv hx hb dL_acts_332 (by decide) ?_
          refine lv_iconst (v := 4) hx hb dL_acts_333 (by decide) ?_
          refine lv_irem hx hb dL_acts_334 (by decide) ?_
          refine lv_iadd hx hb dL_acts_335 ?_
          refine lv_icmp_ge (tgt := 422) hx hb dL_acts_336 (by decide) (fun cn => absurd cn cx) (fun _ => ?_)
          refine lv_aload_n hx hb dL_acts_339 rfl (lv_at hl 4 rfl) ?_
          refine lv_iload hx hb dL_acts_340 (lv_at hl 0 rfl) ?_
          refine lv_if_ne (tgt := 350) hx hb dL_acts_342 (by decide) (fun _ => ?_) (fun cn => absurd cn c0_)
          refine lv_bipush (v := 44) hx hb dL_acts_350 (by decide) ?_
          refine cl_type S hK hO (by omega) (by decide) q528 ⟨Nat.le_of_ble_eq_true rfl, Nat.le_of_ble_eq_true rfl⟩ hP hD hS hA rfl hl.1 (Nat.le_of_ble_eq_true rfl) ⟨Nat.le_refl 0, Nat.le_refl 0⟩ dL_acts_352 (fun r11 M11 L1 H locs h11 hO hP hD hS => ?_)
          refine lv_istore (lv' := [(5, .int r11), (7, .int (nI kx)), (6, .int at_), (2, .int (nI cN / 32)), (0, .ref oqa)]) hx hb dL_acts_355 hl (by decide) rfl (fun ls hl => ?_)
          refine lv_iload hx hb dL_acts_357 (lv_at hl 2 rfl) ?_
          refine lv_bipush (v := 9) hx hb dL_acts_359 (by decide) ?_
          refine lv_icmp_le (tgt := 380) hx hb dL_acts_361 (by decide) (fun cn => absurd cn c9_) (fun _ => ?_)
          refine lv_aload_n hx hb dL_acts_364 rfl (lv_at hl 4 rfl) ?_
          refine lv_bipush (v := 48) hx hb dL_acts_365 (by decide) ?_
          refine lv_iload hx hb dL_acts_367 (lv_at hl 2 rfl) ?_
          refine lv_bipush (v := 10) hx hb dL_acts_369 (by decide) ?_
          refine lv_idiv hx hb dL_acts_371 (by decide) ?_
          refine lv_iadd hx hb dL_acts_372 ?_
          refine lv_i2c (v := (((48 : Int32) + (at_ / 10)).toUInt32 % 65536).toInt32) hx hb dL_acts_373 rfl ?_
          refine cl_type S hK hO (by omega) (ch_idem _) q528 ⟨Nat.le_of_ble_eq_true rfl, Nat.le_of_ble_eq_true rfl⟩ hP hD hS hA rfl hl.1 (Nat.le_of_ble_eq_true rfl) ⟨Nat.le_refl 0, Nat.le_refl 0⟩ dL_acts_374 (fun r12 M12 L1 H locs h12 hO hP hD hS => ?_)
          refine lv_goto (tgt := 382) hx hb dL_acts_377 (by decide) ?_
          refine lv_istore (lv' := [(5, .int r12), (7, .int (nI kx)), (6, .int at_), (2, .int (nI cN / 32)), (0, .ref oqa)]) hx hb dL_acts_382 hl (by decide) rfl (fun ls hl => ?_)
          refine lv_aload_n hx hb dL_acts_384 rfl (lv_at hl 4 rfl) ?_
          refine lv_bipush (v := 48) hx hb dL_acts_385 (by decide) ?_
          refine lv_iload hx hb dL_acts_387 (lv_at hl 2 rfl) ?_
          refine lv_bipush (v := 10) hx hb dL_acts_389 (by decide) ?_
          refine lv_irem hx hb dL_acts_391 (by decide) ?_
          refine lv_iadd hx hb dL_acts_392 ?_
          refine lv_i2c (v := (((48 : Int32) + (at_ - at_ / 10 * 10)).toUInt32 % 65536).toInt32) hx hb dL_acts_393 rfl ?_
          refine cl_type S hK hO (by omega) (ch_idem _) q528 ⟨Nat.le_of_ble_eq_true rfl, Nat.le_of_ble_eq_true rfl⟩ hP hD hS hA rfl hl.1 (Nat.le_of_ble_eq_true rfl) ⟨Nat.le_refl 0, Nat.le_refl 0⟩ dL_acts_394 (fun r13 M13 L1 H locs h13 hO hP hD hS => ?_)
          refine lv_istore (lv' := [(5, .int r13), (7, .int (nI kx)), (6, .int at_), (2, .int (nI cN / 32)), (0, .ref oqa)]) hx hb dL_acts_397 hl (by decide) rfl (fun ls hl => ?_)
          refine lv_iload hx hb dL_acts_399 (lv_at hl 2 rfl) ?_
          refine lv_iconst (v := 1) hx hb dL_acts_401 (by decide) ?_
          refine lv_iadd hx hb dL_acts_402 ?_
          refine lv_iload_n hx hb dL_acts_403 rfl (lv_at hl 3 rfl) ?_
          refine lv_sipush (v := 128) hx hb dL_acts_404 (by decide) ?_
          refine lv_idiv hx hb dL_acts_407 (by decide) ?_
          refine lv_iconst (v := 5) hx hb dL_acts_408 (by decide) ?_
          refine lv_irem hx hb dL_acts_409 (by decide) ?_
          refine lv_iadd hx hb dL_acts_410 ?_
          refine lv_bipush (v := 24) hx hb dL_acts_411 (by decide) ?_
          refine lv_irem hx hb dL_acts_413 (by decide) ?_
          refine lv_istore (lv' := [(6, .int (((at_ + 1) + (((nI cN / 32) / 128) - ((nI cN / 32) / 128) / 5 * 5)) - ((at_ + 1) + (((nI cN / 32) / 128) - ((nI cN / 32) / 128) / 5 * 5)) / 24 * 24)), (5, .int r13), (7, .int (nI kx)), (2, .int (nI cN / 32)), (0, .ref oqa)]) hx hb dL_acts_414 hl (by decide) rfl (fun ls hl => ?_)
          refine lv_iinc (v := nI (kx + 1)) (lv' := [(7, .int (nI (kx + 1))), (6, .int (((at_ + 1) + (((nI cN / 32) / 128) - ((nI cN / 32) / 128) / 5 * 5)) - ((at_ + 1) + (((nI cN / 32) / 128) - ((nI cN / 32) / 128) / 5 * 5)) / 24 * 24)), (5, .int r13), (2, .int (nI cN / 32)), (0, .ref oqa)]) hx hb dL_acts_416 hl (k := 2) rfl (nI_1 kx) (by decide) rfl (fun ls hl => ?_)
          refine lv_goto (tgt := 326) hx hb dL_acts_419 (by decide) ?_
          exact ih (kx + 1) _ _ _ _ _ _ _ (by omega) (by omega) (by omega) hO hP hD hS (fun r M2 hq => hfin r M2 (by rw [h11, Option.bind_some, if_neg c9_, h12, Option.bind_some, h13, Option.bind_some, nI_1 kx]; exact hq)) ls (lv_sub hl [0, 1, 2, 3, 4] rfl)
  refine lv_iload_n hx hb dL_acts_0 rfl (lv_at hl 1 rfl) ?_
  refine lv_bipush (v := 32) hx hb dL_acts_1 (by decide) ?_
  refine lv_idiv hx hb dL_acts_3 (by decide) ?_
  refine lv_istore_n (lv' := [(2, .int ((nI cN) / 32)), (0, .ref oqa), (1, .int (nI cN))]) hx hb dL_acts_4 rfl hl (by decide) rfl (fun ls hl => ?_)
  refine lv_aload_n hx hb dL_acts_5 rfl (lv_at hl 1 rfl) ?_
  refine lv_iconst (v := 0) hx hb dL_acts_6 (by decide) ?_
  refine kr_count S hK hO q399 ⟨Nat.le_of_ble_eq_true rfl, Nat.le_of_ble_eq_true rfl⟩ hP.left rfl hl.1 (Nat.le_of_ble_eq_true rfl) ⟨Nat.le_refl 0, Nat.le_refl 0⟩ dL_acts_7 (v_count0 hV _ _) ?_
  refine lv_istore_n (lv' := [(3, .int (nI k)), (2, .int ((nI cN) / 32)), (0, .ref oqa), (1, .int (nI cN))]) hx hb dL_acts_10 rfl hl (by decide) rfl (fun ls hl => ?_)
  have K25 : ∀ ls : Array Slot, lv_has ls 8 [(4, .int t), (3, .int (nI k)), (2, .int ((nI cN) / 32)), (0, .ref oqa), (1, .int (nI cN))] → W p l e (rmk 7 160) s m ([.ref oqa, .int (nI cN)] : List Value).toArray below meth c H locs 0 0 (MQ below (gQo G (fun r L2 => ∃ k2 M2, k2 ≤ 12 ∧ M.2.2.2.2.2.2.2.2.2.1 24 = nI k2 ∧ A_acts cN k2 M = some (r, M2) ∧ Obj G oqa (c0 + 1000) M2 L2) A) ([.ref oqa, .int (nI cN)] : List Value).toArray s 0 0 A) (F0 m 25 ls []) := by
    intro ls hl
    have K38 : ∀ ls : Array Slot, lv_has ls 8 [(4, .int t), (3, .int (nI k)), (2, .int ((nI cN) / 32)), (0, .ref oqa), (1, .int (nI cN))] → W p l e (rmk 7 160) s m ([.ref oqa, .int (nI cN)] : List Value).toArray below meth c H locs 0 0 (MQ below (gQo G (fun r L2 => ∃ k2 M2, k2 ≤ 12 ∧ M.2.2.2.2.2.2.2.2.2.1 24 = nI k2 ∧ A_acts cN k2 M = some (r, M2) ∧ Obj G oqa (c0 + 1000) M2 L2) A) ([.ref oqa, .int (nI cN)] : List Value).toArray s 0 0 A) (F0 m 38 ls [.int (nI i)]) := by
      intro ls hl
      by_cases z0 : i = 0
      · rw [z0]
        refine lv_tableIn (off := 126) (tgt := 164) hx hb dL_acts_38 (by decide) (by decide) (by rfl) (by decide) ?_
        refine lv_aload_n hx hb dL_acts_164 rfl (lv_at hl 3 rfl) ?_
        refine lv_iload_n hx hb dL_acts_165 rfl (lv_at hl 2 rfl) ?_
        refine lv_ldc (v := 16777215) hx hb hown (hts _ q448) dL_acts_166 ?_
        refine lv_iand hx hb dL_acts_168 ?_
        refine cl_sell S hK hO (by omega) q449 ⟨Nat.le_of_ble_eq_true rfl, Nat.le_of_ble_eq_true rfl⟩ hP hD hS hA rfl hl.1 (Nat.le_of_ble_eq_true rfl) ⟨Nat.le_refl 0, Nat.le_refl 0⟩ dL_acts_169 (fun r1 M1 L1 H locs h1 hO hP hD hS => ?_)
        exact retO S hr hlk rfl ⟨k, _, hk12, h24, (by rw [hat]; unfold A_at; rw [if_pos (show i < 3 by omega)]; exact h1), hO.mono (by omega)⟩ hP.left (bD_app.mp hD).1 hS dL_acts_172
      by_cases z1 : i = 1
      · rw [z1]
        refine lv_tableIn (off := 126) (tgt := 164) hx hb dL_acts_38 (by decide) (by decide) (by rfl) (by decide) ?_
        refine lv_aload_n hx hb dL_acts_164 rfl (lv_at hl 3 rfl) ?_
        refine lv_iload_n hx hb dL_acts_165 rfl (lv_at hl 2 rfl) ?_
        refine lv_ldc (v := 16777215) hx hb hown (hts _ q448) dL_acts_166 ?_
        refine lv_iand hx hb dL_acts_168 ?_
        refine cl_sell S hK hO (by omega) q449 ⟨Nat.le_of_ble_eq_true rfl, Nat.le_of_ble_eq_true rfl⟩ hP hD hS hA rfl hl.1 (Nat.le_of_ble_eq_true rfl) ⟨Nat.le_refl 0, Nat.le_refl 0⟩ dL_acts_169 (fun r1 M1 L1 H locs h1 hO hP hD hS => ?_)
        exact retO S hr hlk rfl ⟨k, _, hk12, h24, (by rw [hat]; unfold A_at; rw [if_pos (show i < 3 by omega)]; exact h1), hO.mono (by omega)⟩ hP.left (bD_app.mp hD).1 hS dL_acts_172
      by_cases z2 : i = 2
      · rw [z2]
        refine lv_tableIn (off := 126) (tgt := 164) hx hb dL_acts_38 (by decide) (by decide) (by rfl) (by decide) ?_
        refine lv_aload_n hx hb dL_acts_164 rfl (lv_at hl 3 rfl) ?_
        refine lv_iload_n hx hb dL_acts_165 rfl (lv_at hl 2 rfl) ?_
        refine lv_ldc (v := 16777215) hx hb hown (hts _ q448) dL_acts_166 ?_
        refine lv_iand hx hb dL_acts_168 ?_
        refine cl_sell S hK hO (by omega) q449 ⟨Nat.le_of_ble_eq_true rfl, Nat.le_of_ble_eq_true rfl⟩ hP hD hS hA rfl hl.1 (Nat.le_of_ble_eq_true rfl) ⟨Nat.le_refl 0, Nat.le_refl 0⟩ dL_acts_169 (fun r1 M1 L1 H locs h1 hO hP hD hS => ?_)
        exact retO S hr hlk rfl ⟨k, _, hk12, h24, (by rw [hat]; unfold A_at; rw [if_pos (show i < 3 by omega)]; exact h1), hO.mono (by omega)⟩ hP.left (bD_app.mp hD).1 hS dL_acts_172
      by_cases z3 : i = 3
      · rw [z3]
        refine lv_tableIn (off := 135) (tgt := 173) hx hb dL_acts_38 (by decide) (by decide) (by rfl) (by decide) ?_
        refine lv_aload_n hx hb dL_acts_173 rfl (lv_at hl 3 rfl) ?_
        refine lv_iload_n hx hb dL_acts_174 rfl (lv_at hl 2 rfl) ?_
        refine lv_bipush (v := 24) hx hb dL_acts_175 (by decide) ?_
        refine lv_irem hx hb dL_acts_177 (by decide) ?_
        refine lv_iload_n hx hb dL_acts_178 rfl (lv_at hl 2 rfl) ?_
        refine lv_bipush (v := 32) hx hb dL_acts_179 (by decide) ?_
        refine lv_idiv hx hb dL_acts_181 (by decide) ?_
        refine lv_bipush (v := 24) hx hb dL_acts_182 (by decide) ?_
        refine lv_irem hx hb dL_acts_184 (by decide) ?_
        refine cl_exchange S hK hO (by omega) q458 ⟨Nat.le_of_ble_eq_true rfl, Nat.le_of_ble_eq_true rfl⟩ hP hD hS hA rfl hl.1 (Nat.le_of_ble_eq_true rfl) ⟨Nat.le_refl 0, Nat.le_refl 0⟩ dL_acts_185 (fun r1 M1 L1 H locs h1 hO hP hD hS => ?_)
        exact retO S hr hlk rfl ⟨k, _, hk12, h24, (by rw [hat]; unfold A_at; rw [if_neg (show ¬ i < 3 by omega), if_pos (show i < 5 by omega)]; exact h1), hO.mono (by omega)⟩ hP.left (bD_app.mp hD).1 hS dL_acts_188
      by_cases z4 : i = 4
      · rw [z4]
        refine lv_tableIn (off := 135) (tgt := 173) hx hb dL_acts_38 (by decide) (by decide) (by rfl) (by decide) ?_
        refine lv_aload_n hx hb dL_acts_173 rfl (lv_at hl 3 rfl) ?_
        refine lv_iload_n hx hb dL_acts_174 rfl (lv_at hl 2 rfl) ?_
        refine lv_bipush (v := 24) hx hb dL_acts_175 (by decide) ?_
        refine lv_irem hx hb dL_acts_177 (by decide) ?_
        refine lv_iload_n hx hb dL_acts_178 rfl (lv_at hl 2 rfl) ?_
        refine lv_bipush (v := 32) hx hb dL_acts_179 (by decide) ?_
        refine lv_idiv hx hb dL_acts_181 (by decide) ?_
        refine lv_bipush (v := 24) hx hb dL_acts_182 (by decide) ?_
        refine lv_irem hx hb dL_acts_184 (by decide) ?_
        refine cl_exchange S hK hO (by omega) q458 ⟨Nat.le_of_ble_eq_true rfl, Nat.le_of_ble_eq_true rfl⟩ hP hD hS hA rfl hl.1 (Nat.le_of_ble_eq_true rfl) ⟨Nat.le_refl 0, Nat.le_refl 0⟩ dL_acts_185 (fun r1 M1 L1 H locs h1 hO hP hD hS => ?_)
        exact retO S hr hlk rfl ⟨k, _, hk12, h24, (by rw [hat]; unfold A_at; rw [if_neg (show ¬ i < 3 by omega), if_pos (show i < 5 by omega)]; exact h1), hO.mono (by omega)⟩ hP.left (bD_app.mp hD).1 hS dL_acts_188
      by_cases z5 : i = 5
      · rw [z5]
        refine lv_tableIn (off := 151) (tgt := 189) hx hb dL_acts_38 (by decide) (by decide) (by rfl) (by decide) ?_
        refine lv_aload_n hx hb dL_acts_189 rfl (lv_at hl 3 rfl) ?_
        refine cl_reverse S hK hO (by omega) q467 ⟨Nat.le_of_ble_eq_true rfl, Nat.le_of_ble_eq_true rfl⟩ hP hD hS hA rfl hl.1 (Nat.le_of_ble_eq_true rfl) ⟨Nat.le_refl 0, Nat.le_refl 0⟩ dL_acts_190 (fun r1 M1 L1 H locs h1 hO hP hD hS => ?_)
        exact retO S hr hlk rfl ⟨k, _, hk12, h24, (by rw [hat]; unfold A_at; rw [if_neg (show ¬ i < 3 by omega), if_neg (show ¬ i < 5 by omega), if_pos (show i < 6 by omega)]; exact h1), hO.mono (by omega)⟩ hP.left (bD_app.mp hD).1 hS dL_acts_193
      by_cases z6 : i = 6
      · rw [z6]
        refine lv_tableIn (off := 156) (tgt := 194) hx hb dL_acts_38 (by decide) (by decide) (by rfl) (by decide) ?_
        refine lv_aload_n hx hb dL_acts_194 rfl (lv_at hl 3 rfl) ?_
        refine lv_iload hx hb dL_acts_195 (lv_at hl 0 rfl) ?_
        refine lv_iload_n hx hb dL_acts_197 rfl (lv_at hl 2 rfl) ?_
        refine lv_bipush (v := 16) hx hb dL_acts_198 (by decide) ?_
        refine lv_idiv hx hb dL_acts_200 (by decide) ?_
        refine lv_bipush (v := 24) hx hb dL_acts_201 (by decide) ?_
        refine lv_irem hx hb dL_acts_203 (by decide) ?_
        refine cl_punch S hK hO (by omega) q475 ⟨Nat.le_of_ble_eq_true rfl, Nat.le_of_ble_eq_true rfl⟩ hP hD hS hA rfl hl.1 (Nat.le_of_ble_eq_true rfl) ⟨Nat.le_refl 0, Nat.le_refl 0⟩ dL_acts_204 (fun r1 M1 L1 H locs h1 hO hP hD hS => ?_)
        exact retO S hr hlk rfl ⟨k, _, hk12, h24, (by rw [hat]; unfold A_at; rw [if_neg (show ¬ i < 3 by omega), if_neg (show ¬ i < 5 by omega), if_neg (show ¬ i < 6 by omega), if_pos (show i < 9 by omega)]; exact h1), hO.mono (by omega)⟩ hP.left (bD_app.mp hD).1 hS dL_acts_207
      by_cases z7 : i = 7
      · rw [z7]
        refine lv_tableIn (off := 156) (tgt := 194) hx hb dL_acts_38 (by decide) (by decide) (by rfl) (by decide) ?_
        refine lv_aload_n hx hb dL_acts_194 rfl (lv_at hl 3 rfl) ?_
        refine lv_iload hx hb dL_acts_195 (lv_at hl 0 rfl) ?_
        refine lv_iload_n hx hb dL_acts_197 rfl (lv_at hl 2 rfl) ?_
        refine lv_bipush (v := 16) hx hb dL_acts_198 (by decide) ?_
        refine lv_idiv hx hb dL_acts_200 (by decide) ?_
        refine lv_bipush (v := 24) hx hb dL_acts_201 (by decide) ?_
        refine lv_irem hx hb dL_acts_203 (by decide) ?_
        refine cl_punch S hK hO (by omega) q475 ⟨Nat.le_of_ble_eq_true rfl, Nat.le_of_ble_eq_true rfl⟩ hP hD hS hA rfl hl.1 (Nat.le_of_ble_eq_true rfl) ⟨Nat.le_refl 0, Nat.le_refl 0⟩ dL_acts_204 (fun r1 M1 L1 H locs h1 hO hP hD hS => ?_)
        exact retO S hr hlk rfl ⟨k, _, hk12, h24, (by rw [hat]; unfold A_at; rw [if_neg (show ¬ i < 3 by omega), if_neg (show ¬ i < 5 by omega), if_neg (show ¬ i < 6 by omega), if_pos (show i < 9 by omega)]; exact h1), hO.mono (by omega)⟩ hP.left (bD_app.mp hD).1 hS dL_acts_207
      by_cases z8 : i = 8
      · rw [z8]
        refine lv_tableIn (off := 156) (tgt := 194) hx hb dL_acts_38 (by decide) (by decide) (by rfl) (by decide) ?_
        refine lv_aload_n hx hb dL_acts_194 rfl (lv_at hl 3 rfl) ?_
        refine lv_iload hx hb dL_acts_195 (lv_at hl 0 rfl) ?_
        refine lv_iload_n hx hb dL_acts_197 rfl (lv_at hl 2 rfl) ?_
        refine lv_bipush (v := 16) hx hb dL_acts_198 (by decide) ?_
        refine lv_idiv hx hb dL_acts_200 (by decide) ?_
        refine lv_bipush (v := 24) hx hb dL_acts_201 (by decide) ?_
        refine lv_irem hx hb dL_acts_203 (by decide) ?_
        refine cl_punch S hK hO (by omega) q475 ⟨Nat.le_of_ble_eq_true rfl, Nat.le_of_ble_eq_true rfl⟩ hP hD hS hA rfl hl.1 (Nat.le_of_ble_eq_true rfl) ⟨Nat.le_refl 0, Nat.le_refl 0⟩ dL_acts_204 (fun r1 M1 L1 H locs h1 hO hP hD hS => ?_)
        exact retO S hr hlk rfl ⟨k, _, hk12, h24, (by rw [hat]; unfold A_at; rw [if_neg (show ¬ i < 3 by omega), if_neg (show ¬ i < 5 by omega), if_neg (show ¬ i < 6 by omega), if_pos (show i < 9 by omega)]; exact h1), hO.mono (by omega)⟩ hP.left (bD_app.mp hD).1 hS dL_acts_207
      by_cases z9 : i = 9
      · rw [z9]
        refine lv_tableIn (off := 170) (tgt := 208) hx hb dL_acts_38 (by decide) (by decide) (by rfl) (by decide) ?_
        refine lv_aload_n hx hb dL_acts_208 rfl (lv_at hl 3 rfl) ?_
        refine lv_iload hx hb dL_acts_209 (lv_at hl 0 rfl) ?_
        refine lv_iload_n hx hb dL_acts_211 rfl (lv_at hl 2 rfl) ?_
        refine lv_bipush (v := 16) hx hb dL_acts_212 (by decide) ?_
        refine lv_idiv hx hb dL_acts_214 (by decide) ?_
        refine lv_bipush (v := 24) hx hb dL_acts_215 (by decide) ?_
        refine lv_irem hx hb dL_acts_217 (by decide) ?_
        by_cases cf : (nI cN / 32) / 512 - (nI cN / 32) / 512 / 2 * 2 = 0
        · skip
          refine lv_iload_n hx hb dL_acts_218 rfl (lv_at hl 2 rfl) ?_
          refine lv_sipush (v := 512) hx hb dL_acts_219 (by decide) ?_
          refine lv_idiv hx hb dL_acts_222 (by decide) ?_
          refine lv_iconst (v := 2) hx hb dL_acts_223 (by decide) ?_
          refine lv_irem hx hb dL_acts_224 (by decide) ?_
          refine lv_if_ne (tgt := 232) hx hb dL_acts_225 (by decide) (fun cn => absurd cf cn) (fun _ => ?_)
          refine lv_iconst (v := 1) hx hb dL_acts_228 (by decide) ?_
          refine lv_goto (tgt := 233) hx hb dL_acts_229 (by decide) ?_
          refine cl_forge S hK hO (by omega) (Or.inr rfl) q486 ⟨Nat.le_of_ble_eq_true rfl, Nat.le_of_ble_eq_true rfl⟩ hP hD hS hA rfl hl.1 (Nat.le_of_ble_eq_true rfl) ⟨Nat.le_refl 0, Nat.le_refl 0⟩ dL_acts_233 (fun r1 M1 L1 H locs h1 hO hP hD hS => ?_)
          exact retO S hr hlk rfl ⟨k, _, hk12, h24, (by rw [hat]; unfold A_at; rw [if_neg (show ¬ i < 3 by omega), if_neg (show ¬ i < 5 by omega), if_neg (show ¬ i < 6 by omega), if_neg (show ¬ i < 9 by omega), if_pos (show i < 13 by omega), if_pos cf]; exact h1), hO.mono (by omega)⟩ hP.left (bD_app.mp hD).1 hS dL_acts_236
        · skip
          refine lv_iload_n hx hb dL_acts_218 rfl (lv_at hl 2 rfl) ?_
          refine lv_sipush (v := 512) hx hb dL_acts_219 (by decide) ?_
          refine lv_idiv hx hb dL_acts_222 (by decide) ?_
          refine lv_iconst (v := 2) hx hb dL_acts_223 (by decide) ?_
          refine lv_irem hx hb dL_acts_224 (by decide) ?_
          refine lv_if_ne (tgt := 232) hx hb dL_acts_225 (by decide) (fun _ => ?_) (fun cn => absurd cn cf)
          refine lv_iconst (v := 0) hx hb dL_acts_232 (by decide) ?_
          refine cl_forge S hK hO (by omega) (Or.inl rfl) q486 ⟨Nat.le_of_ble_eq_true rfl, Nat.le_of_ble_eq_true rfl⟩ hP hD hS hA rfl hl.1 (Nat.le_of_ble_eq_true rfl) ⟨Nat.le_refl 0, Nat.le_refl 0⟩ dL_acts_233 (fun r2 M2 L1 H locs h2 hO hP hD hS => ?_)
          exact retO S hr hlk rfl ⟨k, _, hk12, h24, (by rw [hat]; unfold A_at; rw [if_neg (show ¬ i < 3 by omega), if_neg (show ¬ i < 5 by omega), if_neg (show ¬ i < 6 by omega), if_neg (show ¬ i < 9 by omega), if_pos (show i < 13 by omega), if_neg cf]; exact h2), hO.mono (by omega)⟩ hP.left (bD_app.mp hD).1 hS dL_acts_236
      by_cases z10 : i = 10
      · rw [z10]
        refine lv_tableIn (off := 170) (tgt := 208) hx hb dL_acts_38 (by decide) (by decide) (by rfl) (by decide) ?_
        refine lv_aload_n hx hb dL_acts_208 rfl (lv_at hl 3 rfl) ?_
        refine lv_iload hx hb dL_acts_209 (lv_at hl 0 rfl) ?_
        refine lv_iload_n hx hb dL_acts_211 rfl (lv_at hl 2 rfl) ?_
        refine lv_bipush (v := 16) hx hb dL_acts_212 (by decide) ?_
        refine lv_idiv hx hb dL_acts_214 (by decide) ?_
        refine lv_bipush (v := 24) hx hb dL_acts_215 (by decide) ?_
        refine lv_irem hx hb dL_acts_217 (by decide) ?_
        by_cases cf : (nI cN / 32) / 512 - (nI cN / 32) / 512 / 2 * 2 = 0
        · skip
          refine lv_iload_n hx hb dL_acts_218 rfl (lv_at hl 2 rfl) ?_
          refine lv_sipush (v := 512) hx hb dL_acts_219 (by decide) ?_
          refine lv_idiv hx hb dL_acts_222 (by decide) ?_
          refine lv_iconst (v := 2) hx hb dL_acts_223 (by decide) ?_
          refine lv_irem hx hb dL_acts_224 (by decide) ?_
          refine lv_if_ne (tgt := 232) hx hb dL_acts_225 (by decide) (fun cn => absurd cf cn) (fun _ => ?_)
          refine lv_iconst (v := 1) hx hb dL_acts_228 (by decide) ?_
          refine lv_goto (tgt := 233) hx hb dL_acts_229 (by decide) ?_
          refine cl_forge S hK hO (by omega) (Or.inr rfl) q486 ⟨Nat.le_of_ble_eq_true rfl, Nat.le_of_ble_eq_true rfl⟩ hP hD hS hA rfl hl.1 (Nat.le_of_ble_eq_true rfl) ⟨Nat.le_refl 0, Nat.le_refl 0⟩ dL_acts_233 (fun r1 M1 L1 H locs h1 hO hP hD hS => ?_)
          exact retO S hr hlk rfl ⟨k, _, hk12, h24, (by rw [hat]; unfold A_at; rw [if_neg (show ¬ i < 3 by omega), if_neg (show ¬ i < 5 by omega), if_neg (show ¬ i < 6 by omega), if_neg (show ¬ i < 9 by omega), if_pos (show i < 13 by omega), if_pos cf]; exact h1), hO.mono (by omega)⟩ hP.left (bD_app.mp hD).1 hS dL_acts_236
        · skip
          refine lv_iload_n hx hb dL_acts_218 rfl (lv_at hl 2 rfl) ?_
          refine lv_sipush (v := 512) hx hb dL_acts_219 (by decide) ?_
          refine lv_idiv hx hb dL_acts_222 (by decide) ?_
          refine lv_iconst (v := 2) hx hb dL_acts_223 (by decide) ?_
          refine lv_irem hx hb dL_acts_224 (by decide) ?_
          refine lv_if_ne (tgt := 232) hx hb dL_acts_225 (by decide) (fun _ => ?_) (fun cn => absurd cn cf)
          refine lv_iconst (v := 0) hx hb dL_acts_232 (by decide) ?_
          refine cl_forge S hK hO (by omega) (Or.inl rfl) q486 ⟨Nat.le_of_ble_eq_true rfl, Nat.le_of_ble_eq_true rfl⟩ hP hD hS hA rfl hl.1 (Nat.le_of_ble_eq_true rfl) ⟨Nat.le_refl 0, Nat.le_refl 0⟩ dL_acts_233 (fun r2 M2 L1 H locs h2 hO hP hD hS => ?_)
          exact retO S hr hlk rfl ⟨k, _, hk12, h24, (by rw [hat]; unfold A_at; rw [if_neg (show ¬ i < 3 by omega), if_neg (show ¬ i < 5 by omega), if_neg (show ¬ i < 6 by omega), if_neg (show ¬ i < 9 by omega), if_pos (show i < 13 by omega), if_neg cf]; exact h2), hO.mono (by omega)⟩ hP.left (bD_app.mp hD).1 hS dL_acts_236
      by_cases z11 : i = 11
      · rw [z11]
        refine lv_tableIn (off := 170) (tgt := 208) hx hb dL_acts_38 (by decide) (by decide) (by rfl) (by decide) ?_
        refine lv_aload_n hx hb dL_acts_208 rfl (lv_at hl 3 rfl) ?_
        refine lv_iload hx hb dL_acts_209 (lv_at hl 0 rfl) ?_
        refine lv_iload_n hx hb dL_acts_211 rfl (lv_at hl 2 rfl) ?_
        refine lv_bipush (v := 16) hx hb dL_acts_212 (by decide) ?_
        refine lv_idiv hx hb dL_acts_214 (by decide) ?_
        refine lv_bipush (v := 24) hx hb dL_acts_215 (by decide) ?_
        refine lv_irem hx hb dL_acts_217 (by decide) ?_
        by_cases cf : (nI cN / 32) / 512 - (nI cN / 32) / 512 / 2 * 2 = 0
        · skip
          refine lv_iload_n hx hb dL_acts_218 rfl (lv_at hl 2 rfl) ?_
          refine lv_sipush (v := 512) hx hb dL_acts_219 (by decide) ?_
          refine lv_idiv hx hb dL_acts_222 (by decide) ?_
          refine lv_iconst (v := 2) hx hb dL_acts_223 (by decide) ?_
          refine lv_irem hx hb dL_acts_224 (by decide) ?_
          refine lv_if_ne (tgt := 232) hx hb dL_acts_225 (by decide) (fun cn => absurd cf cn) (fun _ => ?_)
          refine lv_iconst (v := 1) hx hb dL_acts_228 (by decide) ?_
          refine lv_goto (tgt := 233) hx hb dL_acts_229 (by decide) ?_
          refine cl_forge S hK hO (by omega) (Or.inr rfl) q486 ⟨Nat.le_of_ble_eq_true rfl, Nat.le_of_ble_eq_true rfl⟩ hP hD hS hA rfl hl.1 (Nat.le_of_ble_eq_true rfl) ⟨Nat.le_refl 0, Nat.le_refl 0⟩ dL_acts_233 (fun r1 M1 L1 H locs h1 hO hP hD hS => ?_)
          exact retO S hr hlk rfl ⟨k, _, hk12, h24, (by rw [hat]; unfold A_at; rw [if_neg (show ¬ i < 3 by omega), if_neg (show ¬ i < 5 by omega), if_neg (show ¬ i < 6 by omega), if_neg (show ¬ i < 9 by omega), if_pos (show i < 13 by omega), if_pos cf]; exact h1), hO.mono (by omega)⟩ hP.left (bD_app.mp hD).1 hS dL_acts_236
        · skip
          refine lv_iload_n hx hb dL_acts_218 rfl (lv_at hl 2 rfl) ?_
          refine lv_sipush (v := 512) hx hb dL_acts_219 (by decide) ?_
          refine lv_idiv hx hb dL_acts_222 (by decide) ?_
          refine lv_iconst (v := 2) hx hb dL_acts_223 (by decide) ?_
          refine lv_irem hx hb dL_acts_224 (by decide) ?_
          refine lv_if_ne (tgt := 232) hx hb dL_acts_225 (by decide) (fun _ => ?_) (fun cn => absurd cn cf)
          refine lv_iconst (v := 0) hx hb dL_acts_232 (by decide) ?_
          refine cl_forge S hK hO (by omega) (Or.inl rfl) q486 ⟨Nat.le_of_ble_eq_true rfl, Nat.le_of_ble_eq_true rfl⟩ hP hD hS hA rfl hl.1 (Nat.le_of_ble_eq_true rfl) ⟨Nat.le_refl 0, Nat.le_refl 0⟩ dL_acts_233 (fun r2 M2 L1 H locs h2 hO hP hD hS => ?_)
          exact retO S hr hlk rfl ⟨k, _, hk12, h24, (by rw [hat]; unfold A_at; rw [if_neg (show ¬ i < 3 by omega), if_neg (show ¬ i < 5 by omega), if_neg (show ¬ i < 6 by omega), if_neg (show ¬ i < 9 by omega), if_pos (show i < 13 by omega), if_neg cf]; exact h2), hO.mono (by omega)⟩ hP.left (bD_app.mp hD).1 hS dL_acts_236
      by_cases z12 : i = 12
      · rw [z12]
        refine lv_tableIn (off := 170) (tgt := 208) hx hb dL_acts_38 (by decide) (by decide) (by rfl) (by decide) ?_
        refine lv_aload_n hx hb dL_acts_208 rfl (lv_at hl 3 rfl) ?_
        refine lv_iload hx hb dL_acts_209 (lv_at hl 0 rfl) ?_
        refine lv_iload_n hx hb dL_acts_211 rfl (lv_at hl 2 rfl) ?_
        refine lv_bipush (v := 16) hx hb dL_acts_212 (by decide) ?_
        refine lv_idiv hx hb dL_acts_214 (by decide) ?_
        refine lv_bipush (v := 24) hx hb dL_acts_215 (by decide) ?_
        refine lv_irem hx hb dL_acts_217 (by decide) ?_
        by_cases cf : (nI cN / 32) / 512 - (nI cN / 32) / 512 / 2 * 2 = 0
        · skip
          refine lv_iload_n hx hb dL_acts_218 rfl (lv_at hl 2 rfl) ?_
          refine lv_sipush (v := 512) hx hb dL_acts_219 (by decide) ?_
          refine lv_idiv hx hb dL_acts_222 (by decide) ?_
          refine lv_iconst (v := 2) hx hb dL_acts_223 (by decide) ?_
          refine lv_irem hx hb dL_acts_224 (by decide) ?_
          refine lv_if_ne (tgt := 232) hx hb dL_acts_225 (by decide) (fun cn => absurd cf cn) (fun _ => ?_)
          refine lv_iconst (v := 1) hx hb dL_acts_228 (by decide) ?_
          refine lv_goto (tgt := 233) hx hb dL_acts_229 (by decide) ?_
          refine cl_forge S hK hO (by omega) (Or.inr rfl) q486 ⟨Nat.le_of_ble_eq_true rfl, Nat.le_of_ble_eq_true rfl⟩ hP hD hS hA rfl hl.1 (Nat.le_of_ble_eq_true rfl) ⟨Nat.le_refl 0, Nat.le_refl 0⟩ dL_acts_233 (fun r1 M1 L1 H locs h1 hO hP hD hS => ?_)
          exact retO S hr hlk rfl ⟨k, _, hk12, h24, (by rw [hat]; unfold A_at; rw [if_neg (show ¬ i < 3 by omega), if_neg (show ¬ i < 5 by omega), if_neg (show ¬ i < 6 by omega), if_neg (show ¬ i < 9 by omega), if_pos (show i < 13 by omega), if_pos cf]; exact h1), hO.mono (by omega)⟩ hP.left (bD_app.mp hD).1 hS dL_acts_236
        · skip
          refine lv_iload_n hx hb dL_acts_218 rfl (lv_at hl 2 rfl) ?_
          refine lv_sipush (v := 512) hx hb dL_acts_219 (by decide) ?_
          refine lv_idiv hx hb dL_acts_222 (by decide) ?_
          refine lv_iconst (v := 2) hx hb dL_acts_223 (by decide) ?_
          refine lv_irem hx hb dL_acts_224 (by decide) ?_
          refine lv_if_ne (tgt := 232) hx hb dL_acts_225 (by decide) (fun _ => ?_) (fun cn => absurd cn cf)
          refine lv_iconst (v := 0) hx hb dL_acts_232 (by decide) ?_
          refine cl_forge S hK hO (by omega) (Or.inl rfl) q486 ⟨Nat.le_of_ble_eq_true rfl, Nat.le_of_ble_eq_true rfl⟩ hP hD hS hA rfl hl.1 (Nat.le_of_ble_eq_true rfl) ⟨Nat.le_refl 0, Nat.le_refl 0⟩ dL_acts_233 (fun r2 M2 L1 H locs h2 hO hP hD hS => ?_)
          exact retO S hr hlk rfl ⟨k, _, hk12, h24, (by rw [hat]; unfold A_at; rw [if_neg (show ¬ i < 3 by omega), if_neg (show ¬ i < 5 by omega), if_neg (show ¬ i < 6 by omega), if_neg (show ¬ i < 9 by omega), if_pos (show i < 13 by omega), if_neg cf]; exact h2), hO.mono (by omega)⟩ hP.left (bD_app.mp hD).1 hS dL_acts_236
      by_cases z13 : i = 13
      · rw [z13]
        refine lv_tableIn (off := 199) (tgt := 237) hx hb dL_acts_38 (by decide) (by decide) (by rfl) (by decide) ?_
        refine lv_aload_n hx hb dL_acts_237 rfl (lv_at hl 3 rfl) ?_
        refine lv_iload hx hb dL_acts_238 (lv_at hl 0 rfl) ?_
        refine cl_mend S hK hO (by omega) q495 ⟨Nat.le_of_ble_eq_true rfl, Nat.le_of_ble_eq_true rfl⟩ hP hD hS hA rfl hl.1 (Nat.le_of_ble_eq_true rfl) ⟨Nat.le_refl 0, Nat.le_refl 0⟩ dL_acts_240 (fun r1 M1 L1 H locs h1 hO hP hD hS => ?_)
        exact retO S hr hlk rfl ⟨k, _, hk12, h24, (by rw [hat]; unfold A_at; rw [if_neg (show ¬ i < 3 by omega), if_neg (show ¬ i < 5 by omega), if_neg (show ¬ i < 6 by omega), if_neg (show ¬ i < 9 by omega), if_neg (show ¬ i < 13 by omega), if_pos (show i < 15 by omega)]; exact h1), hO.mono (by omega)⟩ hP.left (bD_app.mp hD).1 hS dL_acts_243
      by_cases z14 : i = 14
      · rw [z14]
        refine lv_tableIn (off := 199) (tgt := 237) hx hb dL_acts_38 (by decide) (by decide) (by rfl) (by decide) ?_
        refine lv_aload_n hx hb dL_acts_237 rfl (lv_at hl 3 rfl) ?_
        refine lv_iload hx hb dL_acts_238 (lv_at hl 0 rfl) ?_
        refine cl_mend S hK hO (by omega) q495 ⟨Nat.le_of_ble_eq_true rfl, Nat.le_of_ble_eq_true rfl⟩ hP hD hS hA rfl hl.1 (Nat.le_of_ble_eq_true rfl) ⟨Nat.le_refl 0, Nat.le_refl 0⟩ dL_acts_240 (fun r1 M1 L1 H locs h1 hO hP hD hS => ?_)
        exact retO S hr hlk rfl ⟨k, _, hk12, h24, (by rw [hat]; unfold A_at; rw [if_neg (show ¬ i < 3 by omega), if_neg (show ¬ i < 5 by omega), if_neg (show ¬ i < 6 by omega), if_neg (show ¬ i < 9 by omega), if_neg (show ¬ i < 13 by omega), if_pos (show i < 15 by omega)]; exact h1), hO.mono (by omega)⟩ hP.left (bD_app.mp hD).1 hS dL_acts_243
      by_cases z15 : i = 15
      · rw [z15]
        refine lv_tableIn (off := 206) (tgt := 244) hx hb dL_acts_38 (by decide) (by decide) (by rfl) (by decide) ?_
        refine lv_aload_n hx hb dL_acts_244 rfl (lv_at hl 3 rfl) ?_
        refine lv_iload hx hb dL_acts_245 (lv_at hl 0 rfl) ?_
        refine lv_iload_n hx hb dL_acts_247 rfl (lv_at hl 2 rfl) ?_
        refine lv_bipush (v := 16) hx hb dL_acts_248 (by decide) ?_
        refine lv_idiv hx hb dL_acts_250 (by decide) ?_
        refine lv_sipush (v := 19999) hx hb dL_acts_251 (by decide) ?_
        refine lv_irem hx hb dL_acts_254 (by decide) ?_
        refine lv_sipush (v := 9999) hx hb dL_acts_255 (by decide) ?_
        refine lv_isub hx hb dL_acts_258 ?_
        refine cl_turn S hK hO (by omega) q503 ⟨Nat.le_of_ble_eq_true rfl, Nat.le_of_ble_eq_true rfl⟩ hP hD hS hA rfl hl.1 (Nat.le_of_ble_eq_true rfl) ⟨Nat.le_refl 0, Nat.le_refl 0⟩ dL_acts_259 (fun r1 M1 L1 H locs h1 hO hP hD hS => ?_)
        exact retO S hr hlk rfl ⟨k, _, hk12, h24, (by rw [hat]; unfold A_at; rw [if_neg (show ¬ i < 3 by omega), if_neg (show ¬ i < 5 by omega), if_neg (show ¬ i < 6 by omega), if_neg (show ¬ i < 9 by omega), if_neg (show ¬ i < 13 by omega), if_neg (show ¬ i < 15 by omega), if_pos (show i < 19 by omega)]; exact h1), hO.mono (by omega)⟩ hP.left (bD_app.mp hD).1 hS dL_acts_262
      by_cases z16 : i = 16
      · rw [z16]
        refine lv_tableIn (off := 206) (tgt := 244) hx hb dL_acts_38 (by decide) (by decide) (by rfl) (by decide) ?_
        refine lv_aload_n hx hb dL_acts_244 rfl (lv_at hl 3 rfl) ?_
        refine lv_iload hx hb dL_acts_245 (lv_at hl 0 rfl) ?_
        refine lv_iload_n hx hb dL_acts_247 rfl (lv_at hl 2 rfl) ?_
        refine lv_bipush (v := 16) hx hb dL_acts_248 (by decide) ?_
        refine lv_idiv hx hb dL_acts_250 (by decide) ?_
        refine lv_sipush (v := 19999) hx hb dL_acts_251 (by decide) ?_
        refine lv_irem hx hb dL_acts_254 (by decide) ?_
        refine lv_sipush (v := 9999) hx hb dL_acts_255 (by decide) ?_
        refine lv_isub hx hb dL_acts_258 ?_
        refine cl_turn S hK hO (by omega) q503 ⟨Nat.le_of_ble_eq_true rfl, Nat.le_of_ble_eq_true rfl⟩ hP hD hS hA rfl hl.1 (Nat.le_of_ble_eq_true rfl) ⟨Nat.le_refl 0, Nat.le_refl 0⟩ dL_acts_259 (fun r1 M1 L1 H locs h1 hO hP hD hS => ?_)
        exact retO S hr hlk rfl ⟨k, _, hk12, h24, (by rw [hat]; unfold A_at; rw [if_neg (show ¬ i < 3 by omega), if_neg (show ¬ i < 5 by omega), if_neg (show ¬ i < 6 by omega), if_neg (show ¬ i < 9 by omega), if_neg (show ¬ i < 13 by omega), if_neg (show ¬ i < 15 by omega), if_pos (show i < 19 by omega)]; exact h1), hO.mono (by omega)⟩ hP.left (bD_app.mp hD).1 hS dL_acts_262
      by_cases z17 : i = 17
      · rw [z17]
        refine lv_tableIn (off := 206) (tgt := 244) hx hb dL_acts_38 (by decide) (by decide) (by rfl) (by decide) ?_
        refine lv_aload_n hx hb dL_acts_244 rfl (lv_at hl 3 rfl) ?_
        refine lv_iload hx hb dL_acts_245 (lv_at hl 0 rfl) ?_
        refine lv_iload_n hx hb dL_acts_247 rfl (lv_at hl 2 rfl) ?_
        refine lv_bipush (v := 16) hx hb dL_acts_248 (by decide) ?_
        refine lv_idiv hx hb dL_acts_250 (by decide) ?_
        refine lv_sipush (v := 19999) hx hb dL_acts_251 (by decide) ?_
        refine lv_irem hx hb dL_acts_254 (by decide) ?_
        refine lv_sipush (v := 9999) hx hb dL_acts_255 (by decide) ?_
        refine lv_isub hx hb dL_acts_258 ?_
        refine cl_turn S hK hO (by omega) q503 ⟨Nat.le_of_ble_eq_true rfl, Nat.le_of_ble_eq_true rfl⟩ hP hD hS hA rfl hl.1 (Nat.le_of_ble_eq_true rfl) ⟨Nat.le_refl 0, Nat.le_refl 0⟩ dL_acts_259 (fun r1 M1 L1 H locs h1 hO hP hD hS => ?_)
        exact retO S hr hlk rfl ⟨k, _, hk12, h24, (by rw [hat]; unfold A_at; rw [if_neg (show ¬ i < 3 by omega), if_neg (show ¬ i < 5 by omega), if_neg (show ¬ i < 6 by omega), if_neg (show ¬ i < 9 by omega), if_neg (show ¬ i < 13 by omega), if_neg (show ¬ i < 15 by omega), if_pos (show i < 19 by omega)]; exact h1), hO.mono (by omega)⟩ hP.left (bD_app.mp hD).1 hS dL_acts_262
      by_cases z18 : i = 18
      · rw [z18]
        refine lv_tableIn (off := 206) (tgt := 244) hx hb dL_acts_38 (by decide) (by decide) (by rfl) (by decide) ?_
        refine lv_aload_n hx hb dL_acts_244 rfl (lv_at hl 3 rfl) ?_
        refine lv_iload hx hb dL_acts_245 (lv_at hl 0 rfl) ?_
        refine lv_iload_n hx hb dL_acts_247 rfl (lv_at hl 2 rfl) ?_
        refine lv_bipush (v := 16) hx hb dL_acts_248 (by decide) ?_
        refine lv_idiv hx hb dL_acts_250 (by decide) ?_
        refine lv_sipush (v := 19999) hx hb dL_acts_251 (by decide) ?_
        refine lv_irem hx hb dL_acts_254 (by decide) ?_
        refine lv_sipush (v := 9999) hx hb dL_acts_255 (by decide) ?_
        refine lv_isub hx hb dL_acts_258 ?_
        refine cl_turn S hK hO (by omega) q503 ⟨Nat.le_of_ble_eq_true rfl, Nat.le_of_ble_eq_true rfl⟩ hP hD hS hA rfl hl.1 (Nat.le_of_ble_eq_true rfl) ⟨Nat.le_refl 0, Nat.le_refl 0⟩ dL_acts_259 (fun r1 M1 L1 H locs h1 hO hP hD hS => ?_)
        exact retO S hr hlk rfl ⟨k, _, hk12, h24, (by rw [hat]; unfold A_at; rw [if_neg (show ¬ i < 3 by omega), if_neg (show ¬ i < 5 by omega), if_neg (show ¬ i < 6 by omega), if_neg (show ¬ i < 9 by omega), if_neg (show ¬ i < 13 by omega), if_neg (show ¬ i < 15 by omega), if_pos (show i < 19 by omega)]; exact h1), hO.mono (by omega)⟩ hP.left (bD_app.mp hD).1 hS dL_acts_262
      by_cases z19 : i = 19
      · rw [z19]
        refine lv_tableIn (off := 225) (tgt := 263) hx hb dL_acts_38 (by decide) (by decide) (by rfl) (by decide) ?_
        refine lv_aload_n hx hb dL_acts_263 rfl (lv_at hl 3 rfl) ?_
        refine lv_iload hx hb dL_acts_264 (lv_at hl 0 rfl) ?_
        by_cases cs : (nI cN / 32) / 16 - (nI cN / 32) / 16 / 3 * 3 ≤ 0
        · skip
          refine lv_iload_n hx hb dL_acts_266 rfl (lv_at hl 2 rfl) ?_
          refine lv_bipush (v := 16) hx hb dL_acts_267 (by decide) ?_
          refine lv_idiv hx hb dL_acts_269 (by decide) ?_
          refine lv_iconst (v := 3) hx hb dL_acts_270 (by decide) ?_
          refine lv_irem hx hb dL_acts_271 (by decide) ?_
          refine lv_if_le (tgt := 279) hx hb dL_acts_272 (by decide) (fun _ => ?_) (fun cn => absurd cs cn)
          refine lv_iconst (v := 0) hx hb dL_acts_279 (by decide) ?_
          refine cl_stack S hK hO (by omega) (Or.inl rfl) q508 ⟨Nat.le_of_ble_eq_true rfl, Nat.le_of_ble_eq_true rfl⟩ hP hD hS hA rfl hl.1 (Nat.le_of_ble_eq_true rfl) ⟨Nat.le_refl 0, Nat.le_refl 0⟩ dL_acts_280 (fun r1 M1 L1 H locs h1 hO hP hD hS => ?_)
          exact retO S hr hlk rfl ⟨k, _, hk12, h24, (by rw [hat]; unfold A_at; rw [if_neg (show ¬ i < 3 by omega), if_neg (show ¬ i < 5 by omega), if_neg (show ¬ i < 6 by omega), if_neg (show ¬ i < 9 by omega), if_neg (show ¬ i < 13 by omega), if_neg (show ¬ i < 15 by omega), if_neg (show ¬ i < 19 by omega), if_pos (show i < 22 by omega), if_pos cs]; exact h1), hO.mono (by omega)⟩ hP.left (bD_app.mp hD).1 hS dL_acts_283
        · skip
          refine lv_iload_n hx hb dL_acts_266 rfl (lv_at hl 2 rfl) ?_
          refine lv_bipush (v := 16) hx hb dL_acts_267 (by decide) ?_
          refine lv_idiv hx hb dL_acts_269 (by decide) ?_
          refine lv_iconst (v := 3) hx hb dL_acts_270 (by decide) ?_
          refine lv_irem hx hb dL_acts_271 (by decide) ?_
          refine lv_if_le (tgt := 279) hx hb dL_acts_272 (by decide) (fun cn => absurd cn cs) (fun _ => ?_)
          refine lv_iconst (v := 1) hx hb dL_acts_275 (by decide) ?_
          refine lv_goto (tgt := 280) hx hb dL_acts_276 (by decide) ?_
          refine cl_stack S hK hO (by omega) (Or.inr rfl) q508 ⟨Nat.le_of_ble_eq_true rfl, Nat.le_of_ble_eq_true rfl⟩ hP hD hS hA rfl hl.1 (Nat.le_of_ble_eq_true rfl) ⟨Nat.le_refl 0, Nat.le_refl 0⟩ dL_acts_280 (fun r2 M2 L1 H locs h2 hO hP hD hS => ?_)
          exact retO S hr hlk rfl ⟨k, _, hk12, h24, (by rw [hat]; unfold A_at; rw [if_neg (show ¬ i < 3 by omega), if_neg (show ¬ i < 5 by omega), if_neg (show ¬ i < 6 by omega), if_neg (show ¬ i < 9 by omega), if_neg (show ¬ i < 13 by omega), if_neg (show ¬ i < 15 by omega), if_neg (show ¬ i < 19 by omega), if_pos (show i < 22 by omega), if_neg cs]; exact h2), hO.mono (by omega)⟩ hP.left (bD_app.mp hD).1 hS dL_acts_283
      by_cases z20 : i = 20
      · rw [z20]
        refine lv_tableIn (off := 225) (tgt := 263) hx hb dL_acts_38 (by decide) (by decide) (by rfl) (by decide) ?_
        refine lv_aload_n hx hb dL_acts_263 rfl (lv_at hl 3 rfl) ?_
        refine lv_iload hx hb dL_acts_264 (lv_at hl 0 rfl) ?_
        by_cases cs : (nI cN / 32) / 16 - (nI cN / 32) / 16 / 3 * 3 ≤ 0
        · skip
          refine lv_iload_n hx hb dL_acts_266 rfl (lv_at hl 2 rfl) ?_
          refine lv_bipush (v := 16) hx hb dL_acts_267 (by decide) ?_
          refine lv_idiv hx hb dL_acts_269 (by decide) ?_
          refine lv_iconst (v := 3) hx hb dL_acts_270 (by decide) ?_
          refine lv_irem hx hb dL_acts_271 (by decide) ?_
          refine lv_if_le (tgt := 279) hx hb dL_acts_272 (by decide) (fun _ => ?_) (fun cn => absurd cs cn)
          refine lv_iconst (v := 0) hx hb dL_acts_279 (by decide) ?_
          refine cl_stack S hK hO (by omega) (Or.inl rfl) q508 ⟨Nat.le_of_ble_eq_true rfl, Nat.le_of_ble_eq_true rfl⟩ hP hD hS hA rfl hl.1 (Nat.le_of_ble_eq_true rfl) ⟨Nat.le_refl 0, Nat.le_refl 0⟩ dL_acts_280 (fun r1 M1 L1 H locs h1 hO hP hD hS => ?_)
          exact retO S hr hlk rfl ⟨k, _, hk12, h24, (by rw [hat]; unfold A_at; rw [if_neg (show ¬ i < 3 by omega), if_neg (show ¬ i < 5 by omega), if_neg (show ¬ i < 6 by omega), if_neg (show ¬ i < 9 by omega), if_neg (show ¬ i < 13 by omega), if_neg (show ¬ i < 15 by omega), if_neg (show ¬ i < 19 by omega), if_pos (show i < 22 by omega), if_pos cs]; exact h1), hO.mono (by omega)⟩ hP.left (bD_app.mp hD).1 hS dL_acts_283
        · skip
          refine lv_iload_n hx hb dL_acts_266 rfl (lv_at hl 2 rfl) ?_
          refine lv_bipush (v := 16) hx hb dL_acts_267 (by decide) ?_
          refine lv_idiv hx hb dL_acts_269 (by decide) ?_
          refine lv_iconst (v := 3) hx hb dL_acts_270 (by decide) ?_
          refine lv_irem hx hb dL_acts_271 (by decide) ?_
          refine lv_if_le (tgt := 279) hx hb dL_acts_272 (by decide) (fun cn => absurd cn cs) (fun _ => ?_)
          refine lv_iconst (v := 1) hx hb dL_acts_275 (by decide) ?_
          refine lv_goto (tgt := 280) hx hb dL_acts_276 (by decide) ?_
          refine cl_stack S hK hO (by omega) (Or.inr rfl) q508 ⟨Nat.le_of_ble_eq_true rfl, Nat.le_of_ble_eq_true rfl⟩ hP hD hS hA rfl hl.1 (Nat.le_of_ble_eq_true rfl) ⟨Nat.le_refl 0, Nat.le_refl 0⟩ dL_acts_280 (fun r2 M2 L1 H locs h2 hO hP hD hS => ?_)
          exact retO S hr hlk rfl ⟨k, _, hk12, h24, (by rw [hat]; unfold A_at; rw [if_neg (show ¬ i < 3 by omega), if_neg (show ¬ i < 5 by omega), if_neg (show ¬ i < 6 by omega), if_neg (show ¬ i < 9 by omega), if_neg (show ¬ i < 13 by omega), if_neg (show ¬ i < 15 by omega), if_neg (show ¬ i < 19 by omega), if_pos (show i < 22 by omega), if_neg cs]; exact h2), hO.mono (by omega)⟩ hP.left (bD_app.mp hD).1 hS dL_acts_283
      by_cases z21 : i = 21
      · rw [z21]
        refine lv_tableIn (off := 225) (tgt := 263) hx hb dL_acts_38 (by decide) (by decide) (by rfl) (by decide) ?_
        refine lv_aload_n hx hb dL_acts_263 rfl (lv_at hl 3 rfl) ?_
        refine lv_iload hx hb dL_acts_264 (lv_at hl 0 rfl) ?_
        by_cases cs : (nI cN / 32) / 16 - (nI cN / 32) / 16 / 3 * 3 ≤ 0
        · skip
          refine lv_iload_n hx hb dL_acts_266 rfl (lv_at hl 2 rfl) ?_
          refine lv_bipush (v := 16) hx hb dL_acts_267 (by decide) ?_
          refine lv_idiv hx hb dL_acts_269 (by decide) ?_
          refine lv_iconst (v := 3) hx hb dL_acts_270 (by decide) ?_
          refine lv_irem hx hb dL_acts_271 (by decide) ?_
          refine lv_if_le (tgt := 279) hx hb dL_acts_272 (by decide) (fun _ => ?_) (fun cn => absurd cs cn)
          refine lv_iconst (v := 0) hx hb dL_acts_279 (by decide) ?_
          refine cl_stack S hK hO (by omega) (Or.inl rfl) q508 ⟨Nat.le_of_ble_eq_true rfl, Nat.le_of_ble_eq_true rfl⟩ hP hD hS hA rfl hl.1 (Nat.le_of_ble_eq_true rfl) ⟨Nat.le_refl 0, Nat.le_refl 0⟩ dL_acts_280 (fun r1 M1 L1 H locs h1 hO hP hD hS => ?_)
          exact retO S hr hlk rfl ⟨k, _, hk12, h24, (by rw [hat]; unfold A_at; rw [if_neg (show ¬ i < 3 by omega), if_neg (show ¬ i < 5 by omega), if_neg (show ¬ i < 6 by omega), if_neg (show ¬ i < 9 by omega), if_neg (show ¬ i < 13 by omega), if_neg (show ¬ i < 15 by omega), if_neg (show ¬ i < 19 by omega), if_pos (show i < 22 by omega), if_pos cs]; exact h1), hO.mono (by omega)⟩ hP.left (bD_app.mp hD).1 hS dL_acts_283
        · skip
          refine lv_iload_n hx hb dL_acts_266 rfl (lv_at hl 2 rfl) ?_
          refine lv_bipush (v := 16) hx hb dL_acts_267 (by decide) ?_
          refine lv_idiv hx hb dL_acts_269 (by decide) ?_
          refine lv_iconst (v := 3) hx hb dL_acts_270 (by decide) ?_
          refine lv_irem hx hb dL_acts_271 (by decide) ?_
          refine lv_if_le (tgt := 279) hx hb dL_acts_272 (by decide) (fun cn => absurd cn cs) (fun _ => ?_)
          refine lv_iconst (v := 1) hx hb dL_acts_275 (by decide) ?_
          refine lv_goto (tgt := 280) hx hb dL_acts_276 (by decide) ?_
          refine cl_stack S hK hO (by omega) (Or.inr rfl) q508 ⟨Nat.le_of_ble_eq_true rfl, Nat.le_of_ble_eq_true rfl⟩ hP hD hS hA rfl hl.1 (Nat.le_of_ble_eq_true rfl) ⟨Nat.le_refl 0, Nat.le_refl 0⟩ dL_acts_280 (fun r2 M2 L1 H locs h2 hO hP hD hS => ?_)
          exact retO S hr hlk rfl ⟨k, _, hk12, h24, (by rw [hat]; unfold A_at; rw [if_neg (show ¬ i < 3 by omega), if_neg (show ¬ i < 5 by omega), if_neg (show ¬ i < 6 by omega), if_neg (show ¬ i < 9 by omega), if_neg (show ¬ i < 13 by omega), if_neg (show ¬ i < 15 by omega), if_neg (show ¬ i < 19 by omega), if_pos (show i < 22 by omega), if_neg cs]; exact h2), hO.mono (by omega)⟩ hP.left (bD_app.mp hD).1 hS dL_acts_283
      by_cases z22 : i = 22
      · rw [z22]
        refine lv_tableIn (off := 246) (tgt := 284) hx hb dL_acts_38 (by decide) (by decide) (by rfl) (by decide) ?_
        refine lv_aload_n hx hb dL_acts_284 rfl (lv_at hl 3 rfl) ?_
        refine lv_iload_n hx hb dL_acts_285 rfl (lv_at hl 2 rfl) ?_
        refine lv_bipush (v := 61) hx hb dL_acts_286 (by decide) ?_
        refine lv_irem hx hb dL_acts_288 (by decide) ?_
        refine lv_bipush (v := 30) hx hb dL_acts_289 (by decide) ?_
        refine lv_isub hx hb dL_acts_291 ?_
        refine cl_turnStack S hK hO (by omega) q266 ⟨Nat.le_of_ble_eq_true rfl, Nat.le_of_ble_eq_true rfl⟩ hP hD hS hA rfl hl.1 (Nat.le_of_ble_eq_true rfl) ⟨Nat.le_refl 0, Nat.le_refl 0⟩ dL_acts_292 (fun r1 M1 L1 H locs h1 hO hP hD hS => ?_)
        exact retO S hr hlk rfl ⟨k, _, hk12, h24, (by rw [hat]; unfold A_at; rw [if_neg (show ¬ i < 3 by omega), if_neg (show ¬ i < 5 by omega), if_neg (show ¬ i < 6 by omega), if_neg (show ¬ i < 9 by omega), if_neg (show ¬ i < 13 by omega), if_neg (show ¬ i < 15 by omega), if_neg (show ¬ i < 19 by omega), if_neg (show ¬ i < 22 by omega), if_pos (show i < 24 by omega)]; exact h1), hO.mono (by omega)⟩ hP.left (bD_app.mp hD).1 hS dL_acts_295
      by_cases z23 : i = 23
      · rw [z23]
        refine lv_tableIn (off := 246) (tgt := 284) hx hb dL_acts_38 (by decide) (by decide) (by rfl) (by decide) ?_
        refine lv_aload_n hx hb dL_acts_284 rfl (lv_at hl 3 rfl) ?_
        refine lv_iload_n hx hb dL_acts_285 rfl (lv_at hl 2 rfl) ?_
        refine lv_bipush (v := 61) hx hb dL_acts_286 (by decide) ?_
        refine lv_irem hx hb dL_acts_288 (by decide) ?_
        refine lv_bipush (v := 30) hx hb dL_acts_289 (by decide) ?_
        refine lv_isub hx hb dL_acts_291 ?_
        refine cl_turnStack S hK hO (by omega) q266 ⟨Nat.le_of_ble_eq_true rfl, Nat.le_of_ble_eq_true rfl⟩ hP hD hS hA rfl hl.1 (Nat.le_of_ble_eq_true rfl) ⟨Nat.le_refl 0, Nat.le_refl 0⟩ dL_acts_292 (fun r1 M1 L1 H locs h1 hO hP hD hS => ?_)
        exact retO S hr hlk rfl ⟨k, _, hk12, h24, (by rw [hat]; unfold A_at; rw [if_neg (show ¬ i < 3 by omega), if_neg (show ¬ i < 5 by omega), if_neg (show ¬ i < 6 by omega), if_neg (show ¬ i < 9 by omega), if_neg (show ¬ i < 13 by omega), if_neg (show ¬ i < 15 by omega), if_neg (show ¬ i < 19 by omega), if_neg (show ¬ i < 22 by omega), if_pos (show i < 24 by omega)]; exact h1), hO.mono (by omega)⟩ hP.left (bD_app.mp hD).1 hS dL_acts_295
      by_cases z24 : i = 24
      · rw [z24]
        refine lv_tableIn (off := 258) (tgt := 296) hx hb dL_acts_38 (by decide) (by decide) (by rfl) (by decide) ?_
        refine lv_aload_n hx hb dL_acts_296 rfl (lv_at hl 3 rfl) ?_
        refine cl_keep S hK hO (by omega) q516 ⟨Nat.le_of_ble_eq_true rfl, Nat.le_of_ble_eq_true rfl⟩ hP hD hS hA rfl hl.1 (Nat.le_of_ble_eq_true rfl) ⟨Nat.le_refl 0, Nat.le_refl 0⟩ dL_acts_297 (fun r1 M1 L1 H locs h1 hO hP hD hS => ?_)
        exact retO S hr hlk rfl ⟨k, _, hk12, h24, (by rw [hat]; unfold A_at; rw [if_neg (show ¬ i < 3 by omega), if_neg (show ¬ i < 5 by omega), if_neg (show ¬ i < 6 by omega), if_neg (show ¬ i < 9 by omega), if_neg (show ¬ i < 13 by omega), if_neg (show ¬ i < 15 by omega), if_neg (show ¬ i < 19 by omega), if_neg (show ¬ i < 22 by omega), if_neg (show ¬ i < 24 by omega), if_pos (show i < 25 by omega)]; exact h1), hO.mono (by omega)⟩ hP.left (bD_app.mp hD).1 hS dL_acts_300
      by_cases z25 : i = 25
      · rw [z25]
        refine lv_tableIn (off := 263) (tgt := 301) hx hb dL_acts_38 (by decide) (by decide) (by rfl) (by decide) ?_
        refine lv_aload_n hx hb dL_acts_301 rfl (lv_at hl 3 rfl) ?_
        refine cl_restore S hK hO (by omega) q323 ⟨Nat.le_of_ble_eq_true rfl, Nat.le_of_ble_eq_true rfl⟩ hP hD hS hA rfl hl.1 (Nat.le_of_ble_eq_true rfl) ⟨Nat.le_refl 0, Nat.le_refl 0⟩ dL_acts_302 (fun r1 M1 L1 H locs h1 hO hP hD hS => ?_)
        exact retO S hr hlk rfl ⟨k, _, hk12, h24, (by rw [hat]; unfold A_at; rw [if_neg (show ¬ i < 3 by omega), if_neg (show ¬ i < 5 by omega), if_neg (show ¬ i < 6 by omega), if_neg (show ¬ i < 9 by omega), if_neg (show ¬ i < 13 by omega), if_neg (show ¬ i < 15 by omega), if_neg (show ¬ i < 19 by omega), if_neg (show ¬ i < 22 by omega), if_neg (show ¬ i < 24 by omega), if_neg (show ¬ i < 25 by omega), if_pos (show i < 26 by omega)]; exact h1), hO.mono (by omega)⟩ hP.left (bD_app.mp hD).1 hS dL_acts_305
      by_cases z26 : i = 26
      · rw [z26]
        refine lv_tableIn (off := 268) (tgt := 306) hx hb dL_acts_38 (by decide) (by decide) (by rfl) (by decide) ?_
        refine lv_aload_n hx hb dL_acts_306 rfl (lv_at hl 3 rfl) ?_
        refine cl_undo S hK hO (by omega) q311 ⟨Nat.le_of_ble_eq_true rfl, Nat.le_of_ble_eq_true rfl⟩ hP hD hS hA rfl hl.1 (Nat.le_of_ble_eq_true rfl) ⟨Nat.le_refl 0, Nat.le_refl 0⟩ dL_acts_307 (fun r1 M1 L1 H locs h1 hO hP hD hS => ?_)
        exact retO S hr hlk rfl ⟨k, _, hk12, h24, (by rw [hat]; unfold A_at; rw [if_neg (show ¬ i < 3 by omega), if_neg (show ¬ i < 5 by omega), if_neg (show ¬ i < 6 by omega), if_neg (show ¬ i < 9 by omega), if_neg (show ¬ i < 13 by omega), if_neg (show ¬ i < 15 by omega), if_neg (show ¬ i < 19 by omega), if_neg (show ¬ i < 22 by omega), if_neg (show ¬ i < 24 by omega), if_neg (show ¬ i < 25 by omega), if_neg (show ¬ i < 26 by omega), if_pos (show i < 28 by omega)]; exact h1), hO.mono (by omega)⟩ hP.left (bD_app.mp hD).1 hS dL_acts_310
      by_cases z27 : i = 27
      · rw [z27]
        refine lv_tableIn (off := 268) (tgt := 306) hx hb dL_acts_38 (by decide) (by decide) (by rfl) (by decide) ?_
        refine lv_aload_n hx hb dL_acts_306 rfl (lv_at hl 3 rfl) ?_
        refine cl_undo S hK hO (by omega) q311 ⟨Nat.le_of_ble_eq_true rfl, Nat.le_of_ble_eq_true rfl⟩ hP hD hS hA rfl hl.1 (Nat.le_of_ble_eq_true rfl) ⟨Nat.le_refl 0, Nat.le_refl 0⟩ dL_acts_307 (fun r1 M1 L1 H locs h1 hO hP hD hS => ?_)
        exact retO S hr hlk rfl ⟨k, _, hk12, h24, (by rw [hat]; unfold A_at; rw [if_neg (show ¬ i < 3 by omega), if_neg (show ¬ i < 5 by omega), if_neg (show ¬ i < 6 by omega), if_neg (show ¬ i < 9 by omega), if_neg (show ¬ i < 13 by omega), if_neg (show ¬ i < 15 by omega), if_neg (show ¬ i < 19 by omega), if_neg (show ¬ i < 22 by omega), if_neg (show ¬ i < 24 by omega), if_neg (show ¬ i < 25 by omega), if_neg (show ¬ i < 26 by omega), if_pos (show i < 28 by omega)]; exact h1), hO.mono (by omega)⟩ hP.left (bD_app.mp hD).1 hS dL_acts_310
      refine lv_tableOut (tgt := 311) hx hb dL_acts_38 (Or.inr (by rw [nI_toInt (by omega)]; omega)) (by decide) ?_
      refine lv_aload_n hx hb dL_acts_311 rfl (lv_at hl 3 rfl) ?_
      refine cl_clearText S hK hO (by omega) q520 ⟨Nat.le_of_ble_eq_true rfl, Nat.le_of_ble_eq_true rfl⟩ hP hD hS hA rfl hl.1 (Nat.le_of_ble_eq_true rfl) ⟨Nat.le_refl 0, Nat.le_refl 0⟩ dL_acts_312 (fun r1 M1 L1 H locs h1 hO hP hD hS => ?_)
      refine lv_istore (lv' := [(5, .int r1), (4, .int t), (3, .int (nI k)), (2, .int ((nI cN) / 32)), (0, .ref oqa), (1, .int (nI cN))]) hx hb dL_acts_315 hl (by decide) rfl (fun ls hl => ?_)
      refine lv_iload_n hx hb dL_acts_317 rfl (lv_at hl 3 rfl) ?_
      refine lv_bipush (v := 24) hx hb dL_acts_318 (by decide) ?_
      refine lv_irem hx hb dL_acts_320 (by decide) ?_
      refine lv_istore (lv' := [(6, .int (((nI cN) / 32) - ((nI cN) / 32) / 24 * 24)), (5, .int r1), (4, .int t), (3, .int (nI k)), (2, .int ((nI cN) / 32)), (0, .ref oqa), (1, .int (nI cN))]) hx hb dL_acts_321 hl (by decide) rfl (fun ls hl => ?_)
      refine lv_iconst (v := 0) hx hb dL_acts_323 (by decide) ?_
      refine lv_istore (lv' := [(7, .int 0), (6, .int (((nI cN) / 32) - ((nI cN) / 32) / 24 * 24)), (5, .int r1), (4, .int t), (3, .int (nI k)), (2, .int ((nI cN) / 32)), (0, .ref oqa), (1, .int (nI cN))]) hx hb dL_acts_324 hl (by decide) rfl (fun ls hl => ?_)
      exact L326 10 0 _ _ _ _ _ _ _ (by omega) (by omega) (by omega) hO hP hD hS (fun r M2 hq => by rw [hat]; unfold A_at; rw [if_neg (show ¬ i < 3 by omega), if_neg (show ¬ i < 5 by omega), if_neg (show ¬ i < 6 by omega), if_neg (show ¬ i < 9 by omega), if_neg (show ¬ i < 13 by omega), if_neg (show ¬ i < 15 by omega), if_neg (show ¬ i < 19 by omega), if_neg (show ¬ i < 22 by omega), if_neg (show ¬ i < 24 by omega), if_neg (show ¬ i < 25 by omega), if_neg (show ¬ i < 26 by omega), if_neg (show ¬ i < 28 by omega), h1, Option.bind_some]; exact hq) ls (lv_sub hl [0, 1, 2, 5, 6] rfl)
    by_cases c2 : k < 2
    · skip
      refine lv_iload_n hx hb dL_acts_25 rfl (lv_at hl 1 rfl) ?_
      refine lv_iconst (v := 2) hx hb dL_acts_26 (by decide) ?_
      refine lv_icmp_ge (tgt := 34) hx hb dL_acts_27 (by decide) (fun cn => absurd cn (k_nge (a := k) (b := 2) (by omega) (by omega) (by omega))) (fun _ => ?_)
      refine lv_iconst (v := 0) hx hb dL_acts_30 (by decide) ?_
      refine lv_re (y := nI i) (hi1 c2) ?_
      refine lv_goto (tgt := 38) hx hb dL_acts_31 (by decide) ?_
      exact K38 ls (lv_sub hl [0, 1, 2, 3, 4] rfl)
    · skip
      refine lv_iload_n hx hb dL_acts_25 rfl (lv_at hl 1 rfl) ?_
      refine lv_iconst (v := 2) hx hb dL_acts_26 (by decide) ?_
      refine lv_icmp_ge (tgt := 34) hx hb dL_acts_27 (by decide) (fun _ => ?_) (fun cn => absurd (k_ge (a := k) (b := 2) (by omega) (by omega) (by omega)) cn)
      refine lv_iload_n hx hb dL_acts_34 rfl (lv_at hl 4 rfl) ?_
      refine lv_bipush (v := 32) hx hb dL_acts_35 (by decide) ?_
      refine lv_irem hx hb dL_acts_37 (by decide) ?_
      refine lv_re (y := nI i) (hi2 c2) ?_
      exact K38 ls (lv_sub hl [0, 1, 2, 3, 4] rfl)
  by_cases c1 : k < 1
  · skip
    refine lv_iload_n hx hb dL_acts_11 rfl (lv_at hl 0 rfl) ?_
    refine lv_iconst (v := 1) hx hb dL_acts_12 (by decide) ?_
    refine lv_icmp_ge (tgt := 20) hx hb dL_acts_13 (by decide) (fun cn => absurd cn (k_nge (a := k) (b := 1) (by omega) (by omega) (by omega))) (fun _ => ?_)
    refine lv_iconst (v := 0) hx hb dL_acts_16 (by decide) ?_
    refine lv_goto (tgt := 23) hx hb dL_acts_17 (by decide) ?_
    refine lv_re (y := t) (ht1 c1) ?_
    refine lv_istore (lv' := [(4, .int t), (3, .int (nI k)), (2, .int ((nI cN) / 32)), (0, .ref oqa), (1, .int (nI cN))]) hx hb dL_acts_23 hl (by decide) rfl (fun ls hl => ?_)
    exact K25 ls (lv_sub hl [0, 1, 2, 3, 4] rfl)
  · skip
    refine lv_iload_n hx hb dL_acts_11 rfl (lv_at hl 0 rfl) ?_
    refine lv_iconst (v := 1) hx hb dL_acts_12 (by decide) ?_
    refine lv_icmp_ge (tgt := 20) hx hb dL_acts_13 (by decide) (fun _ => ?_) (fun cn => absurd (k_ge (a := k) (b := 1) (by omega) (by omega) (by omega)) cn)
    refine lv_iload_n hx hb dL_acts_20 rfl (lv_at hl 1 rfl) ?_
    refine lv_iload_n hx hb dL_acts_21 rfl (lv_at hl 0 rfl) ?_
    refine lv_irem hx hb dL_acts_22 (nI_nz (by omega) (by omega)) ?_
    refine lv_re (y := t) (ht2 c1) ?_
    refine lv_istore (lv' := [(4, .int t), (3, .int (nI k)), (2, .int ((nI cN) / 32)), (0, .ref oqa), (1, .int (nI cN))]) hx hb dL_acts_23 hl (by decide) rfl (fun ls hl => ?_)
    exact K25 ls (lv_sub hl [0, 1, 2, 3, 4] rfl)
