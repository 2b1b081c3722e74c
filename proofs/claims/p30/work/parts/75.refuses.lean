set_option maxHeartbeats 8000000 in
set_option maxRecDepth 100000 in
theorem c_L_refuses (l : Launch) (G : gG) {oqa c0 : Nat} {M : MT} {L : List va_W} (hO : Obj G oqa c0 M L) (hcb : c0 < 9000000) {y : Nat} (hy : y < 100000) (sz : Nat) : ObM l G yL_refuses cL_refuses 6 .boolean (rmk 7 160) L sz [.ref oqa, .int (nI y)] (fun r L2 => r = 1 ∧ Obj G oqa (c0 + 1000) M L2) := by
  obtain ⟨σ, k, Ho, Du, ms, hV⟩ := VR_of hO
  obtain ⟨hPm, hMv, ⟨hk12, h24⟩, hHo, hDu, hms, h49⟩ := id hV
  obtain ⟨no, hno1, hno2⟩ : ∃ no : Int32, (y % 2 = 0 → nI k + nI y = no) ∧ (¬ y % 2 = 0 → (-1 : Int32) - nI y = no) := by
    by_cases c : y % 2 = 0
    · exact ⟨_, fun _ => rfl, fun q => absurd c q⟩
    · exact ⟨_, fun q => absurd q c, fun _ => rfl⟩
  obtain ⟨off, hoff1, hoff2⟩ : ∃ off : Int32, (y % 2 = 0 → (24 : Int32) + nI y = off) ∧ (¬ y % 2 = 0 → (-1 : Int32) - nI y = off) := by
    by_cases c : y % 2 = 0
    · exact ⟨_, fun _ => rfl, fun q => absurd c q⟩
    · exact ⟨_, fun q => absurd q c, fun _ => rfl⟩
  have hno : F_X5_isTicket M.2.2.2.2.2.2.2.2.2.1 no = some 0 := rf_no hk12 h24 (fun t ht => by
    by_cases c : y % 2 = 0
    · rw [← hno1 c, nI_add]; exact k_ne (by omega) (by omega) (by omega)
    · rw [← hno2 c]; exact m1_ne (by omega) (by omega))
  have hoff : F_X5_isPlace off = some 0 := rf_off (fun t ht => by
    by_cases c : y % 2 = 0
    · rw [← hoff1 c, show (24 : Int32) + nI y = nI (24 + y) from nI_add 24 y]; exact k_ne (by omega) (by omega) (by omega)
    · rw [← hoff2 c]; exact m1_ne (by omega) (by omega))
  have hmd : F_X5_isPlace (nI y - nI y / 24 * 24) = some 1 := by
    have e : nI y - nI y / 24 * 24 = nI (y % 24) := pk_rem (d := 24) (by omega) (by omega) (by omega)
    rw [e]; exact plM1 (Nat.mod_lt _ (by omega))
  refine ofOb (by decide) (Nat.le_of_ble_eq_true rfl) ?_
  intro p e s m below meth c ls A S hr hlk hK hP hD hS hA hl
  have S : CallFix p m c cL_refuses 6 s ([.ref oqa, .int (nI y)] : List Value).toArray T0 RL := S
  obtain ⟨hx, hb, hml, hown, hts⟩ := id S
  have hl : lv_has ls 6 [(0, .ref oqa), (1, .int (nI y))] := hl
  obtain ⟨H, hH⟩ : ∃ H, H = s.heap := ⟨_, rfl⟩
  obtain ⟨locs, hlo⟩ : ∃ locs : List Loc, locs = [] := ⟨_, rfl⟩
  rw [← hH] at hP
  have hS : va_S A s.heap H locs := by rw [hH, hlo]; exact hS
  rw [show W p l e (rmk 7 160) s m ([.ref oqa, .int (nI y)] : List Value).toArray below meth c s.heap [] 0 0 (MQ below (gQo G (fun r L2 => r = 1 ∧ Obj G oqa (c0 + 1000) M L2) A) ([.ref oqa, .int (nI y)] : List Value).toArray s 0 0 A) (F0 m 0 ls []) = W p l e (rmk 7 160) s m ([.ref oqa, .int (nI y)] : List Value).toArray below meth c H locs 0 0 (MQ below (gQo G (fun r L2 => r = 1 ∧ Obj G oqa (c0 + 1000) M L2) A) ([.ref oqa, .int (nI y)] : List Value).toArray s 0 0 A) (F0 m 0 ls []) by rw [hH, hlo]]
  refine lv_aload_n hx hb dL_refuses_0 rfl (lv_at hl 0 rfl) ?_
  refine lv_iconst (v := 0) hx hb dL_refuses_1 (by decide) ?_
  refine kr_count S hK hO q399 ⟨Nat.le_of_ble_eq_true rfl, Nat.le_of_ble_eq_true rfl⟩ hP.left rfl hl.1 (Nat.le_of_ble_eq_true rfl) ⟨Nat.le_refl 0, Nat.le_refl 0⟩ dL_refuses_2 (v_count0 hV _ _) ?_
  refine lv_istore_n (lv' := [(2, .int (nI k)), (0, .ref oqa), (1, .int (nI y))]) hx hb dL_refuses_5 rfl hl (by decide) rfl (fun ls hl => ?_)
  have K22 : ∀ (ci : Nat) (L1 : List va_W) (H : Heap) (locs : List Loc), ci ≤ c0 + 100 → Obj G oqa ci M L1 → bP G (L1 ++ []) H → bD A (L1 ++ []) → va_S A s.heap H locs → ∀ ls : Array Slot, lv_has ls 6 [(3, .int no), (2, .int (nI k)), (0, .ref oqa), (1, .int (nI y))] → W p l e (rmk 7 160) s m ([.ref oqa, .int (nI y)] : List Value).toArray below meth c H locs 0 0 (MQ below (gQo G (fun r L2 => r = 1 ∧ Obj G oqa (c0 + 1000) M L2) A) ([.ref oqa, .int (nI y)] : List Value).toArray s 0 0 A) (F0 m 22 ls []) := by
    intro ci L1 H locs hci hO hP hD hS ls hl
    have K40 : ∀ (ci : Nat) (L1 : List va_W) (H : Heap) (locs : List Loc), ci ≤ c0 + 200 → Obj G oqa ci M L1 → bP G (L1 ++ []) H → bD A (L1 ++ []) → va_S A s.heap H locs → ∀ ls : Array Slot, lv_has ls 6 [(4, .int off), (3, .int no), (2, .int (nI k)), (0, .ref oqa), (1, .int (nI y))] → W p l e (rmk 7 160) s m ([.ref oqa, .int (nI y)] : List Value).toArray below meth c H locs 0 0 (MQ below (gQo G (fun r L2 => r = 1 ∧ Obj G oqa (c0 + 1000) M L2) A) ([.ref oqa, .int (nI y)] : List Value).toArray s 0 0 A) (F0 m 40 ls []) := by
      intro ci L1 H locs hci hO hP hD hS ls hl
      refine lv_aload_n hx hb dL_refuses_40 rfl (lv_at hl 3 rfl) ?_
      refine lv_iload hx hb dL_refuses_41 (lv_at hl 0 rfl) ?_
      refine lv_iconst (v := 0) hx hb dL_refuses_43 (by decide) ?_
      refine kl_exchange S hK hO (by omega) q458 ⟨Nat.le_of_ble_eq_true rfl, Nat.le_of_ble_eq_true rfl⟩ hP hD hS hA rfl hl.1 (Nat.le_of_ble_eq_true rfl) ⟨Nat.le_refl 0, Nat.le_refl 0⟩ dL_refuses_44 (rx_exch1 hoff) (fun L1 H locs hO hP hD hS => ?_)
      refine lv_iconst (v := (-1)) hx hb dL_refuses_47 (by decide) ?_
      refine lv_icmp_ne (tgt := 379) hx hb dL_refuses_48 (by decide) (fun cn => absurd rfl cn) (fun _ => ?_)
      refine lv_aload_n hx hb dL_refuses_51 rfl (lv_at hl 3 rfl) ?_
      refine lv_iconst (v := 0) hx hb dL_refuses_52 (by decide) ?_
      refine lv_iload hx hb dL_refuses_53 (lv_at hl 0 rfl) ?_
      refine kl_exchange S hK hO (by omega) q458 ⟨Nat.le_of_ble_eq_true rfl, Nat.le_of_ble_eq_true rfl⟩ hP hD hS hA rfl hl.1 (Nat.le_of_ble_eq_true rfl) ⟨Nat.le_refl 0, Nat.le_refl 0⟩ dL_refuses_55 (rx_exch2 (plM1 (p := 0) (by omega)) hoff) (fun L1 H locs hO hP hD hS => ?_)
      refine lv_iconst (v := (-1)) hx hb dL_refuses_58 (by decide) ?_
      refine lv_icmp_ne (tgt := 379) hx hb dL_refuses_59 (by decide) (fun cn => absurd rfl cn) (fun _ => ?_)
      refine lv_aload_n hx hb dL_refuses_62 rfl (lv_at hl 3 rfl) ?_
      refine lv_iload hx hb dL_refuses_63 (lv_at hl 0 rfl) ?_
      refine lv_iload hx hb dL_refuses_65 (lv_at hl 0 rfl) ?_
      refine kl_exchange S hK hO (by omega) q458 ⟨Nat.le_of_ble_eq_true rfl, Nat.le_of_ble_eq_true rfl⟩ hP hD hS hA rfl hl.1 (Nat.le_of_ble_eq_true rfl) ⟨Nat.le_refl 0, Nat.le_refl 0⟩ dL_refuses_67 (rx_exch1 hoff) (fun L1 H locs hO hP hD hS => ?_)
      refine lv_iconst (v := (-1)) hx hb dL_refuses_70 (by decide) ?_
      refine lv_icmp_ne (tgt := 379) hx hb dL_refuses_71 (by decide) (fun cn => absurd rfl cn) (fun _ => ?_)
      refine lv_aload_n hx hb dL_refuses_74 rfl (lv_at hl 3 rfl) ?_
      refine lv_iload_n hx hb dL_refuses_75 rfl (lv_at hl 4 rfl) ?_
      refine lv_bipush (v := 24) hx hb dL_refuses_76 (by decide) ?_
      refine lv_irem hx hb dL_refuses_78 (by decide) ?_
      refine lv_iload_n hx hb dL_refuses_79 rfl (lv_at hl 4 rfl) ?_
      refine lv_bipush (v := 24) hx hb dL_refuses_80 (by decide) ?_
      refine lv_irem hx hb dL_refuses_82 (by decide) ?_
      refine kl_exchange S hK hO (by omega) q458 ⟨Nat.le_of_ble_eq_true rfl, Nat.le_of_ble_eq_true rfl⟩ hP hD hS hA rfl hl.1 (Nat.le_of_ble_eq_true rfl) ⟨Nat.le_refl 0, Nat.le_refl 0⟩ dL_refuses_83 (rx_exch3 hmd) (fun L1 H locs hO hP hD hS => ?_)
      refine lv_bipush (v := (-5)) hx hb dL_refuses_86 (by decide) ?_
      refine lv_icmp_ne (tgt := 379) hx hb dL_refuses_88 (by decide) (fun cn => absurd rfl cn) (fun _ => ?_)
      refine lv_aload_n hx hb dL_refuses_91 rfl (lv_at hl 3 rfl) ?_
      refine lv_iconst (v := (-1)) hx hb dL_refuses_92 (by decide) ?_
      refine lv_iload_n hx hb dL_refuses_93 rfl (lv_at hl 4 rfl) ?_
      refine lv_isub hx hb dL_refuses_94 ?_
      refine kl_sell S hK hO (by omega) q449 ⟨Nat.le_of_ble_eq_true rfl, Nat.le_of_ble_eq_true rfl⟩ hP hD hS hA rfl hl.1 (Nat.le_of_ble_eq_true rfl) ⟨Nat.le_refl 0, Nat.le_refl 0⟩ dL_refuses_95 (rx_sell (in0l (m1_lt (show y < 2 ^ 20 by omega)))) (fun L1 H locs hO hP hD hS => ?_)
      refine lv_bipush (v := (-2)) hx hb dL_refuses_98 (by decide) ?_
      refine lv_icmp_ne (tgt := 379) hx hb dL_refuses_100 (by decide) (fun cn => absurd rfl cn) (fun _ => ?_)
      refine lv_aload_n hx hb dL_refuses_103 rfl (lv_at hl 3 rfl) ?_
      refine lv_ldc (v := 16777216) hx hb hown (hts _ q559) dL_refuses_104 ?_
      refine lv_iload_n hx hb dL_refuses_106 rfl (lv_at hl 4 rfl) ?_
      refine lv_iadd hx hb dL_refuses_107 ?_
      refine kl_sell S hK hO (by omega) q449 ⟨Nat.le_of_ble_eq_true rfl, Nat.le_of_ble_eq_true rfl⟩ hP hD hS hA rfl hl.1 (Nat.le_of_ble_eq_true rfl) ⟨Nat.le_refl 0, Nat.le_refl 0⟩ dL_refuses_108 (rx_sell (in0h (ad_gt (c := 16777216) (n := 16777215) (by omega) (show y < 2 ^ 20 by omega) (by omega)))) (fun L1 H locs hO hP hD hS => ?_)
      refine lv_bipush (v := (-2)) hx hb dL_refuses_111 (by decide) ?_
      refine lv_icmp_ne (tgt := 379) hx hb dL_refuses_113 (by decide) (fun cn => absurd rfl cn) (fun _ => ?_)
      refine lv_aload_n hx hb dL_refuses_116 rfl (lv_at hl 3 rfl) ?_
      refine lv_iload_n hx hb dL_refuses_117 rfl (lv_at hl 1 rfl) ?_
      refine lv_iconst (v := 0) hx hb dL_refuses_118 (by decide) ?_
      refine kl_punch S hK hO (by omega) q475 ⟨Nat.le_of_ble_eq_true rfl, Nat.le_of_ble_eq_true rfl⟩ hP hD hS hA rfl hl.1 (Nat.le_of_ble_eq_true rfl) ⟨Nat.le_refl 0, Nat.le_refl 0⟩ dL_refuses_119 (rx_punch1 hno) (fun L1 H locs hO hP hD hS => ?_)
      refine lv_iconst (v := (-1)) hx hb dL_refuses_122 (by decide) ?_
      refine lv_icmp_ne (tgt := 379) hx hb dL_refuses_123 (by decide) (fun cn => absurd rfl cn) (fun _ => ?_)
      refine lv_aload_n hx hb dL_refuses_126 rfl (lv_at hl 3 rfl) ?_
      refine lv_iload_n hx hb dL_refuses_127 rfl (lv_at hl 1 rfl) ?_
      refine lv_iconst (v := 0) hx hb dL_refuses_128 (by decide) ?_
      refine lv_iconst (v := 1) hx hb dL_refuses_129 (by decide) ?_
      refine kl_forge S hK hO (by omega) (Or.inr rfl) q486 ⟨Nat.le_of_ble_eq_true rfl, Nat.le_of_ble_eq_true rfl⟩ hP hD hS hA rfl hl.1 (Nat.le_of_ble_eq_true rfl) ⟨Nat.le_refl 0, Nat.le_refl 0⟩ dL_refuses_130 (rx_forge1 hno) (fun L1 H locs hO hP hD hS => ?_)
      refine lv_iconst (v := (-1)) hx hb dL_refuses_133 (by decide) ?_
      refine lv_icmp_ne (tgt := 379) hx hb dL_refuses_134 (by decide) (fun cn => absurd rfl cn) (fun _ => ?_)
      refine lv_aload_n hx hb dL_refuses_137 rfl (lv_at hl 3 rfl) ?_
      refine lv_iload_n hx hb dL_refuses_138 rfl (lv_at hl 1 rfl) ?_
      refine kl_mend S hK hO (by omega) q495 ⟨Nat.le_of_ble_eq_true rfl, Nat.le_of_ble_eq_true rfl⟩ hP hD hS hA rfl hl.1 (Nat.le_of_ble_eq_true rfl) ⟨Nat.le_refl 0, Nat.le_refl 0⟩ dL_refuses_139 (rx_mend1 hno) (fun L1 H locs hO hP hD hS => ?_)
      refine lv_iconst (v := (-1)) hx hb dL_refuses_142 (by decide) ?_
      refine lv_icmp_ne (tgt := 379) hx hb dL_refuses_143 (by decide) (fun cn => absurd rfl cn) (fun _ => ?_)
      refine lv_aload_n hx hb dL_refuses_146 rfl (lv_at hl 3 rfl) ?_
      refine lv_iload_n hx hb dL_refuses_147 rfl (lv_at hl 1 rfl) ?_
      refine lv_ldc (v := 99999) hx hb hown (hts _ q617) dL_refuses_148 ?_
      refine kl_turn S hK hO (by omega) q503 ⟨Nat.le_of_ble_eq_true rfl, Nat.le_of_ble_eq_true rfl⟩ hP hD hS hA rfl hl.1 (Nat.le_of_ble_eq_true rfl) ⟨Nat.le_refl 0, Nat.le_refl 0⟩ dL_refuses_150 (rx_turn1 hno) (fun L1 H locs hO hP hD hS => ?_)
      refine lv_iconst (v := (-1)) hx hb dL_refuses_153 (by decide) ?_
      refine lv_icmp_ne (tgt := 379) hx hb dL_refuses_154 (by decide) (fun cn => absurd rfl cn) (fun _ => ?_)
      refine lv_aload_n hx hb dL_refuses_157 rfl (lv_at hl 3 rfl) ?_
      refine lv_iload_n hx hb dL_refuses_158 rfl (lv_at hl 1 rfl) ?_
      refine lv_iconst (v := 1) hx hb dL_refuses_159 (by decide) ?_
      refine kl_stack S hK hO (by omega) (Or.inr rfl) q508 ⟨Nat.le_of_ble_eq_true rfl, Nat.le_of_ble_eq_true rfl⟩ hP hD hS hA rfl hl.1 (Nat.le_of_ble_eq_true rfl) ⟨Nat.le_refl 0, Nat.le_refl 0⟩ dL_refuses_160 (rx_stack1 hno) (fun L1 H locs hO hP hD hS => ?_)
      refine lv_iconst (v := (-1)) hx hb dL_refuses_163 (by decide) ?_
      refine lv_icmp_ne (tgt := 379) hx hb dL_refuses_164 (by decide) (fun cn => absurd rfl cn) (fun _ => ?_)
      refine lv_aload_n hx hb dL_refuses_167 rfl (lv_at hl 3 rfl) ?_
      refine lv_sipush (v := 10000) hx hb dL_refuses_168 (by decide) ?_
      refine lv_iload_n hx hb dL_refuses_171 rfl (lv_at hl 4 rfl) ?_
      refine lv_iadd hx hb dL_refuses_172 ?_
      refine kl_turnStack S hK hO (by omega) q266 ⟨Nat.le_of_ble_eq_true rfl, Nat.le_of_ble_eq_true rfl⟩ hP hD hS hA rfl hl.1 (Nat.le_of_ble_eq_true rfl) ⟨Nat.le_refl 0, Nat.le_refl 0⟩ dL_refuses_173 (rx_ts1 (pw_hi (show y < 2 ^ 20 by omega))) (fun L1 H locs hO hP hD hS => ?_)
      refine lv_bipush (v := (-2)) hx hb dL_refuses_176 (by decide) ?_
      refine lv_icmp_ne (tgt := 379) hx hb dL_refuses_178 (by decide) (fun cn => absurd rfl cn) (fun _ => ?_)
      refine lv_aload_n hx hb dL_refuses_181 rfl (lv_at hl 3 rfl) ?_
      refine lv_sipush (v := (-10000)) hx hb dL_refuses_182 (by decide) ?_
      refine lv_iload_n hx hb dL_refuses_185 rfl (lv_at hl 4 rfl) ?_
      refine lv_isub hx hb dL_refuses_186 ?_
      refine kl_turnStack S hK hO (by omega) q266 ⟨Nat.le_of_ble_eq_true rfl, Nat.le_of_ble_eq_true rfl⟩ hP hD hS hA rfl hl.1 (Nat.le_of_ble_eq_true rfl) ⟨Nat.le_refl 0, Nat.le_refl 0⟩ dL_refuses_187 (rx_ts1 (pw_lo (show y < 2 ^ 20 by omega))) (fun L1 H locs hO hP hD hS => ?_)
      refine lv_bipush (v := (-2)) hx hb dL_refuses_190 (by decide) ?_
      refine lv_icmp_ne (tgt := 379) hx hb dL_refuses_192 (by decide) (fun cn => absurd rfl cn) (fun _ => ?_)
      refine lv_aload_n hx hb dL_refuses_195 rfl (lv_at hl 3 rfl) ?_
      refine lv_iconst (v := 0) hx hb dL_refuses_196 (by decide) ?_
      refine kl_turnStack S hK hO (by omega) q266 ⟨Nat.le_of_ble_eq_true rfl, Nat.le_of_ble_eq_true rfl⟩ hP hD hS hA rfl hl.1 (Nat.le_of_ble_eq_true rfl) ⟨Nat.le_refl 0, Nat.le_refl 0⟩ dL_refuses_197 (rx_ts2 hV) (fun L1 H locs hO hP hD hS => ?_)
      refine lv_bipush (v := (-5)) hx hb dL_refuses_200 (by decide) ?_
      refine lv_icmp_ne (tgt := 379) hx hb dL_refuses_202 (by decide) (fun cn => absurd rfl cn) (fun _ => ?_)
      refine lv_aload_n hx hb dL_refuses_205 rfl (lv_at hl 3 rfl) ?_
      refine lv_iload hx hb dL_refuses_206 (lv_at hl 0 rfl) ?_
      refine lv_iconst (v := 0) hx hb dL_refuses_208 (by decide) ?_
      refine kr_place S hK hO q332 ⟨Nat.le_of_ble_eq_true rfl, Nat.le_of_ble_eq_true rfl⟩ hP.left rfl hl.1 (Nat.le_of_ble_eq_true rfl) ⟨Nat.le_refl 0, Nat.le_refl 0⟩ dL_refuses_209 (rv_place1 hoff) ?_
      refine lv_iconst (v := (-1)) hx hb dL_refuses_212 (by decide) ?_
      refine lv_icmp_ne (tgt := 379) hx hb dL_refuses_213 (by decide) (fun cn => absurd rfl cn) (fun _ => ?_)
      refine lv_aload_n hx hb dL_refuses_216 rfl (lv_at hl 3 rfl) ?_
      refine lv_iconst (v := 0) hx hb dL_refuses_217 (by decide) ?_
      refine lv_iconst (v := 5) hx hb dL_refuses_218 (by decide) ?_
      refine lv_iload_n hx hb dL_refuses_219 rfl (lv_at hl 4 rfl) ?_
      refine lv_iadd hx hb dL_refuses_220 ?_
      refine kr_place S hK hO q332 ⟨Nat.le_of_ble_eq_true rfl, Nat.le_of_ble_eq_true rfl⟩ hP.left rfl hl.1 (Nat.le_of_ble_eq_true rfl) ⟨Nat.le_refl 0, Nat.le_refl 0⟩ dL_refuses_221 (rv_place2 (show y < 2 ^ 20 by omega)) ?_
      refine lv_bipush (v := (-2)) hx hb dL_refuses_224 (by decide) ?_
      refine lv_icmp_ne (tgt := 379) hx hb dL_refuses_226 (by decide) (fun cn => absurd rfl cn) (fun _ => ?_)
      refine lv_aload_n hx hb dL_refuses_229 rfl (lv_at hl 3 rfl) ?_
      refine lv_iconst (v := 5) hx hb dL_refuses_230 (by decide) ?_
      refine lv_iload_n hx hb dL_refuses_231 rfl (lv_at hl 4 rfl) ?_
      refine lv_iadd hx hb dL_refuses_232 ?_
      refine kr_move S hK hO q359 ⟨Nat.le_of_ble_eq_true rfl, Nat.le_of_ble_eq_true rfl⟩ hP.left rfl hl.1 (Nat.le_of_ble_eq_true rfl) ⟨Nat.le_refl 0, Nat.le_refl 0⟩ dL_refuses_233 (rv_move1 (show y < 2 ^ 20 by omega)) ?_
      refine lv_bipush (v := (-2)) hx hb dL_refuses_236 (by decide) ?_
      refine lv_icmp_ne (tgt := 379) hx hb dL_refuses_238 (by decide) (fun cn => absurd rfl cn) (fun _ => ?_)
      refine lv_aload_n hx hb dL_refuses_241 rfl (lv_at hl 3 rfl) ?_
      refine lv_iconst (v := (-1)) hx hb dL_refuses_242 (by decide) ?_
      refine lv_iload_n hx hb dL_refuses_243 rfl (lv_at hl 4 rfl) ?_
      refine lv_isub hx hb dL_refuses_244 ?_
      refine kr_move S hK hO q359 ⟨Nat.le_of_ble_eq_true rfl, Nat.le_of_ble_eq_true rfl⟩ hP.left rfl hl.1 (Nat.le_of_ble_eq_true rfl) ⟨Nat.le_refl 0, Nat.le_refl 0⟩ dL_refuses_245 (rv_move2 (show y < 2 ^ 20 by omega)) ?_
      refine lv_bipush (v := (-2)) hx hb dL_refuses_248 (by decide) ?_
      refine lv_icmp_ne (tgt := 379) hx hb dL_refuses_250 (by decide) (fun cn => absurd rfl cn) (fun _ => ?_)
      refine lv_aload_n hx hb dL_refuses_253 rfl (lv_at hl 3 rfl) ?_
      refine lv_iload hx hb dL_refuses_254 (lv_at hl 0 rfl) ?_
      refine lv_iconst (v := 0) hx hb dL_refuses_256 (by decide) ?_
      refine kr_power S hK hO q618 ⟨Nat.le_of_ble_eq_true rfl, Nat.le_of_ble_eq_true rfl⟩ hP.left rfl hl.1 (Nat.le_of_ble_eq_true rfl) ⟨Nat.le_refl 0, Nat.le_refl 0⟩ dL_refuses_257 (rv_power1 hoff) ?_
      refine lv_iconst (v := (-1)) hx hb dL_refuses_260 (by decide) ?_
      refine lv_icmp_ne (tgt := 379) hx hb dL_refuses_261 (by decide) (fun cn => absurd rfl cn) (fun _ => ?_)
      refine lv_aload_n hx hb dL_refuses_264 rfl (lv_at hl 3 rfl) ?_
      refine lv_iconst (v := 0) hx hb dL_refuses_265 (by decide) ?_
      refine lv_sipush (v := 10000) hx hb dL_refuses_266 (by decide) ?_
      refine lv_iload_n hx hb dL_refuses_269 rfl (lv_at hl 4 rfl) ?_
      refine lv_iadd hx hb dL_refuses_270 ?_
      refine kr_power S hK hO q618 ⟨Nat.le_of_ble_eq_true rfl, Nat.le_of_ble_eq_true rfl⟩ hP.left rfl hl.1 (Nat.le_of_ble_eq_true rfl) ⟨Nat.le_refl 0, Nat.le_refl 0⟩ dL_refuses_271 (rv_power2 (pw_hi (show y < 2 ^ 20 by omega))) ?_
      refine lv_bipush (v := (-2)) hx hb dL_refuses_274 (by decide) ?_
      refine lv_icmp_ne (tgt := 379) hx hb dL_refuses_276 (by decide) (fun cn => absurd rfl cn) (fun _ => ?_)
      refine lv_aload_n hx hb dL_refuses_279 rfl (lv_at hl 3 rfl) ?_
      refine lv_iload_n hx hb dL_refuses_280 rfl (lv_at hl 1 rfl) ?_
      refine lv_iconst (v := 0) hx hb dL_refuses_281 (by decide) ?_
      refine kr_ticket S hK hO q539 ⟨Nat.le_of_ble_eq_true rfl, Nat.le_of_ble_eq_true rfl⟩ hP.left rfl hl.1 (Nat.le_of_ble_eq_true rfl) ⟨Nat.le_refl 0, Nat.le_refl 0⟩ dL_refuses_282 (rv_ticket1 hno) ?_
      refine lv_iconst (v := (-1)) hx hb dL_refuses_285 (by decide) ?_
      refine lv_icmp_ne (tgt := 379) hx hb dL_refuses_286 (by decide) (fun cn => absurd rfl cn) (fun _ => ?_)
      refine lv_aload_n hx hb dL_refuses_289 rfl (lv_at hl 3 rfl) ?_
      refine lv_iload_n hx hb dL_refuses_290 rfl (lv_at hl 1 rfl) ?_
      refine lv_iconst (v := 0) hx hb dL_refuses_291 (by decide) ?_
      refine kr_alikeIn S hK hO q563 ⟨Nat.le_of_ble_eq_true rfl, Nat.le_of_ble_eq_true rfl⟩ hP.left rfl hl.1 (Nat.le_of_ble_eq_true rfl) ⟨Nat.le_refl 0, Nat.le_refl 0⟩ dL_refuses_292 (rv_alike hno) ?_
      refine lv_iconst (v := (-1)) hx hb dL_refuses_295 (by decide) ?_
      refine lv_icmp_ne (tgt := 379) hx hb dL_refuses_296 (by decide) (fun cn => absurd rfl cn) (fun _ => ?_)
      refine lv_aload_n hx hb dL_refuses_299 rfl (lv_at hl 3 rfl) ?_
      refine lv_iload_n hx hb dL_refuses_300 rfl (lv_at hl 1 rfl) ?_
      refine lv_iload_n hx hb dL_refuses_301 rfl (lv_at hl 1 rfl) ?_
      refine kr_meetsIn S hK hO q590 ⟨Nat.le_of_ble_eq_true rfl, Nat.le_of_ble_eq_true rfl⟩ hP.left rfl hl.1 (Nat.le_of_ble_eq_true rfl) ⟨Nat.le_refl 0, Nat.le_refl 0⟩ dL_refuses_302 (rv_meets hno) ?_
      refine lv_iconst (v := (-1)) hx hb dL_refuses_305 (by decide) ?_
      refine lv_icmp_ne (tgt := 379) hx hb dL_refuses_306 (by decide) (fun cn => absurd rfl cn) (fun _ => ?_)
      refine lv_aload_n hx hb dL_refuses_309 rfl (lv_at hl 3 rfl) ?_
      refine lv_iload_n hx hb dL_refuses_310 rfl (lv_at hl 1 rfl) ?_
      refine lv_iconst (v := 0) hx hb dL_refuses_311 (by decide) ?_
      refine kr_reason S hK hO q568 ⟨Nat.le_of_ble_eq_true rfl, Nat.le_of_ble_eq_true rfl⟩ hP.left rfl hl.1 (Nat.le_of_ble_eq_true rfl) ⟨Nat.le_refl 0, Nat.le_refl 0⟩ dL_refuses_312 (rv_reason hno) ?_
      refine lv_iconst (v := (-1)) hx hb dL_refuses_315 (by decide) ?_
      refine lv_icmp_ne (tgt := 379) hx hb dL_refuses_316 (by decide) (fun cn => absurd rfl cn) (fun _ => ?_)
      refine lv_aload_n hx hb dL_refuses_319 rfl (lv_at hl 3 rfl) ?_
      refine lv_iload_n hx hb dL_refuses_320 rfl (lv_at hl 1 rfl) ?_
      refine kr_kin S hK hO q576 ⟨Nat.le_of_ble_eq_true rfl, Nat.le_of_ble_eq_true rfl⟩ hP.left rfl hl.1 (Nat.le_of_ble_eq_true rfl) ⟨Nat.le_refl 0, Nat.le_refl 0⟩ dL_refuses_321 (rv_kin hno) ?_
      refine lv_iconst (v := (-1)) hx hb dL_refuses_324 (by decide) ?_
      refine lv_icmp_ne (tgt := 379) hx hb dL_refuses_325 (by decide) (fun cn => absurd rfl cn) (fun _ => ?_)
      refine lv_aload_n hx hb dL_refuses_328 rfl (lv_at hl 3 rfl) ?_
      refine lv_iload_n hx hb dL_refuses_329 rfl (lv_at hl 1 rfl) ?_
      refine lv_iconst (v := 0) hx hb dL_refuses_330 (by decide) ?_
      refine kr_bestTurn S hK hO q598 ⟨Nat.le_of_ble_eq_true rfl, Nat.le_of_ble_eq_true rfl⟩ hP.left rfl hl.1 (Nat.le_of_ble_eq_true rfl) ⟨Nat.le_refl 0, Nat.le_refl 0⟩ dL_refuses_331 (rv_best hno) ?_
      refine lv_iconst (v := (-1)) hx hb dL_refuses_334 (by decide) ?_
      refine lv_icmp_ne (tgt := 379) hx hb dL_refuses_335 (by decide) (fun cn => absurd rfl cn) (fun _ => ?_)
      refine lv_aload_n hx hb dL_refuses_338 rfl (lv_at hl 3 rfl) ?_
      refine lv_bipush (v := 11) hx hb dL_refuses_339 (by decide) ?_
      refine lv_iload_n hx hb dL_refuses_341 rfl (lv_at hl 4 rfl) ?_
      refine lv_iadd hx hb dL_refuses_342 ?_
      refine kr_count S hK hO q399 ⟨Nat.le_of_ble_eq_true rfl, Nat.le_of_ble_eq_true rfl⟩ hP.left rfl hl.1 (Nat.le_of_ble_eq_true rfl) ⟨Nat.le_refl 0, Nat.le_refl 0⟩ dL_refuses_343 (rv_count (show y < 2 ^ 20 by omega) _ _) ?_
      refine lv_bipush (v := (-2)) hx hb dL_refuses_346 (by decide) ?_
      refine lv_icmp_ne (tgt := 379) hx hb dL_refuses_348 (by decide) (fun cn => absurd rfl cn) (fun _ => ?_)
      refine lv_aload_n hx hb dL_refuses_351 rfl (lv_at hl 3 rfl) ?_
      refine lv_iconst (v := 2) hx hb dL_refuses_352 (by decide) ?_
      refine lv_iload_n hx hb dL_refuses_353 rfl (lv_at hl 4 rfl) ?_
      refine lv_iadd hx hb dL_refuses_354 ?_
      refine kl_fault S hK hO (by omega) q307 ⟨Nat.le_of_ble_eq_true rfl, Nat.le_of_ble_eq_true rfl⟩ hP hD hS hA rfl hl.1 (Nat.le_of_ble_eq_true rfl) ⟨Nat.le_refl 0, Nat.le_refl 0⟩ dL_refuses_355 (rx_fault (in0h (ad_gt (c := 2) (n := 1) (by omega) (show y < 2 ^ 20 by omega) (by omega)))) (fun L1 H locs hO hP hD hS => ?_)
      refine lv_bipush (v := (-2)) hx hb dL_refuses_358 (by decide) ?_
      refine lv_icmp_ne (tgt := 379) hx hb dL_refuses_360 (by decide) (fun cn => absurd rfl cn) (fun _ => ?_)
      refine lv_aload_n hx hb dL_refuses_363 rfl (lv_at hl 3 rfl) ?_
      refine lv_iconst (v := (-1)) hx hb dL_refuses_364 (by decide) ?_
      refine lv_iload_n hx hb dL_refuses_365 rfl (lv_at hl 4 rfl) ?_
      refine lv_isub hx hb dL_refuses_366 ?_
      refine kl_fault S hK hO (by omega) q307 ⟨Nat.le_of_ble_eq_true rfl, Nat.le_of_ble_eq_true rfl⟩ hP hD hS hA rfl hl.1 (Nat.le_of_ble_eq_true rfl) ⟨Nat.le_refl 0, Nat.le_refl 0⟩ dL_refuses_367 (rx_fault (in0l (m1_lt (show y < 2 ^ 20 by omega)))) (fun L1 H locs hO hP hD hS => ?_)
      refine lv_bipush (v := (-2)) hx hb dL_refuses_370 (by decide) ?_
      refine lv_icmp_ne (tgt := 379) hx hb dL_refuses_372 (by decide) (fun cn => absurd rfl cn) (fun _ => ?_)
      refine lv_iconst (v := 1) hx hb dL_refuses_375 (by decide) ?_
      refine lv_goto (tgt := 380) hx hb dL_refuses_376 (by decide) ?_
      refine lv_istore (lv' := [(5, .int 1), (4, .int off), (3, .int no), (2, .int (nI k)), (0, .ref oqa), (1, .int (nI y))]) hx hb dL_refuses_380 hl (by decide) rfl (fun ls hl => ?_)
      refine lv_iload hx hb dL_refuses_382 (lv_at hl 0 rfl) ?_
      refine lv_if_eq (tgt := 547) hx hb dL_refuses_384 (by decide) (fun cn => absurd cn i10) (fun _ => ?_)
      have K543 : ∀ (ci : Nat) (L1 : List va_W) (H : Heap) (locs : List Loc), ci ≤ c0 + 600 → Obj G oqa ci M L1 → bP G (L1 ++ []) H → bD A (L1 ++ []) → va_S A s.heap H locs → ∀ ls : Array Slot, lv_has ls 6 [(0, .ref oqa), (1, .int (nI y))] → W p l e (rmk 7 160) s m ([.ref oqa, .int (nI y)] : List Value).toArray below meth c H locs 0 0 (MQ below (gQo G (fun r L2 => r = 1 ∧ Obj G oqa (c0 + 1000) M L2) A) ([.ref oqa, .int (nI y)] : List Value).toArray s 0 0 A) (F0 m 543 ls []) := by
        intro ci L1 H locs hci hO hP hD hS ls hl
        refine lv_iconst (v := 1) hx hb dL_refuses_543 (by decide) ?_
        refine lv_goto (tgt := 548) hx hb dL_refuses_544 (by decide) ?_
        exact retO S hr hlk rfl ⟨rfl, hO.mono (by omega)⟩ hP.left (bD_app.mp hD).1 hS dL_refuses_548
      by_cases ck : k = 0
      · skip
        refine lv_iload_n hx hb dL_refuses_387 rfl (lv_at hl 3 rfl) ?_
        refine lv_if_eq (tgt := 543) hx hb dL_refuses_388 (by decide) (fun _ => ?_) (fun cn => absurd (congrArg nI ck) cn)
        exact K543 _ _ _ _ (by omega) hO hP hD hS ls (lv_sub hl [4, 5] rfl)
      · skip
        refine lv_iload_n hx hb dL_refuses_387 rfl (lv_at hl 3 rfl) ?_
        refine lv_if_eq (tgt := 543) hx hb dL_refuses_388 (by decide) (fun cn => absurd cn (k_ne (b := 0) (by omega) (by omega) ck)) (fun _ => ?_)
        refine lv_aload_n hx hb dL_refuses_391 rfl (lv_at hl 4 rfl) ?_
        refine lv_iconst (v := 0) hx hb dL_refuses_392 (by decide) ?_
        refine lv_iload hx hb dL_refuses_393 (lv_at hl 1 rfl) ?_
        refine kl_punch S hK hO (by omega) q475 ⟨Nat.le_of_ble_eq_true rfl, Nat.le_of_ble_eq_true rfl⟩ hP hD hS hA rfl hl.1 (Nat.le_of_ble_eq_true rfl) ⟨Nat.le_refl 0, Nat.le_refl 0⟩ dL_refuses_395 (rx_punch2 (v_tk (t := 0) hV (Nat.pos_of_ne_zero ck)) hoff) (fun L1 H locs hO hP hD hS => ?_)
        refine lv_iconst (v := (-1)) hx hb dL_refuses_398 (by decide) ?_
        refine lv_icmp_ne (tgt := 547) hx hb dL_refuses_399 (by decide) (fun cn => absurd rfl cn) (fun _ => ?_)
        refine lv_aload_n hx hb dL_refuses_402 rfl (lv_at hl 4 rfl) ?_
        refine lv_iconst (v := 0) hx hb dL_refuses_403 (by decide) ?_
        refine lv_iload hx hb dL_refuses_404 (lv_at hl 1 rfl) ?_
        refine lv_iconst (v := 0) hx hb dL_refuses_406 (by decide) ?_
        refine kl_forge S hK hO (by omega) (Or.inl rfl) q486 ⟨Nat.le_of_ble_eq_true rfl, Nat.le_of_ble_eq_true rfl⟩ hP hD hS hA rfl hl.1 (Nat.le_of_ble_eq_true rfl) ⟨Nat.le_refl 0, Nat.le_refl 0⟩ dL_refuses_407 (rx_forge2 (v_tk (t := 0) hV (Nat.pos_of_ne_zero ck)) hoff) (fun L1 H locs hO hP hD hS => ?_)
        refine lv_iconst (v := (-1)) hx hb dL_refuses_410 (by decide) ?_
        refine lv_icmp_ne (tgt := 547) hx hb dL_refuses_411 (by decide) (fun cn => absurd rfl cn) (fun _ => ?_)
        refine lv_aload_n hx hb dL_refuses_414 rfl (lv_at hl 4 rfl) ?_
        refine lv_iconst (v := 0) hx hb dL_refuses_415 (by decide) ?_
        refine lv_sipush (v := 10000) hx hb dL_refuses_416 (by decide) ?_
        refine lv_iload_n hx hb dL_refuses_419 rfl (lv_at hl 5 rfl) ?_
        refine lv_iadd hx hb dL_refuses_420 ?_
        refine kl_turn S hK hO (by omega) q503 ⟨Nat.le_of_ble_eq_true rfl, Nat.le_of_ble_eq_true rfl⟩ hP hD hS hA rfl hl.1 (Nat.le_of_ble_eq_true rfl) ⟨Nat.le_refl 0, Nat.le_refl 0⟩ dL_refuses_421 (rx_turn2 (v_tk (t := 0) hV (Nat.pos_of_ne_zero ck)) (pw_hi (show y < 2 ^ 20 by omega))) (fun L1 H locs hO hP hD hS => ?_)
        refine lv_bipush (v := (-2)) hx hb dL_refuses_424 (by decide) ?_
        refine lv_icmp_ne (tgt := 547) hx hb dL_refuses_426 (by decide) (fun cn => absurd rfl cn) (fun _ => ?_)
        refine lv_aload_n hx hb dL_refuses_429 rfl (lv_at hl 4 rfl) ?_
        refine lv_iconst (v := 0) hx hb dL_refuses_430 (by decide) ?_
        refine lv_iconst (v := 0) hx hb dL_refuses_431 (by decide) ?_
        refine kl_turn S hK hO (by omega) q503 ⟨Nat.le_of_ble_eq_true rfl, Nat.le_of_ble_eq_true rfl⟩ hP hD hS hA rfl hl.1 (Nat.le_of_ble_eq_true rfl) ⟨Nat.le_refl 0, Nat.le_refl 0⟩ dL_refuses_432 (rx_turn3 hV (Nat.pos_of_ne_zero ck)) (fun L1 H locs hO hP hD hS => ?_)
        refine lv_bipush (v := (-5)) hx hb dL_refuses_435 (by decide) ?_
        refine lv_icmp_ne (tgt := 547) hx hb dL_refuses_437 (by decide) (fun cn => absurd rfl cn) (fun _ => ?_)
        refine lv_aload_n hx hb dL_refuses_440 rfl (lv_at hl 4 rfl) ?_
        refine lv_iconst (v := 0) hx hb dL_refuses_441 (by decide) ?_
        refine lv_bipush (v := 9) hx hb dL_refuses_442 (by decide) ?_
        refine lv_iload_n hx hb dL_refuses_444 rfl (lv_at hl 5 rfl) ?_
        refine lv_iadd hx hb dL_refuses_445 ?_
        refine kr_ticket S hK hO q539 ⟨Nat.le_of_ble_eq_true rfl, Nat.le_of_ble_eq_true rfl⟩ hP.left rfl hl.1 (Nat.le_of_ble_eq_true rfl) ⟨Nat.le_refl 0, Nat.le_refl 0⟩ dL_refuses_446 (rv_ticket2 hV (Nat.pos_of_ne_zero ck) (show y < 2 ^ 20 by omega)) ?_
        refine lv_bipush (v := (-2)) hx hb dL_refuses_449 (by decide) ?_
        refine lv_icmp_ne (tgt := 547) hx hb dL_refuses_451 (by decide) (fun cn => absurd rfl cn) (fun _ => ?_)
        have K484 : ∀ (ci : Nat) (L1 : List va_W) (H : Heap) (locs : List Loc), ci ≤ c0 + 300 → Obj G oqa ci M L1 → bP G (L1 ++ []) H → bD A (L1 ++ []) → va_S A s.heap H locs → ∀ ls : Array Slot, lv_has ls 6 [(5, .int 1), (4, .int off), (3, .int no), (2, .int (nI k)), (0, .ref oqa), (1, .int (nI y))] → W p l e (rmk 7 160) s m ([.ref oqa, .int (nI y)] : List Value).toArray below meth c H locs 0 0 (MQ below (gQo G (fun r L2 => r = 1 ∧ Obj G oqa (c0 + 1000) M L2) A) ([.ref oqa, .int (nI y)] : List Value).toArray s 0 0 A) (F0 m 484 ls []) := by
          intro ci L1 H locs hci hO hP hD hS ls hl
          have K510 : ∀ (ci : Nat) (L1 : List va_W) (H : Heap) (locs : List Loc), ci ≤ c0 + 400 → Obj G oqa ci M L1 → bP G (L1 ++ []) H → bD A (L1 ++ []) → va_S A s.heap H locs → ∀ ls : Array Slot, lv_has ls 6 [(5, .int 1), (4, .int off), (3, .int no), (2, .int (nI k)), (0, .ref oqa), (1, .int (nI y))] → W p l e (rmk 7 160) s m ([.ref oqa, .int (nI y)] : List Value).toArray below meth c H locs 0 0 (MQ below (gQo G (fun r L2 => r = 1 ∧ Obj G oqa (c0 + 1000) M L2) A) ([.ref oqa, .int (nI y)] : List Value).toArray s 0 0 A) (F0 m 510 ls []) := by
            intro ci L1 H locs hci hO hP hD hS ls hl
            refine lv_aload_n hx hb dL_refuses_510 rfl (lv_at hl 4 rfl) ?_
            refine lv_iconst (v := 0) hx hb dL_refuses_511 (by decide) ?_
            refine lv_iconst (v := 2) hx hb dL_refuses_512 (by decide) ?_
            refine lv_iload_n hx hb dL_refuses_513 rfl (lv_at hl 5 rfl) ?_
            refine lv_iadd hx hb dL_refuses_514 ?_
            refine kr_bestTurn S hK hO q598 ⟨Nat.le_of_ble_eq_true rfl, Nat.le_of_ble_eq_true rfl⟩ hP.left rfl hl.1 (Nat.le_of_ble_eq_true rfl) ⟨Nat.le_refl 0, Nat.le_refl 0⟩ dL_refuses_515 (rv_best2 (v_tk (t := 0) hV (Nat.pos_of_ne_zero ck)) (in0h (ad_gt (c := 2) (n := 1) (by omega) (show y < 2 ^ 20 by omega) (by omega)))) ?_
            refine lv_bipush (v := (-2)) hx hb dL_refuses_518 (by decide) ?_
            refine lv_icmp_ne (tgt := 547) hx hb dL_refuses_520 (by decide) (fun cn => absurd rfl cn) (fun _ => ?_)
            by_cases cm : Ho 0 = Du 0
            · skip
              refine lv_aload_n hx hb dL_refuses_523 rfl (lv_at hl 4 rfl) ?_
              refine lv_iconst (v := 0) hx hb dL_refuses_524 (by decide) ?_
              refine lv_iconst (v := 5) hx hb dL_refuses_525 (by decide) ?_
              refine kr_ticket S hK hO q539 ⟨Nat.le_of_ble_eq_true rfl, Nat.le_of_ble_eq_true rfl⟩ hP.left rfl hl.1 (Nat.le_of_ble_eq_true rfl) ⟨Nat.le_refl 0, Nat.le_refl 0⟩ dL_refuses_526 (v_ticket hV (Nat.pos_of_ne_zero ck) 5) ?_
              refine lv_iconst (v := 1) hx hb dL_refuses_529 (by decide) ?_
              refine lv_icmp_eq (tgt := 543) hx hb dL_refuses_530 (by decide) (fun cn => absurd cn (by rw [if_pos cm]; decide)) (fun _ => ?_)
              refine lv_aload_n hx hb dL_refuses_533 rfl (lv_at hl 4 rfl) ?_
              refine lv_iconst (v := 0) hx hb dL_refuses_534 (by decide) ?_
              refine kl_mend S hK hO (by omega) q495 ⟨Nat.le_of_ble_eq_true rfl, Nat.le_of_ble_eq_true rfl⟩ hP hD hS hA rfl hl.1 (Nat.le_of_ble_eq_true rfl) ⟨Nat.le_refl 0, Nat.le_refl 0⟩ dL_refuses_535 (rx_mend2 hV (Nat.pos_of_ne_zero ck) cm) (fun L1 H locs hO hP hD hS => ?_)
              refine lv_bipush (v := (-5)) hx hb dL_refuses_538 (by decide) ?_
              refine lv_icmp_ne (tgt := 547) hx hb dL_refuses_540 (by decide) (fun cn => absurd rfl cn) (fun _ => ?_)
              exact K543 _ _ _ _ (by omega) hO hP hD hS ls (lv_sub hl [4, 5] rfl)
            · skip
              refine lv_aload_n hx hb dL_refuses_523 rfl (lv_at hl 4 rfl) ?_
              refine lv_iconst (v := 0) hx hb dL_refuses_524 (by decide) ?_
              refine lv_iconst (v := 5) hx hb dL_refuses_525 (by decide) ?_
              refine kr_ticket S hK hO q539 ⟨Nat.le_of_ble_eq_true rfl, Nat.le_of_ble_eq_true rfl⟩ hP.left rfl hl.1 (Nat.le_of_ble_eq_true rfl) ⟨Nat.le_refl 0, Nat.le_refl 0⟩ dL_refuses_526 (v_ticket hV (Nat.pos_of_ne_zero ck) 5) ?_
              refine lv_iconst (v := 1) hx hb dL_refuses_529 (by decide) ?_
              refine lv_icmp_eq (tgt := 543) hx hb dL_refuses_530 (by decide) (fun _ => ?_) (fun cn => absurd (if_neg cm) cn)
              exact K543 _ _ _ _ (by omega) hO hP hD hS ls (lv_sub hl [4, 5] rfl)
          by_cases cs : ms.testBit 0 = true
          · skip
            refine lv_aload_n hx hb dL_refuses_484 rfl (lv_at hl 4 rfl) ?_
            refine lv_iconst (v := 0) hx hb dL_refuses_485 (by decide) ?_
            refine lv_aload_n hx hb dL_refuses_486 rfl (lv_at hl 4 rfl) ?_
            refine lv_iconst (v := 0) hx hb dL_refuses_487 (by decide) ?_
            refine lv_bipush (v := 7) hx hb dL_refuses_488 (by decide) ?_
            refine kr_ticket S hK hO q539 ⟨Nat.le_of_ble_eq_true rfl, Nat.le_of_ble_eq_true rfl⟩ hP.left rfl hl.1 (Nat.le_of_ble_eq_true rfl) ⟨Nat.le_refl 0, Nat.le_refl 0⟩ dL_refuses_490 (v_ticket hV (Nat.pos_of_ne_zero ck) 7) ?_
            refine lv_iconst (v := 1) hx hb dL_refuses_493 (by decide) ?_
            refine lv_icmp_ne (tgt := 501) hx hb dL_refuses_494 (by decide) (fun cn => absurd (if_pos cs) cn) (fun _ => ?_)
            refine lv_iconst (v := 1) hx hb dL_refuses_497 (by decide) ?_
            refine lv_goto (tgt := 502) hx hb dL_refuses_498 (by decide) ?_
            refine kl_stack S hK hO (by omega) (Or.inr rfl) q508 ⟨Nat.le_of_ble_eq_true rfl, Nat.le_of_ble_eq_true rfl⟩ hP hD hS hA rfl hl.1 (Nat.le_of_ble_eq_true rfl) ⟨Nat.le_refl 0, Nat.le_refl 0⟩ dL_refuses_502 (rx_stack2 hV (Nat.pos_of_ne_zero ck) (if_pos cs)) (fun L1 H locs hO hP hD hS => ?_)
            refine lv_bipush (v := (-5)) hx hb dL_refuses_505 (by decide) ?_
            refine lv_icmp_ne (tgt := 547) hx hb dL_refuses_507 (by decide) (fun cn => absurd rfl cn) (fun _ => ?_)
            exact K510 _ _ _ _ (by omega) hO hP hD hS ls (lv_sub hl [0, 1, 2, 3, 4, 5] rfl)
          · skip
            refine lv_aload_n hx hb dL_refuses_484 rfl (lv_at hl 4 rfl) ?_
            refine lv_iconst (v := 0) hx hb dL_refuses_485 (by decide) ?_
            refine lv_aload_n hx hb dL_refuses_486 rfl (lv_at hl 4 rfl) ?_
            refine lv_iconst (v := 0) hx hb dL_refuses_487 (by decide) ?_
            refine lv_bipush (v := 7) hx hb dL_refuses_488 (by decide) ?_
            refine kr_ticket S hK hO q539 ⟨Nat.le_of_ble_eq_true rfl, Nat.le_of_ble_eq_true rfl⟩ hP.left rfl hl.1 (Nat.le_of_ble_eq_true rfl) ⟨Nat.le_refl 0, Nat.le_refl 0⟩ dL_refuses_490 (v_ticket hV (Nat.pos_of_ne_zero ck) 7) ?_
            refine lv_iconst (v := 1) hx hb dL_refuses_493 (by decide) ?_
            refine lv_icmp_ne (tgt := 501) hx hb dL_refuses_494 (by decide) (fun _ => ?_) (fun cn => absurd cn (by rw [if_neg cs]; decide))
            refine lv_iconst (v := 0) hx hb dL_refuses_501 (by decide) ?_
            refine kl_stack S hK hO (by omega) (Or.inl rfl) q508 ⟨Nat.le_of_ble_eq_true rfl, Nat.le_of_ble_eq_true rfl⟩ hP hD hS hA rfl hl.1 (Nat.le_of_ble_eq_true rfl) ⟨Nat.le_refl 0, Nat.le_refl 0⟩ dL_refuses_502 (rx_stack2 hV (Nat.pos_of_ne_zero ck) (if_neg cs)) (fun L1 H locs hO hP hD hS => ?_)
            refine lv_bipush (v := (-5)) hx hb dL_refuses_505 (by decide) ?_
            refine lv_icmp_ne (tgt := 547) hx hb dL_refuses_507 (by decide) (fun cn => absurd rfl cn) (fun _ => ?_)
            exact K510 _ _ _ _ (by omega) hO hP hD hS ls (lv_sub hl [0, 1, 2, 3, 4, 5] rfl)
        by_cases c3 : (nI (Ho 0) >>> ((3 : Int32) &&& 31)) &&& 1 = 1
        · skip
          refine lv_aload_n hx hb dL_refuses_454 rfl (lv_at hl 4 rfl) ?_
          refine lv_iconst (v := 0) hx hb dL_refuses_455 (by decide) ?_
          refine lv_iconst (v := 3) hx hb dL_refuses_456 (by decide) ?_
          refine lv_aload_n hx hb dL_refuses_457 rfl (lv_at hl 4 rfl) ?_
          refine lv_iconst (v := 0) hx hb dL_refuses_458 (by decide) ?_
          refine lv_iconst (v := 0) hx hb dL_refuses_459 (by decide) ?_
          refine kr_ticket S hK hO q539 ⟨Nat.le_of_ble_eq_true rfl, Nat.le_of_ble_eq_true rfl⟩ hP.left rfl hl.1 (Nat.le_of_ble_eq_true rfl) ⟨Nat.le_refl 0, Nat.le_refl 0⟩ dL_refuses_460 (v_ticket hV (Nat.pos_of_ne_zero ck) 0) ?_
          refine lv_iconst (v := 3) hx hb dL_refuses_463 (by decide) ?_
          refine lv_ishr hx hb dL_refuses_464 ?_
          refine lv_iconst (v := 1) hx hb dL_refuses_465 (by decide) ?_
          refine lv_iand hx hb dL_refuses_466 ?_
          refine lv_iconst (v := 1) hx hb dL_refuses_467 (by decide) ?_
          refine lv_icmp_ne (tgt := 475) hx hb dL_refuses_468 (by decide) (fun cn => absurd c3 cn) (fun _ => ?_)
          refine lv_iconst (v := 1) hx hb dL_refuses_471 (by decide) ?_
          refine lv_goto (tgt := 476) hx hb dL_refuses_472 (by decide) ?_
          refine kl_forge S hK hO (by omega) (Or.inr rfl) q486 ⟨Nat.le_of_ble_eq_true rfl, Nat.le_of_ble_eq_true rfl⟩ hP hD hS hA rfl hl.1 (Nat.le_of_ble_eq_true rfl) ⟨Nat.le_refl 0, Nat.le_refl 0⟩ dL_refuses_476 (rx_forge3t hV (Nat.pos_of_ne_zero ck) c3) (fun L1 H locs hO hP hD hS => ?_)
          refine lv_bipush (v := (-5)) hx hb dL_refuses_479 (by decide) ?_
          refine lv_icmp_ne (tgt := 547) hx hb dL_refuses_481 (by decide) (fun cn => absurd rfl cn) (fun _ => ?_)
          exact K484 _ _ _ _ (by omega) hO hP hD hS ls (lv_sub hl [0, 1, 2, 3, 4, 5] rfl)
        · skip
          refine lv_aload_n hx hb dL_refuses_454 rfl (lv_at hl 4 rfl) ?_
          refine lv_iconst (v := 0) hx hb dL_refuses_455 (by decide) ?_
          refine lv_iconst (v := 3) hx hb dL_refuses_456 (by decide) ?_
          refine lv_aload_n hx hb dL_refuses_457 rfl (lv_at hl 4 rfl) ?_
          refine lv_iconst (v := 0) hx hb dL_refuses_458 (by decide) ?_
          refine lv_iconst (v := 0) hx hb dL_refuses_459 (by decide) ?_
          refine kr_ticket S hK hO q539 ⟨Nat.le_of_ble_eq_true rfl, Nat.le_of_ble_eq_true rfl⟩ hP.left rfl hl.1 (Nat.le_of_ble_eq_true rfl) ⟨Nat.le_refl 0, Nat.le_refl 0⟩ dL_refuses_460 (v_ticket hV (Nat.pos_of_ne_zero ck) 0) ?_
          refine lv_iconst (v := 3) hx hb dL_refuses_463 (by decide) ?_
          refine lv_ishr hx hb dL_refuses_464 ?_
          refine lv_iconst (v := 1) hx hb dL_refuses_465 (by decide) ?_
          refine lv_iand hx hb dL_refuses_466 ?_
          refine lv_iconst (v := 1) hx hb dL_refuses_467 (by decide) ?_
          refine lv_icmp_ne (tgt := 475) hx hb dL_refuses_468 (by decide) (fun _ => ?_) (fun cn => absurd cn c3)
          refine lv_iconst (v := 0) hx hb dL_refuses_475 (by decide) ?_
          refine kl_forge S hK hO (by omega) (Or.inl rfl) q486 ⟨Nat.le_of_ble_eq_true rfl, Nat.le_of_ble_eq_true rfl⟩ hP hD hS hA rfl hl.1 (Nat.le_of_ble_eq_true rfl) ⟨Nat.le_refl 0, Nat.le_refl 0⟩ dL_refuses_476 (rx_forge3f hV (Nat.pos_of_ne_zero ck) c3) (fun L1 H locs hO hP hD hS => ?_)
          refine lv_bipush (v := (-5)) hx hb dL_refuses_479 (by decide) ?_
          refine lv_icmp_ne (tgt := 547) hx hb dL_refuses_481 (by decide) (fun cn => absurd rfl cn) (fun _ => ?_)
          exact K484 _ _ _ _ (by omega) hO hP hD hS ls (lv_sub hl [0, 1, 2, 3, 4, 5] rfl)
    by_cases cy : y % 2 = 0
    · skip
      refine lv_iload_n hx hb dL_refuses_22 rfl (lv_at hl 3 rfl) ?_
      refine lv_iconst (v := 2) hx hb dL_refuses_23 (by decide) ?_
      refine lv_irem hx hb dL_refuses_24 (by decide) ?_
      refine lv_if_ne (tgt := 35) hx hb dL_refuses_25 (by decide) (fun cn => absurd ((rem0 (by omega) (by omega) (by omega)).mpr (Nat.dvd_of_mod_eq_zero cy)) cn) (fun _ => ?_)
      refine lv_bipush (v := 24) hx hb dL_refuses_28 (by decide) ?_
      refine lv_iload_n hx hb dL_refuses_30 rfl (lv_at hl 3 rfl) ?_
      refine lv_iadd hx hb dL_refuses_31 ?_
      refine lv_goto (tgt := 38) hx hb dL_refuses_32 (by decide) ?_
      refine lv_re (y := off) (hoff1 cy) ?_
      refine lv_istore (lv' := [(4, .int off), (3, .int no), (2, .int (nI k)), (0, .ref oqa), (1, .int (nI y))]) hx hb dL_refuses_38 hl (by decide) rfl (fun ls hl => ?_)
      exact K40 _ _ _ _ (by omega) hO hP hD hS ls (lv_sub hl [0, 1, 2, 3, 4] rfl)
    · skip
      refine lv_iload_n hx hb dL_refuses_22 rfl (lv_at hl 3 rfl) ?_
      refine lv_iconst (v := 2) hx hb dL_refuses_23 (by decide) ?_
      refine lv_irem hx hb dL_refuses_24 (by decide) ?_
      refine lv_if_ne (tgt := 35) hx hb dL_refuses_25 (by decide) (fun _ => ?_) (fun cn => absurd cn (fun q => cy (Nat.mod_eq_zero_of_dvd ((rem0 (by omega) (by omega) (by omega)).mp q))))
      refine lv_iconst (v := (-1)) hx hb dL_refuses_35 (by decide) ?_
      refine lv_iload_n hx hb dL_refuses_36 rfl (lv_at hl 3 rfl) ?_
      refine lv_isub hx hb dL_refuses_37 ?_
      refine lv_re (y := off) (hoff2 cy) ?_
      refine lv_istore (lv' := [(4, .int off), (3, .int no), (2, .int (nI k)), (0, .ref oqa), (1, .int (nI y))]) hx hb dL_refuses_38 hl (by decide) rfl (fun ls hl => ?_)
      exact K40 _ _ _ _ (by omega) hO hP hD hS ls (lv_sub hl [0, 1, 2, 3, 4] rfl)
  by_cases cy : y % 2 = 0
  · skip
    refine lv_iload_n hx hb dL_refuses_6 rfl (lv_at hl 2 rfl) ?_
    refine lv_iconst (v := 2) hx hb dL_refuses_7 (by decide) ?_
    refine lv_irem hx hb dL_refuses_8 (by decide) ?_
    refine lv_if_ne (tgt := 18) hx hb dL_refuses_9 (by decide) (fun cn => absurd ((rem0 (by omega) (by omega) (by omega)).mpr (Nat.dvd_of_mod_eq_zero cy)) cn) (fun _ => ?_)
    refine lv_iload_n hx hb dL_refuses_12 rfl (lv_at hl 0 rfl) ?_
    refine lv_iload_n hx hb dL_refuses_13 rfl (lv_at hl 2 rfl) ?_
    refine lv_iadd hx hb dL_refuses_14 ?_
    refine lv_goto (tgt := 21) hx hb dL_refuses_15 (by decide) ?_
    refine lv_re (y := no) (hno1 cy) ?_
    refine lv_istore_n (lv' := [(3, .int no), (2, .int (nI k)), (0, .ref oqa), (1, .int (nI y))]) hx hb dL_refuses_21 rfl hl (by decide) rfl (fun ls hl => ?_)
    exact K22 _ _ _ _ (by omega) hO hP hD hS ls (lv_sub hl [0, 1, 2, 3] rfl)
  · skip
    refine lv_iload_n hx hb dL_refuses_6 rfl (lv_at hl 2 rfl) ?_
    refine lv_iconst (v := 2) hx hb dL_refuses_7 (by decide) ?_
    refine lv_irem hx hb dL_refuses_8 (by decide) ?_
    refine lv_if_ne (tgt := 18) hx hb dL_refuses_9 (by decide) (fun _ => ?_) (fun cn => absurd cn (fun q => cy (Nat.mod_eq_zero_of_dvd ((rem0 (by omega) (by omega) (by omega)).mp q))))
    refine lv_iconst (v := (-1)) hx hb dL_refuses_18 (by decide) ?_
    refine lv_iload_n hx hb dL_refuses_19 rfl (lv_at hl 2 rfl) ?_
    refine lv_isub hx hb dL_refuses_20 ?_
    refine lv_re (y := no) (hno2 cy) ?_
    refine lv_istore_n (lv' := [(3, .int no), (2, .int (nI k)), (0, .ref oqa), (1, .int (nI y))]) hx hb dL_refuses_21 rfl hl (by decide) rfl (fun ls hl => ?_)
    exact K22 _ _ _ _ (by omega) hO hP hD hS ls (lv_sub hl [0, 1, 2, 3] rfl)
