set_option maxHeartbeats 8000000 in
set_option maxRecDepth 100000 in
theorem c_L_same (l : Launch) (G : gG) {oqa qqa c0 c1 : Nat} {M : MT} {L L2 : List va_W} (hO : Obj G oqa c0 M L) (hQ : Obj G qqa c1 M L2) : RbM l G yL_same cL_same 4 .boolean (rmk 6 139) (L ++ L2) [.ref oqa, .ref qqa] 1 := by
  refine ofRb (by decide) (Nat.le_of_ble_eq_true rfl) ?_
  intro p e s m below meth c ls S hr hlk hK hP hl
  have S : CallFix p m c cL_same 4 s ([.ref oqa, .ref qqa] : List Value).toArray T0 RL := S
  obtain ⟨hx, hb, hml, hown, hts⟩ := id S
  have hl : lv_has ls 4 [(0, .ref oqa), (1, .ref qqa)] := hl
  have L56 : ∀ (n i : Nat), i ≤ 24 → 24 - i < n → ∀ ls : Array Slot, lv_has ls 4 [(3, .int (nI i)), (2, .int 1), (1, .ref qqa), (0, .ref oqa)] → W p l e (rmk 6 139) s m ([.ref oqa, .ref qqa] : List Value).toArray below meth c s.heap [] 0 0 (MQ below (vp_Si (fun x => x = 1)) ([.ref oqa, .ref qqa] : List Value).toArray s 0 0 (fun _ => False)) (F0 m 56 ls []) := by
    intro n
    induction n with
    | zero => intro i _ h; omega
    | succ n ih =>
      intro i hi hn ls hl
      by_cases hk : i = 24
      · skip
        refine lv_iload_n hx hb dL_same_56 rfl (lv_at hl 0 rfl) ?_
        refine lv_bipush (v := 24) hx hb dL_same_57 (by decide) ?_
        refine lv_icmp_ge (tgt := 169) hx hb dL_same_59 (by decide) (fun _ => ?_) (fun cn => absurd (k_ge (a := i) (b := 24) (by omega) (by omega) (by omega)) cn)
        refine lv_iload_n hx hb dL_same_169 rfl (lv_at hl 1 rfl) ?_
        exact retR S hr hlk rfl rfl dL_same_170
      refine lv_iload_n hx hb dL_same_56 rfl (lv_at hl 0 rfl) ?_
      refine lv_bipush (v := 24) hx hb dL_same_57 (by decide) ?_
      refine lv_icmp_ge (tgt := 169) hx hb dL_same_59 (by decide) (fun cn => absurd cn (k_nge (a := i) (b := 24) (by omega) (by omega) (by omega))) (fun _ => ?_)
      refine lv_iload_n hx hb dL_same_62 rfl (lv_at hl 1 rfl) ?_
      refine lv_if_eq (tgt := 169) hx hb dL_same_63 (by decide) (fun cn => absurd cn i10) (fun _ => ?_)
      refine lv_aload_n hx hb dL_same_66 rfl (lv_at hl 3 rfl) ?_
      refine lv_iload_n hx hb dL_same_67 rfl (lv_at hl 0 rfl) ?_
      refine lv_iconst (v := 0) hx hb dL_same_68 (by decide) ?_
      refine ro_place S hK hO q332 ⟨Nat.le_of_ble_eq_true rfl, Nat.le_of_ble_eq_true rfl⟩ hP.left rfl hl.1 (Nat.le_of_ble_eq_true rfl) ⟨Nat.le_refl 0, Nat.le_refl 0⟩ dL_same_69 (fun r1 hr1 => ?_)
      refine lv_aload_n hx hb dL_same_72 rfl (lv_at hl 2 rfl) ?_
      refine lv_iload_n hx hb dL_same_73 rfl (lv_at hl 0 rfl) ?_
      refine lv_iconst (v := 0) hx hb dL_same_74 (by decide) ?_
      refine kr_place S hK hQ q332 ⟨Nat.le_of_ble_eq_true rfl, Nat.le_of_ble_eq_true rfl⟩ hP.right rfl hl.1 (Nat.le_of_ble_eq_true rfl) ⟨Nat.le_refl 0, Nat.le_refl 0⟩ dL_same_75 hr1 ?_
      refine lv_icmp_ne (tgt := 161) hx hb dL_same_78 (by decide) (fun cn => absurd rfl cn) (fun _ => ?_)
      refine lv_aload_n hx hb dL_same_81 rfl (lv_at hl 3 rfl) ?_
      refine lv_iload_n hx hb dL_same_82 rfl (lv_at hl 0 rfl) ?_
      refine lv_iconst (v := 4) hx hb dL_same_83 (by decide) ?_
      refine ro_place S hK hO q332 ⟨Nat.le_of_ble_eq_true rfl, Nat.le_of_ble_eq_true rfl⟩ hP.left rfl hl.1 (Nat.le_of_ble_eq_true rfl) ⟨Nat.le_refl 0, Nat.le_refl 0⟩ dL_same_84 (fun r2 hr2 => ?_)
      refine lv_aload_n hx hb dL_same_87 rfl (lv_at hl 2 rfl) ?_
      refine lv_iload_n hx hb dL_same_88 rfl (lv_at hl 0 rfl) ?_
      refine lv_iconst (v := 4) hx hb dL_same_89 (by decide) ?_
      refine kr_place S hK hQ q332 ⟨Nat.le_of_ble_eq_true rfl, Nat.le_of_ble_eq_true rfl⟩ hP.right rfl hl.1 (Nat.le_of_ble_eq_true rfl) ⟨Nat.le_refl 0, Nat.le_refl 0⟩ dL_same_90 hr2 ?_
      refine lv_icmp_ne (tgt := 161) hx hb dL_same_93 (by decide) (fun cn => absurd rfl cn) (fun _ => ?_)
      refine lv_aload_n hx hb dL_same_96 rfl (lv_at hl 3 rfl) ?_
      refine lv_iload_n hx hb dL_same_97 rfl (lv_at hl 0 rfl) ?_
      refine lv_iconst (v := 2) hx hb dL_same_98 (by decide) ?_
      refine lv_idiv hx hb dL_same_99 (by decide) ?_
      refine lv_iconst (v := 1) hx hb dL_same_100 (by decide) ?_
      refine ro_ticket S hK hO q539 ⟨Nat.le_of_ble_eq_true rfl, Nat.le_of_ble_eq_true rfl⟩ hP.left rfl hl.1 (Nat.le_of_ble_eq_true rfl) ⟨Nat.le_refl 0, Nat.le_refl 0⟩ dL_same_101 (fun r3 hr3 => ?_)
      refine lv_aload_n hx hb dL_same_104 rfl (lv_at hl 2 rfl) ?_
      refine lv_iload_n hx hb dL_same_105 rfl (lv_at hl 0 rfl) ?_
      refine lv_iconst (v := 2) hx hb dL_same_106 (by decide) ?_
      refine lv_idiv hx hb dL_same_107 (by decide) ?_
      refine lv_iconst (v := 1) hx hb dL_same_108 (by decide) ?_
      refine kr_ticket S hK hQ q539 ⟨Nat.le_of_ble_eq_true rfl, Nat.le_of_ble_eq_true rfl⟩ hP.right rfl hl.1 (Nat.le_of_ble_eq_true rfl) ⟨Nat.le_refl 0, Nat.le_refl 0⟩ dL_same_109 hr3 ?_
      refine lv_icmp_ne (tgt := 161) hx hb dL_same_112 (by decide) (fun cn => absurd rfl cn) (fun _ => ?_)
      refine lv_aload_n hx hb dL_same_115 rfl (lv_at hl 3 rfl) ?_
      refine lv_iload_n hx hb dL_same_116 rfl (lv_at hl 0 rfl) ?_
      refine lv_iconst (v := 2) hx hb dL_same_117 (by decide) ?_
      refine lv_idiv hx hb dL_same_118 (by decide) ?_
      refine lv_bipush (v := 7) hx hb dL_same_119 (by decide) ?_
      refine ro_ticket S hK hO q539 ⟨Nat.le_of_ble_eq_true rfl, Nat.le_of_ble_eq_true rfl⟩ hP.left rfl hl.1 (Nat.le_of_ble_eq_true rfl) ⟨Nat.le_refl 0, Nat.le_refl 0⟩ dL_same_121 (fun r4 hr4 => ?_)
      refine lv_aload_n hx hb dL_same_124 rfl (lv_at hl 2 rfl) ?_
      refine lv_iload_n hx hb dL_same_125 rfl (lv_at hl 0 rfl) ?_
      refine lv_iconst (v := 2) hx hb dL_same_126 (by decide) ?_
      refine lv_idiv hx hb dL_same_127 (by decide) ?_
      refine lv_bipush (v := 7) hx hb dL_same_128 (by decide) ?_
      refine kr_ticket S hK hQ q539 ⟨Nat.le_of_ble_eq_true rfl, Nat.le_of_ble_eq_true rfl⟩ hP.right rfl hl.1 (Nat.le_of_ble_eq_true rfl) ⟨Nat.le_refl 0, Nat.le_refl 0⟩ dL_same_130 hr4 ?_
      refine lv_icmp_ne (tgt := 161) hx hb dL_same_133 (by decide) (fun cn => absurd rfl cn) (fun _ => ?_)
      refine lv_aload_n hx hb dL_same_136 rfl (lv_at hl 3 rfl) ?_
      refine lv_iload_n hx hb dL_same_137 rfl (lv_at hl 0 rfl) ?_
      refine lv_iconst (v := 2) hx hb dL_same_138 (by decide) ?_
      refine lv_idiv hx hb dL_same_139 (by decide) ?_
      refine lv_bipush (v := 8) hx hb dL_same_140 (by decide) ?_
      refine ro_ticket S hK hO q539 ⟨Nat.le_of_ble_eq_true rfl, Nat.le_of_ble_eq_true rfl⟩ hP.left rfl hl.1 (Nat.le_of_ble_eq_true rfl) ⟨Nat.le_refl 0, Nat.le_refl 0⟩ dL_same_142 (fun r5 hr5 => ?_)
      refine lv_aload_n hx hb dL_same_145 rfl (lv_at hl 2 rfl) ?_
      refine lv_iload_n hx hb dL_same_146 rfl (lv_at hl 0 rfl) ?_
      refine lv_iconst (v := 2) hx hb dL_same_147 (by decide) ?_
      refine lv_idiv hx hb dL_same_148 (by decide) ?_
      refine lv_bipush (v := 8) hx hb dL_same_149 (by decide) ?_
      refine kr_ticket S hK hQ q539 ⟨Nat.le_of_ble_eq_true rfl, Nat.le_of_ble_eq_true rfl⟩ hP.right rfl hl.1 (Nat.le_of_ble_eq_true rfl) ⟨Nat.le_refl 0, Nat.le_refl 0⟩ dL_same_151 hr5 ?_
      refine lv_icmp_ne (tgt := 161) hx hb dL_same_154 (by decide) (fun cn => absurd rfl cn) (fun _ => ?_)
      refine lv_iconst (v := 1) hx hb dL_same_157 (by decide) ?_
      refine lv_goto (tgt := 162) hx hb dL_same_158 (by decide) ?_
      refine lv_istore_n (lv' := [(2, .int 1), (3, .int (nI i)), (1, .ref qqa), (0, .ref oqa)]) hx hb dL_same_162 rfl hl (by decide) rfl (fun ls hl => ?_)
      refine lv_iinc (v := nI (i + 1)) (lv' := [(3, .int (nI (i + 1))), (2, .int 1), (1, .ref qqa), (0, .ref oqa)]) hx hb dL_same_163 hl (k := 1) rfl (nI_1 i) (by decide) rfl (fun ls hl => ?_)
      refine lv_goto (tgt := 56) hx hb dL_same_166 (by decide) ?_
      exact ih (i + 1) (by omega) (by omega) ls (lv_sub hl [0, 1, 2, 3] rfl)
  have L19 : ∀ (n i : Nat), i ≤ 10 → 10 - i < n → ∀ ls : Array Slot, lv_has ls 4 [(3, .int (nI i)), (2, .int 1), (1, .ref qqa), (0, .ref oqa)] → W p l e (rmk 6 139) s m ([.ref oqa, .ref qqa] : List Value).toArray below meth c s.heap [] 0 0 (MQ below (vp_Si (fun x => x = 1)) ([.ref oqa, .ref qqa] : List Value).toArray s 0 0 (fun _ => False)) (F0 m 19 ls []) := by
    intro n
    induction n with
    | zero => intro i _ h; omega
    | succ n ih =>
      intro i hi hn ls hl
      by_cases hk : i = 10
      · skip
        refine lv_iload_n hx hb dL_same_19 rfl (lv_at hl 0 rfl) ?_
        refine lv_bipush (v := 10) hx hb dL_same_20 (by decide) ?_
        refine lv_icmp_ge (tgt := 54) hx hb dL_same_22 (by decide) (fun _ => ?_) (fun cn => absurd (k_ge (a := i) (b := 10) (by omega) (by omega) (by omega)) cn)
        refine lv_iconst (v := 0) hx hb dL_same_54 (by decide) ?_
        refine lv_istore_n (lv' := [(3, .int 0), (2, .int 1), (1, .ref qqa), (0, .ref oqa)]) hx hb dL_same_55 rfl hl (by decide) rfl (fun ls hl => ?_)
        exact L56 25 0 (by omega) (by omega) ls (lv_sub hl [0, 1, 2, 3] rfl)
      refine lv_iload_n hx hb dL_same_19 rfl (lv_at hl 0 rfl) ?_
      refine lv_bipush (v := 10) hx hb dL_same_20 (by decide) ?_
      refine lv_icmp_ge (tgt := 54) hx hb dL_same_22 (by decide) (fun cn => absurd cn (k_nge (a := i) (b := 10) (by omega) (by omega) (by omega))) (fun _ => ?_)
      refine lv_iload_n hx hb dL_same_25 rfl (lv_at hl 1 rfl) ?_
      refine lv_if_eq (tgt := 54) hx hb dL_same_26 (by decide) (fun cn => absurd cn i10) (fun _ => ?_)
      refine lv_aload_n hx hb dL_same_29 rfl (lv_at hl 3 rfl) ?_
      refine lv_iload_n hx hb dL_same_30 rfl (lv_at hl 0 rfl) ?_
      refine ro_count S hK hO q399 ⟨Nat.le_of_ble_eq_true rfl, Nat.le_of_ble_eq_true rfl⟩ hP.left rfl hl.1 (Nat.le_of_ble_eq_true rfl) ⟨Nat.le_refl 0, Nat.le_refl 0⟩ dL_same_31 (fun r6 hr6 => ?_)
      refine lv_aload_n hx hb dL_same_34 rfl (lv_at hl 2 rfl) ?_
      refine lv_iload_n hx hb dL_same_35 rfl (lv_at hl 0 rfl) ?_
      refine kr_count S hK hQ q399 ⟨Nat.le_of_ble_eq_true rfl, Nat.le_of_ble_eq_true rfl⟩ hP.right rfl hl.1 (Nat.le_of_ble_eq_true rfl) ⟨Nat.le_refl 0, Nat.le_refl 0⟩ dL_same_36 hr6 ?_
      refine lv_icmp_ne (tgt := 46) hx hb dL_same_39 (by decide) (fun cn => absurd rfl cn) (fun _ => ?_)
      refine lv_iconst (v := 1) hx hb dL_same_42 (by decide) ?_
      refine lv_goto (tgt := 47) hx hb dL_same_43 (by decide) ?_
      refine lv_istore_n (lv' := [(2, .int 1), (3, .int (nI i)), (1, .ref qqa), (0, .ref oqa)]) hx hb dL_same_47 rfl hl (by decide) rfl (fun ls hl => ?_)
      refine lv_iinc (v := nI (i + 1)) (lv' := [(3, .int (nI (i + 1))), (2, .int 1), (1, .ref qqa), (0, .ref oqa)]) hx hb dL_same_48 hl (k := 1) rfl (nI_1 i) (by decide) rfl (fun ls hl => ?_)
      refine lv_goto (tgt := 19) hx hb dL_same_51 (by decide) ?_
      exact ih (i + 1) (by omega) (by omega) ls (lv_sub hl [0, 1, 2, 3] rfl)
  refine lv_aload_n hx hb dL_same_0 rfl (lv_at hl 0 rfl) ?_
  refine ro_light S hK hO q386 ⟨Nat.le_of_ble_eq_true rfl, Nat.le_of_ble_eq_true rfl⟩ hP.left rfl hl.1 (Nat.le_of_ble_eq_true rfl) ⟨Nat.le_refl 0, Nat.le_refl 0⟩ dL_same_1 (fun r7 hr7 => ?_)
  refine lv_aload_n hx hb dL_same_4 rfl (lv_at hl 1 rfl) ?_
  refine kr_light S hK hQ q386 ⟨Nat.le_of_ble_eq_true rfl, Nat.le_of_ble_eq_true rfl⟩ hP.right rfl hl.1 (Nat.le_of_ble_eq_true rfl) ⟨Nat.le_refl 0, Nat.le_refl 0⟩ dL_same_5 hr7 ?_
  refine lv_icmp_ne (tgt := 15) hx hb dL_same_8 (by decide) (fun cn => absurd rfl cn) (fun _ => ?_)
  refine lv_iconst (v := 1) hx hb dL_same_11 (by decide) ?_
  refine lv_goto (tgt := 16) hx hb dL_same_12 (by decide) ?_
  refine lv_istore_n (lv' := [(2, .int 1), (0, .ref oqa), (1, .ref qqa)]) hx hb dL_same_16 rfl hl (by decide) rfl (fun ls hl => ?_)
  refine lv_iconst (v := 0) hx hb dL_same_17 (by decide) ?_
  refine lv_istore_n (lv' := [(3, .int 0), (2, .int 1), (0, .ref oqa), (1, .ref qqa)]) hx hb dL_same_18 rfl hl (by decide) rfl (fun ls hl => ?_)
  exact L19 11 0 (by omega) (by omega) ls (lv_sub hl [0, 1, 3, 2] rfl)
/-! the script's numbers -/
theorem i_nI (x : Int32) : x = nI x.toBitVec.toNat := by
  apply Int32.toBitVec_inj.mp
  rw [z_tb]
  simp
theorem mask31 (x : Int32) : ∃ n, n < 2 ^ 31 ∧ x &&& 2147483647 = nI n := by
  refine ⟨x.toBitVec.toNat % 2 ^ 31, Nat.mod_lt _ (by decide), ?_⟩
  have := fa_mask x.toBitVec.toNat 31
  rw [← i_nI] at this
  exact this
def gPx (L : Nat) (b : Nat) (xs : Nat → Int32) (av : List Value) : Array Value → State → Prop := fun v U => v = av.toArray ∧ va_X b L xs U U.heap ∧ b < U.heap.size
theorem gPx_blind {L b : Nat} {xs : Nat → Int32} {av : List Value} : FrameBlind (gPx L b xs av) := fun _ U _ _ q => ⟨q.1, va_X.moved (u := U) (Vm.Alike.refl U.vm) q.2.1, q.2.2⟩
def cellV (L : Nat) (xs : Nat → Int32) (i : Nat) : Int32 := (if Int32.ofNat L ≤ nI i then 58129 * (nI i + 11) + 37 else xs (Int32.toNatClampNeg (nI i))) &&& 2147483647
set_option maxHeartbeats 4000000 in
set_option maxRecDepth 100000 in
theorem c_L_cell (l : Launch) {b L : Nat} {xs : Nat → Int32} (hL : L ≤ 260) {i : Nat} (hi : i ≤ 1000) : Met l yL_cell (wq yL_cell cL_cell 2 (some .int)) (rmk 0 0) (gPx L b xs [.ref b, .int (nI i)]) (vp_Si (fun x => x = cellV L xs i)) 0 0 (fun _ => False) := by
  refine Met.ofW (cc := cL_cell) (maxL := 2) (ret := some .int) (by decide) rfl ?_
  intro p e s m args below meth c s₁ B hml hv
  obtain ⟨rfl, hX, hbl⟩ := hv
  have hts0 := atoms_spec (ws := wq yL_cell cL_cell 2 (some .int)) B.pre
  rw [lg_entry_eq]
  have hl := lv_entry ([.ref b, .int (nI i)]) (n := 2) (Nat.le_of_ble_eq_true rfl)
  generalize (lg_sl ([.ref b, .int (nI i)]) ++ List.replicate (2 - (lg_sl ([.ref b, .int (nI i)])).length) Slot.unset).toArray = ls at hl ⊢
  have hl : lv_has ls 2 [(0, .ref b), (1, .int (nI i))] := hl
  have S : CallFix p m c cL_cell 2 s ([.ref b, .int (nI i)] : List Value).toArray T0 RL := ⟨B.exec, B.bytes, hml, findClass_of_methodNamed B.named, fun w h => hts0 w (List.mem_cons_of_mem _ h)⟩
  obtain ⟨hx, hb, hml, hown, hts⟩ := id S
  have hS : va_S (fun _ => False) s.heap s.heap [] := va_S.rf
  have hr := B.returns
  have hlk := B.notSynchronized
  refine lv_iload_n hx hb dL_cell_0 rfl (lv_at hl 1 rfl) ?_
  refine lv_aload_n hx hb dL_cell_1 rfl (lv_at hl 0 rfl) ?_
  refine va_slen hx hb hX hbl (fun h => h) hS dL_cell_2 ?_
  refine lv_icmp_ge (tgt := 12) hx hb dL_cell_3 (by decide) (fun cn => ?_) (fun cn => ?_)
  · refine lv_ldc (v := 58129) hx hb hown (hts _ q443) dL_cell_12 ?_
    refine lv_iload_n hx hb dL_cell_14 rfl (lv_at hl 1 rfl) ?_
    refine lv_bipush (v := 11) hx hb dL_cell_15 (by decide) ?_
    refine lv_iadd hx hb dL_cell_17 ?_
    refine lv_imul hx hb dL_cell_18 ?_
    refine lv_bipush (v := 37) hx hb dL_cell_19 (by decide) ?_
    refine lv_iadd hx hb dL_cell_21 ?_
    refine lv_ldc (v := 2147483647) hx hb hown (hts _ q444) dL_cell_22 ?_
    refine lv_iand hx hb dL_cell_24 ?_
    exact retR S hr hlk rfl (by unfold cellV; rw [if_pos cn]) dL_cell_25
  · have hiL : i < L := by
      rcases Nat.lt_or_ge i L with g | g
      · exact g
      · exact absurd (k_ge (a := i) (b := L) (by omega) (by omega) g) cn
    refine lv_aload_n hx hb dL_cell_6 rfl (lv_at hl 0 rfl) ?_
    refine lv_iload_n hx hb dL_cell_7 rfl (lv_at hl 1 rfl) ?_
    refine va_sld hx hb hX hbl (fun h => h) hS (vp_in_nI hiL (by omega)) dL_cell_8 ?_
    refine lv_goto (tgt := 22) hx hb dL_cell_9 (by decide) ?_
    refine lv_ldc (v := 2147483647) hx hb hown (hts _ q444) dL_cell_22 ?_
    refine lv_iand hx hb dL_cell_24 ?_
    exact retR S hr hlk rfl (by unfold cellV; rw [if_neg cn]) dL_cell_25
section CX
variable {p : Program} {l : Launch} {e : Env} {R : Room} {s : State} {m : MethodId} {args : Array Value} {below : List Frame} {meth : Method} {c : Code} {H : Heap} {locs : List Loc} {cells slots : Nat} {Q : State → Prop}
variable {cc : ByteArray} {nL pc : Nat} {own : String} {G : gG} {ls : Array Slot} {rest : List Value} {index : Nat}
theorem rdX {A0 : Nat → Prop} {b L : Nat} {xs : Nat → Int32} (hL : L ≤ 260) {i : Nat} (hi : i ≤ 1000) (S : CallFix p m c cc nL s args T0 own) (hln : Cond.methodLink own index yL_cell ∈ T0) (hz : 0 + 1 ≤ R.frames ∧ 8 + (2 + 11) + 0 ≤ R.locals) (hX : va_X b L xs s s.heap) (hbl : b < s.heap.size) (hbA : ¬ A0 b) (hS : va_S A0 s.heap H locs)
    (hsl : ls.size = nL) (hrest : (rest.map fun v => v.category).sum ≤ 8) (hf : cells ≤ R.cells ∧ slots ≤ R.slots) (hdg : decode cc pc = .ok (.invokestatic index, 3))
    (kk : W p l e R s m args below meth c H locs cells slots Q (F0 m (pc + 3) ls (.int (cellV L xs i) :: rest))) : W p l e R s m args below meth c H locs cells slots Q (F0 m pc ls (.int (nI i) :: .ref b :: rest)) := by
  refine rd_end (run_toCall (va_runS (As := [.ref b, .int (nI i)]) (rest := rest) S (c_L_cell l hL hi) ⟨callB_of 2 S.2.2.2.2 (gIn (wq_in mL_cell.1)) rfl rfl rfl (S.2.2.2.2 _ mL_cell.2.2.1) (S.2.2.2.2 _ hln) mL_cell.2.2.2 hz, S.2.2.2.2 _ mL_cell.2.1⟩ ⟨gPx_blind, fun U hU hW => ⟨rfl, by rw [hU]; exact (hX.kept (hS.2.1 b hbl hbA)).moved hW.alike, by rw [hU]; exact Nat.lt_of_lt_of_le hbl hS.1⟩⟩ rfl rfl hsl rfl (lv_room hrest) hdg hf)) kk
end CX
