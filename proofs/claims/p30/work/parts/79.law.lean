theorem pc_n5 (m : Nat) : ¬ nI (pc m) = -5 := fun q => by
  have h9 := congrArg Int32.toInt q
  have h8 := pc_le m
  rw [nI_toInt (by omega)] at h9
  have k1 : (-5 : Int32).toInt = -5 := by decide
  omega
theorem rem3 {i : Nat} (h : i < 32) : nI i - nI i / 3 * 3 = nI (i % 3) := pk_rem (d := 3) (by omega) (by omega) (by omega)
theorem rem2 {i : Nat} (h : i < 32) : nI i - nI i / 2 * 2 = nI (i % 2) := pk_rem (d := 2) (by omega) (by omega) (by omega)
theorem lw_end {p : Program} {l : Launch} {e : Env} {s : State} {m : MethodId} {below : List Frame} {meth : Method} {c : Code} {b : Nat} {H : Heap} {locs : List Loc} {ls : Array Slot} {pc : Nat} (hx : p.tables.exec = Jvm.exec) (hb : c.code = code) (hr : meth.sig.returnType = ret) (hlocks : meth.locks = false) (hS : va_S (fun q : Nat => s.heap.size ≤ q) s.heap H locs) (hdg : decode code pc = .ok (.ireturn, 1)) : W p l e room_1 s m #[Value.ref b] below meth c H locs 96 1392 (lw_Z below #[Value.ref b] s) (F0 m pc ls [.int 1]) := by
  refine va_forget (fun q hq => hS.2.2 q hq) ?_
  refine W.widen (k := 600000) (n := 7302250) (Nat.le_of_ble_eq_true rfl) (Nat.le_of_ble_eq_true rfl) ?_
  exact lw_ret hx hb hr hlocks hdg
set_option maxHeartbeats 16000000 in
set_option maxRecDepth 100000 in
theorem law_all {p : Program} {l : Launch} {e : Env} {s : State} {m : MethodId} {below : List Frame} {meth : Method} {c : Code} {b N_ : Nat} {xs : Nat → Int32} {G : gG} (hN : N_ ≤ 260) (S : CallFix p m c cL_law 8 s #[Value.ref b] T0 RL) (hK : gK G s) (hX : va_X b N_ xs s s.heap) (hbl : b < s.heap.size) (hr : meth.sig.returnType = ret) (hlocks : meth.locks = false) {oqa qqa : Nat} {fs0 : Nat → Int32} (hfs0 : F_X5_init = some fs0) {Lo Lq : List va_W} {H : Heap} {locs : List Loc} (hO : Obj G oqa 0 (MS fs0 0 0 0 0 0 0 (fun _ => 0)) Lo) (hQ : Obj G qqa 0 (MS fs0 0 0 0 0 0 0 (fun _ => 0)) Lq) (hP : bP G (Lo ++ Lq) H) (hD : bD (fun q : Nat => s.heap.size ≤ q) (Lo ++ Lq)) (hS : va_S (fun q : Nat => s.heap.size ≤ q) s.heap H locs) {ls : Array Slot} (hl : lv_has ls 8 [(2, .ref qqa), (1, .ref oqa), (0, .ref b)]) : W p l e room_1 s m #[Value.ref b] below meth c H locs 96 1392 (lw_Z below #[Value.ref b] s) (F0 m 16 ls []) := by
  obtain ⟨hx, hb, hml, hown, hts⟩ := id S
  have hbA : ¬ (fun q : Nat => s.heap.size ≤ q) b := Nat.not_le.mpr hbl
  have L86 : ∀ (n i : Nat) (M : MT) (c1 c2 : Nat) (Lo Lq : List va_W) (H : Heap) (locs : List Loc), i ≤ 32 → 32 - i < n → c1 ≤ 100 + 5000 * i → c2 ≤ 100 + 5000 * i → Obj G oqa c1 M Lo → Obj G qqa c2 M Lq → bP G (Lo ++ Lq) H → bD (fun q : Nat => s.heap.size ≤ q) (Lo ++ Lq) → va_S (fun q : Nat => s.heap.size ≤ q) s.heap H locs → ∀ ls : Array Slot, lv_has ls 8 [(4, .int (nI i)), (3, .int 1), (2, .ref qqa), (1, .ref oqa), (0, .ref b)] → W p l e room_1 s m #[Value.ref b] below meth c H locs 96 1392 (lw_Z below #[Value.ref b] s) (F0 m 86 ls []) := by
    intro n
    induction n with
    | zero => intro i _ _ _ _ _ _ _ _ h; omega
    | succ n ih =>
      intro i M c1 c2 Lo Lq H locs hi33 hn hc1 hc2 hO hQ hP hD hS ls hl
      by_cases hi2 : i = 32
      · skip
        obtain ⟨σ, k, Ho, Du, ms, hV⟩ := VR_of hO
        obtain ⟨n4, hn4, hpas⟩ := pas_of hO
        obtain ⟨c2_, hc2m, hc2e⟩ : ∃ c2_, c2_ < 2 ^ 31 ∧ cellV N_ xs 32 = nI c2_ := mask31 _
        obtain ⟨pw, hpw1, hpw2, hpw⟩ : ∃ pw, 1 ≤ pw ∧ pw ≤ 9 ∧ (1 : Int32) + (nI c2_ - nI c2_ / 9 * 9) = nI pw := by
          refine ⟨1 + c2_ % 9, by omega, by omega, ?_⟩
          rw [show nI c2_ - nI c2_ / 9 * 9 = nI (c2_ % 9) from pk_rem (d := 9) hc2m (by omega) (by omega)]; exact nI_add 1 _
        have hpwI : (nI pw).toInt = (pw : Int) := nI_toInt (by omega)
        refine lv_iload hx hb dL_law_86 (lv_at hl 0 rfl) ?_
        refine lv_bipush (v := 32) hx hb dL_law_88 (by decide) ?_
        refine lv_icmp_ge (tgt := 188) hx hb dL_law_90 (by decide) (fun _ => ?_) (fun cn => absurd (k_ge (a := i) (b := 32) (by omega) (by omega) (by omega)) cn)
        refine lv_iconst (v := 1) hx hb dL_law_188 (by decide) ?_
        refine lv_aload_n hx hb dL_law_189 rfl (lv_at hl 4 rfl) ?_
        refine lv_bipush (v := 32) hx hb dL_law_190 (by decide) ?_
        refine rdX (i := 32) hN (by omega) S q440 ⟨Nat.le_of_ble_eq_true rfl, Nat.le_of_ble_eq_true rfl⟩ hX hbl hbA hS hl.1 (Nat.le_of_ble_eq_true rfl) ⟨Nat.le_of_ble_eq_true rfl, Nat.le_of_ble_eq_true rfl⟩ dL_law_192 ?_
        refine lv_re (y := nI c2_) hc2e ?_
        refine lv_bipush (v := 9) hx hb dL_law_195 (by decide) ?_
        refine lv_irem hx hb dL_law_197 (by decide) ?_
        refine lv_iadd hx hb dL_law_198 ?_
        refine lv_re (y := nI pw) hpw ?_
        refine lv_istore (lv' := [(4, .int (nI pw)), (3, .int 1), (2, .ref qqa), (1, .ref oqa), (0, .ref b)]) hx hb dL_law_199 hl (by decide) rfl (fun ls hl => ?_)
        refine lv_aload_n hx hb dL_law_201 rfl (lv_at hl 3 rfl) ?_
        refine lv_iconst (v := 1) hx hb dL_law_202 (by decide) ?_
        refine kr_count S hK hO q399 ⟨Nat.le_of_ble_eq_true rfl, Nat.le_of_ble_eq_true rfl⟩ hP.left rfl hl.1 (Nat.le_of_ble_eq_true rfl) ⟨Nat.le_of_ble_eq_true rfl, Nat.le_of_ble_eq_true rfl⟩ dL_law_203 (v_count1 hV _ _) ?_
        refine lv_istore (lv' := [(5, .int (nI (pc ms))), (4, .int (nI pw)), (3, .int 1), (2, .ref qqa), (1, .ref oqa), (0, .ref b)]) hx hb dL_law_206 hl (by decide) rfl (fun ls hl => ?_)
        refine lv_iload_n hx hb dL_law_208 rfl (lv_at hl 2 rfl) ?_
        refine lv_if_eq (tgt := 221) hx hb dL_law_209 (by decide) (fun cn => absurd cn i10) (fun _ => ?_)
        refine lv_aload_n hx hb dL_law_212 rfl (lv_at hl 4 rfl) ?_
        refine lv_iload hx hb dL_law_213 (lv_at hl 1 rfl) ?_
        refine cl_turnStack S hK hO (by omega) q266 ⟨Nat.le_of_ble_eq_true rfl, Nat.le_of_ble_eq_true rfl⟩ hP hD hS (fun _ h => h) rfl hl.1 (Nat.le_of_ble_eq_true rfl) ⟨Nat.le_of_ble_eq_true rfl, Nat.le_of_ble_eq_true rfl⟩ dL_law_215 (fun r1 M1 Lo H locs h1 hO hP hD hS => ?_)
        refine lv_goto (tgt := 223) hx hb dL_law_218 (by decide) ?_
        refine lv_istore (lv' := [(6, .int r1), (5, .int (nI (pc ms))), (4, .int (nI pw)), (3, .int 1), (2, .ref qqa), (1, .ref oqa), (0, .ref b)]) hx hb dL_law_223 hl (by decide) rfl (fun ls hl => ?_)
        refine lv_iload_n hx hb dL_law_225 rfl (lv_at hl 3 rfl) ?_
        refine lv_if_eq (tgt := 266) hx hb dL_law_226 (by decide) (fun cn => absurd cn i10) (fun _ => ?_)
        refine lv_aload_n hx hb dL_law_229 rfl (lv_at hl 5 rfl) ?_
        refine rbS (As := [.ref oqa]) (rest := []) S hK (c_L_hangs l G hO (by omega)) mL_hangs q536 ⟨rfl, rfl, Nat.le_of_ble_eq_true rfl, Nat.le_of_ble_eq_true rfl⟩ hP.left rfl hl.1 (Nat.le_of_ble_eq_true rfl) ⟨Nat.le_of_ble_eq_true rfl, Nat.le_of_ble_eq_true rfl⟩ dL_law_230 ?_
        refine lv_if_eq (tgt := 266) hx hb dL_law_233 (by decide) (fun cn => absurd cn i10) (fun _ => ?_)
        by_cases ht : r1 = -5
        · skip
          have eM : M1 = M := by
            rcases ts_step hV hn4 hpas (by omega) (by omega) h1 with ⟨-, e, -⟩ | ⟨-, -, e, -⟩
            · exact e
            · exact absurd (e.symm.trans ht) (pc_n5 ms)
          rw [eM] at hO
          refine lv_iload hx hb dL_law_236 (lv_at hl 0 rfl) ?_
          refine lv_bipush (v := (-5)) hx hb dL_law_238 (by decide) ?_
          refine lv_icmp_eq (tgt := 262) hx hb dL_law_240 (by decide) (fun _ => ?_) (fun cn => absurd ht cn)
          refine lv_iconst (v := 1) hx hb dL_law_262 (by decide) ?_
          refine lv_goto (tgt := 267) hx hb dL_law_263 (by decide) ?_
          refine lv_istore_n (lv' := [(3, .int 1), (6, .int r1), (5, .int (nI (pc ms))), (4, .int (nI pw)), (2, .ref qqa), (1, .ref oqa), (0, .ref b)]) hx hb dL_law_267 rfl hl (by decide) rfl (fun ls hl => ?_)
          refine lv_iconst (v := 0) hx hb dL_law_268 (by decide) ?_
          refine lv_istore (lv' := [(7, .int 0), (3, .int 1), (6, .int r1), (5, .int (nI (pc ms))), (4, .int (nI pw)), (2, .ref qqa), (1, .ref oqa), (0, .ref b)]) hx hb dL_law_269 hl (by decide) rfl (fun ls hl => ?_)
          have hVx := hV
          have L271 : ∀ (n j : Nat), j ≤ 24 → 24 - j < n → ∀ ls : Array Slot, lv_has ls 8 [(7, .int (nI j)), (3, .int 1), (6, .int r1), (5, .int (nI (pc ms))), (2, .ref qqa), (1, .ref oqa), (0, .ref b)] → W p l e room_1 s m #[Value.ref b] below meth c H locs 96 1392 (lw_Z below #[Value.ref b] s) (F0 m 271 ls []) := by
            intro n
            induction n with
            | zero => intro j _ h; omega
            | succ n ih2 =>
              intro j hj1 hjn ls hl
              by_cases hj2 : j = 24
              · skip
                have hc8 : M.2.2.2.2.2.2.2.2.2.1 64 = M.2.2.2.2.2.2.2.2.2.1 64 := rfl
                refine lv_iload hx hb dL_law_271 (lv_at hl 0 rfl) ?_
                refine lv_bipush (v := 24) hx hb dL_law_273 (by decide) ?_
                refine lv_icmp_ge (tgt := 311) hx hb dL_law_275 (by decide) (fun _ => ?_) (fun cn => absurd (k_ge (a := j) (b := 24) (by omega) (by omega) (by omega)) cn)
                refine lv_iload_n hx hb dL_law_311 rfl (lv_at hl 1 rfl) ?_
                refine lv_if_eq (tgt := 397) hx hb dL_law_312 (by decide) (fun cn => absurd cn i10) (fun _ => ?_)
                refine lv_iload hx hb dL_law_315 (lv_at hl 2 rfl) ?_
                refine lv_bipush (v := (-5)) hx hb dL_law_317 (by decide) ?_
                refine lv_icmp_ne (tgt := 333) hx hb dL_law_319 (by decide) (fun cn => absurd ht cn) (fun _ => ?_)
                refine lv_aload_n hx hb dL_law_322 rfl (lv_at hl 5 rfl) ?_
                refine lv_aload_n hx hb dL_law_323 rfl (lv_at hl 4 rfl) ?_
                refine rbS (As := [.ref oqa, .ref qqa]) (rest := []) S hK (c_L_same l G hO hQ) mL_same q611 ⟨rfl, rfl, Nat.le_of_ble_eq_true rfl, Nat.le_of_ble_eq_true rfl⟩ hP rfl hl.1 (Nat.le_of_ble_eq_true rfl) ⟨Nat.le_of_ble_eq_true rfl, Nat.le_of_ble_eq_true rfl⟩ dL_law_324 ?_
                refine lv_if_eq (tgt := 397) hx hb dL_law_327 (by decide) (fun cn => absurd cn i10) (fun _ => ?_)
                refine lv_goto (tgt := 367) hx hb dL_law_330 (by decide) ?_
                refine lv_aload_n hx hb dL_law_367 rfl (lv_at hl 5 rfl) ?_
                refine lv_bipush (v := 8) hx hb dL_law_368 (by decide) ?_
                refine kr_count S hK hO q399 ⟨Nat.le_of_ble_eq_true rfl, Nat.le_of_ble_eq_true rfl⟩ hP.left rfl hl.1 (Nat.le_of_ble_eq_true rfl) ⟨Nat.le_of_ble_eq_true rfl, Nat.le_of_ble_eq_true rfl⟩ dL_law_370 (v_count8 _ _ _) ?_
                refine lv_aload_n hx hb dL_law_373 rfl (lv_at hl 4 rfl) ?_
                refine lv_bipush (v := 8) hx hb dL_law_374 (by decide) ?_
                refine kr_count S hK hQ q399 ⟨Nat.le_of_ble_eq_true rfl, Nat.le_of_ble_eq_true rfl⟩ hP.right rfl hl.1 (Nat.le_of_ble_eq_true rfl) ⟨Nat.le_of_ble_eq_true rfl, Nat.le_of_ble_eq_true rfl⟩ dL_law_376 (v_count8 _ _ _) ?_
                refine lv_icmp_ne (tgt := 397) hx hb dL_law_379 (by decide) (fun cn => absurd hc8 cn) (fun _ => ?_)
                refine lv_aload_n hx hb dL_law_382 rfl (lv_at hl 5 rfl) ?_
                refine kr_light S hK hO q386 ⟨Nat.le_of_ble_eq_true rfl, Nat.le_of_ble_eq_true rfl⟩ hP.left rfl hl.1 (Nat.le_of_ble_eq_true rfl) ⟨Nat.le_of_ble_eq_true rfl, Nat.le_of_ble_eq_true rfl⟩ dL_law_383 (v_light hV) ?_
                refine lv_aload_n hx hb dL_law_386 rfl (lv_at hl 4 rfl) ?_
                refine kr_light S hK hQ q386 ⟨Nat.le_of_ble_eq_true rfl, Nat.le_of_ble_eq_true rfl⟩ hP.right rfl hl.1 (Nat.le_of_ble_eq_true rfl) ⟨Nat.le_of_ble_eq_true rfl, Nat.le_of_ble_eq_true rfl⟩ dL_law_387 (v_light hV) ?_
                refine lv_icmp_ne (tgt := 397) hx hb dL_law_390 (by decide) (fun cn => absurd rfl cn) (fun _ => ?_)
                refine lv_iconst (v := 1) hx hb dL_law_393 (by decide) ?_
                refine lv_goto (tgt := 398) hx hb dL_law_394 (by decide) ?_
                exact lw_end hx hb hr hlocks hS dL_law_398
              have hj : j < 24 := by omega
              refine lv_iload hx hb dL_law_271 (lv_at hl 0 rfl) ?_
              refine lv_bipush (v := 24) hx hb dL_law_273 (by decide) ?_
              refine lv_icmp_ge (tgt := 311) hx hb dL_law_275 (by decide) (fun cn => absurd cn (k_nge (a := j) (b := 24) (by omega) (by omega) (by omega))) (fun _ => ?_)
              refine lv_iload_n hx hb dL_law_278 rfl (lv_at hl 1 rfl) ?_
              refine lv_if_eq (tgt := 311) hx hb dL_law_279 (by decide) (fun cn => absurd cn i10) (fun _ => ?_)
              refine lv_aload_n hx hb dL_law_282 rfl (lv_at hl 5 rfl) ?_
              refine lv_iload hx hb dL_law_283 (lv_at hl 0 rfl) ?_
              refine lv_iconst (v := 4) hx hb dL_law_285 (by decide) ?_
              refine kr_place S hK hO q332 ⟨Nat.le_of_ble_eq_true rfl, Nat.le_of_ble_eq_true rfl⟩ hP.left rfl hl.1 (Nat.le_of_ble_eq_true rfl) ⟨Nat.le_of_ble_eq_true rfl, Nat.le_of_ble_eq_true rfl⟩ dL_law_286 (v_place4 hVx hj) ?_
              refine lv_aload_n hx hb dL_law_289 rfl (lv_at hl 4 rfl) ?_
              refine lv_iload hx hb dL_law_290 (lv_at hl 0 rfl) ?_
              refine lv_iconst (v := 4) hx hb dL_law_292 (by decide) ?_
              refine kr_place S hK hQ q332 ⟨Nat.le_of_ble_eq_true rfl, Nat.le_of_ble_eq_true rfl⟩ hP.right rfl hl.1 (Nat.le_of_ble_eq_true rfl) ⟨Nat.le_of_ble_eq_true rfl, Nat.le_of_ble_eq_true rfl⟩ dL_law_293 (v_place4 hV hj) ?_
              refine lv_icmp_ne (tgt := 303) hx hb dL_law_296 (by decide) (fun cn => absurd rfl cn) (fun _ => ?_)
              refine lv_iconst (v := 1) hx hb dL_law_299 (by decide) ?_
              refine lv_goto (tgt := 304) hx hb dL_law_300 (by decide) ?_
              refine lv_istore_n (lv' := [(3, .int 1), (7, .int (nI j)), (6, .int r1), (5, .int (nI (pc ms))), (2, .ref qqa), (1, .ref oqa), (0, .ref b)]) hx hb dL_law_304 rfl hl (by decide) rfl (fun ls hl => ?_)
              refine lv_iinc (v := nI (j + 1)) (lv' := [(7, .int (nI (j + 1))), (3, .int 1), (6, .int r1), (5, .int (nI (pc ms))), (2, .ref qqa), (1, .ref oqa), (0, .ref b)]) hx hb dL_law_305 hl (k := 1) rfl (nI_1 j) (by decide) rfl (fun ls hl => ?_)
              refine lv_goto (tgt := 271) hx hb dL_law_308 (by decide) ?_
              exact ih2 (j + 1) (by omega) (by omega) ls (lv_sub hl [0, 1, 2, 3, 4, 5, 6] rfl)
          exact L271 25 0 (by omega) (by omega) ls (lv_sub hl [0, 1, 2, 3, 5, 6, 7] rfl)
        · skip
          have e1 : r1 = nI (pc ms) := by
            rcases ts_step hV hn4 hpas (by omega) (by omega) h1 with ⟨e, -, -⟩ | ⟨-, -, e, -⟩
            · exact absurd e ht
            · exact e
          refine lv_iload hx hb dL_law_236 (lv_at hl 0 rfl) ?_
          refine lv_bipush (v := (-5)) hx hb dL_law_238 (by decide) ?_
          refine lv_icmp_eq (tgt := 262) hx hb dL_law_240 (by decide) (fun cn => absurd cn ht) (fun _ => ?_)
          refine lv_iload hx hb dL_law_243 (lv_at hl 0 rfl) ?_
          refine lv_iload hx hb dL_law_245 (lv_at hl 1 rfl) ?_
          refine lv_icmp_ne (tgt := 266) hx hb dL_law_247 (by decide) (fun cn => absurd e1 cn) (fun _ => ?_)
          refine lv_aload_n hx hb dL_law_250 rfl (lv_at hl 5 rfl) ?_
          refine lv_iload hx hb dL_law_251 (lv_at hl 2 rfl) ?_
          refine lv_ineg hx hb dL_law_253 ?_
          refine cl_turnStack S hK hO (by omega) q266 ⟨Nat.le_of_ble_eq_true rfl, Nat.le_of_ble_eq_true rfl⟩ hP hD hS (fun _ h => h) rfl hl.1 (Nat.le_of_ble_eq_true rfl) ⟨Nat.le_of_ble_eq_true rfl, Nat.le_of_ble_eq_true rfl⟩ dL_law_254 (fun r2 M2 Lo H locs h2 hO hP hD hS => ?_)
          obtain ⟨-, e2, hV2, h64, r3, M3, r4, M4, hu3, hr3, hu4, hr4, hM4⟩ := ts_back hV hn4 hpas (by omega) (by omega) h1 ht h2
          subst e2
          refine lv_iload hx hb dL_law_257 (lv_at hl 1 rfl) ?_
          refine lv_icmp_ne (tgt := 266) hx hb dL_law_259 (by decide) (fun cn => absurd rfl cn) (fun _ => ?_)
          refine lv_iconst (v := 1) hx hb dL_law_262 (by decide) ?_
          refine lv_goto (tgt := 267) hx hb dL_law_263 (by decide) ?_
          refine lv_istore_n (lv' := [(3, .int 1), (6, .int r1), (5, .int (nI (pc ms))), (4, .int (nI pw)), (2, .ref qqa), (1, .ref oqa), (0, .ref b)]) hx hb dL_law_267 rfl hl (by decide) rfl (fun ls hl => ?_)
          refine lv_iconst (v := 0) hx hb dL_law_268 (by decide) ?_
          refine lv_istore (lv' := [(7, .int 0), (3, .int 1), (6, .int r1), (5, .int (nI (pc ms))), (4, .int (nI pw)), (2, .ref qqa), (1, .ref oqa), (0, .ref b)]) hx hb dL_law_269 hl (by decide) rfl (fun ls hl => ?_)
          have hVx := hV2
          have L271 : ∀ (n j : Nat), j ≤ 24 → 24 - j < n → ∀ ls : Array Slot, lv_has ls 8 [(7, .int (nI j)), (3, .int 1), (6, .int r1), (5, .int (nI (pc ms))), (2, .ref qqa), (1, .ref oqa), (0, .ref b)] → W p l e room_1 s m #[Value.ref b] below meth c H locs 96 1392 (lw_Z below #[Value.ref b] s) (F0 m 271 ls []) := by
            intro n
            induction n with
            | zero => intro j _ h; omega
            | succ n ih2 =>
              intro j hj1 hjn ls hl
              by_cases hj2 : j = 24
              · skip
                have hV4 := VR_ext hV hM4
                have hc8 := hM4 64 (by omega)
                refine lv_iload hx hb dL_law_271 (lv_at hl 0 rfl) ?_
                refine lv_bipush (v := 24) hx hb dL_law_273 (by decide) ?_
                refine lv_icmp_ge (tgt := 311) hx hb dL_law_275 (by decide) (fun _ => ?_) (fun cn => absurd (k_ge (a := j) (b := 24) (by omega) (by omega) (by omega)) cn)
                refine lv_iload_n hx hb dL_law_311 rfl (lv_at hl 1 rfl) ?_
                refine lv_if_eq (tgt := 397) hx hb dL_law_312 (by decide) (fun cn => absurd cn i10) (fun _ => ?_)
                refine lv_iload hx hb dL_law_315 (lv_at hl 2 rfl) ?_
                refine lv_bipush (v := (-5)) hx hb dL_law_317 (by decide) ?_
                refine lv_icmp_ne (tgt := 333) hx hb dL_law_319 (by decide) (fun _ => ?_) (fun cn => absurd cn ht)
                refine lv_aload_n hx hb dL_law_333 rfl (lv_at hl 5 rfl) ?_
                refine lv_bipush (v := 8) hx hb dL_law_334 (by decide) ?_
                refine kr_count S hK hO q399 ⟨Nat.le_of_ble_eq_true rfl, Nat.le_of_ble_eq_true rfl⟩ hP.left rfl hl.1 (Nat.le_of_ble_eq_true rfl) ⟨Nat.le_of_ble_eq_true rfl, Nat.le_of_ble_eq_true rfl⟩ dL_law_336 (v_count8 _ _ _) ?_
                refine lv_aload_n hx hb dL_law_339 rfl (lv_at hl 4 rfl) ?_
                refine lv_bipush (v := 8) hx hb dL_law_340 (by decide) ?_
                refine kr_count S hK hQ q399 ⟨Nat.le_of_ble_eq_true rfl, Nat.le_of_ble_eq_true rfl⟩ hP.right rfl hl.1 (Nat.le_of_ble_eq_true rfl) ⟨Nat.le_of_ble_eq_true rfl, Nat.le_of_ble_eq_true rfl⟩ dL_law_342 (v_count8 _ _ _) ?_
                refine lv_iconst (v := 2) hx hb dL_law_345 (by decide) ?_
                refine lv_iload hx hb dL_law_346 (lv_at hl 3 rfl) ?_
                refine lv_imul hx hb dL_law_348 ?_
                refine lv_iadd hx hb dL_law_349 ?_
                refine lv_icmp_ne (tgt := 397) hx hb dL_law_350 (by decide) (fun cn => absurd h64 cn) (fun _ => ?_)
                refine lv_aload_n hx hb dL_law_353 rfl (lv_at hl 5 rfl) ?_
                refine kl_undo S hK hO (by omega) q311 ⟨Nat.le_of_ble_eq_true rfl, Nat.le_of_ble_eq_true rfl⟩ hP hD hS (fun _ h => h) rfl hl.1 (Nat.le_of_ble_eq_true rfl) ⟨Nat.le_of_ble_eq_true rfl, Nat.le_of_ble_eq_true rfl⟩ dL_law_354 hu3 (fun Lo H locs hO hP hD hS => ?_)
                refine lv_if_lt (tgt := 397) hx hb dL_law_357 (by decide) (fun cn => absurd cn hr3) (fun _ => ?_)
                refine lv_aload_n hx hb dL_law_360 rfl (lv_at hl 5 rfl) ?_
                refine kl_undo S hK hO (by omega) q311 ⟨Nat.le_of_ble_eq_true rfl, Nat.le_of_ble_eq_true rfl⟩ hP hD hS (fun _ h => h) rfl hl.1 (Nat.le_of_ble_eq_true rfl) ⟨Nat.le_of_ble_eq_true rfl, Nat.le_of_ble_eq_true rfl⟩ dL_law_361 hu4 (fun Lo H locs hO hP hD hS => ?_)
                refine lv_if_lt (tgt := 397) hx hb dL_law_364 (by decide) (fun cn => absurd cn hr4) (fun _ => ?_)
                refine lv_aload_n hx hb dL_law_367 rfl (lv_at hl 5 rfl) ?_
                refine lv_bipush (v := 8) hx hb dL_law_368 (by decide) ?_
                refine kr_count S hK hO q399 ⟨Nat.le_of_ble_eq_true rfl, Nat.le_of_ble_eq_true rfl⟩ hP.left rfl hl.1 (Nat.le_of_ble_eq_true rfl) ⟨Nat.le_of_ble_eq_true rfl, Nat.le_of_ble_eq_true rfl⟩ dL_law_370 (v_count8 _ _ _) ?_
                refine lv_aload_n hx hb dL_law_373 rfl (lv_at hl 4 rfl) ?_
                refine lv_bipush (v := 8) hx hb dL_law_374 (by decide) ?_
                refine kr_count S hK hQ q399 ⟨Nat.le_of_ble_eq_true rfl, Nat.le_of_ble_eq_true rfl⟩ hP.right rfl hl.1 (Nat.le_of_ble_eq_true rfl) ⟨Nat.le_of_ble_eq_true rfl, Nat.le_of_ble_eq_true rfl⟩ dL_law_376 (v_count8 _ _ _) ?_
                refine lv_icmp_ne (tgt := 397) hx hb dL_law_379 (by decide) (fun cn => absurd hc8 cn) (fun _ => ?_)
                refine lv_aload_n hx hb dL_law_382 rfl (lv_at hl 5 rfl) ?_
                refine kr_light S hK hO q386 ⟨Nat.le_of_ble_eq_true rfl, Nat.le_of_ble_eq_true rfl⟩ hP.left rfl hl.1 (Nat.le_of_ble_eq_true rfl) ⟨Nat.le_of_ble_eq_true rfl, Nat.le_of_ble_eq_true rfl⟩ dL_law_383 (v_light hV4) ?_
                refine lv_aload_n hx hb dL_law_386 rfl (lv_at hl 4 rfl) ?_
                refine kr_light S hK hQ q386 ⟨Nat.le_of_ble_eq_true rfl, Nat.le_of_ble_eq_true rfl⟩ hP.right rfl hl.1 (Nat.le_of_ble_eq_true rfl) ⟨Nat.le_of_ble_eq_true rfl, Nat.le_of_ble_eq_true rfl⟩ dL_law_387 (v_light hV) ?_
                refine lv_icmp_ne (tgt := 397) hx hb dL_law_390 (by decide) (fun cn => absurd rfl cn) (fun _ => ?_)
                refine lv_iconst (v := 1) hx hb dL_law_393 (by decide) ?_
                refine lv_goto (tgt := 398) hx hb dL_law_394 (by decide) ?_
                exact lw_end hx hb hr hlocks hS dL_law_398
              have hj : j < 24 := by omega
              refine lv_iload hx hb dL_law_271 (lv_at hl 0 rfl) ?_
              refine lv_bipush (v := 24) hx hb dL_law_273 (by decide) ?_
              refine lv_icmp_ge (tgt := 311) hx hb dL_law_275 (by decide) (fun cn => absurd cn (k_nge (a := j) (b := 24) (by omega) (by omega) (by omega))) (fun _ => ?_)
              refine lv_iload_n hx hb dL_law_278 rfl (lv_at hl 1 rfl) ?_
              refine lv_if_eq (tgt := 311) hx hb dL_law_279 (by decide) (fun cn => absurd cn i10) (fun _ => ?_)
              refine lv_aload_n hx hb dL_law_282 rfl (lv_at hl 5 rfl) ?_
              refine lv_iload hx hb dL_law_283 (lv_at hl 0 rfl) ?_
              refine lv_iconst (v := 4) hx hb dL_law_285 (by decide) ?_
              refine kr_place S hK hO q332 ⟨Nat.le_of_ble_eq_true rfl, Nat.le_of_ble_eq_true rfl⟩ hP.left rfl hl.1 (Nat.le_of_ble_eq_true rfl) ⟨Nat.le_of_ble_eq_true rfl, Nat.le_of_ble_eq_true rfl⟩ dL_law_286 (v_place4 hVx hj) ?_
              refine lv_aload_n hx hb dL_law_289 rfl (lv_at hl 4 rfl) ?_
              refine lv_iload hx hb dL_law_290 (lv_at hl 0 rfl) ?_
              refine lv_iconst (v := 4) hx hb dL_law_292 (by decide) ?_
              refine kr_place S hK hQ q332 ⟨Nat.le_of_ble_eq_true rfl, Nat.le_of_ble_eq_true rfl⟩ hP.right rfl hl.1 (Nat.le_of_ble_eq_true rfl) ⟨Nat.le_of_ble_eq_true rfl, Nat.le_of_ble_eq_true rfl⟩ dL_law_293 (v_place4 hV hj) ?_
              refine lv_icmp_ne (tgt := 303) hx hb dL_law_296 (by decide) (fun cn => absurd rfl cn) (fun _ => ?_)
              refine lv_iconst (v := 1) hx hb dL_law_299 (by decide) ?_
              refine lv_goto (tgt := 304) hx hb dL_law_300 (by decide) ?_
              refine lv_istore_n (lv' := [(3, .int 1), (7, .int (nI j)), (6, .int r1), (5, .int (nI (pc ms))), (2, .ref qqa), (1, .ref oqa), (0, .ref b)]) hx hb dL_law_304 rfl hl (by decide) rfl (fun ls hl => ?_)
              refine lv_iinc (v := nI (j + 1)) (lv' := [(7, .int (nI (j + 1))), (3, .int 1), (6, .int r1), (5, .int (nI (pc ms))), (2, .ref qqa), (1, .ref oqa), (0, .ref b)]) hx hb dL_law_305 hl (k := 1) rfl (nI_1 j) (by decide) rfl (fun ls hl => ?_)
              refine lv_goto (tgt := 271) hx hb dL_law_308 (by decide) ?_
              exact ih2 (j + 1) (by omega) (by omega) ls (lv_sub hl [0, 1, 2, 3, 4, 5, 6] rfl)
          exact L271 25 0 (by omega) (by omega) ls (lv_sub hl [0, 1, 2, 3, 5, 6, 7] rfl)
      have hi32 : i < 32 := by omega
      obtain ⟨cN, hcN, hce⟩ : ∃ cN, cN < 2 ^ 31 ∧ cellV N_ xs i = nI cN := mask31 _
      refine lv_iload hx hb dL_law_86 (lv_at hl 0 rfl) ?_
      refine lv_bipush (v := 32) hx hb dL_law_88 (by decide) ?_
      refine lv_icmp_ge (tgt := 188) hx hb dL_law_90 (by decide) (fun cn => absurd cn (k_nge (a := i) (b := 32) (by omega) (by omega) (by omega))) (fun _ => ?_)
      refine lv_iload_n hx hb dL_law_93 rfl (lv_at hl 1 rfl) ?_
      refine lv_if_eq (tgt := 188) hx hb dL_law_94 (by decide) (fun cn => absurd cn i10) (fun _ => ?_)
      refine lv_aload_n hx hb dL_law_97 rfl (lv_at hl 4 rfl) ?_
      refine lv_iload hx hb dL_law_98 (lv_at hl 0 rfl) ?_
      refine rdX (i := i) hN (by omega) S q440 ⟨Nat.le_of_ble_eq_true rfl, Nat.le_of_ble_eq_true rfl⟩ hX hbl hbA hS hl.1 (Nat.le_of_ble_eq_true rfl) ⟨Nat.le_of_ble_eq_true rfl, Nat.le_of_ble_eq_true rfl⟩ dL_law_100 ?_
      refine lv_re (y := nI cN) hce ?_
      refine lv_istore (lv' := [(5, .int (nI cN)), (4, .int (nI i)), (3, .int 1), (2, .ref qqa), (1, .ref oqa), (0, .ref b)]) hx hb dL_law_103 hl (by decide) rfl (fun ls hl => ?_)
      refine lv_aload_n hx hb dL_law_105 rfl (lv_at hl 4 rfl) ?_
      refine lv_iload hx hb dL_law_106 (lv_at hl 0 rfl) ?_
      refine obS (As := [.ref oqa, .int (nI cN)]) (rest := []) S hK (c_L_acts l G hO (by omega) hcN _) mL_acts q445 ⟨rfl, rfl, Nat.le_of_ble_eq_true rfl, Nat.le_of_ble_eq_true rfl⟩ hP hD hS (fun _ h => h) rfl hl.1 (Nat.le_of_ble_eq_true rfl) ⟨Nat.le_of_ble_eq_true rfl, Nat.le_of_ble_eq_true rfl⟩ dL_law_108 (fun ra Lo2 H locs hra hP hD hS => ?_)
      obtain ⟨k2, M2, hk2, h242, ha2, hO⟩ := hra
      refine lv_istore (lv' := [(6, .int ra), (5, .int (nI cN)), (4, .int (nI i)), (3, .int 1), (2, .ref qqa), (1, .ref oqa), (0, .ref b)]) hx hb dL_law_111 hl (by decide) rfl (fun ls hl => ?_)
      have K132 : ∀ (c3 : Nat) (Lq : List va_W) (H : Heap) (locs : List Loc), c3 ≤ c2 + 1000 → Obj G qqa c3 M Lq → bP G (Lo2 ++ Lq) H → bD (fun q : Nat => s.heap.size ≤ q) (Lo2 ++ Lq) → va_S (fun q : Nat => s.heap.size ≤ q) s.heap H locs → ∀ ls : Array Slot, lv_has ls 8 [(6, .int ra), (5, .int (nI cN)), (4, .int (nI i)), (3, .int 1), (2, .ref qqa), (1, .ref oqa), (0, .ref b)] → W p l e room_1 s m #[Value.ref b] below meth c H locs 96 1392 (lw_Z below #[Value.ref b] s) (F0 m 132 ls []) := by
        intro c3 Lq H locs hc3 hQ hP hD hS ls hl
        refine lv_aload_n hx hb dL_law_132 rfl (lv_at hl 4 rfl) ?_
        refine lv_iload hx hb dL_law_133 (lv_at hl 1 rfl) ?_
        refine obS (As := [.ref qqa, .int (nI cN)]) (rest := []) S hK (c_L_acts l G hQ (by omega) hcN _) mL_acts q445 ⟨rfl, rfl, Nat.le_of_ble_eq_true rfl, Nat.le_of_ble_eq_true rfl⟩ hP.swap hD.swap hS (fun _ h => h) rfl hl.1 (Nat.le_of_ble_eq_true rfl) ⟨Nat.le_of_ble_eq_true rfl, Nat.le_of_ble_eq_true rfl⟩ dL_law_135 (fun rb Lq2 H locs hrb hP hD hS => ?_)
        obtain ⟨k3, M3, hk3, h243, ha3, hQ⟩ := hrb
        have hP := hP.swap
        have hD := hD.swap
        rw [show k3 = k2 from (nI_eq (by omega) (by omega)).mp (h243.symm.trans h242)] at ha3
        obtain ⟨er, eM⟩ := Prod.mk.inj (Option.some.inj (ha2.symm.trans ha3))
        rw [← eM] at hQ
        refine lv_iload hx hb dL_law_138 (lv_at hl 0 rfl) ?_
        refine lv_icmp_ne (tgt := 180) hx hb dL_law_140 (by decide) (fun cn => absurd er.symm cn) (fun _ => ?_)
        refine lv_aload_n hx hb dL_law_143 rfl (lv_at hl 5 rfl) ?_
        refine lv_aload_n hx hb dL_law_144 rfl (lv_at hl 4 rfl) ?_
        refine rbS (As := [.ref oqa, .ref qqa]) (rest := []) S hK (c_L_same l G hO hQ) mL_same q611 ⟨rfl, rfl, Nat.le_of_ble_eq_true rfl, Nat.le_of_ble_eq_true rfl⟩ hP rfl hl.1 (Nat.le_of_ble_eq_true rfl) ⟨Nat.le_of_ble_eq_true rfl, Nat.le_of_ble_eq_true rfl⟩ dL_law_145 ?_
        refine lv_if_eq (tgt := 180) hx hb dL_law_148 (by decide) (fun cn => absurd cn i10) (fun _ => ?_)
        have K176 : ∀ ls : Array Slot, lv_has ls 8 [(6, .int ra), (5, .int (nI cN)), (4, .int (nI i)), (3, .int 1), (2, .ref qqa), (1, .ref oqa), (0, .ref b)] → W p l e room_1 s m #[Value.ref b] below meth c H locs 96 1392 (lw_Z below #[Value.ref b] s) (F0 m 176 ls []) := by
          intro ls hl
          refine lv_iconst (v := 1) hx hb dL_law_176 (by decide) ?_
          refine lv_goto (tgt := 181) hx hb dL_law_177 (by decide) ?_
          refine lv_istore_n (lv' := [(3, .int 1), (6, .int ra), (5, .int (nI cN)), (4, .int (nI i)), (2, .ref qqa), (1, .ref oqa), (0, .ref b)]) hx hb dL_law_181 rfl hl (by decide) rfl (fun ls hl => ?_)
          refine lv_iinc (v := nI (i + 1)) (lv' := [(4, .int (nI (i + 1))), (3, .int 1), (6, .int ra), (5, .int (nI cN)), (2, .ref qqa), (1, .ref oqa), (0, .ref b)]) hx hb dL_law_182 hl (k := 3) rfl (nI_1 i) (by decide) rfl (fun ls hl => ?_)
          refine lv_goto (tgt := 86) hx hb dL_law_185 (by decide) ?_
          exact ih (i + 1) _ _ _ _ _ _ _ (by omega) (by omega) (by omega) (by omega) hO hQ hP hD hS ls (lv_sub hl [0, 1, 4, 5, 6] rfl)
        by_cases d3 : i % 3 = 0
        · skip
          refine lv_iload hx hb dL_law_151 (lv_at hl 2 rfl) ?_
          refine lv_iconst (v := 3) hx hb dL_law_153 (by decide) ?_
          refine lv_irem hx hb dL_law_154 (by decide) ?_
          refine lv_if_gt (tgt := 176) hx hb dL_law_155 (by decide) (fun cn => absurd cn (by rw [rem3 hi32, d3]; decide)) (fun _ => ?_)
          by_cases d2 : i % 2 = 0
          · skip
            refine lv_iload hx hb dL_law_158 (lv_at hl 2 rfl) ?_
            refine lv_iconst (v := 2) hx hb dL_law_160 (by decide) ?_
            refine lv_irem hx hb dL_law_161 (by decide) ?_
            refine lv_if_ne (tgt := 169) hx hb dL_law_162 (by decide) (fun cn => absurd (by rw [rem2 hi32, d2]; rfl) cn) (fun _ => ?_)
            refine lv_aload_n hx hb dL_law_165 rfl (lv_at hl 5 rfl) ?_
            refine lv_goto (tgt := 170) hx hb dL_law_166 (by decide) ?_
            refine rbS (As := [.ref oqa]) (rest := []) S hK (c_L_hangs l G hO (by omega)) mL_hangs q536 ⟨rfl, rfl, Nat.le_of_ble_eq_true rfl, Nat.le_of_ble_eq_true rfl⟩ hP.left rfl hl.1 (Nat.le_of_ble_eq_true rfl) ⟨Nat.le_of_ble_eq_true rfl, Nat.le_of_ble_eq_true rfl⟩ dL_law_170 ?_
            refine lv_if_eq (tgt := 180) hx hb dL_law_173 (by decide) (fun cn => absurd cn i10) (fun _ => ?_)
            exact K176 ls (lv_sub hl [0, 1, 2, 3, 4, 5, 6] rfl)
          · skip
            refine lv_iload hx hb dL_law_158 (lv_at hl 2 rfl) ?_
            refine lv_iconst (v := 2) hx hb dL_law_160 (by decide) ?_
            refine lv_irem hx hb dL_law_161 (by decide) ?_
            refine lv_if_ne (tgt := 169) hx hb dL_law_162 (by decide) (fun _ => ?_) (fun cn => absurd cn (by rw [rem2 hi32]; exact k_ne (b := 0) (by omega) (by omega) d2))
            refine lv_aload_n hx hb dL_law_169 rfl (lv_at hl 4 rfl) ?_
            refine rbS (As := [.ref qqa]) (rest := []) S hK (c_L_hangs l G hQ (by omega)) mL_hangs q536 ⟨rfl, rfl, Nat.le_of_ble_eq_true rfl, Nat.le_of_ble_eq_true rfl⟩ hP.right rfl hl.1 (Nat.le_of_ble_eq_true rfl) ⟨Nat.le_of_ble_eq_true rfl, Nat.le_of_ble_eq_true rfl⟩ dL_law_170 ?_
            refine lv_if_eq (tgt := 180) hx hb dL_law_173 (by decide) (fun cn => absurd cn i10) (fun _ => ?_)
            exact K176 ls (lv_sub hl [0, 1, 2, 3, 4, 5, 6] rfl)
        · skip
          refine lv_iload hx hb dL_law_151 (lv_at hl 2 rfl) ?_
          refine lv_iconst (v := 3) hx hb dL_law_153 (by decide) ?_
          refine lv_irem hx hb dL_law_154 (by decide) ?_
          refine lv_if_gt (tgt := 176) hx hb dL_law_155 (by decide) (fun _ => ?_) (fun cn => absurd (by rw [rem3 hi32]; exact k_lt (a := 0) (b := i % 3) (by omega) (by omega) (by omega)) cn)
          exact K176 ls (lv_sub hl [0, 1, 2, 3, 4, 5, 6] rfl)
      by_cases d3 : i % 3 = 0
      · skip
        refine lv_iload hx hb dL_law_113 (lv_at hl 2 rfl) ?_
        refine lv_iconst (v := 3) hx hb dL_law_115 (by decide) ?_
        refine lv_irem hx hb dL_law_116 (by decide) ?_
        refine lv_if_gt (tgt := 132) hx hb dL_law_117 (by decide) (fun cn => absurd cn (by rw [rem3 hi32, d3]; decide)) (fun _ => ?_)
        refine lv_aload_n hx hb dL_law_120 rfl (lv_at hl 4 rfl) ?_
        refine lv_iload hx hb dL_law_121 (lv_at hl 1 rfl) ?_
        refine lv_ldc (v := 100000) hx hb hown (hts _ q623) dL_law_123 ?_
        refine lv_irem hx hb dL_law_125 (by decide) ?_
        refine lv_re (y := nI (cN % 100000)) (pk_rem (d := 100000) hcN (by omega) (by omega)) ?_
        refine obS (As := [.ref qqa, .int (nI (cN % 100000))]) (rest := []) S hK (c_L_refuses l G hQ (by omega) (Nat.mod_lt _ (by omega)) _) mL_refuses q614 ⟨rfl, rfl, Nat.le_of_ble_eq_true rfl, Nat.le_of_ble_eq_true rfl⟩ hP.swap hD.swap hS (fun _ h => h) rfl hl.1 (Nat.le_of_ble_eq_true rfl) ⟨Nat.le_of_ble_eq_true rfl, Nat.le_of_ble_eq_true rfl⟩ dL_law_126 (fun rb Lq2 H locs hrb hP hD hS => ?_)
        obtain ⟨rfl, hQ⟩ := hrb
        have hP := hP.swap
        have hD := hD.swap
        refine lv_if_eq (tgt := 180) hx hb dL_law_129 (by decide) (fun cn => absurd cn i10) (fun _ => ?_)
        exact K132 _ _ _ _ (by omega) hQ hP hD hS ls (lv_sub hl [0, 1, 2, 3, 4, 5, 6] rfl)
      · skip
        refine lv_iload hx hb dL_law_113 (lv_at hl 2 rfl) ?_
        refine lv_iconst (v := 3) hx hb dL_law_115 (by decide) ?_
        refine lv_irem hx hb dL_law_116 (by decide) ?_
        refine lv_if_gt (tgt := 132) hx hb dL_law_117 (by decide) (fun _ => ?_) (fun cn => absurd (by rw [rem3 hi32]; exact k_lt (a := 0) (b := i % 3) (by omega) (by omega) (by omega)) cn)
        exact K132 _ _ _ _ (by omega) hQ hP hD hS ls (lv_sub hl [0, 1, 2, 3, 4, 5, 6] rfl)
  refine lv_aload_n hx hb dL_law_16 rfl (lv_at hl 1 rfl) ?_
  refine kl_undo S hK hO (by omega) q311 ⟨Nat.le_of_ble_eq_true rfl, Nat.le_of_ble_eq_true rfl⟩ hP hD hS (fun _ h => h) rfl hl.1 (Nat.le_of_ble_eq_true rfl) ⟨Nat.le_of_ble_eq_true rfl, Nat.le_of_ble_eq_true rfl⟩ dL_law_17 (ms_undo _ _ _ _ _ _ _ _) (fun Lo H locs hO hP hD hS => ?_)
  refine lv_bipush (v := (-5)) hx hb dL_law_20 (by decide) ?_
  refine lv_icmp_ne (tgt := 81) hx hb dL_law_22 (by decide) (fun cn => absurd rfl cn) (fun _ => ?_)
  refine lv_aload_n hx hb dL_law_25 rfl (lv_at hl 1 rfl) ?_
  refine kl_restore S hK hO (by omega) q323 ⟨Nat.le_of_ble_eq_true rfl, Nat.le_of_ble_eq_true rfl⟩ hP hD hS (fun _ h => h) rfl hl.1 (Nat.le_of_ble_eq_true rfl) ⟨Nat.le_of_ble_eq_true rfl, Nat.le_of_ble_eq_true rfl⟩ dL_law_26 (ms_restore _ _ _ _ _ _ _ _) (fun Lo H locs hO hP hD hS => ?_)
  refine lv_bipush (v := (-5)) hx hb dL_law_29 (by decide) ?_
  refine lv_icmp_ne (tgt := 81) hx hb dL_law_31 (by decide) (fun cn => absurd rfl cn) (fun _ => ?_)
  refine lv_aload_n hx hb dL_law_34 rfl (lv_at hl 1 rfl) ?_
  refine lv_iconst (v := 0) hx hb dL_law_35 (by decide) ?_
  obtain ⟨g1, hg1⟩ := ms_fault0 fs0 0 0 0 0 0 0 (fun _ => 0)
  refine kl_fault S hK hO (by omega) q307 ⟨Nat.le_of_ble_eq_true rfl, Nat.le_of_ble_eq_true rfl⟩ hP hD hS (fun _ h => h) rfl hl.1 (Nat.le_of_ble_eq_true rfl) ⟨Nat.le_of_ble_eq_true rfl, Nat.le_of_ble_eq_true rfl⟩ dL_law_36 hg1 (fun Lo H locs hO hP hD hS => ?_)
  refine lv_if_ne (tgt := 81) hx hb dL_law_39 (by decide) (fun cn => absurd rfl cn) (fun _ => ?_)
  refine lv_aload_n hx hb dL_law_42 rfl (lv_at hl 1 rfl) ?_
  refine lv_iconst (v := 1) hx hb dL_law_43 (by decide) ?_
  obtain ⟨g2, hg2⟩ := ms_fault1 fs0 0 1 0 0 0 0 g1
  refine kl_fault S hK hO (by omega) q307 ⟨Nat.le_of_ble_eq_true rfl, Nat.le_of_ble_eq_true rfl⟩ hP hD hS (fun _ h => h) rfl hl.1 (Nat.le_of_ble_eq_true rfl) ⟨Nat.le_of_ble_eq_true rfl, Nat.le_of_ble_eq_true rfl⟩ dL_law_44 hg2 (fun Lo H locs hO hP hD hS => ?_)
  refine lv_iconst (v := 1) hx hb dL_law_47 (by decide) ?_
  refine lv_icmp_ne (tgt := 81) hx hb dL_law_48 (by decide) (fun cn => absurd rfl cn) (fun _ => ?_)
  refine lv_aload_n hx hb dL_law_51 rfl (lv_at hl 1 rfl) ?_
  obtain ⟨g3, hg3⟩ := ms_read fs0 0 1 0 0 0 0 g2
  refine kl_readMove S hK hO (by omega) q151 ⟨Nat.le_of_ble_eq_true rfl, Nat.le_of_ble_eq_true rfl⟩ hP hD hS (fun _ h => h) rfl hl.1 (Nat.le_of_ble_eq_true rfl) ⟨Nat.le_of_ble_eq_true rfl, Nat.le_of_ble_eq_true rfl⟩ dL_law_52 hg3 (fun Lo H locs hO hP hD hS => ?_)
  refine lv_bipush (v := (-100)) hx hb dL_law_55 (by decide) ?_
  refine lv_icmp_ne (tgt := 81) hx hb dL_law_57 (by decide) (fun cn => absurd rfl cn) (fun _ => ?_)
  refine lv_aload_n hx hb dL_law_60 rfl (lv_at hl 1 rfl) ?_
  refine lv_iconst (v := 0) hx hb dL_law_61 (by decide) ?_
  refine kr_move S hK hO q359 ⟨Nat.le_of_ble_eq_true rfl, Nat.le_of_ble_eq_true rfl⟩ hP.left rfl hl.1 (Nat.le_of_ble_eq_true rfl) ⟨Nat.le_of_ble_eq_true rfl, Nat.le_of_ble_eq_true rfl⟩ dL_law_62 (move24 hfs0) ?_
  refine lv_bipush (v := 24) hx hb dL_law_65 (by decide) ?_
  refine lv_icmp_ne (tgt := 81) hx hb dL_law_67 (by decide) (fun cn => absurd rfl cn) (fun _ => ?_)
  refine lv_aload_n hx hb dL_law_70 rfl (lv_at hl 1 rfl) ?_
  refine rbS (As := [.ref oqa]) (rest := []) S hK (c_L_hangs l G hO (by omega)) mL_hangs q536 ⟨rfl, rfl, Nat.le_of_ble_eq_true rfl, Nat.le_of_ble_eq_true rfl⟩ hP.left rfl hl.1 (Nat.le_of_ble_eq_true rfl) ⟨Nat.le_of_ble_eq_true rfl, Nat.le_of_ble_eq_true rfl⟩ dL_law_71 ?_
  refine lv_if_eq (tgt := 81) hx hb dL_law_74 (by decide) (fun cn => absurd cn i10) (fun _ => ?_)
  refine lv_iconst (v := 1) hx hb dL_law_77 (by decide) ?_
  refine lv_goto (tgt := 82) hx hb dL_law_78 (by decide) ?_
  refine lv_istore_n (lv' := [(3, .int 1), (2, .ref qqa), (1, .ref oqa), (0, .ref b)]) hx hb dL_law_82 rfl hl (by decide) rfl (fun ls hl => ?_)
  refine lv_iconst (v := 0) hx hb dL_law_83 (by decide) ?_
  refine lv_istore (lv' := [(4, .int 0), (3, .int 1), (2, .ref qqa), (1, .ref oqa), (0, .ref b)]) hx hb dL_law_84 hl (by decide) rfl (fun ls hl => ?_)
  exact L86 33 0 _ _ _ _ _ _ _ (by omega) (by omega) (by omega) (by omega) (hO.scratch (b1 := 0) (b2 := 0) (b3 := 0) (b4 := 0) (b5 := 0) (b6 := 0) (g2 := fun _ => 0)) hQ hP hD hS ls (lv_sub hl [0, 1, 2, 3, 4] rfl)
