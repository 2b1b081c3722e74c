/-- after reverse: the two rows of the move have changed places -/
theorem rv_P {G : gG} {H : Heap} {qa qw qt qu qh qd qb : Nat} {sold stk pun fra tur : Int32} {ft fu fh fd fb : Nat → Int32} {o : va_W} {L : List va_W} (h : bP G (o :: stV G qu qt qa qw qt qu qh qd qb sold stk pun fra tur ft fu fh fd fb :: L) H) : bP G (o :: stW G qa qw qu qt qh qd qb sold stk pun fra tur fu ft fh fd fb :: L) H := by
  intro B hB
  rcases List.mem_cons.mp hB with rfl | hB
  · exact h _ List.mem_cons_self
  · rcases List.mem_cons.mp hB with rfl | hB
    · have h1 : va_P G.1 vwCl (stV G qu qt qa qw qt qu qh qd qb sold stk pun fra tur ft fu fh fd fb) H := h _ (List.mem_cons_of_mem _ List.mem_cons_self)
      exact h1.sub [0, 1, 3, 2, 4, 5, 6] rfl
    · exact h _ (List.mem_cons_of_mem _ (List.mem_cons_of_mem _ hB))
theorem rv_mem {G : gG} {qa qw qt qu qh qd qb : Nat} {sold stk pun fra tur : Int32} {ft fu fh fd fb : Nat → Int32} {q : Nat × va_E} (h : q ∈ stW G qa qw qu qt qh qd qb sold stk pun fra tur fu ft fh fd fb) : q ∈ stV G qu qt qa qw qt qu qh qd qb sold stk pun fra tur ft fu fh fd fb := by
  unfold stW at h
  unfold stV
  simp only [List.mem_cons, List.not_mem_nil, or_false] at h ⊢
  rcases h with h | h | h | h | h | h | h
  · exact Or.inl h
  · exact Or.inr (Or.inl h)
  · exact Or.inr (Or.inr (Or.inr (Or.inl h)))
  · exact Or.inr (Or.inr (Or.inl h))
  · exact Or.inr (Or.inr (Or.inr (Or.inr (Or.inl h))))
  · exact Or.inr (Or.inr (Or.inr (Or.inr (Or.inr (Or.inl h)))))
  · exact Or.inr (Or.inr (Or.inr (Or.inr (Or.inr (Or.inr h)))))
theorem rv_D {G : gG} {A : Nat → Prop} {qa qw qt qu qh qd qb : Nat} {sold stk pun fra tur : Int32} {ft fu fh fd fb : Nat → Int32} {o : va_W} {L : List va_W} (h : bD A (o :: stV G qu qt qa qw qt qu qh qd qb sold stk pun fra tur ft fu fh fd fb :: L)) : bD A (o :: stW G qa qw qu qt qh qd qb sold stk pun fra tur fu ft fh fd fb :: L) := by
  have hv : va_D A (stV G qu qt qa qw qt qu qh qd qb sold stk pun fra tur ft fu fh fd fb) := h.1 _ (List.mem_cons_of_mem _ List.mem_cons_self)
  have hw : va_D A (stW G qa qw qu qt qh qd qb sold stk pun fra tur fu ft fh fd fb) := hv.sub [0, 1, 3, 2, 4, 5, 6] (by decide) rfl
  have key : ∀ (i : Nat) (B : va_W), (o :: stW G qa qw qu qt qh qd qb sold stk pun fra tur fu ft fh fd fb :: L)[i]? = some B → ∃ B2, (o :: stV G qu qt qa qw qt qu qh qd qb sold stk pun fra tur ft fu fh fd fb :: L)[i]? = some B2 ∧ ∀ q ∈ B, q ∈ B2 := by
    intro i B hB
    match i, hB with
    | 0, hB => exact ⟨B, hB, fun q h => h⟩
    | 1, hB =>
      have e := Option.some.inj hB
      subst e
      exact ⟨_, rfl, fun q h => rv_mem h⟩
    | i + 2, hB => exact ⟨B, hB, fun q h => h⟩
  refine ⟨fun B hB => ?_, fun i j B C hij hB hC p hp q hq => ?_⟩
  · rcases List.mem_cons.mp hB with rfl | hB
    · exact h.1 _ List.mem_cons_self
    · rcases List.mem_cons.mp hB with rfl | hB
      · exact hw
      · exact h.1 _ (List.mem_cons_of_mem _ (List.mem_cons_of_mem _ hB))
  · obtain ⟨B2, h1, h2⟩ := key i B hB
    obtain ⟨C2, h3, h4⟩ := key j C hC
    exact h.2 i j B2 C2 hij h1 h3 p (h2 p hp) q (h4 q hq)
theorem sw_out27 {x : Int32} (h0 : ¬ x = 0) (h1 : ¬ x = 1) (h2 : ¬ x = 2) (h3 : ¬ x = 3) (h4 : ¬ x = 4) (h5 : ¬ x = 5) (h6 : ¬ x = 6) (h7 : ¬ x = 7) (h8 : ¬ x = 8) (h9 : ¬ x = 9) (h10 : ¬ x = 10) (h11 : ¬ x = 11) (h12 : ¬ x = 12) (h13 : ¬ x = 13) (h14 : ¬ x = 14) (h15 : ¬ x = 15) (h16 : ¬ x = 16) (h17 : ¬ x = 17) (h18 : ¬ x = 18) (h19 : ¬ x = 19) (h20 : ¬ x = 20) (h21 : ¬ x = 21) (h22 : ¬ x = 22) (h23 : ¬ x = 23) (h24 : ¬ x = 24) (h25 : ¬ x = 25) (h26 : ¬ x = 26) : x.toInt < 0 ∨ 26 < x.toInt := by
  have h0 := lv_neT (a := 0) h0 rfl
  have h1 := lv_neT (a := 1) h1 rfl
  have h2 := lv_neT (a := 2) h2 rfl
  have h3 := lv_neT (a := 3) h3 rfl
  have h4 := lv_neT (a := 4) h4 rfl
  have h5 := lv_neT (a := 5) h5 rfl
  have h6 := lv_neT (a := 6) h6 rfl
  have h7 := lv_neT (a := 7) h7 rfl
  have h8 := lv_neT (a := 8) h8 rfl
  have h9 := lv_neT (a := 9) h9 rfl
  have h10 := lv_neT (a := 10) h10 rfl
  have h11 := lv_neT (a := 11) h11 rfl
  have h12 := lv_neT (a := 12) h12 rfl
  have h13 := lv_neT (a := 13) h13 rfl
  have h14 := lv_neT (a := 14) h14 rfl
  have h15 := lv_neT (a := 15) h15 rfl
  have h16 := lv_neT (a := 16) h16 rfl
  have h17 := lv_neT (a := 17) h17 rfl
  have h18 := lv_neT (a := 18) h18 rfl
  have h19 := lv_neT (a := 19) h19 rfl
  have h20 := lv_neT (a := 20) h20 rfl
  have h21 := lv_neT (a := 21) h21 rfl
  have h22 := lv_neT (a := 22) h22 rfl
  have h23 := lv_neT (a := 23) h23 rfl
  have h24 := lv_neT (a := 24) h24 rfl
  have h25 := lv_neT (a := 25) h25 rfl
  have h26 := lv_neT (a := 26) h26 rfl
  omega
set_option maxHeartbeats 8000000 in
set_option maxRecDepth 100000 in
theorem law_loop {p : Program} {l : Launch} {e : Env} {s : State} {m : MethodId} {below : List Frame} {meth : Method} {c : Code} {b L : Nat} {xs : Nat → Int32} {G : gG} (hL : L ≤ 2048) (hC : lwC p s m c b L xs G) (hr : meth.sig.returnType = ret) (hlocks : meth.locks = false) : ∀ (n k : Nat), L + 1 ≤ k + n → k ≤ L + 4 → ∀ {oqa qa qw qt qu qh qd qb kqa kqw kqt kqu kqh kqd kqb hqa hqr xqa xqc xqt rqa rqw rqt rqu rqh rqd rqb r1qa r1qw r1qt r1qu r1qh r1qd r1qb r2qa r2qw r2qt r2qu r2qh r2qd r2qb r3qa r3qw r3qt r3qu r3qh r3qd r3qb mqa mqs mqp mqn mqx mqm : Nat} {ft fu fh fd fb kft kfu kfh kfd kfb xfc xft rft rfu rfh rfd rfb r1ft r1fu r1fh r1fd r1fb r2ft r2fu r2fh r2fd r2fb r3ft r3fu r3fh r3fd r3fb fs fp fn fx fm : Nat → Int32} {isk sold stk pun fra tur ksold kstk kpun kfra ktur hnx hsz xlen xidx xknd xawt xnum xcam xfst xlst rsold rstk rpun rfra rtur r1sold r1stk r1pun r1fra r1tur r2sold r2stk r2pun r2fra r2tur r3sold r3stk r3pun r3fra r3tur pas misk len spo kin cam fst lst inr : Int32} {fr : Nat → Option Nat}, RR rqa r1qa r2qa r3qa isk sold stk pun fra tur ft fu fh fd fb ksold kstk kpun kfra ktur kft kfu kfh kfd kfb hnx hsz fr xlen xidx xknd xawt xnum xcam xfst xlst xfc xft rsold rstk rpun rfra rtur rft rfu rfh rfd rfb r1sold r1stk r1pun r1fra r1tur r1ft r1fu r1fh r1fd r1fb r2sold r2stk r2pun r2fra r2tur r2ft r2fu r2fh r2fd r2fb r3sold r3stk r3pun r3fra r3tur r3ft r3fu r3fh r3fd r3fb pas misk len spo kin cam fst lst inr fs fp fn fx fm → ∀ (H : Heap) (locs : List Loc), bP G [(oW oqa qa kqa isk hqa xqa), (stW G qa qw qt qu qh qd qb sold stk pun fra tur ft fu fh fd fb), (stW G kqa kqw kqt kqu kqh kqd kqb ksold kstk kpun kfra ktur kft kfu kfh kfd kfb), (hiW G hqa hqr hnx hsz fr), (txW G xqa xqc xqt xlen xidx xknd xawt xnum xcam xfst xlst xfc xft), (stW G rqa rqw rqt rqu rqh rqd rqb rsold rstk rpun rfra rtur rft rfu rfh rfd rfb), (stW G r1qa r1qw r1qt r1qu r1qh r1qd r1qb r1sold r1stk r1pun r1fra r1tur r1ft r1fu r1fh r1fd r1fb), (stW G r2qa r2qw r2qt r2qu r2qh r2qd r2qb r2sold r2stk r2pun r2fra r2tur r2ft r2fu r2fh r2fd r2fb), (stW G r3qa r3qw r3qt r3qu r3qh r3qd r3qb r3sold r3stk r3pun r3fra r3tur r3ft r3fu r3fh r3fd r3fb), (moW G mqa mqs mqp mqn mqx mqm pas misk len spo kin cam fst lst inr fs fp fn fx fm)] H → bD (fun q : Nat => s.heap.size ≤ q) [(oW oqa qa kqa isk hqa xqa), (stW G qa qw qt qu qh qd qb sold stk pun fra tur ft fu fh fd fb), (stW G kqa kqw kqt kqu kqh kqd kqb ksold kstk kpun kfra ktur kft kfu kfh kfd kfb), (hiW G hqa hqr hnx hsz fr), (txW G xqa xqc xqt xlen xidx xknd xawt xnum xcam xfst xlst xfc xft), (stW G rqa rqw rqt rqu rqh rqd rqb rsold rstk rpun rfra rtur rft rfu rfh rfd rfb), (stW G r1qa r1qw r1qt r1qu r1qh r1qd r1qb r1sold r1stk r1pun r1fra r1tur r1ft r1fu r1fh r1fd r1fb), (stW G r2qa r2qw r2qt r2qu r2qh r2qd r2qb r2sold r2stk r2pun r2fra r2tur r2ft r2fu r2fh r2fd r2fb), (stW G r3qa r3qw r3qt r3qu r3qh r3qd r3qb r3sold r3stk r3pun r3fra r3tur r3ft r3fu r3fh r3fd r3fb), (moW G mqa mqs mqp mqn mqx mqm pas misk len spo kin cam fst lst inr fs fp fn fx fm)] → va_S (fun q : Nat => s.heap.size ≤ q) s.heap H locs → ∀ (ls : Array Slot), lv_has ls 4 [(0, .ref b), (1, .ref oqa), (2, .ref mqa), (3, .int (nI k))] → W p l e room_1 s m #[Value.ref b] below meth c H locs 54 1204 (lw_Z below #[Value.ref b] s) (F0 m 18 ls []) := by
  obtain ⟨S, hK, hX, hbl⟩ := id hC
  obtain ⟨hx, hb, hml, hown, hts⟩ := id S
  have hA : ∀ q : Nat, s.heap.size ≤ q → (fun q : Nat => s.heap.size ≤ q) q := fun _ h => h
  have hbA : ¬ (fun q : Nat => s.heap.size ≤ q) b := Nat.not_le.mpr hbl
  intro n
  have fin : ∀ (H : Heap) (locs : List Loc), va_S (fun q : Nat => s.heap.size ≤ q) s.heap H locs → ∀ (ls : Array Slot), W p l e room_1 s m #[Value.ref b] below meth c H locs 54 1204 (lw_Z below #[Value.ref b] s) (F0 m 877 ls []) := fun H locs hS ls => by
    refine lv_iconst (v := 1) hx hb dL_law_877 (by decide) ?_
    refine va_forget (fun q hq => hS.2.2 q hq) ?_
    refine W.widen (k := 600000) (n := 7302250) (Nat.le_of_ble_eq_true rfl) (Nat.le_of_ble_eq_true rfl) ?_
    exact lw_ret hx hb hr hlocks dL_law_878
  induction n with
  | zero =>
    intro k h1 h2 _ _ _ _ _ _ _ _ _ _ _ _ _ _ _ _ _ _ _ _ _ _ _ _ _ _ _ _ _ _ _ _ _ _ _ _ _ _ _ _ _ _ _ _ _ _ _ _ _ _ _ _ _ _ _ _ _ _ _ _ _ _ _ _ _ _ _ _ _ _ _ _ _ _ _ _ _ _ _ _ _ _ _ _ _ _ _ _ _ _ _ _ _ _ _ _ _ _ _ _ _ _ _ _ _ _ _ _ _ _ _ _ _ _ _ _ _ _ _ _ _ _ _ _ _ _ _ _ _ _ _ _ _ _ _ _ _ _ _ _ _ _ hR H locs hP hD hS ls hl
    refine lv_iload_n hx hb dL_law_18 rfl (lv_at hl 3 rfl) ?_
    refine lv_aload_n hx hb dL_law_19 rfl (lv_at hl 0 rfl) ?_
    refine va_slen hx hb hX hbl hbA hS dL_law_20 ?_
    refine lv_iconst (v := 4) hx hb dL_law_21 (by decide) ?_
    refine lv_isub hx hb dL_law_22 ?_
    refine lv_icmp_gt (tgt := 877) hx hb dL_law_23 (by decide) (fun _ => ?_) (fun cn => absurd (lw_gt (by omega) (by omega) (by omega)) cn)
    exact fin H locs hS ls
  | succ n ih =>
    intro k h1 h2 oqa qa qw qt qu qh qd qb kqa kqw kqt kqu kqh kqd kqb hqa hqr xqa xqc xqt rqa rqw rqt rqu rqh rqd rqb r1qa r1qw r1qt r1qu r1qh r1qd r1qb r2qa r2qw r2qt r2qu r2qh r2qd r2qb r3qa r3qw r3qt r3qu r3qh r3qd r3qb mqa mqs mqp mqn mqx mqm ft fu fh fd fb kft kfu kfh kfd kfb xfc xft rft rfu rfh rfd rfb r1ft r1fu r1fh r1fd r1fb r2ft r2fu r2fh r2fd r2fb r3ft r3fu r3fh r3fd r3fb fs fp fn fx fm isk sold stk pun fra tur ksold kstk kpun kfra ktur hnx hsz xlen xidx xknd xawt xnum xcam xfst xlst rsold rstk rpun rfra rtur r1sold r1stk r1pun r1fra r1tur r2sold r2stk r2pun r2fra r2tur r3sold r3stk r3pun r3fra r3tur pas misk len spo kin cam fst lst inr fr hR H locs hP hD hS ls hl
    refine lv_iload_n hx hb dL_law_18 rfl (lv_at hl 3 rfl) ?_
    refine lv_aload_n hx hb dL_law_19 rfl (lv_at hl 0 rfl) ?_
    refine va_slen hx hb hX hbl hbA hS dL_law_20 ?_
    refine lv_iconst (v := 4) hx hb dL_law_21 (by decide) ?_
    refine lv_isub hx hb dL_law_22 ?_
    by_cases hk : L < k + 4
    · refine lv_icmp_gt (tgt := 877) hx hb dL_law_23 (by decide) (fun _ => ?_) (fun cn => absurd (lw_gt (by omega) (by omega) hk) cn)
      exact fin H locs hS ls
    have hk4 : k + 4 ≤ L := by omega
    refine lv_icmp_gt (tgt := 877) hx hb dL_law_23 (by decide) (fun cn => absurd cn (lw_ngt (by omega) hk4)) (fun _ => ?_)
    have hI0 : vp_in (nI k) L := vp_in_nI (by omega) (by omega)
    have hI1 : vp_in (nI k + 1) L := by rw [show nI k + 1 = nI (k + 1) from nI_add k 1]; exact vp_in_nI (by omega) (by omega)
    have hI2 : vp_in (nI k + 2) L := by rw [show nI k + 2 = nI (k + 2) from nI_add k 2]; exact vp_in_nI (by omega) (by omega)
    have hI3 : vp_in (nI k + 3) L := by rw [show nI k + 3 = nI (k + 3) from nI_add k 3]; exact vp_in_nI (by omega) (by omega)
    refine lv_aload_n hx hb dL_law_26 rfl (lv_at hl 0 rfl) ?_
    refine lv_iload_n hx hb dL_law_27 rfl (lv_at hl 3 rfl) ?_
    refine va_sld hx hb hX hbl hbA hS hI0 dL_law_28 ?_
    refine lv_bipush (v := 31) hx hb dL_law_29 (by decide) ?_
    refine lv_iand hx hb dL_law_31 ?_
    have tl : ∀ {oqa qa qw qt qu qh qd qb kqa kqw kqt kqu kqh kqd kqb hqa hqr xqa xqc xqt rqa rqw rqt rqu rqh rqd rqb r1qa r1qw r1qt r1qu r1qh r1qd r1qb r2qa r2qw r2qt r2qu r2qh r2qd r2qb r3qa r3qw r3qt r3qu r3qh r3qd r3qb mqa mqs mqp mqn mqx mqm : Nat} {ft fu fh fd fb kft kfu kfh kfd kfb xfc xft rft rfu rfh rfd rfb r1ft r1fu r1fh r1fd r1fb r2ft r2fu r2fh r2fd r2fb r3ft r3fu r3fh r3fd r3fb fs fp fn fx fm : Nat → Int32} {isk sold stk pun fra tur ksold kstk kpun kfra ktur hnx hsz xlen xidx xknd xawt xnum xcam xfst xlst rsold rstk rpun rfra rtur r1sold r1stk r1pun r1fra r1tur r2sold r2stk r2pun r2fra r2tur r3sold r3stk r3pun r3fra r3tur pas misk len spo kin cam fst lst inr : Int32} {fr : Nat → Option Nat}, RR rqa r1qa r2qa r3qa isk sold stk pun fra tur ft fu fh fd fb ksold kstk kpun kfra ktur kft kfu kfh kfd kfb hnx hsz fr xlen xidx xknd xawt xnum xcam xfst xlst xfc xft rsold rstk rpun rfra rtur rft rfu rfh rfd rfb r1sold r1stk r1pun r1fra r1tur r1ft r1fu r1fh r1fd r1fb r2sold r2stk r2pun r2fra r2tur r2ft r2fu r2fh r2fd r2fb r3sold r3stk r3pun r3fra r3tur r3ft r3fu r3fh r3fd r3fb pas misk len spo kin cam fst lst inr fs fp fn fx fm → ∀ (H : Heap) (locs : List Loc), bP G [(oW oqa qa kqa isk hqa xqa), (stW G qa qw qt qu qh qd qb sold stk pun fra tur ft fu fh fd fb), (stW G kqa kqw kqt kqu kqh kqd kqb ksold kstk kpun kfra ktur kft kfu kfh kfd kfb), (hiW G hqa hqr hnx hsz fr), (txW G xqa xqc xqt xlen xidx xknd xawt xnum xcam xfst xlst xfc xft), (stW G rqa rqw rqt rqu rqh rqd rqb rsold rstk rpun rfra rtur rft rfu rfh rfd rfb), (stW G r1qa r1qw r1qt r1qu r1qh r1qd r1qb r1sold r1stk r1pun r1fra r1tur r1ft r1fu r1fh r1fd r1fb), (stW G r2qa r2qw r2qt r2qu r2qh r2qd r2qb r2sold r2stk r2pun r2fra r2tur r2ft r2fu r2fh r2fd r2fb), (stW G r3qa r3qw r3qt r3qu r3qh r3qd r3qb r3sold r3stk r3pun r3fra r3tur r3ft r3fu r3fh r3fd r3fb), (moW G mqa mqs mqp mqn mqx mqm pas misk len spo kin cam fst lst inr fs fp fn fx fm)] H → bD (fun q : Nat => s.heap.size ≤ q) [(oW oqa qa kqa isk hqa xqa), (stW G qa qw qt qu qh qd qb sold stk pun fra tur ft fu fh fd fb), (stW G kqa kqw kqt kqu kqh kqd kqb ksold kstk kpun kfra ktur kft kfu kfh kfd kfb), (hiW G hqa hqr hnx hsz fr), (txW G xqa xqc xqt xlen xidx xknd xawt xnum xcam xfst xlst xfc xft), (stW G rqa rqw rqt rqu rqh rqd rqb rsold rstk rpun rfra rtur rft rfu rfh rfd rfb), (stW G r1qa r1qw r1qt r1qu r1qh r1qd r1qb r1sold r1stk r1pun r1fra r1tur r1ft r1fu r1fh r1fd r1fb), (stW G r2qa r2qw r2qt r2qu r2qh r2qd r2qb r2sold r2stk r2pun r2fra r2tur r2ft r2fu r2fh r2fd r2fb), (stW G r3qa r3qw r3qt r3qu r3qh r3qd r3qb r3sold r3stk r3pun r3fra r3tur r3ft r3fu r3fh r3fd r3fb), (moW G mqa mqs mqp mqn mqx mqm pas misk len spo kin cam fst lst inr fs fp fn fx fm)] → va_S (fun q : Nat => s.heap.size ≤ q) s.heap H locs → ∀ (ls : Array Slot), lv_has ls 4 [(0, .ref b), (1, .ref oqa), (2, .ref mqa), (3, .int (nI k))] → W p l e room_1 s m #[Value.ref b] below meth c H locs 54 1204 (lw_Z below #[Value.ref b] s) (F0 m 871 ls []) := by
      intro _ _ _ _ _ _ _ _ _ _ _ _ _ _ _ _ _ _ _ _ _ _ _ _ _ _ _ _ _ _ _ _ _ _ _ _ _ _ _ _ _ _ _ _ _ _ _ _ _ _ _ _ _ _ _ _ _ _ _ _ _ _ _ _ _ _ _ _ _ _ _ _ _ _ _ _ _ _ _ _ _ _ _ _ _ _ _ _ _ _ _ _ _ _ _ _ _ _ _ _ _ _ _ _ _ _ _ _ _ _ _ _ _ _ _ _ _ _ _ _ _ _ _ _ _ _ _ _ _ _ _ _ _ _ _ _ _ _ _ _ _ _ hR H locs hP hD hS ls hl
      refine lv_iinc (v := nI (k + 4)) (lv' := [(3, .int (nI (k + 4))), (0, .ref b), (1, .ref _), (2, .ref _)]) hx hb dL_law_871 hl (k := 3) rfl (nI_add k 4) (by decide) rfl (fun ls hl => ?_)
      refine lv_goto (tgt := 18) hx hb dL_law_874 (by decide) ?_
      exact ih (k + 4) (by omega) (by omega) hR H locs hP hD hS ls (lv_sub hl [1, 2, 3, 0] rfl)
    by_cases z0 : (xs (Int32.toNatClampNeg (nI k)) &&& 31) = 0
    · refine lv_tableIn (off := 124) (tgt := 156) hx hb dL_law_32 (by rw [z0]; decide) (by rw [z0]; decide) (by rw [z0]; rfl) (by decide) ?_
      obtain ⟨rr1, rr2, h1, h2, hE, hR2⟩ := z_exchange hR _ _
      refine lw_exchange hC hI1 hI2 rr1 h1 rr2 h2 hE hP hD hS hl (fun H locs hP hD hS ls hl => ?_)
      rcases hR2 with hR2 | hR2
      · exact tl hR2 H locs hP hD hS ls hl
      · exact tl hR2 H locs (hP.sub [0, 1, 2, 3, 4, 6, 7, 8, 5, 9] rfl) (hD.sub [0, 1, 2, 3, 4, 6, 7, 8, 5, 9] (by decide) rfl) hS ls hl
    by_cases z1 : (xs (Int32.toNatClampNeg (nI k)) &&& 31) = 1
    · refine lv_tableIn (off := 157) (tgt := 189) hx hb dL_law_32 (by rw [z1]; decide) (by rw [z1]; decide) (by rw [z1]; rfl) (by decide) ?_
      obtain ⟨rr1, rr2, h1, h2, hE, hR2⟩ := z_reverse qt qu hR
      refine lw_reverse hC  rr1 h1 rr2 h2 hE hP hD hS hl (fun H locs hP hD hS ls hl => ?_)
      rcases hR2 with ⟨e1, e2, hR2⟩ | ⟨e1, e2, hR2⟩
      · rw [e1, e2] at hP hD
        exact tl hR2 H locs hP hD hS ls hl
      · rw [e1, e2] at hP hD
        exact tl hR2 H locs (rv_P (hP.sub [0, 1, 2, 3, 4, 6, 7, 8, 5, 9] rfl)) (rv_D (hD.sub [0, 1, 2, 3, 4, 6, 7, 8, 5, 9] (by decide) rfl)) hS ls hl
    by_cases z2 : (xs (Int32.toNatClampNeg (nI k)) &&& 31) = 2
    · refine lv_tableIn (off := 170) (tgt := 202) hx hb dL_law_32 (by rw [z2]; decide) (by rw [z2]; decide) (by rw [z2]; rfl) (by decide) ?_
      obtain ⟨rr1, rr2, h1, h2, hE, hR2⟩ := z_readMove hR
      refine lw_readMove hC  rr1 h1 rr2 h2 hE hP hD hS hl (fun H locs hP hD hS ls hl => ?_)
      rcases hR2 with hR2 | hR2
      · exact tl hR2 H locs hP hD hS ls hl
      · exact tl hR2 H locs (hP.sub [0, 1, 2, 3, 4, 6, 7, 8, 5, 9] rfl) (hD.sub [0, 1, 2, 3, 4, 6, 7, 8, 5, 9] (by decide) rfl) hS ls hl
    by_cases z3 : (xs (Int32.toNatClampNeg (nI k)) &&& 31) = 3
    · refine lv_tableIn (off := 183) (tgt := 215) hx hb dL_law_32 (by rw [z3]; decide) (by rw [z3]; decide) (by rw [z3]; rfl) (by decide) ?_
      obtain ⟨rr1, rr2, h1, h2, hE, hR2⟩ := z_sell hR _
      refine lw_sell hC hI1 rr1 h1 rr2 h2 hE hP hD hS hl (fun H locs hP hD hS ls hl => ?_)
      rcases hR2 with hR2 | hR2
      · exact tl hR2 H locs hP hD hS ls hl
      · exact tl hR2 H locs (hP.sub [0, 1, 2, 3, 4, 6, 7, 8, 5, 9] rfl) (hD.sub [0, 1, 2, 3, 4, 6, 7, 8, 5, 9] (by decide) rfl) hS ls hl
    by_cases z4 : (xs (Int32.toNatClampNeg (nI k)) &&& 31) = 4
    · refine lv_tableIn (off := 206) (tgt := 238) hx hb dL_law_32 (by rw [z4]; decide) (by rw [z4]; decide) (by rw [z4]; rfl) (by decide) ?_
      obtain ⟨rr1, rr2, h1, h2, hE, hR2⟩ := z_punch hR _ _
      refine lw_punch hC hI1 hI2 rr1 h1 rr2 h2 hE hP hD hS hl (fun H locs hP hD hS ls hl => ?_)
      rcases hR2 with hR2 | hR2
      · exact tl hR2 H locs hP hD hS ls hl
      · exact tl hR2 H locs (hP.sub [0, 1, 2, 3, 4, 6, 7, 8, 5, 9] rfl) (hD.sub [0, 1, 2, 3, 4, 6, 7, 8, 5, 9] (by decide) rfl) hS ls hl
    by_cases z5 : (xs (Int32.toNatClampNeg (nI k)) &&& 31) = 5
    · refine lv_tableIn (off := 239) (tgt := 271) hx hb dL_law_32 (by rw [z5]; decide) (by rw [z5]; decide) (by rw [z5]; rfl) (by decide) ?_
      by_cases hz : xs (Int32.toNatClampNeg (nI k + 3)) = 0
      · obtain ⟨rr1, rr2, h1, h2, hE, hR2⟩ := z_forge hR _ _ 0 (Or.inl rfl)
        refine lw_forge_0 hC hI1 hI2 hI3 hz rr1 h1 rr2 h2 hE hP hD hS hl (fun H locs hP hD hS ls hl => ?_)
        rcases hR2 with hR2 | hR2
        · exact tl hR2 H locs hP hD hS ls hl
        · exact tl hR2 H locs (hP.sub [0, 1, 2, 3, 4, 6, 7, 8, 5, 9] rfl) (hD.sub [0, 1, 2, 3, 4, 6, 7, 8, 5, 9] (by decide) rfl) hS ls hl
      · obtain ⟨rr1, rr2, h1, h2, hE, hR2⟩ := z_forge hR _ _ 1 (Or.inr rfl)
        refine lw_forge_1 hC hI1 hI2 hI3 hz rr1 h1 rr2 h2 hE hP hD hS hl (fun H locs hP hD hS ls hl => ?_)
        rcases hR2 with hR2 | hR2
        · exact tl hR2 H locs hP hD hS ls hl
        · exact tl hR2 H locs (hP.sub [0, 1, 2, 3, 4, 6, 7, 8, 5, 9] rfl) (hD.sub [0, 1, 2, 3, 4, 6, 7, 8, 5, 9] (by decide) rfl) hS ls hl
    by_cases z6 : (xs (Int32.toNatClampNeg (nI k)) &&& 31) = 6
    · refine lv_tableIn (off := 298) (tgt := 330) hx hb dL_law_32 (by rw [z6]; decide) (by rw [z6]; decide) (by rw [z6]; rfl) (by decide) ?_
      obtain ⟨rr1, rr2, h1, h2, hE, hR2⟩ := z_mend hR _
      refine lw_mend hC hI1 rr1 h1 rr2 h2 hE hP hD hS hl (fun H locs hP hD hS ls hl => ?_)
      rcases hR2 with hR2 | hR2
      · exact tl hR2 H locs hP hD hS ls hl
      · exact tl hR2 H locs (hP.sub [0, 1, 2, 3, 4, 6, 7, 8, 5, 9] rfl) (hD.sub [0, 1, 2, 3, 4, 6, 7, 8, 5, 9] (by decide) rfl) hS ls hl
    by_cases z7 : (xs (Int32.toNatClampNeg (nI k)) &&& 31) = 7
    · refine lv_tableIn (off := 321) (tgt := 353) hx hb dL_law_32 (by rw [z7]; decide) (by rw [z7]; decide) (by rw [z7]; rfl) (by decide) ?_
      obtain ⟨rr1, rr2, h1, h2, hE, hR2⟩ := z_turn hR _ _
      refine lw_turn hC hI1 hI2 rr1 h1 rr2 h2 hE hP hD hS hl (fun H locs hP hD hS ls hl => ?_)
      rcases hR2 with hR2 | hR2
      · exact tl hR2 H locs hP hD hS ls hl
      · exact tl hR2 H locs (hP.sub [0, 1, 2, 3, 4, 6, 7, 8, 5, 9] rfl) (hD.sub [0, 1, 2, 3, 4, 6, 7, 8, 5, 9] (by decide) rfl) hS ls hl
    by_cases z8 : (xs (Int32.toNatClampNeg (nI k)) &&& 31) = 8
    · refine lv_tableIn (off := 354) (tgt := 386) hx hb dL_law_32 (by rw [z8]; decide) (by rw [z8]; decide) (by rw [z8]; rfl) (by decide) ?_
      by_cases hz : xs (Int32.toNatClampNeg (nI k + 2)) = 0
      · obtain ⟨rr1, rr2, h1, h2, hE, hR2⟩ := z_stack hR _ 0 (Or.inl rfl)
        refine lw_stack_0 hC hI1 hI2 hz rr1 h1 rr2 h2 hE hP hD hS hl (fun H locs hP hD hS ls hl => ?_)
        rcases hR2 with hR2 | hR2
        · exact tl hR2 H locs hP hD hS ls hl
        · exact tl hR2 H locs (hP.sub [0, 1, 2, 3, 4, 6, 7, 8, 5, 9] rfl) (hD.sub [0, 1, 2, 3, 4, 6, 7, 8, 5, 9] (by decide) rfl) hS ls hl
      · obtain ⟨rr1, rr2, h1, h2, hE, hR2⟩ := z_stack hR _ 1 (Or.inr rfl)
        refine lw_stack_1 hC hI1 hI2 hz rr1 h1 rr2 h2 hE hP hD hS hl (fun H locs hP hD hS ls hl => ?_)
        rcases hR2 with hR2 | hR2
        · exact tl hR2 H locs hP hD hS ls hl
        · exact tl hR2 H locs (hP.sub [0, 1, 2, 3, 4, 6, 7, 8, 5, 9] rfl) (hD.sub [0, 1, 2, 3, 4, 6, 7, 8, 5, 9] (by decide) rfl) hS ls hl
    by_cases z9 : (xs (Int32.toNatClampNeg (nI k)) &&& 31) = 9
    · refine lv_tableIn (off := 403) (tgt := 435) hx hb dL_law_32 (by rw [z9]; decide) (by rw [z9]; decide) (by rw [z9]; rfl) (by decide) ?_
      obtain ⟨rr1, rr2, h1, h2, hE, hR2⟩ := z_turnStack hR _
      refine lw_turnStack hC hI1 rr1 h1 rr2 h2 hE hP hD hS hl (fun H locs hP hD hS ls hl => ?_)
      rcases hR2 with hR2 | hR2
      · exact tl hR2 H locs hP hD hS ls hl
      · exact tl hR2 H locs (hP.sub [0, 1, 2, 3, 4, 6, 7, 8, 5, 9] rfl) (hD.sub [0, 1, 2, 3, 4, 6, 7, 8, 5, 9] (by decide) rfl) hS ls hl
    by_cases z10 : (xs (Int32.toNatClampNeg (nI k)) &&& 31) = 10
    · refine lv_tableIn (off := 426) (tgt := 458) hx hb dL_law_32 (by rw [z10]; decide) (by rw [z10]; decide) (by rw [z10]; rfl) (by decide) ?_
      obtain ⟨rr1, rr2, h1, h2, hE, hR2⟩ := z_type hR _
      refine lw_type hC hI1 rr1 h1 rr2 h2 hE hP hD hS hl (fun H locs hP hD hS ls hl => ?_)
      exact tl hR2 H locs hP hD hS ls hl
    by_cases z11 : (xs (Int32.toNatClampNeg (nI k)) &&& 31) = 11
    · refine lv_tableIn (off := 451) (tgt := 483) hx hb dL_law_32 (by rw [z11]; decide) (by rw [z11]; decide) (by rw [z11]; rfl) (by decide) ?_
      obtain ⟨rr1, rr2, h1, h2, hE, hR2⟩ := z_clearText hR
      refine lw_clearText hC  rr1 h1 rr2 h2 hE hP hD hS hl (fun H locs hP hD hS ls hl => ?_)
      exact tl hR2 H locs hP hD hS ls hl
    by_cases z12 : (xs (Int32.toNatClampNeg (nI k)) &&& 31) = 12
    · refine lv_tableIn (off := 464) (tgt := 496) hx hb dL_law_32 (by rw [z12]; decide) (by rw [z12]; decide) (by rw [z12]; rfl) (by decide) ?_
      obtain ⟨rr1, rr2, h1, h2, hE, hR2⟩ := z_fault hR _
      refine lw_fault hC hI1 rr1 h1 rr2 h2 hE hP hD hS hl (fun H locs hP hD hS ls hl => ?_)
      exact tl hR2 H locs hP hD hS ls hl
    by_cases z13 : (xs (Int32.toNatClampNeg (nI k)) &&& 31) = 13
    · refine lv_tableIn (off := 487) (tgt := 519) hx hb dL_law_32 (by rw [z13]; decide) (by rw [z13]; decide) (by rw [z13]; rfl) (by decide) ?_
      obtain ⟨rr1, rr2, h1, h2, hE, hR2⟩ := z_undo hR
      refine lw_undo hC  rr1 h1 rr2 h2 hE hP hD hS hl (fun H locs hP hD hS ls hl => ?_)
      rcases hR2 with hR2 | hR2
      · exact tl hR2 H locs hP hD hS ls hl
      · exact tl hR2 H locs (hP.sub [0, 1, 2, 3, 4, 8, 5, 6, 7, 9] rfl) (hD.sub [0, 1, 2, 3, 4, 8, 5, 6, 7, 9] (by decide) rfl) hS ls hl
    by_cases z14 : (xs (Int32.toNatClampNeg (nI k)) &&& 31) = 14
    · refine lv_tableIn (off := 500) (tgt := 532) hx hb dL_law_32 (by rw [z14]; decide) (by rw [z14]; decide) (by rw [z14]; rfl) (by decide) ?_
      obtain ⟨rr1, rr2, h1, h2, hE, hR2⟩ := z_keep hR
      refine lw_keep hC  rr1 h1 rr2 h2 hE hP hD hS hl (fun H locs hP hD hS ls hl => ?_)
      exact tl hR2 H locs hP hD hS ls hl
    by_cases z15 : (xs (Int32.toNatClampNeg (nI k)) &&& 31) = 15
    · refine lv_tableIn (off := 513) (tgt := 545) hx hb dL_law_32 (by rw [z15]; decide) (by rw [z15]; decide) (by rw [z15]; rfl) (by decide) ?_
      obtain ⟨rr1, rr2, h1, h2, hE, hR2⟩ := z_restore hR
      refine lw_restore hC  rr1 h1 rr2 h2 hE hP hD hS hl (fun H locs hP hD hS ls hl => ?_)
      rcases hR2 with hR2 | hR2
      · exact tl hR2 H locs hP hD hS ls hl
      · exact tl hR2 H locs (hP.sub [0, 1, 2, 3, 4, 6, 7, 8, 5, 9] rfl) (hD.sub [0, 1, 2, 3, 4, 6, 7, 8, 5, 9] (by decide) rfl) hS ls hl
    by_cases z16 : (xs (Int32.toNatClampNeg (nI k)) &&& 31) = 16
    · refine lv_tableIn (off := 526) (tgt := 558) hx hb dL_law_32 (by rw [z16]; decide) (by rw [z16]; decide) (by rw [z16]; rfl) (by decide) ?_
      obtain ⟨r, h1, h2⟩ := z_place hR _ _
      exact lw_place hC hI1 hI2 r h1 r h2 rfl hP hD hS hl (fun H locs hP hD hS ls hl => tl hR H locs hP hD hS ls hl)
    by_cases z17 : (xs (Int32.toNatClampNeg (nI k)) &&& 31) = 17
    · refine lv_tableIn (off := 559) (tgt := 591) hx hb dL_law_32 (by rw [z17]; decide) (by rw [z17]; decide) (by rw [z17]; rfl) (by decide) ?_
      obtain ⟨r, h1, h2⟩ := z_move hR _
      exact lw_move hC hI1 r h1 r h2 rfl hP hD hS hl (fun H locs hP hD hS ls hl => tl hR H locs hP hD hS ls hl)
    by_cases z18 : (xs (Int32.toNatClampNeg (nI k)) &&& 31) = 18
    · refine lv_tableIn (off := 582) (tgt := 614) hx hb dL_law_32 (by rw [z18]; decide) (by rw [z18]; decide) (by rw [z18]; rfl) (by decide) ?_
      obtain ⟨r, h1, h2⟩ := z_power hR _ _
      exact lw_power hC hI1 hI2 r h1 r h2 rfl hP hD hS hl (fun H locs hP hD hS ls hl => tl hR H locs hP hD hS ls hl)
    by_cases z19 : (xs (Int32.toNatClampNeg (nI k)) &&& 31) = 19
    · refine lv_tableIn (off := 615) (tgt := 647) hx hb dL_law_32 (by rw [z19]; decide) (by rw [z19]; decide) (by rw [z19]; rfl) (by decide) ?_
      obtain ⟨r, h1, h2⟩ := z_ticket hR _ _
      exact lw_ticket hC hI1 hI2 r h1 r h2 rfl hP hD hS hl (fun H locs hP hD hS ls hl => tl hR H locs hP hD hS ls hl)
    by_cases z20 : (xs (Int32.toNatClampNeg (nI k)) &&& 31) = 20
    · refine lv_tableIn (off := 648) (tgt := 680) hx hb dL_law_32 (by rw [z20]; decide) (by rw [z20]; decide) (by rw [z20]; rfl) (by decide) ?_
      obtain ⟨r, h1, h2⟩ := z_alikeIn hR _ _
      exact lw_alikeIn hC hI1 hI2 r h1 r h2 rfl hP hD hS hl (fun H locs hP hD hS ls hl => tl hR H locs hP hD hS ls hl)
    by_cases z21 : (xs (Int32.toNatClampNeg (nI k)) &&& 31) = 21
    · refine lv_tableIn (off := 681) (tgt := 713) hx hb dL_law_32 (by rw [z21]; decide) (by rw [z21]; decide) (by rw [z21]; rfl) (by decide) ?_
      obtain ⟨r, h1, h2⟩ := z_meetsIn hR _ _
      exact lw_meetsIn hC hI1 hI2 r h1 r h2 rfl hP hD hS hl (fun H locs hP hD hS ls hl => tl hR H locs hP hD hS ls hl)
    by_cases z22 : (xs (Int32.toNatClampNeg (nI k)) &&& 31) = 22
    · refine lv_tableIn (off := 714) (tgt := 746) hx hb dL_law_32 (by rw [z22]; decide) (by rw [z22]; decide) (by rw [z22]; rfl) (by decide) ?_
      obtain ⟨r, h1, h2⟩ := z_reason hR _ _
      exact lw_reason hC hI1 hI2 r h1 r h2 rfl hP hD hS hl (fun H locs hP hD hS ls hl => tl hR H locs hP hD hS ls hl)
    by_cases z23 : (xs (Int32.toNatClampNeg (nI k)) &&& 31) = 23
    · refine lv_tableIn (off := 747) (tgt := 779) hx hb dL_law_32 (by rw [z23]; decide) (by rw [z23]; decide) (by rw [z23]; rfl) (by decide) ?_
      obtain ⟨r, h1, h2⟩ := z_kin hR _
      exact lw_kin hC hI1 r h1 r h2 rfl hP hD hS hl (fun H locs hP hD hS ls hl => tl hR H locs hP hD hS ls hl)
    by_cases z24 : (xs (Int32.toNatClampNeg (nI k)) &&& 31) = 24
    · refine lv_tableIn (off := 770) (tgt := 802) hx hb dL_law_32 (by rw [z24]; decide) (by rw [z24]; decide) (by rw [z24]; rfl) (by decide) ?_
      obtain ⟨r, h1, h2⟩ := z_light hR
      exact lw_light hC  r h1 r h2 rfl hP hD hS hl (fun H locs hP hD hS ls hl => tl hR H locs hP hD hS ls hl)
    by_cases z25 : (xs (Int32.toNatClampNeg (nI k)) &&& 31) = 25
    · refine lv_tableIn (off := 783) (tgt := 815) hx hb dL_law_32 (by rw [z25]; decide) (by rw [z25]; decide) (by rw [z25]; rfl) (by decide) ?_
      obtain ⟨r, h1, h2⟩ := z_bestTurn hR _ _
      exact lw_bestTurn hC hI1 hI2 r h1 r h2 rfl hP hD hS hl (fun H locs hP hD hS ls hl => tl hR H locs hP hD hS ls hl)
    by_cases z26 : (xs (Int32.toNatClampNeg (nI k)) &&& 31) = 26
    · refine lv_tableIn (off := 816) (tgt := 848) hx hb dL_law_32 (by rw [z26]; decide) (by rw [z26]; decide) (by rw [z26]; rfl) (by decide) ?_
      obtain ⟨r, h1, h2⟩ := z_count hR _
      exact lw_count hC hI1 r h1 r h2 rfl hP hD hS hl (fun H locs hP hD hS ls hl => tl hR H locs hP hD hS ls hl)
    refine lv_tableOut (tgt := 871) hx hb dL_law_32 (sw_out27 z0 z1 z2 z3 z4 z5 z6 z7 z8 z9 z10 z11 z12 z13 z14 z15 z16 z17 z18 z19 z20 z21 z22 z23 z24 z25 z26) (by decide) ?_
    exact tl hR H locs hP hD hS ls hl
