theorem nb_in {a b c r : Int32} (h : F_X5_in a b c = some r) : narrow .boolean (.int r) = .int r := by
  have e : r = 0 ∨ r = 1 := by
    rw [F_X5_in] at h
    split at h
    · exact Or.inl (Option.some.inj h).symm
    · split at h
      · exact Or.inl (Option.some.inj h).symm
      · exact Or.inr (Option.some.inj h).symm
  rcases e with rfl | rfl <;> rfl
set_option maxHeartbeats 4000000 in
set_option maxRecDepth 100000 in
theorem c_X5_in (l : Launch) (G : gG) (p0 p1 p2 : Int32) (res : Int32) (h : F_X5_in p0 p1 p2 = some res) : RdM l G yX5_in cX5_in 3 .boolean (rmk 0 0) [] [.int p0, .int p1, .int p2] res := by
  refine ofR (by decide) (Nat.le_of_ble_eq_true rfl) ?_
  intro p e s m below meth c ls S hr hlk hK hP hl
  have S : CallFix p m c cX5_in 3 s ([.int p0, .int p1, .int p2] : List Value).toArray T0 RX5 := S
  obtain ⟨hx, hb, hml, hown, hts⟩ := id S
  have hl : lv_has ls 3 [(0, .int p0), (1, .int p1), (2, .int p2)] := hl
  rw [F_X5_in] at h
  refine lv_iload_n hx hb dX5_in_0 rfl (lv_at hl 0 rfl) ?_
  refine lv_iload_n hx hb dX5_in_1 rfl (lv_at hl 1 rfl) ?_
  refine lv_icmp_lt (tgt := 14) hx hb dX5_in_2 (by decide) (fun c1 => ?_) (fun c1 => ?_)
  · replace h := if_t c1 h
    refine lv_iconst (v := 0) hx hb dX5_in_14 (by decide) ?_
    obtain rfl := Option.some.inj h
    exact retR S hr hlk rfl rfl dX5_in_15
  · replace h := if_f c1 h
    refine lv_iload_n hx hb dX5_in_5 rfl (lv_at hl 0 rfl) ?_
    refine lv_iload_n hx hb dX5_in_6 rfl (lv_at hl 2 rfl) ?_
    refine lv_icmp_gt (tgt := 14) hx hb dX5_in_7 (by decide) (fun c2 => ?_) (fun c2 => ?_)
    · replace h := if_t c2 h
      refine lv_iconst (v := 0) hx hb dX5_in_14 (by decide) ?_
      obtain rfl := Option.some.inj h
      exact retR S hr hlk rfl rfl dX5_in_15
    · replace h := if_f c2 h
      refine lv_iconst (v := 1) hx hb dX5_in_10 (by decide) ?_
      refine lv_goto (tgt := 15) hx hb dX5_in_11 (by decide) ?_
      obtain rfl := Option.some.inj h
      exact retR S hr hlk rfl rfl dX5_in_15
set_option maxHeartbeats 4000000 in
set_option maxRecDepth 100000 in
theorem c_X5_isPlace (l : Launch) (G : gG) (p0 : Int32) (res : Int32) (h : F_X5_isPlace p0 = some res) : RdM l G yX5_isPlace cX5_isPlace 1 .boolean (rmk 1 22) [] [.int p0] res := by
  refine ofR (by decide) (Nat.le_of_ble_eq_true rfl) ?_
  intro p e s m below meth c ls S hr hlk hK hP hl
  have S : CallFix p m c cX5_isPlace 1 s ([.int p0] : List Value).toArray T0 RX5 := S
  obtain ⟨hx, hb, hml, hown, hts⟩ := id S
  have hl : lv_has ls 1 [(0, .int p0)] := hl
  rw [F_X5_isPlace] at h
  refine lv_iload_n hx hb dX5_isPlace_0 rfl (lv_at hl 0 rfl) ?_
  refine lv_iconst (v := 0) hx hb dX5_isPlace_1 (by decide) ?_
  refine lv_bipush (v := 23) hx hb dX5_isPlace_2 (by decide) ?_
  obtain ⟨r1, hr1, h⟩ := bd_t h
  refine rdS (As := [.int p0, .int 0, .int 23]) (rest := []) S hK (c_X5_in l G p0 0 23 r1 hr1) mX5_in q686 ⟨rfl, rfl, Nat.le_of_ble_eq_true rfl, Nat.le_of_ble_eq_true rfl⟩ (ws_nil G.1 _) rfl hl.1 (Nat.le_of_ble_eq_true rfl) ⟨Nat.le_refl 0, Nat.le_refl 0⟩ dX5_isPlace_4 ?_
  obtain rfl := Option.some.inj h
  exact retR S hr hlk (nb_in hr1) rfl dX5_isPlace_7
set_option maxHeartbeats 4000000 in
set_option maxRecDepth 100000 in
theorem c_X5_isPower (l : Launch) (G : gG) (p0 : Int32) (res : Int32) (h : F_X5_isPower p0 = some res) : RdM l G yX5_isPower cX5_isPower 1 .boolean (rmk 1 22) [] [.int p0] res := by
  refine ofR (by decide) (Nat.le_of_ble_eq_true rfl) ?_
  intro p e s m below meth c ls S hr hlk hK hP hl
  have S : CallFix p m c cX5_isPower 1 s ([.int p0] : List Value).toArray T0 RX5 := S
  obtain ⟨hx, hb, hml, hown, hts⟩ := id S
  have hl : lv_has ls 1 [(0, .int p0)] := hl
  rw [F_X5_isPower] at h
  refine lv_iload_n hx hb dX5_isPower_0 rfl (lv_at hl 0 rfl) ?_
  refine lv_sipush (v := (-9999)) hx hb dX5_isPower_1 (by decide) ?_
  refine lv_sipush (v := 9999) hx hb dX5_isPower_4 (by decide) ?_
  obtain ⟨r1, hr1, h⟩ := bd_t h
  refine rdS (As := [.int p0, .int (-9999), .int 9999]) (rest := []) S hK (c_X5_in l G p0 (-9999) 9999 r1 hr1) mX5_in q686 ⟨rfl, rfl, Nat.le_of_ble_eq_true rfl, Nat.le_of_ble_eq_true rfl⟩ (ws_nil G.1 _) rfl hl.1 (Nat.le_of_ble_eq_true rfl) ⟨Nat.le_refl 0, Nat.le_refl 0⟩ dX5_isPower_7 ?_
  obtain rfl := Option.some.inj h
  exact retR S hr hlk (nb_in hr1) rfl dX5_isPower_10
set_option maxHeartbeats 4000000 in
set_option maxRecDepth 100000 in
theorem c_X5_ones (l : Launch) (G : gG) (p0 : Int32) (res : Int32) (h : F_X5_ones p0 = some res) : RdM l G yX5_ones cX5_ones 3 .int (rmk 0 0) [] [.int p0] res := by
  refine ofR (by decide) (Nat.le_of_ble_eq_true rfl) ?_
  intro p e s m below meth c ls S hr hlk hK hP hl
  have S : CallFix p m c cX5_ones 3 s ([.int p0] : List Value).toArray T0 RX5 := S
  obtain ⟨hx, hb, hml, hown, hts⟩ := id S
  have hl : lv_has ls 3 [(0, .int p0)] := hl
  have L4 : ∀ (n : Nat) (x0 x1 x2 : Int32), F_X5_ones_4 n x0 x1 x2 = some res → ∀ (ls : Array Slot), lv_has ls 3 [(0, .int x0), (1, .int x1), (2, .int x2)] → W p l e (rmk 0 0) s m ([.int p0] : List Value).toArray below meth c s.heap [] 0 0 (MQ below (vp_Si (fun x => x = res)) ([.int p0] : List Value).toArray s 0 0 (fun _ => False)) (F0 m 4 ls []) := by
    intro n
    induction n with
    | zero => intro x0 x1 x2 h; exact absurd (show (none : Option (Int32)) = some res from h) (fun q => by cases q)
    | succ n ih =>
      intro x0 x1 x2 h ls hl
      rw [F_X5_ones_4] at h
      refine lv_iload_n hx hb dX5_ones_4 rfl (lv_at hl 2 rfl) ?_
      refine lv_bipush (v := 24) hx hb dX5_ones_5 (by decide) ?_
      refine lv_icmp_ge (tgt := 24) hx hb dX5_ones_7 (by decide) (fun c1 => ?_) (fun c1 => ?_)
      · replace h := if_t c1 h
        refine lv_iload_n hx hb dX5_ones_24 rfl (lv_at hl 1 rfl) ?_
        obtain rfl := Option.some.inj h
        exact retR S hr hlk rfl rfl dX5_ones_25
      · replace h := if_f c1 h
        refine lv_iload_n hx hb dX5_ones_10 rfl (lv_at hl 1 rfl) ?_
        refine lv_iload_n hx hb dX5_ones_11 rfl (lv_at hl 0 rfl) ?_
        refine lv_iload_n hx hb dX5_ones_12 rfl (lv_at hl 2 rfl) ?_
        refine lv_ishr hx hb dX5_ones_13 ?_
        refine lv_iconst (v := 1) hx hb dX5_ones_14 (by decide) ?_
        refine lv_iand hx hb dX5_ones_15 ?_
        refine lv_iadd hx hb dX5_ones_16 ?_
        refine lv_istore_n (lv' := [(1, .int (x1 + ((x0 >>> (x2 &&& 31)) &&& 1))), (0, .int x0), (2, .int x2)]) hx hb dX5_ones_17 rfl hl (by decide) rfl (fun ls hl => ?_)
        refine lv_iinc (v := x2 + 1) (lv' := [(2, .int (x2 + 1)), (1, .int (x1 + ((x0 >>> (x2 &&& 31)) &&& 1))), (0, .int x0)]) hx hb dX5_ones_18 hl (k := 2) rfl rfl (by decide) rfl (fun ls hl => ?_)
        refine lv_goto (tgt := 4) hx hb dX5_ones_21 (by decide) ?_
        exact ih x0 (x1 + ((x0 >>> (x2 &&& 31)) &&& 1)) (x2 + 1)  h ls (lv_sub hl [2, 1, 0] rfl)
  rw [F_X5_ones] at h
  refine lv_iconst (v := 0) hx hb dX5_ones_0 (by decide) ?_
  refine lv_istore_n (lv' := [(1, .int 0), (0, .int p0)]) hx hb dX5_ones_1 rfl hl (by decide) rfl (fun ls hl => ?_)
  refine lv_iconst (v := 0) hx hb dX5_ones_2 (by decide) ?_
  refine lv_istore_n (lv' := [(2, .int 0), (1, .int 0), (0, .int p0)]) hx hb dX5_ones_3 rfl hl (by decide) rfl (fun ls hl => ?_)
  exact L4 10000 p0 0 0  h ls (lv_sub hl [2, 1, 0] rfl)
