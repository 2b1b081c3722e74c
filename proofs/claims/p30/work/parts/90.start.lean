/-! the law's start: two objects are made -/
theorem fl_mem {α : Type} {is : List Nat} {L L' : List α} (hs : is.map (fun i => L[i]?) = L'.map some) {x : α} (hx : x ∈ L') : x ∈ L := by
  obtain ⟨k, hk⟩ := List.getElem?_of_mem hx
  have h1 : (is.map (fun i => L[i]?))[k]? = some (some x) := by rw [hs, List.getElem?_map, hk]; rfl
  rw [List.getElem?_map] at h1
  cases hi : is[k]? with
  | none => rw [hi] at h1; cases h1
  | some i => rw [hi] at h1; exact List.mem_of_getElem? (Option.some.inj h1)
theorem vP_left {D : va_G} {cl : List vw_C} {w1 w2 : va_W} {H : Heap} (h : va_P D cl (w1 ++ w2) H) : va_P D cl w1 H := fun k q hk => h k q (by rw [List.getElem?_append_left (List.getElem?_eq_some_iff.mp hk).1]; exact hk)
theorem vP_right {D : va_G} {cl : List vw_C} {w1 w2 : va_W} {H : Heap} (h : va_P D cl (w1 ++ w2) H) : va_P D cl w2 H := fun k q hk => h (w1.length + k) q (by rw [List.getElem?_append_right (by omega), Nat.add_sub_cancel_left]; exact hk)
def dI (u : Nat → Nat) (res : (Nat → Int32) × (Nat → Int32)) : OD := (adr [u 0, u 1, u 2, u 3, u 4, u 5, u 6, u 7, u 8, u 9, u 10, u 11, u 12, u 13, u 14, u 15, u 44, u 45, u 46, u 16, u 17, u 18, u 19, u 20, u 21, u 22, u 23, u 24, u 25, u 26, u 27, u 28, u 29, u 30, u 31, u 32, u 33, u 34, u 35, u 36, u 37, u 38, u 39, u 40, u 41, u 42, u 43], sc [0, 0, 0, 0, 0, 0, 0, 0, 0, 0, 0, 0, 0, 0, 0, 0, 0, 0, 0, 0, 0, 0, 0, 0, 0, 0, 0, 0, 0, 0, 0, 0, 0, 0, 0, 0, 0, 0, 0, 0, 0], ar [res.1, res.2, (fun _ => 0), (fun _ => 0), (fun _ => 0), res.1, res.2, (fun _ => 0), (fun _ => 0), (fun _ => 0), (fun _ => 0), (fun _ => 0), res.1, res.2, (fun _ => 0), (fun _ => 0), (fun _ => 0), res.1, res.2, (fun _ => 0), (fun _ => 0), (fun _ => 0), res.1, res.2, (fun _ => 0), (fun _ => 0), (fun _ => 0), res.1, res.2, (fun _ => 0), (fun _ => 0), (fun _ => 0)], va_up (va_up (va_up (va_up (fun _ => none) (Int32.toNatClampNeg 0) (some (u 16))) (Int32.toNatClampNeg 1) (some (u 23))) (Int32.toNatClampNeg 2) (some (u 30))) (Int32.toNatClampNeg 3) (some (u 37)))
def ordI : List Nat := [0, 1, 2, 3, 4, 5, 6, 7, 8, 9, 10, 11, 12, 13, 14, 15, 16, 45, 46, 47, 17, 18, 19, 20, 21, 22, 23, 24, 25, 26, 27, 28, 29, 30, 31, 32, 33, 34, 35, 36, 37, 38, 39, 40, 41, 42, 43, 44]
set_option maxRecDepth 100000 in
theorem fl_ord (G : gG) (b : Nat) (u : Nat → Nat) (res : (Nat → Int32) × (Nat → Int32)) : ordI.map (fun i => (w_X4_init G b res u)[i]?) = ((obB G b (dI u res)).flatten).map some := rfl
theorem ordI_nd : va_nd ordI = true := by decide +kernel
theorem obj_P {G : gG} {b : Nat} {u : Nat → Nat} {res : (Nat → Int32) × (Nat → Int32)} {H : Heap} (h : va_P G.1 vwCl (w_X4_init G b res u) H) : bP G (obB G b (dI u res)) H := bP.of (h.sub ordI (fm_of_map (fl_ord G b u res)))
theorem obj_D {G : gG} {A : Nat → Prop} {b : Nat} {u : Nat → Nat} {res : (Nat → Int32) × (Nat → Int32)} (h : va_D A (w_X4_init G b res u)) : bD A (obB G b (dI u res)) := bD.of (h.sub ordI ordI_nd (fl_ord G b u res))
theorem obj_two {G : gG} {A : Nat → Prop} {b b2 : Nat} {u u2 : Nat → Nat} {res : (Nat → Int32) × (Nat → Int32)} (h : va_D A (w_X4_init G b res u ++ w_X4_init G b2 res u2)) : bD A (obB G b (dI u res) ++ obB G b2 (dI u2 res)) :=
  bD_app.mpr ⟨obj_D (vD_left h), obj_D (vD_right h), fun B hB C hC p hp q hq => vD_apart h (fl_mem (fl_ord G b u res) (List.mem_flatten.mpr ⟨B, hB, hp⟩)) (fl_mem (fl_ord G b2 u2 res) (List.mem_flatten.mpr ⟨C, hC, hq⟩))⟩
set_option maxHeartbeats 4000000 in
set_option maxRecDepth 100000 in
theorem obj_init {r1 : (Nat → Int32) × (Nat → Int32)} {r2 : Nat → Int32} (e2 : F_X5_init = some r2) (hR : ∀ rqa r1qa r2qa r3qa, RR rqa r1qa r2qa r3qa 0 0 0 0 0 0 r1.1 r1.2 (fun _ => 0) (fun _ => 0) (fun _ => 0) 0 0 0 0 0 r1.1 r1.2 (fun _ => 0) (fun _ => 0) (fun _ => 0) 0 0 (va_up (va_up (va_up (va_up (fun _ => none) (Int32.toNatClampNeg 0) (some rqa)) (Int32.toNatClampNeg 1) (some r1qa)) (Int32.toNatClampNeg 2) (some r2qa)) (Int32.toNatClampNeg 3) (some r3qa)) 0 0 0 0 0 0 0 0 (fun _ => 0) (fun _ => 0) 0 0 0 0 0 r1.1 r1.2 (fun _ => 0) (fun _ => 0) (fun _ => 0) 0 0 0 0 0 r1.1 r1.2 (fun _ => 0) (fun _ => 0) (fun _ => 0) 0 0 0 0 0 r1.1 r1.2 (fun _ => 0) (fun _ => 0) (fun _ => 0) 0 0 0 0 0 r1.1 r1.2 (fun _ => 0) (fun _ => 0) (fun _ => 0) 0 0 0 0 0 0 0 0 0 r2 (fun _ => 0) (fun _ => 0) (fun _ => 0) (fun _ => 0)) (G : gG) (b : Nat) (u : Nat → Nat) : Obj G b 0 (MS r2 0 0 0 0 0 0 (fun _ => 0)) (obB G b (dI u r1)) := ⟨dI u r1, rfl, hR _ _ _ _, PI_0 e2 0 0 0 0 0 0 _⟩
theorem z_K {s : State} {m : MethodId} {b : Nat} (hts : ∀ w ∈ lw_tbl, w.before #[Value.ref b] s = true) : ∃ G : gG, gK G s := by
  have ht0 : ∀ w ∈ T0, w.before #[Value.ref b] s = true := fun w h => hts w (T0_sub w h)
  obtain ⟨c0, iS0, hKn0⟩ := u_known (C := RX0) (T := TX0) (N := 3) (n := 3) ht0 iX0 (ht0 _ q79)
  obtain ⟨c1, iS1, hKn1⟩ := u_known (C := RX1) (T := TX1) (N := 2) (n := 2) ht0 iX1 (ht0 _ q36)
  obtain ⟨c2, iS2, hKn2⟩ := u_known (C := RX2) (T := TX2) (N := 10) (n := 10) ht0 iX2 (ht0 _ q98)
  obtain ⟨c3, iS3, hKn3⟩ := u_known (C := RX3) (T := TX3) (N := 9) (n := 9) ht0 iX3 (ht0 _ q30)
  obtain ⟨c4, iS4, hKn4⟩ := u_known (C := RX4) (T := TX4) (N := 5) (n := 5) ht0 iX4 (ht0 _ q22)
  obtain ⟨dC, dI, hKc⟩ : ∃ (dC : Nat → ClassId) (dI : Nat → Nat → Nat), ∀ (k : Nat) (q : vw_C), vwCl[k]? = some q → u_Kn s q.1 q.2.1 q.2.2 (dC k) (dI k) := by
    refine ⟨fun k => if k = 0 then c0 else if k = 1 then c1 else if k = 2 then c2 else if k = 3 then c3 else c4, fun k => if k = 0 then iS0 else if k = 1 then iS1 else if k = 2 then iS2 else if k = 3 then iS3 else iS4, ?_⟩
    intro k q hq
    match k, hq with
    | 0, hq => cases hq; exact hKn0
    | 1, hq => cases hq; exact hKn1
    | 2, hq => cases hq; exact hKn2
    | 3, hq => cases hq; exact hKn3
    | 4, hq => cases hq; exact hKn4
    | k + 5, hq => simp [vwCl] at hq
  obtain ⟨cI, kI, compI, f1, f2, f3⟩ := Cond.arrayClass_spec (ht0 (.arrayClass .int) q48)
  obtain ⟨cC, kC, compC, g1, g2, g3⟩ := Cond.arrayClass_spec (ht0 (.arrayClass .char) q134)
  have hao : va_AO RX3 s := va_AO.of (hts (.arrayOver (.object RX3)) (List.mem_of_getElem? (i := 85) (by decide +kernel)))
  obtain ⟨compS, cS, kS, h1, h2, h3, h4, h5⟩ := Cond.arrayOver_spec hao
  refine ⟨((dC, dI), cC, cI, cS), ⟨hKc, fun k q hk => ?_⟩, fun q hq => va_Nw.of rfl (hts _ (nM_in q hq)), fun q hq => va_Nw.of rfl (hts _ (nF_in q hq)), hao⟩
  match k, hk with
  | 0, hk => cases hk; exact ⟨fun n z => ⟨(fun k h => (by cases h)), kC, g2, compC, g3⟩, g1⟩
  | 1, hk => cases hk; exact ⟨fun n z => ⟨(fun k h => (by cases h)), kI, f2, compI, f3⟩, f1⟩
  | 2, hk => cases hk; exact ⟨fun n z => ⟨(fun k h => (by cases h)), kS, h3, compS, h4⟩, kS, compS, h3, h4, h1, h5⟩
  | k + 3, hk => simp [gT] at hk
set_option maxHeartbeats 8000000 in
set_option maxRecDepth 100000 in
theorem whole_start {p : Program} {e : Env} {s : State} {m : MethodId} {below : List Frame} {meth : Method} {c : Code} (l : Launch) (hflags : l.flags = flags0) {b L : Nat} {xs : Nat → Int32} (hL : L ≤ 260) (C0 : lw_At p s m meth c b L xs) : W p l e room_1 s m #[Value.ref b] below meth c s.heap [] 0 0 (lw_Z below #[Value.ref b] s) (entryFrame m ([Value.ref b] : List Value).toArray 8) := by
  obtain ⟨hx, hb, hr, hml, hown, hts, hX, hbl, hlocks, hgv⟩ := id C0
  obtain ⟨G, hK⟩ := z_K (m := m) hts
  have S : CallFix p m c cL_law 8 s #[Value.ref b] T0 RL := ⟨hx, hb, hml, hown, fun w h => hts w (T0_sub w h)⟩
  have hA : ∀ q : Nat, s.heap.size ≤ q → (fun q : Nat => s.heap.size ≤ q) q := fun _ h => h
  obtain ⟨r1, r2, e1, e2, hR⟩ := z_init
  obtain ⟨A, hAe⟩ : ∃ A : Nat → Prop, A = (fun q : Nat => s.heap.size ≤ q) := ⟨_, rfl⟩
  rw [← hAe] at hA
  have hS : va_S A s.heap s.heap [] := va_S.rf
  have hP : va_P G.1 vwCl [] s.heap := fun k q h => by simp at h
  have hD : va_D A [] := ⟨fun i j p q h => by simp at h, fun k q h => by simp at h⟩
  have hl := lv_entry ([.ref b]) (n := 8) (Nat.le_of_ble_eq_true rfl)
  rw [lg_entry_eq]
  generalize (lg_sl ([.ref b]) ++ List.replicate (8 - (lg_sl ([.ref b])).length) Slot.unset).toArray = ls at hl ⊢
  have hl : lv_has ls 8 [(0, .ref b)] := hl
  refine nwO S hK iX4 tyX4 tyX4_ok q21 q22 q13 hP hD hS hA rfl (ci := 4) df4 (Nat.le_of_ble_eq_true rfl) (Nat.le_of_ble_eq_true rfl) dL_law_0 (fun ad1 H hP hD hS => ?_)
  have hP : va_P G.1 vwCl ([(ad1, .inr (4, [.null, .null, .int 0, .null, .null]))]) H := hP
  have hD : va_D A ([(ad1, .inr (4, [.null, .null, .int 0, .null, .null]))]) := hD
  refine W.widen (k := 1) (n := 5) (Nat.le_of_ble_eq_true rfl) (Nat.le_of_ble_eq_true rfl) ?_
  refine lv_dup hx hb dL_law_3 rfl ?_
  refine ctI (As := []) (rest := [.ref ad1]) (wr := []) (W' := w_X4_init G ad1 r1) S hK (c_X4_init l G ad1 _ r1 e1) mX4_init q23 ⟨rfl, rfl, Nat.le_of_ble_eq_true rfl, Nat.le_of_ble_eq_true rfl⟩ hP hD hS hA [0] [] rfl rfl (by decide) (by decide) (by decide) rfl hl.1 (Nat.le_of_ble_eq_true rfl) ⟨Nat.le_of_ble_eq_true rfl, Nat.le_of_ble_eq_true rfl⟩ dL_law_4 (fun u1 H locs hP hD hS => ?_)
  have hP : va_P G.1 vwCl (w_X4_init G ad1 r1 u1) H := hP
  have hD : va_D A (w_X4_init G ad1 r1 u1) := hD
  refine W.widen (k := 48) (n := 696) (Nat.le_of_ble_eq_true rfl) (Nat.le_of_ble_eq_true rfl) ?_
  refine lv_astore_n (lv' := [(1, .ref ad1), (0, .ref b)]) hx hb dL_law_7 rfl hl (by decide) rfl (fun ls hl => ?_)
  refine nwO S hK iX4 tyX4 tyX4_ok q21 q22 q13 hP hD hS hA rfl (ci := 4) df4 (Nat.le_of_ble_eq_true rfl) (Nat.le_of_ble_eq_true rfl) dL_law_8 (fun ad2 H hP hD hS => ?_)
  have hP : va_P G.1 vwCl (w_X4_init G ad1 r1 u1 ++ [(ad2, .inr (4, [.null, .null, .int 0, .null, .null]))]) H := hP
  have hD : va_D A (w_X4_init G ad1 r1 u1 ++ [(ad2, .inr (4, [.null, .null, .int 0, .null, .null]))]) := hD
  refine W.widen (k := 49) (n := 701) (Nat.le_of_ble_eq_true rfl) (Nat.le_of_ble_eq_true rfl) ?_
  refine lv_dup hx hb dL_law_11 rfl ?_
  refine ctI (As := []) (rest := [.ref ad2]) (wr := (w_X4_init G ad1 r1 u1)) (W' := w_X4_init G ad2 r1) S hK (c_X4_init l G ad2 _ r1 e1) mX4_init q23 ⟨rfl, rfl, Nat.le_of_ble_eq_true rfl, Nat.le_of_ble_eq_true rfl⟩ hP hD hS hA [48] [0, 1, 2, 3, 4, 5, 6, 7, 8, 9, 10, 11, 12, 13, 14, 15, 16, 17, 18, 19, 20, 21, 22, 23, 24, 25, 26, 27, 28, 29, 30, 31, 32, 33, 34, 35, 36, 37, 38, 39, 40, 41, 42, 43, 44, 45, 46, 47] rfl rfl (by decide) (by decide) (by decide) rfl hl.1 (Nat.le_of_ble_eq_true rfl) ⟨Nat.le_of_ble_eq_true rfl, Nat.le_of_ble_eq_true rfl⟩ dL_law_12 (fun u2 H locs hP hD hS => ?_)
  have hP : va_P G.1 vwCl (w_X4_init G ad1 r1 u1 ++ w_X4_init G ad2 r1 u2) H := hP
  have hD : va_D A (w_X4_init G ad1 r1 u1 ++ w_X4_init G ad2 r1 u2) := hD
  refine W.widen (k := 96) (n := 1392) (Nat.le_of_ble_eq_true rfl) (Nat.le_of_ble_eq_true rfl) ?_
  refine lv_astore_n (lv' := [(2, .ref ad2), (1, .ref ad1), (0, .ref b)]) hx hb dL_law_15 rfl hl (by decide) rfl (fun ls hl => ?_)
  have hP2 : bP G (obB G ad1 (dI u1 r1) ++ obB G ad2 (dI u2 r1)) H := fun B hB => (List.mem_append.mp hB).elim (obj_P (vP_left hP) B) (obj_P (vP_right hP) B)
  have hD2 := obj_two hD
  rw [hAe] at hD2 hS
  exact law_all hL S hK hX hbl hr hlocks e2 (obj_init e2 hR G ad1 u1) (obj_init e2 hR G ad2 u2) hP2 hD2 hS hl
