/-! the context: classes, array classes and nest words; derived rules for calls, fields, arrays and ends -/
abbrev gG : Type := va_G × ClassId × ClassId × ClassId
def gT (G : gG) : List (ClassId × FieldType) := [(G.2.1, .char), (G.2.2.1, .int), (G.2.2.2, .object RX3)]
def gK (G : gG) (U : State) : Prop := va_K G.1 vwCl (gT G) U ∧ (∀ q ∈ nM, va_Nw (.methodLinkNest q.1 q.2.1 q.2.2.1 q.2.2.2) U) ∧ (∀ q ∈ nF, va_Nw (.fieldLinkNest q.1 q.2.1 q.2.2.1 q.2.2.2.1 q.2.2.2.2.1 q.2.2.2.2.2) U) ∧ va_AO RX3 U
theorem gK.warm {G : gG} {s U : State} (hW : s.WarmedH U.vm) (h : gK G s) : gK G U :=
  ⟨va_K.moved hW.alike h.1, fun q hq => va_Nw.warmM hW (h.2.1 q hq), fun q hq => va_Nw.warmF hW (h.2.2.1 q hq), va_AO.moved hW.alike h.2.2.2⟩
theorem gK.call {G : gG} {U : State} {g : JFrame} {mk : MethodId} {a : Array Value} (h : gK G U) : gK G (U.calling g mk a) :=
  ⟨va_K.moved (u := U) (Vm.Alike.refl U.vm) h.1, fun q hq => va_Nw.same (u := U) rfl rfl (h.2.1 q hq), fun q hq => va_Nw.same (u := U) rfl rfl (h.2.2.1 q hq), va_AO.moved (u := U) (Vm.Alike.refl U.vm) h.2.2.2⟩
def gPc (G : gG) (ws : va_W) (av : List Value) : Array Value → State → Prop := fun v U => v = av.toArray ∧ va_P G.1 vwCl ws U.heap ∧ gK G U
theorem gPc_blind {G : gG} {ws : va_W} {av : List Value} : FrameBlind (gPc G ws av) := fun _ _ _ _ q => ⟨q.1, q.2.1, q.2.2.call⟩
def gPw (G : gG) (ws : va_W) (sz : Nat) (av : List Value) : Array Value → State → Prop := fun v U => v = av.toArray ∧ U.heap.size = sz ∧ va_P G.1 vwCl ws U.heap ∧ gK G U ∧ va_D (fun _ => True) ws
theorem gPw_blind {G : gG} {ws : va_W} {sz : Nat} {av : List Value} : FrameBlind (gPw G ws sz av) := fun _ _ _ _ q => ⟨q.1, q.2.1, q.2.2.1, q.2.2.2.1.call, q.2.2.2.2⟩
def gQw (G : gG) (o : Option Int32) (ws : va_W) (A : Nat → Prop) : Array Value → State → Outcome → State → Prop := fun _ st oc t => (oc = .returned (o.map Value.int) ∧ va_P G.1 vwCl ws t.heap ∧ va_D A ws) ∧ va_F A st t
abbrev rmk (f l : Nat) : Room := { frames := f, cells := 0, slots := 0, locals := l }
/-- a method that reads alone: its answer is res -/
def RdM (l : Launch) (G : gG) (y : MethodName) (c : ByteArray) (n : Nat) (rt : FieldType) (rm : Room) (ws : va_W) (av : List Value) (res : Int32) : Prop :=
  Met l y (wq y c n (some rt)) rm (gPc G ws av) (vp_Si (fun x => x = res)) 0 0 (fun _ => False)
/-- a method that writes, and makes nothing -/
def WrM (l : Launch) (G : gG) (y : MethodName) (c : ByteArray) (n : Nat) (r : Option FieldType) (rm : Room) (ws : va_W) (sz : Nat) (av : List Value) (o : Option Int32) (ws' : va_W) : Prop :=
  Met l y (wq y c n r) rm (gPw G ws sz av) (gQw G o ws' (va_A ws sz)) 0 0 (va_A ws sz)
theorem gV {own C : String} {idx : Nat} {y : MethodName} {c : ByteArray} {n : Nat} {r : Option FieldType} {k : Nat} (h : mIn C y c n r k) (hl : Cond.methodLink own idx y ∈ T0) : GoodIn T0 (wsV own idx C y (wq y c n r)) := by
  refine gIn fun w hw => ?_
  unfold wsV at hw
  rcases List.mem_append.mp hw with h1 | h1
  · simp only [List.mem_cons, List.not_mem_nil, or_false] at h1
    rcases h1 with rfl | rfl | rfl | rfl
    · exact hl
    · exact h.2.1
    · exact h.2.2.1
    · exact h.2.2.2.1
  · exact wq_in h.1 w h1
section RD
variable {p : Program} {l : Launch} {e : Env} {R : Room} {s : State} {m : MethodId} {args : Array Value} {below : List Frame} {meth : Method} {c : Code} {H : Heap} {locs : List Loc} {cells slots : Nat} {Q : State → Prop}
variable {cc : ByteArray} {nL pc : Nat} {own : String} {G : gG} {ls : Array Slot} {rest st0 : List Value}
variable {C : String} {y : MethodName} {bytes : ByteArray} {maxL : Nat} {rt : FieldType} {r0 : Option FieldType} {rm : Room} {ws : va_W} {res : Int32} {b : Nat} {As : List Value} {index : Nat}
theorem run_toCall {mc ms : Nat} {g : JFrame} {Qa : State → Outcome → State → Prop} {free : Addr → Prop} (h : va_Run p l e R s m args below meth c H locs cells slots mc ms g rest Qa free) : CallRun p l e R s m args below meth c H locs cells slots mc ms g rest Qa free := by
  intro T hT X
  obtain ⟨v, st₀, t, T', L, h0, X', hL, e1, -, hq, st⟩ := h T hT X
  exact ⟨v, st₀, t, T', L, h0, X', hL, e1, hq, st⟩
theorem rd_end {a : Array Value} (hr : CallRun p l e R s m args below meth c H locs cells slots 0 0 (F0 m pc ls st0) rest (vp_Si (fun x => x = res) a) (fun _ => False))
    (kk : W p l e R s m args below meth c H locs cells slots Q (F0 m (pc + 3) ls (.int res :: rest))) : W p l e R s m args below meth c H locs cells slots Q (F0 m pc ls st0) :=
  vp_callSi hr (fun r h => by rw [h]; exact kk)
theorem room_of {st : List Value} (h : (st.map fun v => v.category).sum ≤ 8) : 2 * (F0 m pc ls st0).monitorRoom + (st.map fun v => v.category).sum ≤ 8 := lv_room h
/-- a call of an object's method that reads -/
theorem rdV (S : CallFix p m c cc nL s args T0 own) (hK : gK G s) (hM : RdM l G y bytes maxL rt rm ws (.ref b :: As) res) (hi : mIn C y bytes maxL (some rt) As.length) (hln : Cond.methodLink own index y ∈ T0)
    (hz : rm.cells = 0 ∧ rm.slots = 0 ∧ rm.frames + 1 ≤ R.frames ∧ 8 + (maxL + 11) + rm.locals ≤ R.locals) (hP : va_P G.1 vwCl ws H) {ci : Nat} {fs : List Value} {q : vw_C} (hc : vwCl[ci]? = some q) (hqC : q.1 = C) (he : ws[0]? = some (b, .inr (ci, fs)))
    (hst : st0 = As.reverse ++ .ref b :: rest) (hsz : ls.size = nL) (hrest : (rest.map fun v => v.category).sum ≤ 8) (hf : cells ≤ R.cells ∧ slots ≤ R.slots) (hdg : decode cc pc = .ok (.invokevirtual index, 3))
    (kk : W p l e R s m args below meth c H locs cells slots Q (F0 m (pc + 3) ls (.int res :: rest))) : W p l e R s m args below meth c H locs cells slots Q (F0 m pc ls st0) := by
  subst hqC
  refine rd_end (run_toCall (va_runV S hM (cwV As.length S.2.2.2.2 (gV hi hln) rfl hz.1 hz.2.1 hi.2.2.2.2 hz.2.2) ⟨gPc_blind, va_recv hK.1 hP hc he, fun U hU hW => ⟨rfl, by rw [hU]; exact hP, hK.warm hW⟩⟩ rfl rfl hsz hst (lv_room hrest) hdg hf)) kk
/-- a call of a static method that reads, of the same class or a public one -/
theorem rdS (S : CallFix p m c cc nL s args T0 own) (hK : gK G s) (hM : RdM l G y bytes maxL rt rm ws As res) (hi : mSt y bytes maxL (some rt) As.length) (hln : Cond.methodLink own index y ∈ T0)
    (hz : rm.cells = 0 ∧ rm.slots = 0 ∧ rm.frames + 1 ≤ R.frames ∧ 8 + (maxL + 11) + rm.locals ≤ R.locals) (hP : va_P G.1 vwCl ws H)
    (hst : st0 = As.reverse ++ rest) (hsz : ls.size = nL) (hrest : (rest.map fun v => v.category).sum ≤ 8) (hf : cells ≤ R.cells ∧ slots ≤ R.slots) (hdg : decode cc pc = .ok (.invokestatic index, 3))
    (kk : W p l e R s m args below meth c H locs cells slots Q (F0 m (pc + 3) ls (.int res :: rest))) : W p l e R s m args below meth c H locs cells slots Q (F0 m pc ls st0) := by
  refine rd_end (run_toCall (va_runS S hM ⟨callB_of As.length S.2.2.2.2 (gIn (wq_in hi.1)) rfl hz.1 hz.2.1 (S.2.2.2.2 _ hi.2.2.1) (S.2.2.2.2 _ hln) hi.2.2.2 hz.2.2, S.2.2.2.2 _ hi.2.1⟩ ⟨gPc_blind, fun U hU hW => ⟨rfl, by rw [hU]; exact hP, hK.warm hW⟩⟩ rfl rfl hsz hst (lv_room hrest) hdg hf)) kk
/-- a call of a private static method of a nest mate, that reads -/
theorem rdN {host : String} (S : CallFix p m c cc nL s args T0 own) (hK : gK G s) (hM : RdM l G y bytes maxL rt rm ws As res) (hi : mSt y bytes maxL (some rt) As.length) (k : Nat) (hln : nM[k]? = some (own, index, y, host))
    (hz : rm.cells = 0 ∧ rm.slots = 0 ∧ rm.frames + 1 ≤ R.frames ∧ 8 + (maxL + 11) + rm.locals ≤ R.locals) (hP : va_P G.1 vwCl ws H)
    (hst : st0 = As.reverse ++ rest) (hsz : ls.size = nL) (hrest : (rest.map fun v => v.category).sum ≤ 8) (hf : cells ≤ R.cells ∧ slots ≤ R.slots) (hdg : decode cc pc = .ok (.invokestatic index, 3))
    (kk : W p l e R s m args below meth c H locs cells slots Q (F0 m (pc + 3) ls (.int res :: rest))) : W p l e R s m args below meth c H locs cells slots Q (F0 m pc ls st0) := by
  refine rd_end (run_toCall (va_runSN S hM ⟨va_cnB As.length S.2.2.2.2 (gIn (wq_in hi.1)) rfl hz.1 hz.2.1 (hK.2.1 _ (List.mem_of_getElem? hln)) (S.2.2.2.2 _ hi.2.2.1) hi.2.2.2 hz.2.2, S.2.2.2.2 _ hi.2.1, trivial⟩ ⟨gPc_blind, fun U hU hW => ⟨rfl, by rw [hU]; exact hP, hK.warm hW⟩⟩ rfl rfl hsz hst (lv_room hrest) hdg hf)) kk
theorem fm_of_map {α : Type} {f : Nat → Option α} : ∀ {is : List Nat} {w : List α}, is.map f = w.map some → is.filterMap f = w
  | [], [], _ => rfl
  | [], _ :: _, h => by cases h
  | _ :: _, [], h => by cases h
  | i :: is, x :: w, h => by
    simp only [List.map_cons, List.cons.injEq] at h
    rw [List.filterMap_cons, h.1, fm_of_map h.2]
/-- behind a writing call: the world in its old order -/
theorem wr_end {A0 : Nat → Prop} {H0 : Heap} {ws0 wr ws' ws1 : va_W} {o : Option Int32} {a : Array Value} (hr : va_Run p l e R s m args below meth c H locs cells slots 0 0 (F0 m pc ls st0) rest (gQw G o ws' (va_A ws H.size) a) (va_A ws H.size))
    (hP : va_P G.1 vwCl ws0 H) (hD : va_D A0 ws0) (hS : va_S A0 H0 H locs) (hA : ∀ q, H0.size ≤ q → A0 q) (isC isR pm : List Nat) (hC : isC.map (fun i => ws0[i]?) = ws.map some) (hR : isR.map (fun i => ws0[i]?) = wr.map some) (hn : va_nd isR = true) (hdis : ∀ i ∈ isR, i ∉ isC)
    (hpm : pm.map (fun i => (wr ++ ws')[i]?) = ws1.map some) (hpn : va_nd pm = true)
    (kk : ∀ (H1 : Heap) (locs1 : List Loc), va_P G.1 vwCl ws1 H1 → va_D A0 ws1 → va_S A0 H0 H1 locs1 → W p l e R s m args below meth c H1 locs1 cells slots Q (F0 m (pc + 3) ls ((o.map Value.int).toList ++ rest))) : W p l e R s m args below meth c H locs cells slots Q (F0 m pc ls st0) := by
  have hF : ∀ q, va_A ws H.size q → A0 q := va_free hD hS hA isC hC
  intro T hT X
  obtain ⟨v, st₀, t, T', L, h0, X', hL, e1, e2, ⟨⟨hv, hP1, hD1⟩, hz, hk⟩, st⟩ := hr T hT X
  cases hv
  rw [h0] at hz hk
  rw [← e1] at hz hk hP1
  obtain ⟨hPj, hDj⟩ := va_join hP hD isC isR hC hR hn hdis hk hF hP1 hD1
  obtain ⟨t2, a1, b1⟩ := kk T'.heap (locs ++ L) (hPj.sub pm (fm_of_map hpm)) (hDj.sub pm hpn hpm)
    ⟨Nat.le_trans hS.1 hz, fun q h1 h2 => by rw [hk q (Nat.lt_of_lt_of_le h1 hS.1) (fun z => h2 (hF q z))]; exact hS.2.1 q h1 h2, fun q hq => by
      rcases List.mem_append.mp hq with h | h
      · exact hS.2.2 q h
      · exact hF _ (hL q h)⟩ T' rfl X'
  exact ⟨t2, st t2 a1, b1⟩
/-- a call of an object's method that writes -/
theorem wrV {A0 : Nat → Prop} {H0 : Heap} {ws0 wr ws' ws1 : va_W} {o : Option Int32} (S : CallFix p m c cc nL s args T0 own) (hK : gK G s) (hM : WrM l G y bytes maxL r0 rm ws H.size (.ref b :: As) o ws') (hi : mIn C y bytes maxL r0 As.length) (hln : Cond.methodLink own index y ∈ T0)
    (hz : rm.cells = 0 ∧ rm.slots = 0 ∧ rm.frames + 1 ≤ R.frames ∧ 8 + (maxL + 11) + rm.locals ≤ R.locals)
    (hP : va_P G.1 vwCl ws0 H) (hD : va_D A0 ws0) (hS : va_S A0 H0 H locs) (hA : ∀ q, H0.size ≤ q → A0 q) (isC isR pm : List Nat) (hC : isC.map (fun i => ws0[i]?) = ws.map some) (hR : isR.map (fun i => ws0[i]?) = wr.map some) (hn : va_nd isR = true) (hdis : ∀ i ∈ isR, i ∉ isC) (hcn : va_nd isC = true)
    (hpm : pm.map (fun i => (wr ++ ws')[i]?) = ws1.map some) (hpn : va_nd pm = true)
    {ci : Nat} {fs : List Value} {q : vw_C} (hc : vwCl[ci]? = some q) (hqC : q.1 = C) (he : ws[0]? = some (b, .inr (ci, fs)))
    (hst : st0 = As.reverse ++ .ref b :: rest) (hsz : ls.size = nL) (hrest : (rest.map fun v => v.category).sum ≤ 8) (hf : cells ≤ R.cells ∧ slots ≤ R.slots) (hdg : decode cc pc = .ok (.invokevirtual index, 3))
    (kk : ∀ (H1 : Heap) (locs1 : List Loc), va_P G.1 vwCl ws1 H1 → va_D A0 ws1 → va_S A0 H0 H1 locs1 → W p l e R s m args below meth c H1 locs1 cells slots Q (F0 m (pc + 3) ls ((o.map Value.int).toList ++ rest))) : W p l e R s m args below meth c H locs cells slots Q (F0 m pc ls st0) := by
  subst hqC
  have hPc : va_P G.1 vwCl ws H := hP.sub isC (fm_of_map hC)
  have hDc : va_D (fun _ => True) ws := (hD.sub isC hcn hC).weaken (fun _ _ _ _ => trivial)
  exact wr_end (va_runV S hM (cwV As.length S.2.2.2.2 (gV hi hln) rfl hz.1 hz.2.1 hi.2.2.2.2 hz.2.2) ⟨gPw_blind, va_recv hK.1 hPc hc he, fun U hU hW => ⟨rfl, by rw [hU], by rw [hU]; exact hPc, hK.warm hW, hDc⟩⟩ rfl rfl hsz hst (lv_room hrest) hdg hf) hP hD hS hA isC isR pm hC hR hn hdis hpm hpn kk
/-- a field is read -/
theorem gf (S : CallFix p m c cc nL s args T0 own) (hK : gK G s) {T : u_T} {N ci : Nat} {a : Nat} (hin : ∀ w ∈ u_ws C T N, w ∈ T0) (hP : va_P G.1 vwCl ws H) (q0 : Nat) {fs : List Value} (he : ws[q0]? = some (a, .inr (ci, fs))) (hc : vwCl[ci]? = some (C, T, N)) (k : Nat) (hk : k < N) (hlink : Cond.fieldLink own index (T k).1 (T k).2.1 (T k).2.2.1 ∈ T0) {v : Value} (hv : fs[k]? = some v) (hdg : decode cc pc = .ok (.getfield index, 3))
    (kk : W p l e R s m args below meth c H locs cells slots Q (F0 m (pc + 3) ls (v :: rest))) : W p l e R s m args below meth c H locs cells slots Q (F0 m pc ls (.ref a :: rest)) :=
  va_get S.1 S.2.1 S.2.2.2.2 hin S.2.2.2.1 hK.1 hP q0 he hc k hk (S.2.2.2.2 _ hlink) (fun _ h9 => h9) hv hdg kk
/-- a private field of a nest mate is read -/
theorem gfN {host : String} (S : CallFix p m c cc nL s args T0 own) (hK : gK G s) {T : u_T} {N ci : Nat} {a : Nat} (hin : ∀ w ∈ u_ws C T N, w ∈ T0) (hP : va_P G.1 vwCl ws H) (q0 : Nat) {fs : List Value} (he : ws[q0]? = some (a, .inr (ci, fs))) (hc : vwCl[ci]? = some (C, T, N)) (k : Nat) (hk : k < N) (j : Nat) (hlink : nF[j]? = some (own, index, (T k).1, (T k).2.1, (T k).2.2.1, host)) {v : Value} (hv : fs[k]? = some v) (hdg : decode cc pc = .ok (.getfield index, 3))
    (kk : W p l e R s m args below meth c H locs cells slots Q (F0 m (pc + 3) ls (v :: rest))) : W p l e R s m args below meth c H locs cells slots Q (F0 m pc ls (.ref a :: rest)) :=
  va_getN S.1 S.2.1 S.2.2.2.2 hin S.2.2.2.1 hK.1 hP q0 he hc k hk (va_Nw.use rfl (hK.2.2.1 _ (List.mem_of_getElem? hlink))) (fun _ h9 => h9) hv hdg kk
/-- a field is written -/
theorem pf (S : CallFix p m c cc nL s args T0 own) (hK : gK G s) {A0 : Nat → Prop} {H0 : Heap} {T : u_T} {N ci : Nat} {a : Nat} (hin : ∀ w ∈ u_ws C T N, w ∈ T0) (ty0 : Nat → FieldType) (hty : ∀ k, k < N → parseFieldDescriptor (T k).2.2.1 = some (ty0 k)) (hnm : ∀ a, a < N → ∀ b, b < N → a ≠ b → (T a).2.1 ≠ (T b).2.1) (hP : va_P G.1 vwCl ws H) (hD : va_D A0 ws) (hS : va_S A0 H0 H locs) (q0 : Nat) {fs : List Value} (he : ws[q0]? = some (a, .inr (ci, fs))) (hc : vwCl[ci]? = some (C, T, N)) (k : Nat) (hk : k < N) (hlink : Cond.fieldLink own index (T k).1 (T k).2.1 (T k).2.2.1 ∈ T0) (hfin : (T k).2.2.2 = false) {v : Value} (hn : narrow (ty0 k) v = v) (hfit : fits (ty0 k) v = true) (hl : k < fs.length) (ws1 : va_W) (hw1 : ws.set q0 (a, .inr (ci, fs.set k v)) = ws1) (hdg : decode cc pc = .ok (.putfield index, 3))
    (kk : ∀ (H1 : Heap) (locs1 : List Loc), va_P G.1 vwCl ws1 H1 → va_D A0 ws1 → va_S A0 H0 H1 locs1 → W p l e R s m args below meth c H1 locs1 cells slots Q (F0 m (pc + 3) ls rest)) : W p l e R s m args below meth c H locs cells slots Q (F0 m pc ls (v :: .ref a :: rest)) := by
  subst hw1
  exact va_put S.1 S.2.1 S.2.2.2.2 hin ty0 hty hnm S.2.2.2.1 hK.1 hP hD hS q0 he hc k hk (S.2.2.2.2 _ hlink) (fun _ h9 => h9) hfin (hty k hk) hn hfit hl hdg kk
/-- a place of an array of ints is read -/
theorem ald (S : CallFix p m c cc nL s args T0 own) (hK : gK G s) (hP : va_P G.1 vwCl ws H) (q0 : Nat) {a n : Nat} {f : Nat → Int32} (ha : ws[q0]? = some (a, .inl (G.2.2.1, n, .inl f))) {i : Int32} (hin : vp_in i n) (hdg : decode cc pc = .ok (.iaload, 1))
    (kk : W p l e R s m args below meth c H locs cells slots Q (F0 m (pc + 1) ls (.int (f i.toNatClampNeg) :: rest))) : W p l e R s m args below meth c H locs cells slots Q (F0 m pc ls (.int i :: .ref a :: rest)) :=
  va_iald S.1 S.2.1 hK.1 hP q0 1 ha rfl hin hdg kk
theorem cald (S : CallFix p m c cc nL s args T0 own) (hK : gK G s) (hP : va_P G.1 vwCl ws H) (q0 : Nat) {a n : Nat} {f : Nat → Int32} (ha : ws[q0]? = some (a, .inl (G.2.1, n, .inl f))) {i : Int32} (hin : vp_in i n) (hdg : decode cc pc = .ok (.caload, 1))
    (kk : W p l e R s m args below meth c H locs cells slots Q (F0 m (pc + 1) ls (.int (f i.toNatClampNeg) :: rest))) : W p l e R s m args below meth c H locs cells slots Q (F0 m pc ls (.int i :: .ref a :: rest)) :=
  va_cald S.1 S.2.1 hK.1 hP q0 0 ha rfl hin hdg kk
/-- a place of an array of ints is written -/
theorem ast (S : CallFix p m c cc nL s args T0 own) (hK : gK G s) {A0 : Nat → Prop} {H0 : Heap} (hP : va_P G.1 vwCl ws H) (hD : va_D A0 ws) (hS : va_S A0 H0 H locs) (q0 : Nat) {a n : Nat} {f : Nat → Int32} (ha : ws[q0]? = some (a, .inl (G.2.2.1, n, .inl f))) {i x : Int32} (hin : vp_in i n) (ws1 : va_W) (hw1 : ws.set q0 (a, .inl (G.2.2.1, n, .inl (upd f i.toNatClampNeg x))) = ws1) (hdg : decode cc pc = .ok (.iastore, 1))
    (kk : ∀ (H1 : Heap) (locs1 : List Loc), va_P G.1 vwCl ws1 H1 → va_D A0 ws1 → va_S A0 H0 H1 locs1 → W p l e R s m args below meth c H1 locs1 cells slots Q (F0 m (pc + 1) ls rest)) : W p l e R s m args below meth c H locs cells slots Q (F0 m pc ls (.int x :: .int i :: .ref a :: rest)) := by
  subst hw1
  exact va_iast S.1 S.2.1 hK.1 hP hD hS q0 1 ha rfl hin hdg kk
theorem cast_ (S : CallFix p m c cc nL s args T0 own) (hK : gK G s) {A0 : Nat → Prop} {H0 : Heap} (hP : va_P G.1 vwCl ws H) (hD : va_D A0 ws) (hS : va_S A0 H0 H locs) (q0 : Nat) {a n : Nat} {f : Nat → Int32} (ha : ws[q0]? = some (a, .inl (G.2.1, n, .inl f))) {i x : Int32} (hin : vp_in i n) (ws1 : va_W) (hw1 : ws.set q0 (a, .inl (G.2.1, n, .inl (upd f i.toNatClampNeg (vp_nar .char x)))) = ws1) (hdg : decode cc pc = .ok (.castore, 1))
    (kk : ∀ (H1 : Heap) (locs1 : List Loc), va_P G.1 vwCl ws1 H1 → va_D A0 ws1 → va_S A0 H0 H1 locs1 → W p l e R s m args below meth c H1 locs1 cells slots Q (F0 m (pc + 1) ls rest)) : W p l e R s m args below meth c H locs cells slots Q (F0 m pc ls (.int x :: .int i :: .ref a :: rest)) := by
  subst hw1
  exact va_cast S.1 S.2.1 hK.1 hP hD hS q0 0 ha rfl hin hdg kk
/-- a reading method's end -/
theorem retR (S : CallFix p m c cc nL s args T0 own) (hr : meth.sig.returnType = some rt) (hlk : meth.locks = false) {v : Int32} (hn : narrow rt (.int v) = .int v) (h : v = res) (hdg : decode cc pc = .ok (.ireturn, 1)) :
    W p l e R s m args below meth c s.heap [] 0 0 (MQ below (vp_Si (fun x => x = res)) args s 0 0 (fun _ => False)) (F0 m pc ls [.int v]) :=
  W.zret S.1 S.2.1 hr hn (fun t ht _ => ⟨v, rfl, h, ht⟩) (fun q hq => by cases hq) hdg hlk
/-- a writing method's end, with a number -/
theorem retW (S : CallFix p m c cc nL s args T0 own) (hr : meth.sig.returnType = some rt) (hlk : meth.locks = false) {v : Int32} (hn : narrow rt (.int v) = .int v) {o : Option Int32} {ws' : va_W} {A : Nat → Prop} (ho : o = some v) (hP : va_P G.1 vwCl ws' H) (hD : va_D A ws') (hS : va_S A s.heap H locs) (hdg : decode cc pc = .ok (.ireturn, 1)) :
    W p l e R s m args below meth c H locs cells slots (MQ below (gQw G o ws' A) args s cells slots A) (F0 m pc ls [.int v]) := by
  subst ho
  exact W.zret S.1 S.2.1 hr hn (fun t ht _ => ⟨⟨rfl, by rw [ht]; exact hP, hD⟩, hS.F ht⟩) hS.2.2 hdg hlk
/-- a writing method's end, without -/
theorem retV (S : CallFix p m c cc nL s args T0 own) (hr : meth.sig.returnType = none) (hlk : meth.locks = false) {ws' : va_W} {A : Nat → Prop} (hP : va_P G.1 vwCl ws' H) (hD : va_D A ws') (hS : va_S A s.heap H locs) (hdg : decode cc pc = .ok (.return_, 1)) :
    W p l e R s m args below meth c H locs cells slots (MQ below (gQw G none ws' A) args s cells slots A) (F0 m pc ls []) :=
  W.vret S.1 S.2.1 hr (fun t ht _ => ⟨⟨rfl, by rw [ht]; exact hP, hD⟩, hS.F ht⟩) hS.2.2 hdg hlk
end RD
section EN
variable {l : Launch} {G : gG} {y : MethodName} {cc : ByteArray} {nL : Nat} {rt : FieldType} {r0 : Option FieldType} {rm : Room} {ws : va_W} {av : List Value} {res : Int32}
/-- a reading method's start -/
theorem ofR (hy : plainName y.cls = true) (hav : (lg_sl av).length ≤ nL)
    (k : ∀ (p : Program) (e : Env) (s : State) (m : MethodId) (below : List Frame) (meth : Method) (c : Code) (ls : Array Slot), CallFix p m c cc nL s av.toArray T0 y.cls → meth.sig.returnType = some rt → meth.locks = false → gK G s → va_P G.1 vwCl ws s.heap → lv_has ls nL (lv_args 0 av) →
      W p l e rm s m av.toArray below meth c s.heap [] 0 0 (MQ below (vp_Si (fun x => x = res)) av.toArray s 0 0 (fun _ => False)) (F0 m 0 ls [])) : RdM l G y cc nL rt rm ws av res := by
  refine Met.ofW (cc := cc) (maxL := nL) (ret := some rt) hy rfl ?_
  intro p e s m args below meth c s₁ B hml hv
  obtain ⟨rfl, hP, hK⟩ := hv
  have hts := atoms_spec (ws := wq y cc nL (some rt)) B.pre
  rw [lg_entry_eq]
  exact k p e s m below meth c _ ⟨B.exec, B.bytes, hml, findClass_of_methodNamed B.named, fun w h => hts w (List.mem_cons_of_mem _ h)⟩ B.returns B.notSynchronized hK hP (lv_entry av hav)
/-- a writing method's start -/
theorem ofWr {o : Option Int32} {ws' : va_W} {sz : Nat} (hy : plainName y.cls = true) (hav : (lg_sl av).length ≤ nL)
    (k : ∀ (p : Program) (e : Env) (s : State) (m : MethodId) (below : List Frame) (meth : Method) (c : Code) (ls : Array Slot) (A : Nat → Prop), CallFix p m c cc nL s av.toArray T0 y.cls → meth.sig.returnType = r0 → meth.locks = false → gK G s → va_P G.1 vwCl ws s.heap → va_D A ws → va_S A s.heap s.heap [] → (∀ q : Nat, s.heap.size ≤ q → A q) → lv_has ls nL (lv_args 0 av) →
      W p l e rm s m av.toArray below meth c s.heap [] 0 0 (MQ below (gQw G o ws' A) av.toArray s 0 0 A) (F0 m 0 ls [])) : WrM l G y cc nL r0 rm ws sz av o ws' := by
  refine Met.ofW (cc := cc) (maxL := nL) (ret := r0) hy rfl ?_
  intro p e s m args below meth c s₁ B hml hv
  obtain ⟨rfl, hsz, hP, hK, hD⟩ := hv
  subst hsz
  have hts := atoms_spec (ws := wq y cc nL r0) B.pre
  rw [lg_entry_eq]
  exact k p e s m below meth c _ _ ⟨B.exec, B.bytes, hml, findClass_of_methodNamed B.named, fun w h => hts w (List.mem_cons_of_mem _ h)⟩ B.returns B.notSynchronized hK hP hD.self va_S.rf (fun q h => Or.inr h) (lv_entry av hav)
end EN
/-! the mirrors: partial functions, a check a place -/
def ok (i : Int32) (n : Nat) : Bool := decide (0 ≤ i.toInt) && decide (i.toInt < n)
theorem ok_vp {i : Int32} {n : Nat} (h : ok i n = true) : vp_in i n := by
  unfold ok at h
  rw [Bool.and_eq_true, decide_eq_true_eq, decide_eq_true_eq] at h
  exact vp_in_iff.mpr h
def ck {α : Type} (b : Bool) (x : Option α) : Option α := if b = true then x else none
theorem ck_t {α : Type} {b : Bool} {x : Option α} {r : α} (h : ck b x = some r) : b = true ∧ x = some r := by
  unfold ck at h
  by_cases hb : b = true
  · rw [if_pos hb] at h; exact ⟨hb, h⟩
  · rw [if_neg hb] at h; cases h
def nz (x : Int32) : Bool := !decide (x = 0)
theorem nz_t {x : Int32} (h : nz x = true) : ¬ x = 0 := by
  unfold nz at h
  intro e
  rw [decide_eq_true e] at h
  cases h
theorem bd_t {α β : Type} {x : Option α} {f : α → Option β} {r : β} (h : x.bind f = some r) : ∃ a, x = some a ∧ f a = some r := Option.bind_eq_some_iff.mp h
theorem if_t {α : Type} {c : Prop} {dc : Decidable c} {a b : Option α} {r : α} (hc : c) (h : (@ite _ c dc a b) = some r) : a = some r := by rw [if_pos hc] at h; exact h
theorem if_f {α : Type} {c : Prop} {dc : Decidable c} {a b : Option α} {r : α} (hc : ¬ c) (h : (@ite _ c dc a b) = some r) : b = some r := by rw [if_neg hc] at h; exact h
def nmd {α : Type} (x : Int32) (f : Int32 → Option α) : Option α := f x
theorem nmd_t {α : Type} {x y : Int32} {f : Int32 → Option α} {r : α} (hy : y = x) (h : nmd x f = some r) : f y = some r := by rw [hy]; exact h
