/-! objects in blocks beside other blocks; methods that are given such an object -/
theorem bD_app {A : Nat → Prop} {U V : List va_W} : bD A (U ++ V) ↔ bD A U ∧ bD A V ∧ ∀ B ∈ U, ∀ C ∈ V, ∀ p ∈ B, ∀ q ∈ C, p.1 ≠ q.1 := by
  have inR : ∀ {k : Nat} {B : va_W}, (U ++ V)[k]? = some B → (k < U.length ∧ U[k]? = some B) ∨ (U.length ≤ k ∧ V[k - U.length]? = some B) := by
    intro k B h
    by_cases hl : k < U.length
    · rw [List.getElem?_append_left hl] at h; exact Or.inl ⟨hl, h⟩
    · rw [List.getElem?_append_right (by omega)] at h; exact Or.inr ⟨by omega, h⟩
  constructor
  · intro h
    refine ⟨⟨fun B hB => h.1 B (List.mem_append.mpr (Or.inl hB)), fun i j B C hij hB hC => ?_⟩, ⟨fun B hB => h.1 B (List.mem_append.mpr (Or.inr hB)), fun i j B C hij hB hC => ?_⟩, fun B hB C hC => ?_⟩
    · exact h.2 i j B C hij (by rw [List.getElem?_append_left (List.getElem?_eq_some_iff.mp hB).1]; exact hB) (by rw [List.getElem?_append_left (List.getElem?_eq_some_iff.mp hC).1]; exact hC)
    · exact h.2 (U.length + i) (U.length + j) B C (by omega) (by rw [List.getElem?_append_right (by omega), Nat.add_sub_cancel_left]; exact hB) (by rw [List.getElem?_append_right (by omega), Nat.add_sub_cancel_left]; exact hC)
    · obtain ⟨i, hi⟩ := List.getElem?_of_mem hB
      obtain ⟨j, hj⟩ := List.getElem?_of_mem hC
      have hl := (List.getElem?_eq_some_iff.mp hi).1
      exact h.2 i (U.length + j) B C (by omega) (by rw [List.getElem?_append_left hl]; exact hi) (by rw [List.getElem?_append_right (by omega), Nat.add_sub_cancel_left]; exact hj)
  · rintro ⟨h1, h2, h3⟩
    refine ⟨fun B hB => (List.mem_append.mp hB).elim (h1.1 B) (h2.1 B), fun i j B C hij hB hC => ?_⟩
    rcases inR hB with ⟨l1, e1⟩ | ⟨l1, e1⟩ <;> rcases inR hC with ⟨l2, e2⟩ | ⟨l2, e2⟩
    · exact h1.2 i j B C hij e1 e2
    · exact h3 B (List.mem_of_getElem? e1) C (List.mem_of_getElem? e2)
    · exact fun p hp q hq => (h3 C (List.mem_of_getElem? e2) B (List.mem_of_getElem? e1) q hq p hp).symm
    · exact h2.2 _ _ B C (by omega) e1 e2
theorem bD.swap {A : Nat → Prop} {U V : List va_W} (h : bD A (U ++ V)) : bD A (V ++ U) := by
  obtain ⟨h1, h2, h3⟩ := bD_app.mp h
  exact bD_app.mpr ⟨h2, h1, fun B hB C hC p hp q hq => (h3 C hC B hB q hq p hp).symm⟩
theorem bP.swap {G : gG} {U V : List va_W} {H : Heap} (h : bP G (U ++ V) H) : bP G (V ++ U) H := fun B hB => h B (List.mem_append.mpr (List.mem_append.mp hB).symm)
theorem bP.left {G : gG} {U V : List va_W} {H : Heap} (h : bP G (U ++ V) H) : bP G U H := fun B hB => h B (List.mem_append.mpr (Or.inl hB))
theorem bP.right {G : gG} {U V : List va_W} {H : Heap} (h : bP G (U ++ V) H) : bP G V H := fun B hB => h B (List.mem_append.mpr (Or.inr hB))

theorem bP.reL {G : gG} {L0 L1 Xs : List va_W} {H : Heap} (h : bP G (L0 ++ Xs) H) (is : List Nat) (hs : is.map (fun i => L0[i]?) = L1.map some) : bP G (L1 ++ Xs) H := fun B hB => (List.mem_append.mp hB).elim (h.left.sub is hs B) (h.right B)
theorem bk_mem {is : List Nat} {L L' : List va_W} (hs : is.map (fun i => L[i]?) = L'.map some) {B : va_W} (hB : B ∈ L') : B ∈ L := by
  obtain ⟨k, hk⟩ := List.getElem?_of_mem hB
  obtain ⟨i, -, hi⟩ := bk_at hs hk
  exact List.mem_of_getElem? hi
theorem bD.reL {A : Nat → Prop} {L0 L1 Xs : List va_W} (h : bD A (L0 ++ Xs)) (is : List Nat) (hn : va_nd is = true) (hs : is.map (fun i => L0[i]?) = L1.map some) : bD A (L1 ++ Xs) := by
  obtain ⟨h1, h2, h3⟩ := bD_app.mp h
  exact bD_app.mpr ⟨h1.sub is hn hs, h2, fun B hB => h3 B (bk_mem hs hB)⟩
theorem bx_join {G : gG} {A0 : Nat → Prop} {H0 H H1 : Heap} {locs LX : List Loc} {Bs Rs Bs' : List va_W} (hP : bP G (Bs ++ Rs) H) (hD : bD A0 (Bs ++ Rs)) (hS : va_S A0 H0 H locs) (hA : ∀ q, H0.size ≤ q → A0 q)
    (hz1 : H.size ≤ H1.size) (hk : ∀ q : Nat, q < H.size → ¬ va_A Bs.flatten H.size q → H1[q]? = H[q]?) (hL : ∀ q ∈ LX, va_A Bs.flatten H.size q.base) (hP1 : bP G Bs' H1) (hD1 : bD (va_A Bs.flatten H.size) Bs') : bP G (Bs' ++ Rs) H1 ∧ bD A0 (Bs' ++ Rs) ∧ va_S A0 H0 H1 (locs ++ LX) := by
  obtain ⟨d1, d2, d3⟩ := bD_app.mp hD
  have hF : ∀ q, va_A Bs.flatten H.size q → A0 q := fun q hq => by
    rcases hq with ⟨k, e0, hk⟩ | hq
    · exact d1.flat.2 k _ hk
    · exact hA q (Nat.le_trans hS.1 hq)
  have apart : ∀ B ∈ Rs, ∀ q ∈ B, q.1 < H.size ∧ ¬ va_A Bs.flatten H.size q.1 := by
    intro B hB q hq
    obtain ⟨j, hj⟩ := List.getElem?_of_mem hq
    have hl := (hP.right B hB j q hj).lt
    refine ⟨hl, fun h => ?_⟩
    rcases h with ⟨k2, e0, h⟩ | h
    · obtain ⟨B2, hB2, hq2⟩ := List.mem_flatten.mp (List.mem_of_getElem? h)
      exact d3 B2 hB2 B hB (q.1, e0) hq2 q hq rfl
    · omega
  refine ⟨fun B hB => ?_, bD_app.mpr ⟨⟨fun B hB => (hD1.1 B hB).weaken (fun _ q _ h => hF q.1 h), hD1.2⟩, d2, fun B hB C hC p hp q hq e0 => ?_⟩, Nat.le_trans hS.1 hz1, fun q h1 h2 => ?_, fun q hq => ?_⟩
  · rcases List.mem_append.mp hB with h | h
    · exact hP1 B h
    · exact (hP.right B h).kept (fun k q hq => hk q.1 (apart B h q (List.mem_of_getElem? hq)).1 (apart B h q (List.mem_of_getElem? hq)).2)
  · obtain ⟨j, hj⟩ := List.getElem?_of_mem hp
    have := (hD1.1 B hB).2 j p hj
    rw [e0] at this
    exact (apart C hC q hq).2 this
  · rw [hk q (Nat.lt_of_lt_of_le h1 hS.1) (fun z => h2 (hF q z))]; exact hS.2.1 q h1 h2
  · rcases List.mem_append.mp hq with h | h
    · exact hS.2.2 q h
    · exact hF _ (hL q h)
def gPr (G : gG) (L : List va_W) (av : List Value) : Array Value → State → Prop := fun v U => v = av.toArray ∧ bP G L U.heap ∧ gK G U
theorem gPr_blind {G : gG} {L : List va_W} {av : List Value} : FrameBlind (gPr G L av) := fun _ _ _ _ q => ⟨q.1, q.2.1, q.2.2.call⟩
def gPo (G : gG) (L : List va_W) (sz : Nat) (av : List Value) : Array Value → State → Prop := fun v U => v = av.toArray ∧ U.heap.size = sz ∧ bP G L U.heap ∧ gK G U ∧ bD (fun _ => True) L
theorem gPo_blind {G : gG} {L : List va_W} {sz : Nat} {av : List Value} : FrameBlind (gPo G L sz av) := fun _ _ _ _ q => ⟨q.1, q.2.1, q.2.2.1, q.2.2.2.1.call, q.2.2.2.2⟩
def gQo (G : gG) (P : Int32 → List va_W → Prop) (A : Nat → Prop) : Array Value → State → Outcome → State → Prop := fun _ st oc t => (∃ r L', oc = .returned (some (.int r)) ∧ P r L' ∧ bP G L' t.heap ∧ bD A L') ∧ va_F A st t
/-- a method that reads objects in blocks alone -/
def RbM (l : Launch) (G : gG) (y : MethodName) (c : ByteArray) (n : Nat) (rt : FieldType) (rm : Room) (L : List va_W) (av : List Value) (res : Int32) : Prop :=
  Met l y (wq y c n (some rt)) rm (gPr G L av) (vp_Si (fun x => x = res)) 0 0 (fun _ => False)
/-- a method that is given an object in blocks and leaves one -/
def ObM (l : Launch) (G : gG) (y : MethodName) (c : ByteArray) (n : Nat) (rt : FieldType) (rm : Room) (L : List va_W) (sz : Nat) (av : List Value) (P : Int32 → List va_W → Prop) : Prop :=
  Met l y (wq y c n (some rt)) rm (gPo G L sz av) (gQo G P (va_A L.flatten sz)) 0 0 (va_A L.flatten sz)
section BX
variable {p : Program} {l : Launch} {e : Env} {R : Room} {s : State} {m : MethodId} {args : Array Value} {below : List Frame} {meth : Method} {c : Code} {H : Heap} {locs : List Loc} {cells slots : Nat} {Q : State → Prop}
variable {cc : ByteArray} {nL pc : Nat} {own : String} {G : gG} {ls : Array Slot} {rest st0 : List Value}
variable {C : String} {y : MethodName} {bytes : ByteArray} {maxL : Nat} {rt : FieldType} {r0 : Option FieldType} {rm : Room} {ws : va_W} {b : Nat} {As : List Value} {index : Nat}
/-- a writing call over a world in blocks, other blocks beside it -/
theorem wrX {A0 : Nat → Prop} {H0 : Heap} {ws' : va_W} {o : Option Int32} {L0 L1 Bs Rs Bs' Xs : List va_W} (S : CallFix p m c cc nL s args T0 own) (hK : gK G s) (hM : WrM l G y bytes maxL r0 rm ws H.size (.ref b :: As) o ws') (hi : mIn C y bytes maxL r0 As.length) (hln : Cond.methodLink own index y ∈ T0)
    (hz : rm.cells = 0 ∧ rm.slots = 0 ∧ rm.frames + 1 ≤ R.frames ∧ 8 + (maxL + 11) + rm.locals ≤ R.locals)
    (hP : bP G (L0 ++ Xs) H) (hD : bD A0 (L0 ++ Xs)) (hS : va_S A0 H0 H locs) (hA : ∀ q, H0.size ≤ q → A0 q) (is pm : List Nat) (hC : is.map (fun i => L0[i]?) = (Bs ++ Rs).map some) (hcn : va_nd is = true)
    (hws : Bs.flatten = ws) (hws' : Bs'.flatten = ws') (hpm : pm.map (fun i => (Bs' ++ Rs)[i]?) = L1.map some) (hpn : va_nd pm = true)
    {ci : Nat} {fs : List Value} {q : vw_C} (hc : vwCl[ci]? = some q) (hqC : q.1 = C) (he : ws[0]? = some (b, .inr (ci, fs)))
    (hst : st0 = As.reverse ++ .ref b :: rest) (hsz : ls.size = nL) (hrest : (rest.map fun v => v.category).sum ≤ 8) (hf : cells ≤ R.cells ∧ slots ≤ R.slots) (hdg : decode cc pc = .ok (.invokevirtual index, 3))
    (kk : ∀ (H1 : Heap) (locs1 : List Loc), bP G (L1 ++ Xs) H1 → bD A0 (L1 ++ Xs) → va_S A0 H0 H1 locs1 → W p l e R s m args below meth c H1 locs1 cells slots Q (F0 m (pc + 3) ls ((o.map Value.int).toList ++ rest))) : W p l e R s m args below meth c H locs cells slots Q (F0 m pc ls st0) := by
  subst hqC
  subst hws
  subst hws'
  have hP2 : bP G (Bs ++ (Rs ++ Xs)) H := by rw [← List.append_assoc]; exact hP.reL is hC
  have hD2 : bD A0 (Bs ++ (Rs ++ Xs)) := by rw [← List.append_assoc]; exact hD.reL is hcn hC
  have hPc : va_P G.1 vwCl Bs.flatten H := hP2.left.flat
  have hDc : va_D (fun _ => True) Bs.flatten := (bD_app.mp hD2).1.flat.weaken (fun _ _ _ _ => trivial)
  have hr := va_runV (p := p) (l := l) (e := e) (R := R) (s := s) (m := m) (args := args) (below := below) (meth := meth) (c := c) (H := H) (locs := locs) (cells := cells) (slots := slots) (g := F0 m pc ls st0) (rest := rest) S hM (cwV As.length S.2.2.2.2 (gV hi hln) rfl hz.1 hz.2.1 hi.2.2.2.2 hz.2.2) ⟨gPw_blind, va_recv hK.1 hPc hc he, fun U hU hW => ⟨rfl, by rw [hU], by rw [hU]; exact hPc, hK.warm hW, hDc⟩⟩ rfl rfl hsz hst (lv_room hrest) hdg hf
  intro T hT X
  obtain ⟨v, st₀, t, T', L, h0, X', hL, e1, e2, ⟨⟨hv, hP1, hD1⟩, hz1, hk⟩, st⟩ := hr T hT X
  cases hv
  rw [h0] at hz1 hk
  rw [← e1] at hz1 hk hP1
  obtain ⟨j1, j2, j3⟩ := bx_join hP2 hD2 hS hA hz1 hk hL (bP.of hP1) (bD.of hD1)
  rw [← List.append_assoc] at j1 j2
  obtain ⟨t2, a1, b1⟩ := kk T'.heap (locs ++ L) (j1.reL pm hpm) (j2.reL pm hpn hpm) j3 T' rfl X'
  exact ⟨t2, st t2 a1, b1⟩
/-- a static call of a method that is given an object in blocks, other blocks beside it -/
theorem obS {A0 : Nat → Prop} {H0 : Heap} {P : Int32 → List va_W → Prop} {L0 Xs : List va_W} (S : CallFix p m c cc nL s args T0 own) (hK : gK G s) (hM : ObM l G y bytes maxL rt rm L0 H.size As P) (hi : mSt y bytes maxL (some rt) As.length) (hln : Cond.methodLink own index y ∈ T0)
    (hz : rm.cells = 0 ∧ rm.slots = 0 ∧ rm.frames + 1 ≤ R.frames ∧ 8 + (maxL + 11) + rm.locals ≤ R.locals)
    (hP : bP G (L0 ++ Xs) H) (hD : bD A0 (L0 ++ Xs)) (hS : va_S A0 H0 H locs) (hA : ∀ q, H0.size ≤ q → A0 q)
    (hst : st0 = As.reverse ++ rest) (hsz : ls.size = nL) (hrest : (rest.map fun v => v.category).sum ≤ 8) (hf : cells ≤ R.cells ∧ slots ≤ R.slots) (hdg : decode cc pc = .ok (.invokestatic index, 3))
    (kk : ∀ (r : Int32) (L1 : List va_W) (H1 : Heap) (locs1 : List Loc), P r L1 → bP G (L1 ++ Xs) H1 → bD A0 (L1 ++ Xs) → va_S A0 H0 H1 locs1 → W p l e R s m args below meth c H1 locs1 cells slots Q (F0 m (pc + 3) ls (.int r :: rest))) : W p l e R s m args below meth c H locs cells slots Q (F0 m pc ls st0) := by
  have hDc : bD (fun _ => True) L0 := ⟨fun B hB => ((bD_app.mp hD).1.1 B hB).weaken (fun _ _ _ _ => trivial), (bD_app.mp hD).1.2⟩
  have hr := va_runS (p := p) (l := l) (e := e) (R := R) (s := s) (m := m) (args := args) (below := below) (meth := meth) (c := c) (H := H) (locs := locs) (cells := cells) (slots := slots) (g := F0 m pc ls st0) (rest := rest) S hM ⟨callB_of As.length S.2.2.2.2 (gIn (wq_in hi.1)) rfl hz.1 hz.2.1 (S.2.2.2.2 _ hi.2.2.1) (S.2.2.2.2 _ hln) hi.2.2.2 hz.2.2, S.2.2.2.2 _ hi.2.1⟩ ⟨gPo_blind, fun U hU hW => ⟨rfl, by rw [hU], by rw [hU]; exact hP.left, hK.warm hW, hDc⟩⟩ rfl rfl hsz hst (lv_room hrest) hdg hf
  intro T hT X
  obtain ⟨v, st₀, t, T', L, h0, X', hL, e1, e2, ⟨⟨r, L1, hv, hPr, hP1, hD1⟩, hz1, hk⟩, st⟩ := hr T hT X
  cases hv
  rw [h0] at hz1 hk
  rw [← e1] at hz1 hk hP1
  obtain ⟨j1, j2, j3⟩ := bx_join hP hD hS hA hz1 hk hL hP1 hD1
  obtain ⟨t2, a1, b1⟩ := kk r L1 T'.heap (locs ++ L) hPr j1 j2 j3 T' rfl X'
  exact ⟨t2, st t2 a1, b1⟩
/-- a static call of a method that reads objects in blocks -/
theorem rbS {L0 : List va_W} {res : Int32} (S : CallFix p m c cc nL s args T0 own) (hK : gK G s) (hM : RbM l G y bytes maxL rt rm L0 As res) (hi : mSt y bytes maxL (some rt) As.length) (hln : Cond.methodLink own index y ∈ T0)
    (hz : rm.cells = 0 ∧ rm.slots = 0 ∧ rm.frames + 1 ≤ R.frames ∧ 8 + (maxL + 11) + rm.locals ≤ R.locals) (hP : bP G L0 H)
    (hst : st0 = As.reverse ++ rest) (hsz : ls.size = nL) (hrest : (rest.map fun v => v.category).sum ≤ 8) (hf : cells ≤ R.cells ∧ slots ≤ R.slots) (hdg : decode cc pc = .ok (.invokestatic index, 3))
    (kk : W p l e R s m args below meth c H locs cells slots Q (F0 m (pc + 3) ls (.int res :: rest))) : W p l e R s m args below meth c H locs cells slots Q (F0 m pc ls st0) := by
  refine rd_end (run_toCall (va_runS S hM ⟨callB_of As.length S.2.2.2.2 (gIn (wq_in hi.1)) rfl hz.1 hz.2.1 (S.2.2.2.2 _ hi.2.2.1) (S.2.2.2.2 _ hln) hi.2.2.2 hz.2.2, S.2.2.2.2 _ hi.2.1⟩ ⟨gPr_blind, fun U hU hW => ⟨rfl, by rw [hU]; exact hP, hK.warm hW⟩⟩ rfl rfl hsz hst (lv_room hrest) hdg hf)) kk
theorem retO {v : Int32} {P : Int32 → List va_W → Prop} {L' : List va_W} {A : Nat → Prop} (S : CallFix p m c cc nL s args T0 own) (hr : meth.sig.returnType = some rt) (hlk : meth.locks = false) (hn : narrow rt (.int v) = .int v) (hv : P v L') (hP : bP G L' H) (hD : bD A L') (hS : va_S A s.heap H locs) (hdg : decode cc pc = .ok (.ireturn, 1)) :
    W p l e R s m args below meth c H locs cells slots (MQ below (gQo G P A) args s cells slots A) (F0 m pc ls [.int v]) :=
  W.zret S.1 S.2.1 hr hn (fun t ht _ => ⟨⟨v, L', rfl, hv, by rw [ht]; exact hP, hD⟩, hS.F ht⟩) hS.2.2 hdg hlk
end BX
section EX
variable {l : Launch} {G : gG} {y : MethodName} {cc : ByteArray} {nL : Nat} {rt : FieldType} {rm : Room} {L : List va_W} {av : List Value} {res : Int32} {P : Int32 → List va_W → Prop} {sz : Nat}
theorem ofRb (hy : plainName y.cls = true) (hav : (lg_sl av).length ≤ nL)
    (k : ∀ (p : Program) (e : Env) (s : State) (m : MethodId) (below : List Frame) (meth : Method) (c : Code) (ls : Array Slot), CallFix p m c cc nL s av.toArray T0 y.cls → meth.sig.returnType = some rt → meth.locks = false → gK G s → bP G L s.heap → lv_has ls nL (lv_args 0 av) →
      W p l e rm s m av.toArray below meth c s.heap [] 0 0 (MQ below (vp_Si (fun x => x = res)) av.toArray s 0 0 (fun _ => False)) (F0 m 0 ls [])) : RbM l G y cc nL rt rm L av res := by
  refine Met.ofW (cc := cc) (maxL := nL) (ret := some rt) hy rfl ?_
  intro p e s m args below meth c s₁ B hml hv
  obtain ⟨rfl, hP, hK⟩ := hv
  have hts := atoms_spec (ws := wq y cc nL (some rt)) B.pre
  rw [lg_entry_eq]
  exact k p e s m below meth c _ ⟨B.exec, B.bytes, hml, findClass_of_methodNamed B.named, fun w h => hts w (List.mem_cons_of_mem _ h)⟩ B.returns B.notSynchronized hK hP (lv_entry av hav)
theorem ofOb (hy : plainName y.cls = true) (hav : (lg_sl av).length ≤ nL)
    (k : ∀ (p : Program) (e : Env) (s : State) (m : MethodId) (below : List Frame) (meth : Method) (c : Code) (ls : Array Slot) (A : Nat → Prop), CallFix p m c cc nL s av.toArray T0 y.cls → meth.sig.returnType = some rt → meth.locks = false → gK G s → bP G (L ++ []) s.heap → bD A (L ++ []) → va_S A s.heap s.heap [] → (∀ q : Nat, s.heap.size ≤ q → A q) → lv_has ls nL (lv_args 0 av) →
      W p l e rm s m av.toArray below meth c s.heap [] 0 0 (MQ below (gQo G P A) av.toArray s 0 0 A) (F0 m 0 ls [])) : ObM l G y cc nL rt rm L sz av P := by
  refine Met.ofW (cc := cc) (maxL := nL) (ret := some rt) hy rfl ?_
  intro p e s m args below meth c s₁ B hml hv
  obtain ⟨rfl, hsz, hP, hK, hD⟩ := hv
  subst hsz
  have hts := atoms_spec (ws := wq y cc nL (some rt)) B.pre
  rw [lg_entry_eq]
  exact k p e s m below meth c _ _ ⟨B.exec, B.bytes, hml, findClass_of_methodNamed B.named, fun w h => hts w (List.mem_cons_of_mem _ h)⟩ B.returns B.notSynchronized hK (by rw [List.append_nil]; exact hP) (by rw [List.append_nil]; exact bD.of hD.flat.self) va_S.rf (fun q h => Or.inr h) (lv_entry av hav)
end EX
