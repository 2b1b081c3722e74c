theorem ws_nil (D : va_G) (H : Heap) : va_P D vwCl [] H := fun k q h => by simp at h
theorem sw_out5 {x : Int32} (h0 : ¬ x = 0) (h1 : ¬ x = 1) (h2 : ¬ x = 2) (h3 : ¬ x = 3) (h4 : ¬ x = 4) : x.toInt < 0 ∨ 4 < x.toInt := by
  have h0 := lv_neT (a := 0) h0 rfl; have h1 := lv_neT (a := 1) h1 rfl; have h2 := lv_neT (a := 2) h2 rfl; have h3 := lv_neT (a := 3) h3 rfl; have h4 := lv_neT (a := 4) h4 rfl
  omega
theorem sw_out9 {x : Int32} (h0 : ¬ x = 0) (h1 : ¬ x = 1) (h2 : ¬ x = 2) (h3 : ¬ x = 3) (h4 : ¬ x = 4) (h5 : ¬ x = 5) (h6 : ¬ x = 6) (h7 : ¬ x = 7) (h8 : ¬ x = 8) : x.toInt < 0 ∨ 8 < x.toInt := by
  have h0 := lv_neT (a := 0) h0 rfl; have h1 := lv_neT (a := 1) h1 rfl; have h2 := lv_neT (a := 2) h2 rfl; have h3 := lv_neT (a := 3) h3 rfl; have h4 := lv_neT (a := 4) h4 rfl
  have h5 := lv_neT (a := 5) h5 rfl; have h6 := lv_neT (a := 6) h6 rfl; have h7 := lv_neT (a := 7) h7 rfl; have h8 := lv_neT (a := 8) h8 rfl
  omega
theorem sw_out11 {x : Int32} (h0 : ¬ x = 0) (h1 : ¬ x = 1) (h2 : ¬ x = 2) (h3 : ¬ x = 3) (h4 : ¬ x = 4) (h5 : ¬ x = 5) (h6 : ¬ x = 6) (h7 : ¬ x = 7) (h8 : ¬ x = 8) (h9 : ¬ x = 9) (h10 : ¬ x = 10) : x.toInt < 0 ∨ 10 < x.toInt := by
  have h0 := lv_neT (a := 0) h0 rfl; have h1 := lv_neT (a := 1) h1 rfl; have h2 := lv_neT (a := 2) h2 rfl; have h3 := lv_neT (a := 3) h3 rfl; have h4 := lv_neT (a := 4) h4 rfl
  have h5 := lv_neT (a := 5) h5 rfl; have h6 := lv_neT (a := 6) h6 rfl; have h7 := lv_neT (a := 7) h7 rfl; have h8 := lv_neT (a := 8) h8 rfl; have h9 := lv_neT (a := 9) h9 rfl; have h10 := lv_neT (a := 10) h10 rfl
  omega
def RqM (l : Launch) (G : gG) (y : MethodName) (c : ByteArray) (n : Nat) (rt : FieldType) (rm : Room) (ws : va_W) (av : List Value) (res : Option Nat) : Prop :=
  Met l y (wq y c n (some rt)) rm (gPc G ws av) (va_Sq (fun x => x = res)) 0 0 (fun _ => False)
theorem rdQ {p : Program} {l : Launch} {e : Env} {R : Room} {s : State} {m : MethodId} {args : Array Value} {below : List Frame} {meth : Method} {c : Code} {H : Heap} {locs : List Loc} {cells slots : Nat} {Q : State → Prop}
    {cc : ByteArray} {nL pc : Nat} {own : String} {G : gG} {ls : Array Slot} {rest st0 : List Value} {C : String} {y : MethodName} {bytes : ByteArray} {maxL : Nat} {rt : FieldType} {rm : Room} {ws : va_W} {res : Option Nat} {b a : Nat} {As : List Value} {index : Nat}
    (S : CallFix p m c cc nL s args T0 own) (hK : gK G s) (hM : RqM l G y bytes maxL rt rm ws (.ref b :: As) res) (hi : mIn C y bytes maxL (some rt) As.length) (hln : Cond.methodLink own index y ∈ T0)
    (hz : rm.cells = 0 ∧ rm.slots = 0 ∧ rm.frames + 1 ≤ R.frames ∧ 8 + (maxL + 11) + rm.locals ≤ R.locals) (hP : va_P G.1 vwCl ws H) {ci : Nat} {fs : List Value} {q : vw_C} (hc : vwCl[ci]? = some q) (hqC : q.1 = C) (he : ws[0]? = some (b, .inr (ci, fs)))
    (hst : st0 = As.reverse ++ .ref b :: rest) (hsz : ls.size = nL) (hrest : (rest.map fun v => v.category).sum ≤ 8) (hf : cells ≤ R.cells ∧ slots ≤ R.slots) (hdg : decode cc pc = .ok (.invokevirtual index, 3)) (hres : res = some a)
    (kk : W p l e R s m args below meth c H locs cells slots Q (F0 m (pc + 3) ls (.ref a :: rest))) : W p l e R s m args below meth c H locs cells slots Q (F0 m pc ls st0) := by
  subst hqC
  subst hres
  refine va_csq (run_toCall (va_runV S hM (cwV As.length S.2.2.2.2 (gV hi hln) rfl hz.1 hz.2.1 hi.2.2.2.2 hz.2.2) ⟨gPc_blind, va_recv hK.1 hP hc he, fun U hU hW => ⟨rfl, by rw [hU]; exact hP, hK.warm hW⟩⟩ rfl rfl hsz hst (lv_room hrest) hdg hf)) (fun r h => by rw [h]; exact kk)
theorem Met.ofWF {y : MethodName} {ws ws' : List Cond} {rm : Room} {l : Launch} {Pc : Array Value → State → Prop} {Qc : Array Value → State → Outcome → State → Prop} {mc ms : Nat} {free : Addr → Prop} {cc : ByteArray} {maxL : Nat} {ret : Option FieldType}
    (hy : plainFor y = true) (hw : ws = Cond.code y cc maxL ret :: ws')
    (body : ∀ p e s m args below meth c s₁, BodyLoose p l y (headSpec ws rm) cc maxL ret e s m args below meth c s₁ → c.maxLocals = maxL → Pc args s →
      W p l e (headSpec ws rm).room s m args below meth c s.heap [] 0 0 (MQ below Qc args s mc ms free) (entryFrame m args maxL)) : Met l y ws rm Pc Qc mc ms free := by
  refine MetFree.of_bodySF (code := cc) (maxLocals := maxL) (ret := ret) hy ?_ ?_
  · intro args s m h hn
    obtain ⟨meth, c, h1, h2, h3, h4, h5, h6, -, -⟩ := Cond.code_spec hn (atoms_spec (ws := ws) h _ (by rw [hw]; exact List.mem_cons_self))
    exact ⟨meth, c, h1, h2, h3, h4, h5, h6⟩
  · intro p e s m args below meth c s₁ B hml hP _
    have hh0 : s₁.heap = s.heap := by rw [B.state]; rfl
    obtain ⟨t, a1, o, b1, b2, b3⟩ := body p e s m args below meth c s₁ B hml hP s₁ hh0 (Stand.of_body B)
    exact ⟨t, o, a1, b1, b2, ⟨b3.1, b3.2⟩⟩
theorem ofRF {l : Launch} {G : gG} {y : MethodName} {cc : ByteArray} {nL : Nat} {rt : FieldType} {rm : Room} {ws : va_W} {av : List Value} {res : Int32} (hy : plainFor y = true) (hav : (lg_sl av).length ≤ nL)
    (k : ∀ (p : Program) (e : Env) (s : State) (m : MethodId) (below : List Frame) (meth : Method) (c : Code) (ls : Array Slot), CallFix p m c cc nL s av.toArray T0 y.cls → meth.sig.returnType = some rt → meth.locks = false → gK G s → va_P G.1 vwCl ws s.heap → lv_has ls nL (lv_args 0 av) →
      W p l e rm s m av.toArray below meth c s.heap [] 0 0 (MQ below (vp_Si (fun x => x = res)) av.toArray s 0 0 (fun _ => False)) (F0 m 0 ls [])) : RdM l G y cc nL rt rm ws av res := by
  refine Met.ofWF (cc := cc) (maxL := nL) (ret := some rt) hy rfl ?_
  intro p e s m args below meth c s₁ B hml hv
  obtain ⟨rfl, hP, hK⟩ := hv
  have hts := atoms_spec (ws := wq y cc nL (some rt)) B.pre
  rw [lg_entry_eq]
  exact k p e s m below meth c _ ⟨B.exec, B.bytes, hml, findClass_of_methodNamed B.named, fun w h => hts w (List.mem_cons_of_mem _ h)⟩ B.returns B.notSynchronized hK hP (lv_entry av hav)
