/-! the law's world, in blocks -/
def bP (G : gG) (L : List va_W) (H : Heap) : Prop := ∀ B ∈ L, va_P G.1 vwCl B H
def bD (A : Nat → Prop) (L : List va_W) : Prop := (∀ B ∈ L, va_D A B) ∧ ∀ (i j : Nat) (B C : va_W), i ≠ j → L[i]? = some B → L[j]? = some C → ∀ p ∈ B, ∀ q ∈ C, p.1 ≠ q.1
theorem bk_at {is : List Nat} {L L' : List va_W} (hs : is.map (fun i => L[i]?) = L'.map some) {k : Nat} {B : va_W} (hk : L'[k]? = some B) : ∃ i, is[k]? = some i ∧ L[i]? = some B := by
  have h1 : (is.map (fun i => L[i]?))[k]? = some (some B) := by rw [hs, List.getElem?_map, hk]; rfl
  rw [List.getElem?_map] at h1
  cases hi : is[k]? with
  | none => rw [hi] at h1; cases h1
  | some i => rw [hi] at h1; exact ⟨i, rfl, Option.some.inj h1⟩
theorem bP.sub {G : gG} {L L' : List va_W} {H : Heap} (h : bP G L H) (is : List Nat) (hs : is.map (fun i => L[i]?) = L'.map some) : bP G L' H := by
  intro B hB
  obtain ⟨k, hk⟩ := List.getElem?_of_mem hB
  obtain ⟨i, -, hi⟩ := bk_at hs hk
  exact h B (List.mem_of_getElem? hi)
theorem bD.sub {A : Nat → Prop} {L L' : List va_W} (h : bD A L) (is : List Nat) (hn : va_nd is = true) (hs : is.map (fun i => L[i]?) = L'.map some) : bD A L' := by
  refine ⟨fun B hB => ?_, fun i j B C hij hB hC => ?_⟩
  · obtain ⟨k, hk⟩ := List.getElem?_of_mem hB
    obtain ⟨i, -, hi⟩ := bk_at hs hk
    exact h.1 B (List.mem_of_getElem? hi)
  · obtain ⟨a, ha, ha2⟩ := bk_at hs hB
    obtain ⟨b, hb, hb2⟩ := bk_at hs hC
    refine h.2 a b B C (fun e => hij ?_) ha2 hb2
    subst e
    exact va_nd_inj is hn i j a ha hb
theorem bP.flat {G : gG} {L : List va_W} {H : Heap} (h : bP G L H) : va_P G.1 vwCl L.flatten H := by
  intro k q hk
  obtain ⟨B, hB, hq⟩ := List.mem_flatten.mp (List.mem_of_getElem? hk)
  obtain ⟨j, hj⟩ := List.getElem?_of_mem hq
  exact h B hB j q hj
theorem bP.of {G : gG} {L : List va_W} {H : Heap} (h : va_P G.1 vwCl L.flatten H) : bP G L H := by
  intro B hB k q hk
  obtain ⟨j, hj⟩ := List.getElem?_of_mem (List.mem_flatten.mpr ⟨B, hB, List.mem_of_getElem? hk⟩)
  exact h j q hj
theorem bD.tail {A : Nat → Prop} {B : va_W} {L : List va_W} (h : bD A (B :: L)) : bD A L :=
  ⟨fun C hC => h.1 C (List.mem_cons_of_mem _ hC), fun i j C D hij hC hD => h.2 (i + 1) (j + 1) C D (by omega) hC hD⟩
theorem bD.flat {A : Nat → Prop} : ∀ {L : List va_W}, bD A L → va_D A L.flatten
  | [], _ => ⟨fun i j p q hi => by simp at hi, fun k q hk => by simp at hk⟩
  | B :: L, h => by
    show va_D A (B ++ L.flatten)
    refine va_D.app (h.1 B List.mem_cons_self) (bD.flat h.tail) (fun i j p q hp hq => ?_)
    obtain ⟨C, hC, hqC⟩ := List.mem_flatten.mp (List.mem_of_getElem? hq)
    obtain ⟨k, hk⟩ := List.getElem?_of_mem hC
    exact h.2 0 (k + 1) B C (by omega) rfl hk p (List.mem_of_getElem? hp) q hqC
theorem vD_left {A : Nat → Prop} {w1 w2 : va_W} (h : va_D A (w1 ++ w2)) : va_D A w1 := by
  have key : ∀ (k : Nat) (q : Nat × va_E), w1[k]? = some q → (w1 ++ w2)[k]? = some q := fun k q hk => by
    rw [List.getElem?_append_left (List.getElem?_eq_some_iff.mp hk).1]; exact hk
  exact ⟨fun i j p q hi hj => h.1 i j p q (key i p hi) (key j q hj), fun k q hk => h.2 k q (key k q hk)⟩
theorem vD_right {A : Nat → Prop} {w1 w2 : va_W} (h : va_D A (w1 ++ w2)) : va_D A w2 := by
  have key : ∀ (k : Nat) (q : Nat × va_E), w2[k]? = some q → (w1 ++ w2)[w1.length + k]? = some q := fun k q hk => by
    rw [List.getElem?_append_right (by omega), Nat.add_sub_cancel_left]; exact hk
  exact ⟨fun i j p q hi hj e => by have := h.1 _ _ p q (key i p hi) (key j q hj) e; omega, fun k q hk => h.2 _ q (key k q hk)⟩
theorem vD_apart {A : Nat → Prop} {w1 w2 : va_W} (h : va_D A (w1 ++ w2)) {p q : Nat × va_E} (hp : p ∈ w1) (hq : q ∈ w2) : p.1 ≠ q.1 := by
  obtain ⟨i, hi⟩ := List.getElem?_of_mem hp
  obtain ⟨j, hj⟩ := List.getElem?_of_mem hq
  have hl := (List.getElem?_eq_some_iff.mp hi).1
  intro e
  have h1 : (w1 ++ w2)[i]? = some p := by rw [List.getElem?_append_left hl]; exact hi
  have h2 : (w1 ++ w2)[w1.length + j]? = some q := by rw [List.getElem?_append_right (by omega), Nat.add_sub_cancel_left]; exact hj
  have := h.1 _ _ p q h1 h2 e
  omega
theorem bD.of {A : Nat → Prop} : ∀ {L : List va_W}, va_D A L.flatten → bD A L
  | [], _ => ⟨fun B hB => (by cases hB), fun i j B C _ hB => by simp at hB⟩
  | B :: L, h => by
    have h : va_D A (B ++ L.flatten) := h
    have ih := bD.of (L := L) (vD_right h)
    refine ⟨fun C hC => ?_, fun i j C D hij hC hD p hp q hq => ?_⟩
    · rcases List.mem_cons.mp hC with rfl | h2
      · exact vD_left h
      · exact ih.1 C h2
    · cases i with
      | zero =>
        cases j with
        | zero => exact absurd rfl hij
        | succ j =>
          have e : B = C := Option.some.inj hC
          subst e
          exact vD_apart h hp (List.mem_flatten.mpr ⟨D, List.mem_of_getElem? hD, hq⟩)
      | succ i =>
        cases j with
        | zero =>
          have e : B = D := Option.some.inj hD
          subst e
          exact (vD_apart h hq (List.mem_flatten.mpr ⟨C, List.mem_of_getElem? hC, hp⟩)).symm
        | succ j => exact ih.2 i j C D (by omega) hC hD p hp q hq
section BK
variable {p : Program} {l : Launch} {e : Env} {R : Room} {s : State} {m : MethodId} {args : Array Value} {below : List Frame} {meth : Method} {c : Code} {H : Heap} {locs : List Loc} {cells slots : Nat} {Q : State → Prop}
variable {cc : ByteArray} {nL pc : Nat} {own : String} {G : gG} {ls : Array Slot} {rest st0 : List Value}
variable {C : String} {y : MethodName} {bytes : ByteArray} {maxL : Nat} {r0 : Option FieldType} {rm : Room} {ws : va_W} {b : Nat} {As : List Value} {index : Nat}
/-- a writing call over a world in blocks -/
theorem wrB {A0 : Nat → Prop} {H0 : Heap} {ws' : va_W} {o : Option Int32} {L0 L1 Bs Rs Bs' : List va_W} (S : CallFix p m c cc nL s args T0 own) (hK : gK G s) (hM : WrM l G y bytes maxL r0 rm ws H.size (.ref b :: As) o ws') (hi : mIn C y bytes maxL r0 As.length) (hln : Cond.methodLink own index y ∈ T0)
    (hz : rm.cells = 0 ∧ rm.slots = 0 ∧ rm.frames + 1 ≤ R.frames ∧ 8 + (maxL + 11) + rm.locals ≤ R.locals)
    (hP : bP G L0 H) (hD : bD A0 L0) (hS : va_S A0 H0 H locs) (hA : ∀ q, H0.size ≤ q → A0 q) (isC isR pm : List Nat) (hC : isC.map (fun i => L0[i]?) = Bs.map some) (hR : isR.map (fun i => L0[i]?) = Rs.map some) (hcn : va_nd isC = true) (hn : va_nd isR = true) (hdis : ∀ i ∈ isR, i ∉ isC)
    (hws : Bs.flatten = ws) (hws' : Bs'.flatten = ws') (hpm : pm.map (fun i => (Rs ++ Bs')[i]?) = L1.map some) (hpn : va_nd pm = true)
    {ci : Nat} {fs : List Value} {q : vw_C} (hc : vwCl[ci]? = some q) (hqC : q.1 = C) (he : ws[0]? = some (b, .inr (ci, fs)))
    (hst : st0 = As.reverse ++ .ref b :: rest) (hsz : ls.size = nL) (hrest : (rest.map fun v => v.category).sum ≤ 8) (hf : cells ≤ R.cells ∧ slots ≤ R.slots) (hdg : decode cc pc = .ok (.invokevirtual index, 3))
    (kk : ∀ (H1 : Heap) (locs1 : List Loc), bP G L1 H1 → bD A0 L1 → va_S A0 H0 H1 locs1 → W p l e R s m args below meth c H1 locs1 cells slots Q (F0 m (pc + 3) ls ((o.map Value.int).toList ++ rest))) : W p l e R s m args below meth c H locs cells slots Q (F0 m pc ls st0) := by
  subst hqC
  subst hws
  subst hws'
  have hPc : va_P G.1 vwCl Bs.flatten H := (hP.sub isC hC).flat
  have hDb : bD A0 Bs := hD.sub isC hcn hC
  have hDc : va_D (fun _ => True) Bs.flatten := hDb.flat.weaken (fun _ _ _ _ => trivial)
  have hF : ∀ q, va_A Bs.flatten H.size q → A0 q := fun q hq => by
    rcases hq with ⟨k, e0, hk⟩ | hq
    · exact hDb.flat.2 k _ hk
    · exact hA q (Nat.le_trans hS.1 hq)
  have hr := va_runV (p := p) (l := l) (e := e) (R := R) (s := s) (m := m) (args := args) (below := below) (meth := meth) (c := c) (H := H) (locs := locs) (cells := cells) (slots := slots) (g := F0 m pc ls st0) (rest := rest) S hM (cwV As.length S.2.2.2.2 (gV hi hln) rfl hz.1 hz.2.1 hi.2.2.2.2 hz.2.2) ⟨gPw_blind, va_recv hK.1 hPc hc he, fun U hU hW => ⟨rfl, by rw [hU], by rw [hU]; exact hPc, hK.warm hW, hDc⟩⟩ rfl rfl hsz hst (lv_room hrest) hdg hf
  intro T hT X
  obtain ⟨v, st₀, t, T', L, h0, X', hL, e1, e2, ⟨⟨hv, hP1, hD1⟩, hz1, hk⟩, st⟩ := hr T hT X
  cases hv
  rw [h0] at hz1 hk
  rw [← e1] at hz1 hk hP1
  have hPr : bP G Rs H := hP.sub isR hR
  have apart : ∀ B ∈ Rs, ∀ q ∈ B, q.1 < H.size ∧ ¬ va_A Bs.flatten H.size q.1 := by
    intro B hB q hq
    obtain ⟨j, hj⟩ := List.getElem?_of_mem hq
    have hl := (hPr B hB j q hj).lt
    refine ⟨hl, fun h => ?_⟩
    rcases h with ⟨k2, e0, h⟩ | h
    · obtain ⟨B2, hB2, hq2⟩ := List.mem_flatten.mp (List.mem_of_getElem? h)
      obtain ⟨k, hk3⟩ := List.getElem?_of_mem hB
      obtain ⟨i, hi1, hi2⟩ := bk_at hR hk3
      obtain ⟨k4, hk4⟩ := List.getElem?_of_mem hB2
      obtain ⟨i2, hi3, hi4⟩ := bk_at hC hk4
      refine hD.2 i i2 B B2 (fun e => ?_) hi2 hi4 q hq (q.1, e0) hq2 rfl
      subst e
      exact hdis i (List.mem_of_getElem? hi1) (List.mem_of_getElem? hi3)
    · omega
  have hPj : bP G (Rs ++ Bs') T'.heap := by
    intro B hB
    rcases List.mem_append.mp hB with h | h
    · exact (hPr B h).kept (fun k q hq => hk q.1 (apart B h q (List.mem_of_getElem? hq)).1 (apart B h q (List.mem_of_getElem? hq)).2)
    · exact bP.of hP1 B h
  have hDj : bD A0 (Rs ++ Bs') := by
    have hb1 : bD (va_A Bs.flatten H.size) Bs' := bD.of hD1
    have hb2 : bD A0 Rs := hD.sub isR hn hR
    refine ⟨fun B hB => ?_, fun i j B D hij hB hD2 x hx y2 hy => ?_⟩
    · rcases List.mem_append.mp hB with h | h
      · exact hb2.1 B h
      · exact (hb1.1 B h).weaken (fun _ q _ h => hF q.1 h)
    · have inR : ∀ {k : Nat} {B : va_W}, (Rs ++ Bs')[k]? = some B → (k < Rs.length ∧ Rs[k]? = some B) ∨ (Rs.length ≤ k ∧ Bs'[k - Rs.length]? = some B) := by
        intro k B h
        by_cases hl : k < Rs.length
        · rw [List.getElem?_append_left hl] at h; exact Or.inl ⟨hl, h⟩
        · rw [List.getElem?_append_right (by omega)] at h; exact Or.inr ⟨by omega, h⟩
      have inA : ∀ {k : Nat} {B : va_W}, Bs'[k]? = some B → ∀ z ∈ B, va_A Bs.flatten H.size z.1 := by
        intro k B h z hz2
        obtain ⟨j2, hj2⟩ := List.getElem?_of_mem hz2
        exact (hb1.1 B (List.mem_of_getElem? h)).2 j2 z hj2
      rcases inR hB with ⟨l1, h1⟩ | ⟨l1, h1⟩ <;> rcases inR hD2 with ⟨l2, h2⟩ | ⟨l2, h2⟩
      · exact hb2.2 i j B D hij h1 h2 x hx y2 hy
      · intro e0
        exact (apart B (List.mem_of_getElem? h1) x hx).2 (by rw [e0]; exact inA h2 y2 hy)
      · intro e0
        exact (apart D (List.mem_of_getElem? h2) y2 hy).2 (by rw [← e0]; exact inA h1 x hx)
      · exact hb1.2 _ _ B D (by omega) h1 h2 x hx y2 hy
  obtain ⟨t2, a1, b1⟩ := kk T'.heap (locs ++ L) (hPj.sub pm hpm) (hDj.sub pm hpn hpm)
    ⟨Nat.le_trans hS.1 hz1, fun q h1 h2 => by rw [hk q (Nat.lt_of_lt_of_le h1 hS.1) (fun z => h2 (hF q z))]; exact hS.2.1 q h1 h2, fun q hq => by
      rcases List.mem_append.mp hq with h | h
      · exact hS.2.2 q h
      · exact hF _ (hL q h)⟩ T' rfl X'
  exact ⟨t2, st t2 a1, b1⟩
end BK
