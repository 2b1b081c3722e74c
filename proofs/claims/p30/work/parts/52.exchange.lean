/-! the move is changed -/
theorem St_move {A A' ft fu fh fd fb ft' fu' : Nat → Int32} {sold stk pun fra tur : Int32} {σ : Nat → Nat} (hs : St A sold stk pun fra tur ft fu fh fd fb) (hP : Pm σ) (hA : Mv σ A') (ho : ∀ j, 24 ≤ j → j < 65 → A' j = A j) (hf : Mv σ ft') (hu : ∀ j, j < 24 → fu' (σ j) = nI j) : St A' sold stk pun fra tur ft' fu' fh fd fb := by
  obtain ⟨⟨τ, k, _, _, hk, h24, hh, hd, ⟨m, hm, h49⟩, hz⟩, _, _, h3, h4, h5, h6, h7, h8, h9, h10⟩ := hs
  refine ⟨⟨σ, k, hP, hA, hk, by rw [ho 24 (by omega) (by omega)]; exact h24, fun t ht => ?_, fun t ht => ?_, ⟨m, hm, by rw [ho 49 (by omega) (by omega)]; exact h49⟩, fun t h1 h2 => by rw [ho (50 + t) (by omega) (by omega)]; exact hz t h1 h2⟩, fun j hj => by rw [hf j hj, hA j hj], fun j hj => ?_, fun j hj => by rw [ho (25 + j) (by omega) (by omega)]; exact h3 j hj, fun j hj => by rw [ho (37 + j) (by omega) (by omega)]; exact h4 j hj, fun j hj => by rw [ho (50 + j) (by omega) (by omega)]; exact h5 j hj, by rw [ho 24 (by omega) (by omega)]; exact h6, by rw [ho 49 (by omega) (by omega)]; exact h7, by rw [ho 62 (by omega) (by omega)]; exact h8, by rw [ho 63 (by omega) (by omega)]; exact h9, by rw [ho 64 (by omega) (by omega)]; exact h10⟩
  · rw [ho (25 + t) (by omega) (by omega)]; exact hh t ht
  · rw [ho (37 + t) (by omega) (by omega)]; exact hd t ht
  · have := hP.1 j hj
    rw [hA j hj, tn (by omega)]
    exact hu j hj
def sw (σ : Nat → Nat) (p q : Nat) : Nat → Nat := fun j => if j = q then σ p else if j = p then σ q else σ j
theorem sw_Pm {σ : Nat → Nat} (h : Pm σ) {p q : Nat} (hp : p < 24) (hq : q < 24) : Pm (sw σ p q) := by
  have e1 := h.1 p hp
  have e2 := h.1 q hq
  refine ⟨fun j hj => ?_, fun i j hi hj e => ?_⟩
  · unfold sw
    have := h.1 j hj
    split
    · exact e1
    · split
      · exact e2
      · exact this
  · unfold sw at e
    have n1 : ∀ a b, a < 24 → b < 24 → σ a = σ b → a = b := fun a b ha hb => h.2 a b ha hb
    by_cases a1 : i = q
    · rw [if_pos a1] at e
      by_cases b1 : j = q
      · omega
      · rw [if_neg b1] at e
        by_cases b2 : j = p
        · rw [if_pos b2] at e
          have := n1 p q hp hq e
          omega
        · rw [if_neg b2] at e
          have := n1 p j hp hj e
          omega
    · rw [if_neg a1] at e
      by_cases a2 : i = p
      · rw [if_pos a2] at e
        by_cases b1 : j = q
        · rw [if_pos b1] at e
          have := n1 q p hq hp e
          omega
        · rw [if_neg b1] at e
          by_cases b2 : j = p
          · omega
          · rw [if_neg b2] at e
            have := n1 q j hq hj e
            omega
      · rw [if_neg a2] at e
        by_cases b1 : j = q
        · rw [if_pos b1] at e
          have := n1 i p hi hp e
          omega
        · rw [if_neg b1] at e
          by_cases b2 : j = p
          · rw [if_pos b2] at e
            have := n1 i q hi hq e
            omega
          · rw [if_neg b2] at e
            exact n1 i j hi hj e
theorem sendC {ft fu : Nat → Int32} {p q : Nat} (hp : p < 24) (hq : q < 24) : F_X1_send ft fu (nI p) (nI q) = some (upd ft p (nI q), upd fu q (nI p)) := by
  unfold F_X1_send
  rw [isP hp, isP hq, Option.bind_some, Option.bind_some, if_neg n10, if_neg n10, ck_ok hp (by omega), ck_ok hq (by omega), tn (by omega), tn (by omega)]
theorem swapC {σ : Nat → Nat} {ft fu : Nat → Int32} (h : Pm σ) (hf : Mv σ ft) {p q : Nat} (hp : p < 24) (hq : q < 24) : F_X1_swapTargets ft fu (nI p) (nI q) = some (upd (upd ft p (nI (σ q))) q (nI (σ p)), upd (upd fu (σ q) (nI p)) (σ p) (nI q)) := by
  unfold F_X1_swapTargets
  rw [tgtC hf hp, tgtC hf hq, Option.bind_some, Option.bind_some, sendC hp (h.1 q hq), Option.bind_some, sendC hq (h.1 p hp), Option.bind_some]
theorem sw_Mv {σ : Nat → Nat} {f : Nat → Int32} (hf : Mv σ f) (p q : Nat) : Mv (sw σ p q) (upd (upd f p (nI (σ q))) q (nI (σ p))) := fun j hj => by
  unfold sw
  by_cases c : j = q
  · rw [c, pk_us, if_pos rfl]
  · rw [pk_un c, if_neg c]
    by_cases d : j = p
    · rw [d, pk_us, if_pos rfl]
    · rw [pk_un d, if_neg d, hf j hj]
theorem sw_fu {σ : Nat → Nat} {A fu : Nat → Int32} (h : Pm σ) (hf : Mv σ A) (hu : ∀ j, j < 24 → fu (Int32.toNatClampNeg (A j)) = nI j) {p q : Nat} (hp : p < 24) (hq : q < 24) {j : Nat} (hj : j < 24) : upd (upd fu (σ q) (nI p)) (σ p) (nI q) (sw σ p q j) = nI j := by
  unfold sw
  by_cases c : j = q
  · rw [if_pos c, pk_us, c]
  · rw [if_neg c]
    by_cases d : j = p
    · rw [if_pos d, pk_un (fun e => c (by rw [d]; exact (h.2 q p hq hp e).symm)), pk_us, d]
    · have e := hu j hj
      have := h.1 j hj
      rw [hf j hj, tn (by omega)] at e
      rw [if_neg d, pk_un (fun e => d (h.2 j p hj hp e)), pk_un (fun e => c (h.2 j q hj hq e)), e]
theorem z_exchange {rqa r1qa r2qa r3qa : Nat} {ft fu fh fd fb kft kfu kfh kfd kfb xfc xft rft rfu rfh rfd rfb r1ft r1fu r1fh r1fd r1fb r2ft r2fu r2fh r2fd r2fb r3ft r3fu r3fh r3fd r3fb fs fp fn fx fm : Nat → Int32} {isk sold stk pun fra tur ksold kstk kpun kfra ktur hnx hsz xlen xidx xknd xawt xnum xcam xfst xlst rsold rstk rpun rfra rtur r1sold r1stk r1pun r1fra r1tur r2sold r2stk r2pun r2fra r2tur r3sold r3stk r3pun r3fra r3tur pas misk len spo kin cam fst lst inr : Int32} {fr : Nat → Option Nat} (hR : RR rqa r1qa r2qa r3qa isk sold stk pun fra tur ft fu fh fd fb ksold kstk kpun kfra ktur kft kfu kfh kfd kfb hnx hsz fr xlen xidx xknd xawt xnum xcam xfst xlst xfc xft rsold rstk rpun rfra rtur rft rfu rfh rfd rfb r1sold r1stk r1pun r1fra r1tur r1ft r1fu r1fh r1fd r1fb r2sold r2stk r2pun r2fra r2tur r2ft r2fu r2fh r2fd r2fb r3sold r3stk r3pun r3fra r3tur r3ft r3fu r3fh r3fd r3fb pas misk len spo kin cam fst lst inr fs fp fn fx fm) (a1 a2 : Int32) : ∃ rr1 rr2, F_X4_exchange sold stk pun fra tur ft fu fh fd fb hnx hsz fr rsold rstk rpun rfra rtur rft rfu rfh rfd rfb rqa a1 a2 = some rr1 ∧ F_X5_exchange pas fs fp a1 a2 = some rr2 ∧ rr1.1 = rr2.1 ∧ (RR rqa r1qa r2qa r3qa isk sold stk pun fra tur rr1.2.1 rr1.2.2.1 fh fd fb ksold kstk kpun kfra ktur kft kfu kfh kfd kfb rr1.2.2.2.1 rr1.2.2.2.2.1 fr xlen xidx xknd xawt xnum xcam xfst xlst xfc xft rr1.2.2.2.2.2.1 rr1.2.2.2.2.2.2.1 rr1.2.2.2.2.2.2.2.1 rr1.2.2.2.2.2.2.2.2.1 rr1.2.2.2.2.2.2.2.2.2.1 rr1.2.2.2.2.2.2.2.2.2.2.1 rr1.2.2.2.2.2.2.2.2.2.2.2.1 rr1.2.2.2.2.2.2.2.2.2.2.2.2.1 rr1.2.2.2.2.2.2.2.2.2.2.2.2.2.1 rr1.2.2.2.2.2.2.2.2.2.2.2.2.2.2 r1sold r1stk r1pun r1fra r1tur r1ft r1fu r1fh r1fd r1fb r2sold r2stk r2pun r2fra r2tur r2ft r2fu r2fh r2fd r2fb r3sold r3stk r3pun r3fra r3tur r3ft r3fu r3fh r3fd r3fb rr2.2.1 misk len spo kin cam fst lst inr rr2.2.2.1 rr2.2.2.2 fn fx fm ∨ RR r1qa r2qa r3qa rqa isk sold stk pun fra tur rr1.2.1 rr1.2.2.1 fh fd fb ksold kstk kpun kfra ktur kft kfu kfh kfd kfb rr1.2.2.2.1 rr1.2.2.2.2.1 fr xlen xidx xknd xawt xnum xcam xfst xlst xfc xft r1sold r1stk r1pun r1fra r1tur r1ft r1fu r1fh r1fd r1fb r2sold r2stk r2pun r2fra r2tur r2ft r2fu r2fh r2fd r2fb r3sold r3stk r3pun r3fra r3tur r3ft r3fu r3fh r3fd r3fb rr1.2.2.2.2.2.1 rr1.2.2.2.2.2.2.1 rr1.2.2.2.2.2.2.2.1 rr1.2.2.2.2.2.2.2.2.1 rr1.2.2.2.2.2.2.2.2.2.1 rr1.2.2.2.2.2.2.2.2.2.2.1 rr1.2.2.2.2.2.2.2.2.2.2.2.1 rr1.2.2.2.2.2.2.2.2.2.2.2.2.1 rr1.2.2.2.2.2.2.2.2.2.2.2.2.2.1 rr1.2.2.2.2.2.2.2.2.2.2.2.2.2.2 rr2.2.1 misk len spo kin cam fst lst inr rr2.2.2.1 rr2.2.2.2 fn fx fm) := by
  have hR0 := hR
  obtain ⟨hS, hK, hH, hT⟩ := hR
  have hu := hS.2.2.1
  obtain ⟨σ, k, H, D, ms, hP, hf, hft, ⟨hk, h24, hs⟩, hh, hd, hm, h49, hst⟩ := Rd_of hS
  unfold F_X4_exchange F_X5_exchange
  rcases isPl a1 with ⟨p, hp, e, e1, e2⟩ | ⟨e1, e2⟩
  · subst e
    rw [e1, e2, Option.bind_some, Option.bind_some, if_neg n10, if_neg n10]
    rcases isPl a2 with ⟨q, hq, e, e1, e2⟩ | ⟨e1, e2⟩
    · subst e
      rw [e1, e2, Option.bind_some, Option.bind_some, if_neg n10, if_neg n10]
      by_cases c : nI p = nI q
      · rw [if_pos c, if_pos c]
        exact ⟨_, _, rfl, rfl, rfl, Or.inl hR0⟩
      · rw [if_neg c, if_neg c]
        have c2 : q ≠ p := fun z => c (by rw [z])
        obtain ⟨hnx', hsz', ft', fu', fh', fd', fb', pas', fp', r1, r2, hH'⟩ := rec_both hS hH Ex_St Ex_St Ex_St rsold rstk rpun rfra rtur rft rfu rfh rfd rfb
        have hP' := sw_Pm hP hp hq
        have m1 := sw_Mv hft p q
        have m2 := sw_Mv hf p q
        rw [r1, r2, Option.bind_some, Option.bind_some, swapC hP hft hp hq, Option.bind_some, orderC hP' m1, Option.bind_some, l0, l0, ck_ok (by omega) (by omega), ck_ok (by omega) (by omega), ck_ok (by omega) (by omega), ck_ok (by omega) (by omega), tn (by omega), tn (by omega), hf p hp, hf q hq, orderM hP' m2, Option.bind_some]
        exact ⟨_, _, rfl, rfl, rfl, Or.inr ⟨St_move hS hP' m2 (fun j h1 h2 => by dsimp only; rw [pk_un (by omega), pk_un (by omega)]) m1 (fun j hj => sw_fu hP hf hu hp hq hj), hK, hH', hT⟩⟩
    · rw [e1, e2]
      exact ⟨_, _, rfl, rfl, rfl, Or.inl hR0⟩
  · rw [e1, e2]
    exact ⟨_, _, rfl, rfl, rfl, Or.inl hR0⟩
