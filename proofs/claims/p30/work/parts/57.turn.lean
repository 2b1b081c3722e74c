/-! turns -/
theorem turn1 {A ft fu fh fd fb : Nat → Int32} {stk pun fra tur : Int32} {σ : Nat → Nat} {k t : Nat} {a : Int32} (hs : St A (nI k) stk pun fra tur ft fu fh fd fb) (hP : Pm σ) (hA : Mv σ A) (hf : Mv σ ft) (hk : k ≤ 12) (h24 : A 24 = nI k) (ht : t < k) (b1 : -9999 ≤ a.toInt) (b2 : a.toInt ≤ 9999) : ∃ h' A' fd' fb', F_X3_turnTicket (nI k) tur ft fh fd fb (nI t) a = some (tur + 1, upd fh t (nI h'), fd', fb') ∧ F_X5_turns A (nI t) a = some A' ∧ A' (25 + t) = nI h' ∧ (∀ j, j < 25 → A' j = A j) ∧ A' 49 = A 49 ∧ St A' (nI k) stk pun fra (tur + 1) ft fu (upd fh t (nI h')) fd' fb' := by
  obtain ⟨⟨_, _, _, _, _, _, hh, hd, _⟩, _, _, f3, f4, f5, _, _, _, _, f10⟩ := id hs
  obtain ⟨x, hx, ex⟩ := hh t (by omega)
  obtain ⟨y, hy, ey⟩ := hd t (by omega)
  have ex2 : fh t = nI x := by rw [f3 t (by omega), ex]
  have ey2 : fd t = nI y := by rw [f4 t (by omega), ey]
  have hK : fm a (od σ) ≤ 6561 := by have := fm_lt (a := a) (od_pos σ); have := od_le hP; omega
  have lx := MV_lt hP (fm a (od σ)) x
  have ly := MV_lt hP (fm a (od σ)) y
  refine ⟨MV σ (fm a (od σ)) x, upd (upd (upd (upd A (25 + t) (nI (MV σ (fm a (od σ)) x))) (37 + t) (nI (MV σ (fm a (od σ)) y))) (50 + t) (fb t + a)) 64 (tur + 1), upd fd t (nI (MV σ (fm a (od σ)) y)), upd fb t (fb t + a), ?_, ?_, ?_, ?_, ?_, ?_⟩
  · unfold F_X3_turnTicket
    have c12 : ∀ {α : Type} (x : Option α), ck (ok (nI t) 12) x = x := fun x => ck_ok (by omega) (by omega)
    have u12 : Int32.toNatClampNeg (nI t) = t := tn (by omega)
    simp only [tk1 hk ht, Option.bind_some, n10, ↓reduceIte, c12, u12, ex2, ey2, movedBy_eq hP hf b1 b2]
  · unfold F_X5_turns
    have c25 : ∀ {α : Type} (x : Option α), ck (ok (nI (25 + t)) 65) x = x := fun x => ck_ok (by omega) (by omega)
    have c37 : ∀ {α : Type} (x : Option α), ck (ok (nI (37 + t)) 65) x = x := fun x => ck_ok (by omega) (by omega)
    have c50 : ∀ {α : Type} (x : Option α), ck (ok (nI (50 + t)) 65) x = x := fun x => ck_ok (by omega) (by omega)
    have u25 : Int32.toNatClampNeg (nI (25 + t)) = 25 + t := tn (by omega)
    have u37 : Int32.toNatClampNeg (nI (37 + t)) = 37 + t := tn (by omega)
    have u50 : Int32.toNatClampNeg (nI (50 + t)) = 50 + t := tn (by omega)
    have g1 : ∀ v : Int32, Mv σ (upd A (25 + t) v) := fun v j hj => by rw [pk_un (by omega)]; exact hA j hj
    have w1 : upd A (25 + t) (nI (MV σ (fm a (od σ)) x)) (37 + t) = nI y := by rw [pk_un (by omega), ey]
    have w2 : upd (upd A (25 + t) (nI (MV σ (fm a (od σ)) x))) (37 + t) (nI (MV σ (fm a (od σ)) y)) (50 + t) = fb t := by rw [pk_un (by omega), pk_un (by omega), f5 t (by omega)]
    have w3 : ∀ v : Int32, upd (upd (upd A (25 + t) (nI (MV σ (fm a (od σ)) x))) (37 + t) (nI (MV σ (fm a (od σ)) y))) (50 + t) v 64 = tur := fun v => by rw [pk_un (by omega), pk_un (by omega), pk_un (by omega), f10]
    simp only [nmd, l25, l37, l50, c25, c37, c50, u25, u37, u50, k64, t64, forward_eq hP hA b1 b2, Option.bind_some, ex, turned_eq hP hA hx hK, w1, turned_eq hP (g1 _) hy hK, w2, w3]
  · rw [pk_un (by omega), pk_un (by omega), pk_un (by omega), pk_us]
  · intro j hj
    rw [pk_un (by omega), pk_un (by omega), pk_un (by omega), pk_un (by omega)]
  · rw [pk_un (by omega), pk_un (by omega), pk_un (by omega), pk_un (by omega)]
  · have s1 := St_d (St_h hs (show t < 12 by omega) lx) (show t < 12 by omega) ly
    exact St_tur (St_b s1 (by rw [pk_un (by omega), pk_un (by omega)]; exact h24) hk ht) (tur + 1)
def fmo (a : Int32) (σ : Nat → Nat) : Nat := fm a (od σ)
theorem fmo_lt (a : Int32) (σ : Nat → Nat) : fmo a σ < od σ := fm_lt (od_pos σ)
theorem forward_o {σ : Nat → Nat} {fs : Nat → Int32} (h : Pm σ) (hf : Mv σ fs) {a : Int32} (h1 : -9999 ≤ a.toInt) (h2 : a.toInt ≤ 9999) : F_X5_forward fs a = some (nI (fmo a σ)) := forward_eq h hf h1 h2
theorem leaves_to {σ : Nat → Nat} {ft : Nat → Int32} (h : Pm σ) (hf : Mv σ ft) {a : Int32} (h1 : -9999 ≤ a.toInt) (h2 : a.toInt ≤ 9999) (c : fmo a σ = 0) : F_X1_leavesAll ft a = some 1 := leaves_t h hf h1 h2 c
theorem leaves_fo {σ : Nat → Nat} {ft : Nat → Int32} (h : Pm σ) (hf : Mv σ ft) {a : Int32} (h1 : -9999 ≤ a.toInt) (h2 : a.toInt ≤ 9999) (c : fmo a σ ≠ 0) : F_X1_leavesAll ft a = some 0 := leaves_f h hf h1 h2 c
theorem z_turn {rqa r1qa r2qa r3qa : Nat} {ft fu fh fd fb kft kfu kfh kfd kfb xfc xft rft rfu rfh rfd rfb r1ft r1fu r1fh r1fd r1fb r2ft r2fu r2fh r2fd r2fb r3ft r3fu r3fh r3fd r3fb fs fp fn fx fm : Nat → Int32} {isk sold stk pun fra tur ksold kstk kpun kfra ktur hnx hsz xlen xidx xknd xawt xnum xcam xfst xlst rsold rstk rpun rfra rtur r1sold r1stk r1pun r1fra r1tur r2sold r2stk r2pun r2fra r2tur r3sold r3stk r3pun r3fra r3tur pas misk len spo kin cam fst lst inr : Int32} {fr : Nat → Option Nat} (hR : RR rqa r1qa r2qa r3qa isk sold stk pun fra tur ft fu fh fd fb ksold kstk kpun kfra ktur kft kfu kfh kfd kfb hnx hsz fr xlen xidx xknd xawt xnum xcam xfst xlst xfc xft rsold rstk rpun rfra rtur rft rfu rfh rfd rfb r1sold r1stk r1pun r1fra r1tur r1ft r1fu r1fh r1fd r1fb r2sold r2stk r2pun r2fra r2tur r2ft r2fu r2fh r2fd r2fb r3sold r3stk r3pun r3fra r3tur r3ft r3fu r3fh r3fd r3fb pas misk len spo kin cam fst lst inr fs fp fn fx fm) (a1 a2 : Int32) : ∃ rr1 rr2, F_X4_turn sold stk pun fra tur ft fu fh fd fb hnx hsz fr rsold rstk rpun rfra rtur rft rfu rfh rfd rfb rqa a1 a2 = some rr1 ∧ F_X5_turn pas fs fp a1 a2 = some rr2 ∧ rr1.1 = rr2.1 ∧ (RR rqa r1qa r2qa r3qa isk sold stk pun fra rr1.2.1 ft fu rr1.2.2.1 rr1.2.2.2.1 rr1.2.2.2.2.1 ksold kstk kpun kfra ktur kft kfu kfh kfd kfb rr1.2.2.2.2.2.1 rr1.2.2.2.2.2.2.1 fr xlen xidx xknd xawt xnum xcam xfst xlst xfc xft rr1.2.2.2.2.2.2.2.1 rr1.2.2.2.2.2.2.2.2.1 rr1.2.2.2.2.2.2.2.2.2.1 rr1.2.2.2.2.2.2.2.2.2.2.1 rr1.2.2.2.2.2.2.2.2.2.2.2.1 rr1.2.2.2.2.2.2.2.2.2.2.2.2.1 rr1.2.2.2.2.2.2.2.2.2.2.2.2.2.1 rr1.2.2.2.2.2.2.2.2.2.2.2.2.2.2.1 rr1.2.2.2.2.2.2.2.2.2.2.2.2.2.2.2.1 rr1.2.2.2.2.2.2.2.2.2.2.2.2.2.2.2.2 r1sold r1stk r1pun r1fra r1tur r1ft r1fu r1fh r1fd r1fb r2sold r2stk r2pun r2fra r2tur r2ft r2fu r2fh r2fd r2fb r3sold r3stk r3pun r3fra r3tur r3ft r3fu r3fh r3fd r3fb rr2.2.1 misk len spo kin cam fst lst inr rr2.2.2.1 rr2.2.2.2 fn fx fm ∨ RR r1qa r2qa r3qa rqa isk sold stk pun fra rr1.2.1 ft fu rr1.2.2.1 rr1.2.2.2.1 rr1.2.2.2.2.1 ksold kstk kpun kfra ktur kft kfu kfh kfd kfb rr1.2.2.2.2.2.1 rr1.2.2.2.2.2.2.1 fr xlen xidx xknd xawt xnum xcam xfst xlst xfc xft r1sold r1stk r1pun r1fra r1tur r1ft r1fu r1fh r1fd r1fb r2sold r2stk r2pun r2fra r2tur r2ft r2fu r2fh r2fd r2fb r3sold r3stk r3pun r3fra r3tur r3ft r3fu r3fh r3fd r3fb rr1.2.2.2.2.2.2.2.1 rr1.2.2.2.2.2.2.2.2.1 rr1.2.2.2.2.2.2.2.2.2.1 rr1.2.2.2.2.2.2.2.2.2.2.1 rr1.2.2.2.2.2.2.2.2.2.2.2.1 rr1.2.2.2.2.2.2.2.2.2.2.2.2.1 rr1.2.2.2.2.2.2.2.2.2.2.2.2.2.1 rr1.2.2.2.2.2.2.2.2.2.2.2.2.2.2.1 rr1.2.2.2.2.2.2.2.2.2.2.2.2.2.2.2.1 rr1.2.2.2.2.2.2.2.2.2.2.2.2.2.2.2.2 rr2.2.1 misk len spo kin cam fst lst inr rr2.2.2.1 rr2.2.2.2 fn fx fm) := by
  have hR0 := hR
  obtain ⟨hS, hK, hH, hT⟩ := hR
  obtain ⟨σ, k, H, D, ms, hP, hf, hft, ⟨hk, h24, hs⟩, hh, hd, hm, h49, hst⟩ := Rd_of hS
  subst hs hst
  unfold F_X4_turn F_X5_turn
  rcases isT hk h24 a1 with ⟨t, ht, e, e1, e2⟩ | ⟨e1, e2⟩
  · subst e
    rw [e1, e2, Option.bind_some, Option.bind_some, if_neg n10, if_neg n10]
    rcases isPow a2 with ⟨e1, e2, b1, b2⟩ | ⟨e1, e2⟩
    · rw [e1, e2, Option.bind_some, Option.bind_some, if_neg n10, if_neg n10, forward_o hP hf b1 b2, Option.bind_some]
      have hl := fmo_lt a2 σ
      have ho := od_le hP
      generalize eK : fmo a2 σ = K at *
      by_cases c : K = 0
      · rw [leaves_to hP hft b1 b2 (eK.trans c), Option.bind_some, if_neg n10, c, if_pos (show nI 0 = 0 from rfl)]
        exact ⟨_, _, rfl, rfl, rfl, Or.inl hR0⟩
      · have c2 : ¬ nI K = 0 := fun q => c ((eq0 (by omega)).mp q)
        obtain ⟨hnx', hsz', ft', fu', fh', fd', fb', pas', fp', r1, r2, hH'⟩ := rec_both hS hH Ex_St Ex_St Ex_St rsold rstk rpun rfra rtur rft rfu rfh rfd rfb
        obtain ⟨h', A', gd, gb, w1, w2, w3, _, _, w4⟩ := turn1 hS hP hf hft hk h24 ht b1 b2
        rw [leaves_fo hP hft b1 b2 (fun q => c (eK.symm.trans q)), Option.bind_some, if_pos rfl, if_neg c2, r1, r2, w1, w2, Option.bind_some, Option.bind_some, Option.bind_some, Option.bind_some, l25, ck_ok (by omega) (by omega), tn (by omega), w3]
        dsimp only
        rw [holT hk ht, Option.bind_some, pk_us]
        exact ⟨_, _, rfl, rfl, rfl, Or.inr ⟨w4, hK, hH', hT⟩⟩
    · rw [e1, e2]
      exact ⟨_, _, rfl, rfl, rfl, Or.inl hR0⟩
  · rw [e1, e2]
    exact ⟨_, _, rfl, rfl, rfl, Or.inl hR0⟩
theorem tsC_end {k ms : Nat} {ft : Nat → Int32} (hm : ms < 2 ^ k) (a tur : Int32) (fh fd fb : Nat → Int32) : ∀ (n t : Nat), k ≤ t → t ≤ 12 → 12 - t < n → F_X3_turnStacked_2 (nI k) (nI ms) ft n a (nI t) tur fh fd fb = some (tur, fh, fd, fb) := by
  intro n
  induction n with
  | zero => intro t _ _ h; omega
  | succ n ih =>
    intro t h1 h2 hn
    rw [F_X3_turnStacked_2]
    by_cases c : 12 ≤ t
    · rw [if_pos ((le12 (by omega)).mpr c)]
    · rw [if_neg (fun q => c ((le12 (by omega)).mp q)), has_f (by omega) (Nat.testBit_lt_two_pow (Nat.lt_of_lt_of_le hm (Nat.pow_le_pow_right (by decide) h1))), Option.bind_some, if_pos rfl, l1]
      exact ih (t + 1) (by omega) (by omega) (by omega)
theorem ts_lp {σ : Nat → Nat} {k ms : Nat} {ft fu : Nat → Int32} {pun fra pas a : Int32} {fp : Nat → Int32} (hP : Pm σ) (hf : Mv σ ft) (hk : k ≤ 12) (hm : ms < 2 ^ k) (b1 : -9999 ≤ a.toInt) (b2 : a.toInt ≤ 9999) : ∀ (n t : Nat) (A fh fd fb : Nat → Int32) (tur : Int32), t ≤ k → 12 - t < n → St A (nI k) (nI ms) pun fra tur ft fu fh fd fb → Mv σ A → A 24 = nI k → A 49 = nI ms → ∃ tur' fh' fd' fb' A', F_X3_turnStacked_2 (nI k) (nI ms) ft n a (nI t) tur fh fd fb = some (tur', fh', fd', fb') ∧ F_X5_turnStack_37 n a (nI t) pas A fp = some (nI (pc ms), pas, A', fp) ∧ St A' (nI k) (nI ms) pun fra tur' ft fu fh' fd' fb' := by
  have hm2 := two12 hk hm
  intro n
  induction n with
  | zero => intro t _ _ _ _ _ _ h; omega
  | succ n ih =>
    intro t A fh fd fb tur h1 hn hs hA h24 h49
    rcases Nat.lt_or_ge t k with d | d
    · rw [F_X3_turnStacked_2, F_X5_turnStack_37, k24, t24, h24, if_neg (fun q => by have := (le12 (by omega)).mp q; omega), if_neg (fun q => by have := (nI_leI (by omega) (by omega)).mp q; omega)]
      cases e : ms.testBit t
      · rw [has_f (by omega) e, onF hm2 h49 (by omega) e, Option.bind_some, Option.bind_some, if_pos rfl, if_pos rfl, l1]
        exact ih (t + 1) A fh fd fb tur (by omega) (by omega) hs hA h24 h49
      · obtain ⟨h', A', gd, gb, w1, w2, w3, w5, w6, w4⟩ := turn1 hs hP hA hf hk h24 d b1 b2
        rw [has_t (by omega) e, onT hm2 h49 (by omega) e, Option.bind_some, Option.bind_some, if_neg n10, if_neg n10, w1, w2, Option.bind_some, Option.bind_some, l1]
        exact ih (t + 1) A' (upd fh t (nI h')) gd gb (tur + 1) (by omega) (by omega) w4 (fun j hj => by rw [w5 j (by omega)]; exact hA j hj) (by rw [w5 24 (by omega)]; exact h24) (by rw [w6]; exact h49)
    · have e : t = k := by omega
      subst e
      refine ⟨tur, fh, fd, fb, A, tsC_end hm a tur fh fd fb (n + 1) t (Nat.le_refl _) hk (by omega), ?_, hs⟩
      rw [F_X5_turnStack_37, k24, t24, h24, if_pos ((nI_leI (by omega) (by omega)).mpr (Nat.le_refl t)), k49, t49, h49, ones_eq (by omega), Option.bind_some]
theorem z_turnStack {rqa r1qa r2qa r3qa : Nat} {ft fu fh fd fb kft kfu kfh kfd kfb xfc xft rft rfu rfh rfd rfb r1ft r1fu r1fh r1fd r1fb r2ft r2fu r2fh r2fd r2fb r3ft r3fu r3fh r3fd r3fb fs fp fn fx fm : Nat → Int32} {isk sold stk pun fra tur ksold kstk kpun kfra ktur hnx hsz xlen xidx xknd xawt xnum xcam xfst xlst rsold rstk rpun rfra rtur r1sold r1stk r1pun r1fra r1tur r2sold r2stk r2pun r2fra r2tur r3sold r3stk r3pun r3fra r3tur pas misk len spo kin cam fst lst inr : Int32} {fr : Nat → Option Nat} (hR : RR rqa r1qa r2qa r3qa isk sold stk pun fra tur ft fu fh fd fb ksold kstk kpun kfra ktur kft kfu kfh kfd kfb hnx hsz fr xlen xidx xknd xawt xnum xcam xfst xlst xfc xft rsold rstk rpun rfra rtur rft rfu rfh rfd rfb r1sold r1stk r1pun r1fra r1tur r1ft r1fu r1fh r1fd r1fb r2sold r2stk r2pun r2fra r2tur r2ft r2fu r2fh r2fd r2fb r3sold r3stk r3pun r3fra r3tur r3ft r3fu r3fh r3fd r3fb pas misk len spo kin cam fst lst inr fs fp fn fx fm) (a1 : Int32) : ∃ rr1 rr2, F_X4_turnStack sold stk pun fra tur ft fu fh fd fb hnx hsz fr rsold rstk rpun rfra rtur rft rfu rfh rfd rfb rqa a1 = some rr1 ∧ F_X5_turnStack pas fs fp a1 = some rr2 ∧ rr1.1 = rr2.1 ∧ (RR rqa r1qa r2qa r3qa isk sold stk pun fra rr1.2.1 ft fu rr1.2.2.1 rr1.2.2.2.1 rr1.2.2.2.2.1 ksold kstk kpun kfra ktur kft kfu kfh kfd kfb rr1.2.2.2.2.2.1 rr1.2.2.2.2.2.2.1 fr xlen xidx xknd xawt xnum xcam xfst xlst xfc xft rr1.2.2.2.2.2.2.2.1 rr1.2.2.2.2.2.2.2.2.1 rr1.2.2.2.2.2.2.2.2.2.1 rr1.2.2.2.2.2.2.2.2.2.2.1 rr1.2.2.2.2.2.2.2.2.2.2.2.1 rr1.2.2.2.2.2.2.2.2.2.2.2.2.1 rr1.2.2.2.2.2.2.2.2.2.2.2.2.2.1 rr1.2.2.2.2.2.2.2.2.2.2.2.2.2.2.1 rr1.2.2.2.2.2.2.2.2.2.2.2.2.2.2.2.1 rr1.2.2.2.2.2.2.2.2.2.2.2.2.2.2.2.2 r1sold r1stk r1pun r1fra r1tur r1ft r1fu r1fh r1fd r1fb r2sold r2stk r2pun r2fra r2tur r2ft r2fu r2fh r2fd r2fb r3sold r3stk r3pun r3fra r3tur r3ft r3fu r3fh r3fd r3fb rr2.2.1 misk len spo kin cam fst lst inr rr2.2.2.1 rr2.2.2.2 fn fx fm ∨ RR r1qa r2qa r3qa rqa isk sold stk pun fra rr1.2.1 ft fu rr1.2.2.1 rr1.2.2.2.1 rr1.2.2.2.2.1 ksold kstk kpun kfra ktur kft kfu kfh kfd kfb rr1.2.2.2.2.2.1 rr1.2.2.2.2.2.2.1 fr xlen xidx xknd xawt xnum xcam xfst xlst xfc xft r1sold r1stk r1pun r1fra r1tur r1ft r1fu r1fh r1fd r1fb r2sold r2stk r2pun r2fra r2tur r2ft r2fu r2fh r2fd r2fb r3sold r3stk r3pun r3fra r3tur r3ft r3fu r3fh r3fd r3fb rr1.2.2.2.2.2.2.2.1 rr1.2.2.2.2.2.2.2.2.1 rr1.2.2.2.2.2.2.2.2.2.1 rr1.2.2.2.2.2.2.2.2.2.2.1 rr1.2.2.2.2.2.2.2.2.2.2.2.1 rr1.2.2.2.2.2.2.2.2.2.2.2.2.1 rr1.2.2.2.2.2.2.2.2.2.2.2.2.2.1 rr1.2.2.2.2.2.2.2.2.2.2.2.2.2.2.1 rr1.2.2.2.2.2.2.2.2.2.2.2.2.2.2.2.1 rr1.2.2.2.2.2.2.2.2.2.2.2.2.2.2.2.2 rr2.2.1 misk len spo kin cam fst lst inr rr2.2.2.1 rr2.2.2.2 fn fx fm) := by
  have hR0 := hR
  obtain ⟨hS, hK, hH, hT⟩ := hR
  obtain ⟨σ, k, H, D, ms, hP, hf, hft, ⟨hk, h24, hs⟩, hh, hd, hm, h49, hst⟩ := Rd_of hS
  subst hs hst
  have hm2 := two12 hk hm
  unfold F_X4_turnStack F_X5_turnStack F_X3_stacked F_X3_turnStacked
  rcases isPow a1 with ⟨e1, e2, b1, b2⟩ | ⟨e1, e2⟩
  · simp only [e1, e2, Option.bind_some, n10, ↓reduceIte, k49, t49, h49]
    by_cases c0 : ms = 0
    · rw [if_pos (by rw [c0]; rfl), if_pos (by rw [c0]; rfl)]
      exact ⟨_, _, rfl, rfl, rfl, Or.inl hR0⟩
    · have c3 : ¬ nI ms = 0 := fun q => c0 ((eq0 (by omega)).mp q)
      rw [if_neg c3, if_neg c3, forward_o hP hf b1 b2, Option.bind_some]
      have hl := fmo_lt a1 σ
      have ho := od_le hP
      generalize eK : fmo a1 σ = K at *
      by_cases c : K = 0
      · rw [leaves_to hP hft b1 b2 (eK.trans c), Option.bind_some, if_neg n10, c, if_pos (show nI 0 = 0 from rfl)]
        exact ⟨_, _, rfl, rfl, rfl, Or.inl hR0⟩
      · have c2 : ¬ nI K = 0 := fun q => c ((eq0 (by omega)).mp q)
        obtain ⟨hnx', hsz', ft', fu', fh', fd', fb', pas', fp', r1, r2, hH'⟩ := rec_both hS hH Ex_St Ex_St Ex_St rsold rstk rpun rfra rtur rft rfu rfh rfd rfb
        obtain ⟨tur', gh, gd, gb, A', w1, w2, w3⟩ := ts_lp (pas := pas') (fp := fp') hP hft hk hm b1 b2 10000 0 fs fh fd fb tur (Nat.zero_le _) (by omega) hS hf h24 h49
        rw [leaves_fo hP hft b1 b2 (fun q => c (eK.symm.trans q)), Option.bind_some, if_pos rfl, if_neg c2, r1, r2, Option.bind_some, Option.bind_some, show F_X3_turnStacked_2 (nI k) (nI ms) ft 10000 a1 0 tur fh fd fb = some (tur', gh, gd, gb) from w1, Option.bind_some, bc_eq (by omega), Option.bind_some]
        dsimp only
        rw [show F_X5_turnStack_37 10000 a1 0 pas' fs fp' = some (nI (pc ms), pas', A', fp') from w2]
        exact ⟨_, _, rfl, rfl, rfl, Or.inr ⟨w3, hK, hH', hT⟩⟩
  · rw [e1, e2]
    exact ⟨_, _, rfl, rfl, rfl, Or.inl hR0⟩
