/-! the text as a move -/
theorem idM_lp {N : Nat} {fx : Nat → Int32} (spo kin cam fst lst inr : Int32) : ∀ (n i : Nat) (g : Nat → Int32), i ≤ 24 → 24 - i < n → (∀ j, j < i → g j = nI j) → ∃ g', F_X5_isMove_2 (nI N) fx n (nI i) spo kin cam fst lst inr g = F_X5_isMove_36 (nI N) fx 10000 24 0 0 0 fst lst inr g' ∧ ∀ j, j < 24 → g' j = nI j := by
  intro n
  induction n with
  | zero => intro i _ _ h; omega
  | succ n ih =>
    intro i g hi hn hg
    rw [F_X5_isMove_2]
    by_cases c : 24 ≤ i
    · rw [if_pos ((le24 (by omega)).mpr c), show i = 24 by omega]
      exact ⟨g, rfl, fun j hj => hg j (by omega)⟩
    · rw [if_neg (fun q => c ((le24 (by omega)).mp q)), ck_ok (by omega) (by omega), tn (by omega), l1]
      exact ih (i + 1) _ (by omega) (by omega) (fun j hj => by
        by_cases e : j = i
        · rw [e, pk_us]
        · rw [pk_un e]; exact hg j (by omega))
theorem idC_lp : ∀ (n i : Nat) (a b c : Int32) (g : Nat → Int32), i ≤ 24 → 24 - i < n → (∀ j, j < i → g j = nI j) → ∃ g', F_X2_startReading_2 n (nI i) a b c g = some (0, 0, 0, g') ∧ ∀ j, j < 24 → g' j = nI j := by
  intro n
  induction n with
  | zero => intro i _ _ _ _ _ h; omega
  | succ n ih =>
    intro i a b c g hi hn hg
    rw [F_X2_startReading_2]
    by_cases d : 24 ≤ i
    · rw [if_pos ((le24 (by omega)).mpr d)]
      exact ⟨g, rfl, fun j hj => hg j (by omega)⟩
    · rw [if_neg (fun q => d ((le24 (by omega)).mp q)), ck_ok (by omega) (by omega), tn (by omega), l1]
      exact ih (i + 1) _ _ _ _ (by omega) (by omega) (fun j hj => by
        by_cases e : j = i
        · rw [e, pk_us]
        · rw [pk_un e]; exact hg j (by omega))
theorem id_Pm : Pm (fun j => j) := ⟨fun _ h => h, fun _ _ _ _ e => e⟩
theorem read_both {N : Nat} {xfc fx xft g : Nat → Int32} (hT : Tt N xfc fx) (xidx xknd xawt xnum xcam xfst xlst spo kin cam fst lst inr : Int32) :
    (∃ o k w w2, ¬ k = 0 ∧ F_X2_read (nI N) xidx xknd xawt xnum xcam xfst xlst xfc xft = some (o, k, w) ∧ F_X5_isMove (nI N) spo kin cam fst lst inr fx g = some (0, o, k, w2)) ∨
    ∃ o u1 u2 u3 u4 u5 M w1 w2 w3 w4 g' τ, Pm τ ∧ Mv τ M ∧ Mv τ g' ∧ F_X2_read (nI N) xidx xknd xawt xnum xcam xfst xlst xfc xft = some (o, 0, u1, u2, u3, u4, u5, M) ∧ F_X5_isMove (nI N) spo kin cam fst lst inr fx g = some (1, o, 0, w1, w2, w3, w4, g') := by
  obtain ⟨g1, e1, h1⟩ := idM_lp (N := N) (fx := fx) spo kin cam fst lst inr 10000 0 g (Nat.zero_le _) (by omega) (fun j hj => absurd hj (Nat.not_lt_zero j))
  obtain ⟨x1, e2, h2⟩ := idC_lp 10000 0 xknd xawt xcam xft (Nat.zero_le _) (by omega) (fun j hj => absurd hj (Nat.not_lt_zero j))
  have hN := hT.1
  have eM : F_X5_isMove (nI N) spo kin cam fst lst inr fx g = F_X5_isMove_36 (nI N) fx 10000 24 0 0 0 fst lst inr g1 := e1
  have eC : F_X2_read (nI N) xidx xknd xawt xnum xcam xfst xlst xfc xft = F_X2_read_6 (nI N) xfc 10000 0 xidx 0 0 xnum 0 xfst xlst x1 := by
    unfold F_X2_read
    rw [show F_X2_startReading xknd xawt xcam xft = some (0, 0, 0, x1) from e2, Option.bind_some]
  rw [eM, eC]
  have hcase : 0 < N ∨ (0 = N ∧ (0 : Nat) = 0) := by
    rcases Nat.eq_zero_or_pos N with h | h
    · exact Or.inr ⟨h.symm, rfl⟩
    · exact Or.inl h
  rcases mv_lp hT 24 10000 0 0 (fun j => j) g1 x1 fst lst inr xfst xlst xnum hcase (by omega) (by decide) id_Pm h1 h2 (fun _ _ _ => rfl) with ⟨o, k, w, p1, p2, p3⟩ | ⟨o, w1, w2, w3, w4, g2, τ, p1, p2, p3, p4⟩
  · obtain ⟨r, q1, q2, q3, _⟩ := p3 (fun _ => 0) 10000 xidx (by omega)
    obtain ⟨ro, rk, rw⟩ := r
    dsimp only at q2 q3
    subst q2 q3
    exact Or.inl ⟨_, _, rw, w, p1, q1, p2⟩
  · obtain ⟨r, q1, q2, q3, q4⟩ := p4 10000 xidx (by omega)
    obtain ⟨ro, rk, u1, u2, u3, u4, u5, M⟩ := r
    dsimp only at q2 q3 q4
    subst q2 q3
    exact Or.inr ⟨_, u1, u2, u3, u4, u5, M, w1, w2, w3, w4, g2, τ, p1, q4 rfl, p2, q1, p3⟩
theorem Tt_of {xlen len : Int32} {xfc fx : Nat → Int32} (h : Tx xlen len xfc fx) : ∃ N, xlen = nI N ∧ len = nI N ∧ Tt N xfc fx := by
  obtain ⟨N, h1, h2, h3, h4⟩ := h
  exact ⟨N, h2, h3, h1, h4⟩
theorem z_fault {rqa r1qa r2qa r3qa : Nat} {ft fu fh fd fb kft kfu kfh kfd kfb xfc xft rft rfu rfh rfd rfb r1ft r1fu r1fh r1fd r1fb r2ft r2fu r2fh r2fd r2fb r3ft r3fu r3fh r3fd r3fb fs fp fn fx fm : Nat → Int32} {isk sold stk pun fra tur ksold kstk kpun kfra ktur hnx hsz xlen xidx xknd xawt xnum xcam xfst xlst rsold rstk rpun rfra rtur r1sold r1stk r1pun r1fra r1tur r2sold r2stk r2pun r2fra r2tur r3sold r3stk r3pun r3fra r3tur pas misk len spo kin cam fst lst inr : Int32} {fr : Nat → Option Nat} (hR : RR rqa r1qa r2qa r3qa isk sold stk pun fra tur ft fu fh fd fb ksold kstk kpun kfra ktur kft kfu kfh kfd kfb hnx hsz fr xlen xidx xknd xawt xnum xcam xfst xlst xfc xft rsold rstk rpun rfra rtur rft rfu rfh rfd rfb r1sold r1stk r1pun r1fra r1tur r1ft r1fu r1fh r1fd r1fb r2sold r2stk r2pun r2fra r2tur r2ft r2fu r2fh r2fd r2fb r3sold r3stk r3pun r3fra r3tur r3ft r3fu r3fh r3fd r3fb pas misk len spo kin cam fst lst inr fs fp fn fx fm) (a1 : Int32) : ∃ rr1 rr2, F_X4_fault xlen xidx xknd xawt xnum xcam xfst xlst xfc xft a1 = some rr1 ∧ F_X5_fault len spo kin cam fst lst inr fx fm a1 = some rr2 ∧ rr1.1 = rr2.1 ∧ RR rqa r1qa r2qa r3qa isk sold stk pun fra tur ft fu fh fd fb ksold kstk kpun kfra ktur kft kfu kfh kfd kfb hnx hsz fr xlen rr1.2.1 rr1.2.2.1 rr1.2.2.2.1 rr1.2.2.2.2.1 rr1.2.2.2.2.2.1 rr1.2.2.2.2.2.2.1 rr1.2.2.2.2.2.2.2.1 xfc rr1.2.2.2.2.2.2.2.2 rsold rstk rpun rfra rtur rft rfu rfh rfd rfb r1sold r1stk r1pun r1fra r1tur r1ft r1fu r1fh r1fd r1fb r2sold r2stk r2pun r2fra r2tur r2ft r2fu r2fh r2fd r2fb r3sold r3stk r3pun r3fra r3tur r3ft r3fu r3fh r3fd r3fb pas misk len rr2.2.1 rr2.2.2.1 rr2.2.2.2.1 rr2.2.2.2.2.1 rr2.2.2.2.2.2.1 rr2.2.2.2.2.2.2.1 fs fp fn fx rr2.2.2.2.2.2.2.2 := by
  have hR0 := hR
  obtain ⟨hS, hK, hH, hT⟩ := hR
  obtain ⟨N, e1, e2, hTt⟩ := Tt_of hT
  have hT' : Tx (nI N) (nI N) xfc fx := by rw [e1, e2] at hT; exact hT
  unfold F_X4_fault F_X5_fault F_X5_in F_X2_faultKind F_X2_faultIndex
  by_cases c : a1 < 0
  · rw [if_pos c, if_pos c]
    exact ⟨_, _, rfl, rfl, rfl, ⟨hS, hK, hH, hT⟩⟩
  · rw [if_neg c, if_neg c]
    by_cases d : a1 ≤ 1
    · have d2 : ¬ 1 < a1 := fun q => by rw [fa_le] at d; rw [fa_lt] at q; omega
      rw [if_pos d, if_neg d2, Option.bind_some, if_neg n10, e1, e2]
      rcases read_both (xft := xft) (g := fm) hTt xidx xknd xawt xnum xcam xfst xlst spo kin cam fst lst inr with ⟨o, k, w, w2, p1, p2, p3⟩ | ⟨o, u1, u2, u3, u4, u5, M, w1, w2, w3, w4, g', τ, p1, p2, p3, p4, p5⟩
      · rw [p2, p3]
        simp only [Option.bind_some, p1, eq_self, ↓reduceIte]
        by_cases e : a1 = 0
        · rw [if_pos e, if_pos e]
          exact ⟨_, _, rfl, rfl, rfl, ⟨hS, hK, hH, hT'⟩⟩
        · rw [if_neg e, if_neg e]
          exact ⟨_, _, rfl, rfl, rfl, ⟨hS, hK, hH, hT'⟩⟩
      · rw [p4, p5]
        simp only [Option.bind_some, n10, eq_self, ↓reduceIte]
        exact ⟨_, _, rfl, rfl, rfl, ⟨hS, hK, hH, hT'⟩⟩
    · have d2 : 1 < a1 := by rw [fa_le] at d; rw [fa_lt]; omega
      rw [if_neg d, if_pos d2]
      exact ⟨_, _, rfl, rfl, rfl, ⟨hS, hK, hH, hT⟩⟩
theorem xtgt {τ : Nat → Nat} {M : Nat → Int32} (hM : Mv τ M) {p : Nat} (hp : p < 24) : F_X2_target M (nI p) = some (nI (τ p)) := by
  unfold F_X2_target
  rw [isP hp, Option.bind_some, if_neg n10, ck_ok hp (by omega), tn (by omega), hM p hp]
theorem takeC_lp {τ : Nat → Nat} {M : Nat → Int32} (h : Pm τ) (hM : Mv τ M) : ∀ (n i : Nat) (ft fu : Nat → Int32), i ≤ 24 → 24 - i < n → (∀ j, j < i → ft j = nI (τ j)) → (∀ j, j < i → fu (τ j) = nI j) → ∃ ft' fu', F_X1_take_2 M n (nI i) ft fu = some (ft', fu') ∧ (∀ j, j < 24 → ft' j = nI (τ j)) ∧ ∀ j, j < 24 → fu' (τ j) = nI j := by
  intro n
  induction n with
  | zero => intro i _ _ _ h; omega
  | succ n ih =>
    intro i ft fu hi hn h1 h2
    rw [F_X1_take_2]
    by_cases c : 24 ≤ i
    · rw [if_pos ((le24 (by omega)).mpr c)]
      exact ⟨ft, fu, rfl, fun j hj => h1 j (by omega), fun j hj => h2 j (by omega)⟩
    · have hi2 : i < 24 := by omega
      rw [if_neg (fun q => c ((le24 (by omega)).mp q)), xtgt hM hi2, Option.bind_some, sendC hi2 (h.1 i hi2), Option.bind_some, l1]
      refine ih (i + 1) _ _ (by omega) (by omega) (fun j hj => ?_) (fun j hj => ?_)
      · dsimp only
        by_cases e : j = i
        · rw [e, pk_us]
        · rw [pk_un e]; exact h1 j (by omega)
      · dsimp only
        by_cases e : j = i
        · rw [e, pk_us]
        · rw [pk_un (fun q => e (h.2 j i (by omega) hi2 q))]; exact h2 j (by omega)
theorem z_readMove {rqa r1qa r2qa r3qa : Nat} {ft fu fh fd fb kft kfu kfh kfd kfb xfc xft rft rfu rfh rfd rfb r1ft r1fu r1fh r1fd r1fb r2ft r2fu r2fh r2fd r2fb r3ft r3fu r3fh r3fd r3fb fs fp fn fx fm : Nat → Int32} {isk sold stk pun fra tur ksold kstk kpun kfra ktur hnx hsz xlen xidx xknd xawt xnum xcam xfst xlst rsold rstk rpun rfra rtur r1sold r1stk r1pun r1fra r1tur r2sold r2stk r2pun r2fra r2tur r3sold r3stk r3pun r3fra r3tur pas misk len spo kin cam fst lst inr : Int32} {fr : Nat → Option Nat} (hR : RR rqa r1qa r2qa r3qa isk sold stk pun fra tur ft fu fh fd fb ksold kstk kpun kfra ktur kft kfu kfh kfd kfb hnx hsz fr xlen xidx xknd xawt xnum xcam xfst xlst xfc xft rsold rstk rpun rfra rtur rft rfu rfh rfd rfb r1sold r1stk r1pun r1fra r1tur r1ft r1fu r1fh r1fd r1fb r2sold r2stk r2pun r2fra r2tur r2ft r2fu r2fh r2fd r2fb r3sold r3stk r3pun r3fra r3tur r3ft r3fu r3fh r3fd r3fb pas misk len spo kin cam fst lst inr fs fp fn fx fm) : ∃ rr1 rr2, F_X4_readMove sold stk pun fra tur ft fu fh fd fb hnx hsz fr xlen xidx xknd xawt xnum xcam xfst xlst xfc xft rsold rstk rpun rfra rtur rft rfu rfh rfd rfb rqa = some rr1 ∧ F_X5_readMove pas len spo kin cam fst lst inr fs fp fx fm = some rr2 ∧ rr1.1 = rr2.1 ∧ (RR rqa r1qa r2qa r3qa isk sold stk pun fra tur rr1.2.1 rr1.2.2.1 fh fd fb ksold kstk kpun kfra ktur kft kfu kfh kfd kfb rr1.2.2.2.1 rr1.2.2.2.2.1 fr xlen rr1.2.2.2.2.2.1 rr1.2.2.2.2.2.2.1 rr1.2.2.2.2.2.2.2.1 rr1.2.2.2.2.2.2.2.2.1 rr1.2.2.2.2.2.2.2.2.2.1 rr1.2.2.2.2.2.2.2.2.2.2.1 rr1.2.2.2.2.2.2.2.2.2.2.2.1 xfc rr1.2.2.2.2.2.2.2.2.2.2.2.2.1 rr1.2.2.2.2.2.2.2.2.2.2.2.2.2.1 rr1.2.2.2.2.2.2.2.2.2.2.2.2.2.2.1 rr1.2.2.2.2.2.2.2.2.2.2.2.2.2.2.2.1 rr1.2.2.2.2.2.2.2.2.2.2.2.2.2.2.2.2.1 rr1.2.2.2.2.2.2.2.2.2.2.2.2.2.2.2.2.2.1 rr1.2.2.2.2.2.2.2.2.2.2.2.2.2.2.2.2.2.2.1 rr1.2.2.2.2.2.2.2.2.2.2.2.2.2.2.2.2.2.2.2.1 rr1.2.2.2.2.2.2.2.2.2.2.2.2.2.2.2.2.2.2.2.2.1 rr1.2.2.2.2.2.2.2.2.2.2.2.2.2.2.2.2.2.2.2.2.2.1 rr1.2.2.2.2.2.2.2.2.2.2.2.2.2.2.2.2.2.2.2.2.2.2 r1sold r1stk r1pun r1fra r1tur r1ft r1fu r1fh r1fd r1fb r2sold r2stk r2pun r2fra r2tur r2ft r2fu r2fh r2fd r2fb r3sold r3stk r3pun r3fra r3tur r3ft r3fu r3fh r3fd r3fb rr2.2.1 misk len rr2.2.2.1 rr2.2.2.2.1 rr2.2.2.2.2.1 rr2.2.2.2.2.2.1 rr2.2.2.2.2.2.2.1 rr2.2.2.2.2.2.2.2.1 rr2.2.2.2.2.2.2.2.2.1 rr2.2.2.2.2.2.2.2.2.2.1 fn fx rr2.2.2.2.2.2.2.2.2.2.2 ∨ RR r1qa r2qa r3qa rqa isk sold stk pun fra tur rr1.2.1 rr1.2.2.1 fh fd fb ksold kstk kpun kfra ktur kft kfu kfh kfd kfb rr1.2.2.2.1 rr1.2.2.2.2.1 fr xlen rr1.2.2.2.2.2.1 rr1.2.2.2.2.2.2.1 rr1.2.2.2.2.2.2.2.1 rr1.2.2.2.2.2.2.2.2.1 rr1.2.2.2.2.2.2.2.2.2.1 rr1.2.2.2.2.2.2.2.2.2.2.1 rr1.2.2.2.2.2.2.2.2.2.2.2.1 xfc rr1.2.2.2.2.2.2.2.2.2.2.2.2.1 r1sold r1stk r1pun r1fra r1tur r1ft r1fu r1fh r1fd r1fb r2sold r2stk r2pun r2fra r2tur r2ft r2fu r2fh r2fd r2fb r3sold r3stk r3pun r3fra r3tur r3ft r3fu r3fh r3fd r3fb rr1.2.2.2.2.2.2.2.2.2.2.2.2.2.1 rr1.2.2.2.2.2.2.2.2.2.2.2.2.2.2.1 rr1.2.2.2.2.2.2.2.2.2.2.2.2.2.2.2.1 rr1.2.2.2.2.2.2.2.2.2.2.2.2.2.2.2.2.1 rr1.2.2.2.2.2.2.2.2.2.2.2.2.2.2.2.2.2.1 rr1.2.2.2.2.2.2.2.2.2.2.2.2.2.2.2.2.2.2.1 rr1.2.2.2.2.2.2.2.2.2.2.2.2.2.2.2.2.2.2.2.1 rr1.2.2.2.2.2.2.2.2.2.2.2.2.2.2.2.2.2.2.2.2.1 rr1.2.2.2.2.2.2.2.2.2.2.2.2.2.2.2.2.2.2.2.2.2.1 rr1.2.2.2.2.2.2.2.2.2.2.2.2.2.2.2.2.2.2.2.2.2.2 rr2.2.1 misk len rr2.2.2.1 rr2.2.2.2.1 rr2.2.2.2.2.1 rr2.2.2.2.2.2.1 rr2.2.2.2.2.2.2.1 rr2.2.2.2.2.2.2.2.1 rr2.2.2.2.2.2.2.2.2.1 rr2.2.2.2.2.2.2.2.2.2.1 fn fx rr2.2.2.2.2.2.2.2.2.2.2) := by
  obtain ⟨hS, hK, hH, hT⟩ := hR
  obtain ⟨N, e1, e2, hTt⟩ := Tt_of hT
  have hT' : Tx (nI N) (nI N) xfc fx := by rw [e1, e2] at hT; exact hT
  unfold F_X4_readMove F_X5_readMove F_X2_faultKind F_X2_faultIndex
  rw [e1, e2]
  rcases read_both (xft := xft) (g := fm) hTt xidx xknd xawt xnum xcam xfst xlst spo kin cam fst lst inr with ⟨o, k, w, w2, p1, p2, p3⟩ | ⟨o, u1, u2, u3, u4, u5, M, w1, w2, w3, w4, g', τ, p1, p2, p3, p4, p5⟩
  · rw [p2, p3]
    simp only [Option.bind_some, p1, eq_self, ↓reduceIte]
    exact ⟨_, _, rfl, rfl, rfl, Or.inl ⟨hS, hK, hH, hT'⟩⟩
  · obtain ⟨hnx', hsz', ft', fu', fh', fd', fb', pas', fp', r1, r2, hH'⟩ := rec_both hS hH Ex_St Ex_St Ex_St rsold rstk rpun rfra rtur rft rfu rfh rfd rfb
    obtain ⟨tt, tu, t1, t2, t3⟩ := takeC_lp p1 p2 10000 0 ft fu (Nat.zero_le _) (by omega) (fun j hj => absurd hj (Nat.not_lt_zero j)) (fun j hj => absurd hj (Nat.not_lt_zero j))
    have m2 : Mv τ (fb_put fs g' 0 24) := put_Mv p3
    have t4 : F_X1_take ft fu M = some (tt, tu) := t1
    rw [p4, p5]
    simp only [Option.bind_some, n10, eq_self, ↓reduceIte, r1, t4, orderC p1 t2, takesM _ r2, orderM p1 m2]
    exact ⟨_, _, rfl, rfl, rfl, Or.inr ⟨St_move hS p1 m2 (fun j h1 h2 => fb_put_out (by omega)) t2 t3, hK, hH', hT'⟩⟩
