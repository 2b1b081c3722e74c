/-! the writers of tickets -/
theorem m1 {n : Nat} (h : 1 ≤ n) (h2 : n < 2 ^ 30) : nI n - 1 = nI (n - 1) := by
  apply Int32.toInt_inj.mp
  have e : (nI n - 1).toInt = (n : Int) - 1 := pk_sub_toInt (a := n) (b := 1) h2 (by omega)
  rw [e, nI_toInt (by omega)]
  omega
theorem t0e : ((0 : Nat) : Int) = 0 := rfl
theorem t25 {t : Nat} (h : t < 40) : Int32.toNatClampNeg (nI (25 + t)) = 25 + t := tn (by omega)
theorem z_sell {rqa r1qa r2qa r3qa : Nat} {ft fu fh fd fb kft kfu kfh kfd kfb xfc xft rft rfu rfh rfd rfb r1ft r1fu r1fh r1fd r1fb r2ft r2fu r2fh r2fd r2fb r3ft r3fu r3fh r3fd r3fb fs fp fn fx fm : Nat → Int32} {isk sold stk pun fra tur ksold kstk kpun kfra ktur hnx hsz xlen xidx xknd xawt xnum xcam xfst xlst rsold rstk rpun rfra rtur r1sold r1stk r1pun r1fra r1tur r2sold r2stk r2pun r2fra r2tur r3sold r3stk r3pun r3fra r3tur pas misk len spo kin cam fst lst inr : Int32} {fr : Nat → Option Nat} (hR : RR rqa r1qa r2qa r3qa isk sold stk pun fra tur ft fu fh fd fb ksold kstk kpun kfra ktur kft kfu kfh kfd kfb hnx hsz fr xlen xidx xknd xawt xnum xcam xfst xlst xfc xft rsold rstk rpun rfra rtur rft rfu rfh rfd rfb r1sold r1stk r1pun r1fra r1tur r1ft r1fu r1fh r1fd r1fb r2sold r2stk r2pun r2fra r2tur r2ft r2fu r2fh r2fd r2fb r3sold r3stk r3pun r3fra r3tur r3ft r3fu r3fh r3fd r3fb pas misk len spo kin cam fst lst inr fs fp fn fx fm) (a1 : Int32) : ∃ rr1 rr2, F_X4_sell sold stk pun fra tur ft fu fh fd fb hnx hsz fr rsold rstk rpun rfra rtur rft rfu rfh rfd rfb rqa a1 = some rr1 ∧ F_X5_sell pas fs fp a1 = some rr2 ∧ rr1.1 = rr2.1 ∧ (RR rqa r1qa r2qa r3qa isk rr1.2.1 stk rr1.2.2.1 fra tur ft fu rr1.2.2.2.1 rr1.2.2.2.2.1 rr1.2.2.2.2.2.1 ksold kstk kpun kfra ktur kft kfu kfh kfd kfb rr1.2.2.2.2.2.2.1 rr1.2.2.2.2.2.2.2.1 fr xlen xidx xknd xawt xnum xcam xfst xlst xfc xft rr1.2.2.2.2.2.2.2.2.1 rr1.2.2.2.2.2.2.2.2.2.1 rr1.2.2.2.2.2.2.2.2.2.2.1 rr1.2.2.2.2.2.2.2.2.2.2.2.1 rr1.2.2.2.2.2.2.2.2.2.2.2.2.1 rr1.2.2.2.2.2.2.2.2.2.2.2.2.2.1 rr1.2.2.2.2.2.2.2.2.2.2.2.2.2.2.1 rr1.2.2.2.2.2.2.2.2.2.2.2.2.2.2.2.1 rr1.2.2.2.2.2.2.2.2.2.2.2.2.2.2.2.2.1 rr1.2.2.2.2.2.2.2.2.2.2.2.2.2.2.2.2.2 r1sold r1stk r1pun r1fra r1tur r1ft r1fu r1fh r1fd r1fb r2sold r2stk r2pun r2fra r2tur r2ft r2fu r2fh r2fd r2fb r3sold r3stk r3pun r3fra r3tur r3ft r3fu r3fh r3fd r3fb rr2.2.1 misk len spo kin cam fst lst inr rr2.2.2.1 rr2.2.2.2 fn fx fm ∨ RR r1qa r2qa r3qa rqa isk rr1.2.1 stk rr1.2.2.1 fra tur ft fu rr1.2.2.2.1 rr1.2.2.2.2.1 rr1.2.2.2.2.2.1 ksold kstk kpun kfra ktur kft kfu kfh kfd kfb rr1.2.2.2.2.2.2.1 rr1.2.2.2.2.2.2.2.1 fr xlen xidx xknd xawt xnum xcam xfst xlst xfc xft r1sold r1stk r1pun r1fra r1tur r1ft r1fu r1fh r1fd r1fb r2sold r2stk r2pun r2fra r2tur r2ft r2fu r2fh r2fd r2fb r3sold r3stk r3pun r3fra r3tur r3ft r3fu r3fh r3fd r3fb rr1.2.2.2.2.2.2.2.2.1 rr1.2.2.2.2.2.2.2.2.2.1 rr1.2.2.2.2.2.2.2.2.2.2.1 rr1.2.2.2.2.2.2.2.2.2.2.2.1 rr1.2.2.2.2.2.2.2.2.2.2.2.2.1 rr1.2.2.2.2.2.2.2.2.2.2.2.2.2.1 rr1.2.2.2.2.2.2.2.2.2.2.2.2.2.2.1 rr1.2.2.2.2.2.2.2.2.2.2.2.2.2.2.2.1 rr1.2.2.2.2.2.2.2.2.2.2.2.2.2.2.2.2.1 rr1.2.2.2.2.2.2.2.2.2.2.2.2.2.2.2.2.2 rr2.2.1 misk len spo kin cam fst lst inr rr2.2.2.1 rr2.2.2.2 fn fx fm) := by
  have hR0 := hR
  obtain ⟨hS, hK, hH, hT⟩ := hR
  have hpun := hS.2.2.2.2.2.2.2.2.1
  have hz := hS.1
  obtain ⟨σ, k, H, D, ms, hP, hf, hft, ⟨hk, h24, hs⟩, hh, hd, hm, h49, hst⟩ := Rd_of hS
  unfold F_X4_sell F_X5_sell F_X5_in F_X3_sold
  by_cases c : a1 < 0
  · rw [if_pos c, if_pos c]
    exact ⟨_, _, rfl, rfl, rfl, Or.inl hR0⟩
  · rw [if_neg c, if_neg c]
    have c2 := c
    rw [fa_lt, Int32.toInt_zero] at c2
    have k1 : (16777215 : Int32).toInt = 16777215 := by decide
    by_cases d : a1 ≤ 16777215
    · have d2 : ¬ 16777215 < a1 := fun q => by rw [fa_le] at d; rw [fa_lt] at q; omega
      have d3 := d
      rw [fa_le, k1] at d3
      have e := nI_back (a := a1) (by omega)
      obtain ⟨m, em⟩ : ∃ m, m = a1.toInt.toNat := ⟨_, rfl⟩
      have hmm : m < 2 ^ 24 := by omega
      rw [← em] at e
      rw [if_pos d, if_neg d2, Option.bind_some, Option.bind_some, if_neg n10, hs, k24, t24, h24]
      by_cases f : k = 12
      · rw [f, if_neg (show ¬ nI 12 < 12 by decide), if_pos (show nI 12 = 12 from rfl)]
        rw [hs, f] at hR0
        exact ⟨_, _, rfl, rfl, rfl, Or.inl hR0⟩
      · have fk : k < 12 := by omega
        have g1 : nI k < 12 := (nI_ltI (b := 12) (by omega) (by omega)).mpr fk
        have g2 : ¬ nI k = 12 := fun q => f ((nI_eq (b := 12) (by omega) (by omega)).mp q)
        obtain ⟨hnx', hsz', ft', fu', fh', fd', fb', pas', fp', r1, r2, hH'⟩ := rec_both hS hH Ex_St Ex_St Ex_St rsold rstk rpun rfra rtur rft rfu rfh rfd rfb
        rw [hs] at r1 hH' hS
        rw [if_pos g1, if_neg g2, r1, r2, Option.bind_some, Option.bind_some, k24, l25, l37, ck_ok (by omega) (by omega), ck_ok (by omega) (by omega), k62, tn (by omega), tn (by omega), t62]
        unfold nmd F_X3_add
        dsimp only
        rw [e, ones_eq (by omega), Option.bind_some, k62, k24, k24, if_neg (fun q => (lt0 (by omega)).mp q), if_pos g1, ck_ok fk (by omega), ck_ok fk (by omega), ck_ok fk (by omega), bc_eq hmm, Option.bind_some, tn (by omega), Option.bind_some, l1, pk_un (show 24 ≠ 62 by decide), pk_un (show 24 ≠ 37 + k by omega), pk_un (show 24 ≠ 25 + k by omega), h24, l1, pk_un (show 62 ≠ 37 + k by omega), pk_un (show 62 ≠ 25 + k by omega), ← hpun]
        have s1 := St_d (t := k) (St_h (t := k) hS fk hmm) fk hmm
        have s2 := St_pun s1 (pun + nI (pc m))
        have s3 := St_sold s2 (by rw [pk_un (show 24 ≠ 62 by decide), pk_un (show 24 ≠ 37 + k by omega), pk_un (show 24 ≠ 25 + k by omega)]; exact h24) fk
        have s4 := St_b0 (t := k) (v := 0) s3 (by
          rw [pk_un (show 50 + k ≠ 24 by omega), pk_un (show 50 + k ≠ 62 by omega), pk_un (show 50 + k ≠ 37 + k by omega), pk_un (show 50 + k ≠ 25 + k by omega)]
          obtain ⟨_, k2, _, _, hk2, h242, _, _, _, hz2⟩ := hz
          have : k = k2 := (nI_eq (by omega) (by omega)).mp (h24.symm.trans h242)
          exact hz2 k (by omega) fk)
        exact ⟨_, _, rfl, rfl, rfl, Or.inr ⟨s4, hK, hH', hT⟩⟩
    · have d2 : 16777215 < a1 := by rw [fa_le] at d; rw [fa_lt]; omega
      rw [if_neg d, if_pos d2]
      exact ⟨_, _, rfl, rfl, rfl, Or.inl hR0⟩
theorem z_punch {rqa r1qa r2qa r3qa : Nat} {ft fu fh fd fb kft kfu kfh kfd kfb xfc xft rft rfu rfh rfd rfb r1ft r1fu r1fh r1fd r1fb r2ft r2fu r2fh r2fd r2fb r3ft r3fu r3fh r3fd r3fb fs fp fn fx fm : Nat → Int32} {isk sold stk pun fra tur ksold kstk kpun kfra ktur hnx hsz xlen xidx xknd xawt xnum xcam xfst xlst rsold rstk rpun rfra rtur r1sold r1stk r1pun r1fra r1tur r2sold r2stk r2pun r2fra r2tur r3sold r3stk r3pun r3fra r3tur pas misk len spo kin cam fst lst inr : Int32} {fr : Nat → Option Nat} (hR : RR rqa r1qa r2qa r3qa isk sold stk pun fra tur ft fu fh fd fb ksold kstk kpun kfra ktur kft kfu kfh kfd kfb hnx hsz fr xlen xidx xknd xawt xnum xcam xfst xlst xfc xft rsold rstk rpun rfra rtur rft rfu rfh rfd rfb r1sold r1stk r1pun r1fra r1tur r1ft r1fu r1fh r1fd r1fb r2sold r2stk r2pun r2fra r2tur r2ft r2fu r2fh r2fd r2fb r3sold r3stk r3pun r3fra r3tur r3ft r3fu r3fh r3fd r3fb pas misk len spo kin cam fst lst inr fs fp fn fx fm) (a1 a2 : Int32) : ∃ rr1 rr2, F_X4_punch sold stk pun fra tur ft fu fh fd fb hnx hsz fr rsold rstk rpun rfra rtur rft rfu rfh rfd rfb rqa a1 a2 = some rr1 ∧ F_X5_punch pas fs fp a1 a2 = some rr2 ∧ rr1.1 = rr2.1 ∧ (RR rqa r1qa r2qa r3qa isk sold stk rr1.2.1 fra tur ft fu rr1.2.2.1 rr1.2.2.2.1 fb ksold kstk kpun kfra ktur kft kfu kfh kfd kfb rr1.2.2.2.2.1 rr1.2.2.2.2.2.1 fr xlen xidx xknd xawt xnum xcam xfst xlst xfc xft rr1.2.2.2.2.2.2.1 rr1.2.2.2.2.2.2.2.1 rr1.2.2.2.2.2.2.2.2.1 rr1.2.2.2.2.2.2.2.2.2.1 rr1.2.2.2.2.2.2.2.2.2.2.1 rr1.2.2.2.2.2.2.2.2.2.2.2.1 rr1.2.2.2.2.2.2.2.2.2.2.2.2.1 rr1.2.2.2.2.2.2.2.2.2.2.2.2.2.1 rr1.2.2.2.2.2.2.2.2.2.2.2.2.2.2.1 rr1.2.2.2.2.2.2.2.2.2.2.2.2.2.2.2 r1sold r1stk r1pun r1fra r1tur r1ft r1fu r1fh r1fd r1fb r2sold r2stk r2pun r2fra r2tur r2ft r2fu r2fh r2fd r2fb r3sold r3stk r3pun r3fra r3tur r3ft r3fu r3fh r3fd r3fb rr2.2.1 misk len spo kin cam fst lst inr rr2.2.2.1 rr2.2.2.2 fn fx fm ∨ RR r1qa r2qa r3qa rqa isk sold stk rr1.2.1 fra tur ft fu rr1.2.2.1 rr1.2.2.2.1 fb ksold kstk kpun kfra ktur kft kfu kfh kfd kfb rr1.2.2.2.2.1 rr1.2.2.2.2.2.1 fr xlen xidx xknd xawt xnum xcam xfst xlst xfc xft r1sold r1stk r1pun r1fra r1tur r1ft r1fu r1fh r1fd r1fb r2sold r2stk r2pun r2fra r2tur r2ft r2fu r2fh r2fd r2fb r3sold r3stk r3pun r3fra r3tur r3ft r3fu r3fh r3fd r3fb rr1.2.2.2.2.2.2.1 rr1.2.2.2.2.2.2.2.1 rr1.2.2.2.2.2.2.2.2.1 rr1.2.2.2.2.2.2.2.2.2.1 rr1.2.2.2.2.2.2.2.2.2.2.1 rr1.2.2.2.2.2.2.2.2.2.2.2.1 rr1.2.2.2.2.2.2.2.2.2.2.2.2.1 rr1.2.2.2.2.2.2.2.2.2.2.2.2.2.1 rr1.2.2.2.2.2.2.2.2.2.2.2.2.2.2.1 rr1.2.2.2.2.2.2.2.2.2.2.2.2.2.2.2 rr2.2.1 misk len spo kin cam fst lst inr rr2.2.2.1 rr2.2.2.2 fn fx fm) := by
  have hR0 := hR
  obtain ⟨hS, hK, hH, hT⟩ := hR
  have hpun := hS.2.2.2.2.2.2.2.2.1
  obtain ⟨σ, k, H, D, ms, hP, hf, hft, ⟨hk, h24, hs⟩, hh, hd, hm, h49, hst⟩ := Rd_of hS
  subst hs hst
  unfold F_X4_punch F_X5_punch
  rcases isT hk h24 a1 with ⟨t, ht, e, e1, e2⟩ | ⟨e1, e2⟩
  · subst e
    obtain ⟨x1, x2, x3⟩ := hh t (by omega)
    obtain ⟨y1, y2, y3⟩ := hd t (by omega)
    rw [e1, e2, Option.bind_some, Option.bind_some, if_neg n10, if_neg n10]
    rcases isPl a2 with ⟨p, hp, e, e1, e2⟩ | ⟨e1, e2⟩
    · subst e
      rw [e1, e2, Option.bind_some, Option.bind_some, if_neg n10, if_neg n10, holT hk ht, dueT hk ht, Option.bind_some, Option.bind_some, l25, l37, ck_ok (by omega) (by omega), ck_ok (by omega) (by omega), tn (by omega), tn (by omega), x2, x3, y2, y3, z_one (by omega)]
      unfold nmd
      dsimp only
      rw [fa_and]
      cases d : (H t &&& D t).testBit p
      · have hb1 : H t ||| 2 ^ p < 2 ^ 24 := Nat.or_lt_two_pow x1 (Nat.pow_lt_pow_right (by decide) hp)
        have hb2 : D t ||| 2 ^ p < 2 ^ 24 := Nat.or_lt_two_pow y1 (Nat.pow_lt_pow_right (by decide) hp)
        obtain ⟨hnx', hsz', ft', fu', fh', fd', fb', pas', fp', r1, r2, hH'⟩ := rec_both hS hH Ex_St Ex_St Ex_St rsold rstk rpun rfra rtur rft rfu rfh rfd rfb
        unfold F_X3_punchByRight
        rw [has_f (by omega) d, Option.bind_some, if_pos rfl, if_pos ((fa_bit (by omega)).mpr d), r1, r2, Option.bind_some, Option.bind_some, tk1 hk ht, Option.bind_some, if_neg n10, only_eq (by omega), Option.bind_some, Option.bind_some, ck_ok (show t < 12 by omega) (by omega), ck_ok (show t < 12 by omega) (by omega), ck_ok (show t < 12 by omega) (by omega), ck_ok (show t < 12 by omega) (by omega), tn (show t < 2 ^ 31 by omega), x3, y3, fa_or, fa_or, Option.bind_some, holT hk ht, Option.bind_some]
        dsimp only
        rw [pk_us, bc_eq hb1, Option.bind_some, ck_ok (show 25 + t < 65 by omega) (by omega), ck_ok (show 25 + t < 65 by omega) (by omega), ck_ok (show 37 + t < 65 by omega) (by omega), ck_ok (show 37 + t < 65 by omega) (by omega), k62, k62, ck_ok (show 25 + t < 65 by omega) (by omega), pk_un (show 37 + t ≠ 25 + t by omega), y2, fa_or, t62, pk_un (show 25 + t ≠ 62 by omega), pk_un (show 25 + t ≠ 37 + t by omega), pk_us, ones_eq (by omega), Option.bind_some, pk_un (show 62 ≠ 37 + t by omega), pk_un (show 62 ≠ 25 + t by omega), ← hpun]
        exact ⟨_, _, rfl, rfl, rfl, Or.inr ⟨St_pun (St_d (St_h hS (show t < 12 by omega) hb1) (show t < 12 by omega) hb2) (pun + 1), hK, hH', hT⟩⟩
      · rw [has_t (by omega) d, Option.bind_some, if_neg n10, if_neg (fun q => by rw [(fa_bit (by omega)).mp q] at d; cases d)]
        exact ⟨_, _, rfl, rfl, rfl, Or.inl hR0⟩
    · rw [e1, e2]
      exact ⟨_, _, rfl, rfl, rfl, Or.inl hR0⟩
  · rw [e1, e2]
    exact ⟨_, _, rfl, rfl, rfl, Or.inl hR0⟩
