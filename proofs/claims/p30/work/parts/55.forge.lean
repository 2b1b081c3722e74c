/-! forge, mend, stack -/
theorem isF2 {k t a b : Nat} {fh fd : Nat → Int32} (hk : k ≤ 12) (ht : t < k) (h1 : fh t = nI a) (h2 : fd t = nI b) (ha : a < 2 ^ 24) (hb : b < 2 ^ 24) : F_X3_isFalse (nI k) fh fd (nI t) = some (if a = b then 0 else 1) := by
  unfold F_X3_isFalse
  rw [holT hk ht, Option.bind_some, dueT hk ht, Option.bind_some, h1, h2]
  by_cases c : a = b
  · rw [if_pos c, if_pos (by rw [c])]
  · rw [if_neg c, if_neg (fun q => c ((nI_eq (by omega) (by omega)).mp q))]
theorem isM2 {t a b : Nat} {fs : Nat → Int32} (ht : t < 12) (h1 : fs (25 + t) = nI a) (h2 : fs (37 + t) = nI b) (ha : a < 2 ^ 24) (hb : b < 2 ^ 24) : F_X5_isFalse fs (nI t) = some (if a = b then 0 else 1) := by
  unfold F_X5_isFalse
  rw [l25, l37, ck_ok (by omega) (by omega), ck_ok (by omega) (by omega), tn (by omega), tn (by omega), h1, h2]
  by_cases c : a = b
  · rw [if_pos c, if_pos (by rw [c])]
  · rw [if_neg c, if_neg (fun q => c ((nI_eq (by omega) (by omega)).mp q))]
theorem bitM {m p : Nat} (hm : m < 2 ^ 31) (hp : p < 32) : (nI m >>> (nI p &&& 31)) &&& 1 = nI (if m.testBit p = true then 1 else 0) := by
  rw [z_shr hm hp, z_and1, bitv]
theorem n01 : ¬ (0 : Int32) = 1 := by decide
theorem z_forge {rqa r1qa r2qa r3qa : Nat} {ft fu fh fd fb kft kfu kfh kfd kfb xfc xft rft rfu rfh rfd rfb r1ft r1fu r1fh r1fd r1fb r2ft r2fu r2fh r2fd r2fb r3ft r3fu r3fh r3fd r3fb fs fp fn fx fm : Nat → Int32} {isk sold stk pun fra tur ksold kstk kpun kfra ktur hnx hsz xlen xidx xknd xawt xnum xcam xfst xlst rsold rstk rpun rfra rtur r1sold r1stk r1pun r1fra r1tur r2sold r2stk r2pun r2fra r2tur r3sold r3stk r3pun r3fra r3tur pas misk len spo kin cam fst lst inr : Int32} {fr : Nat → Option Nat} (hR : RR rqa r1qa r2qa r3qa isk sold stk pun fra tur ft fu fh fd fb ksold kstk kpun kfra ktur kft kfu kfh kfd kfb hnx hsz fr xlen xidx xknd xawt xnum xcam xfst xlst xfc xft rsold rstk rpun rfra rtur rft rfu rfh rfd rfb r1sold r1stk r1pun r1fra r1tur r1ft r1fu r1fh r1fd r1fb r2sold r2stk r2pun r2fra r2tur r2ft r2fu r2fh r2fd r2fb r3sold r3stk r3pun r3fra r3tur r3ft r3fu r3fh r3fd r3fb pas misk len spo kin cam fst lst inr fs fp fn fx fm) (a1 a2 : Int32) (bz : Int32) (hbz : bz = 0 ∨ bz = 1) : ∃ rr1 rr2, F_X4_forge sold stk pun fra tur ft fu fh fd fb hnx hsz fr rsold rstk rpun rfra rtur rft rfu rfh rfd rfb rqa a1 a2 bz = some rr1 ∧ F_X5_forge pas fs fp a1 a2 bz = some rr2 ∧ rr1.1 = rr2.1 ∧ (RR rqa r1qa r2qa r3qa isk sold stk pun rr1.2.1 tur ft fu rr1.2.2.1 fd fb ksold kstk kpun kfra ktur kft kfu kfh kfd kfb rr1.2.2.2.1 rr1.2.2.2.2.1 fr xlen xidx xknd xawt xnum xcam xfst xlst xfc xft rr1.2.2.2.2.2.1 rr1.2.2.2.2.2.2.1 rr1.2.2.2.2.2.2.2.1 rr1.2.2.2.2.2.2.2.2.1 rr1.2.2.2.2.2.2.2.2.2.1 rr1.2.2.2.2.2.2.2.2.2.2.1 rr1.2.2.2.2.2.2.2.2.2.2.2.1 rr1.2.2.2.2.2.2.2.2.2.2.2.2.1 rr1.2.2.2.2.2.2.2.2.2.2.2.2.2.1 rr1.2.2.2.2.2.2.2.2.2.2.2.2.2.2 r1sold r1stk r1pun r1fra r1tur r1ft r1fu r1fh r1fd r1fb r2sold r2stk r2pun r2fra r2tur r2ft r2fu r2fh r2fd r2fb r3sold r3stk r3pun r3fra r3tur r3ft r3fu r3fh r3fd r3fb rr2.2.1 misk len spo kin cam fst lst inr rr2.2.2.1 rr2.2.2.2 fn fx fm ∨ RR r1qa r2qa r3qa rqa isk sold stk pun rr1.2.1 tur ft fu rr1.2.2.1 fd fb ksold kstk kpun kfra ktur kft kfu kfh kfd kfb rr1.2.2.2.1 rr1.2.2.2.2.1 fr xlen xidx xknd xawt xnum xcam xfst xlst xfc xft r1sold r1stk r1pun r1fra r1tur r1ft r1fu r1fh r1fd r1fb r2sold r2stk r2pun r2fra r2tur r2ft r2fu r2fh r2fd r2fb r3sold r3stk r3pun r3fra r3tur r3ft r3fu r3fh r3fd r3fb rr1.2.2.2.2.2.1 rr1.2.2.2.2.2.2.1 rr1.2.2.2.2.2.2.2.1 rr1.2.2.2.2.2.2.2.2.1 rr1.2.2.2.2.2.2.2.2.2.1 rr1.2.2.2.2.2.2.2.2.2.2.1 rr1.2.2.2.2.2.2.2.2.2.2.2.1 rr1.2.2.2.2.2.2.2.2.2.2.2.2.1 rr1.2.2.2.2.2.2.2.2.2.2.2.2.2.1 rr1.2.2.2.2.2.2.2.2.2.2.2.2.2.2 rr2.2.1 misk len spo kin cam fst lst inr rr2.2.2.1 rr2.2.2.2 fn fx fm) := by
  have hR0 := hR
  obtain ⟨hS, hK, hH, hT⟩ := hR
  have hfra := hS.2.2.2.2.2.2.2.2.2.1
  obtain ⟨σ, k, H, D, ms, hP, hf, hft, ⟨hk, h24, hs⟩, hh, hd, hm, h49, hst⟩ := Rd_of hS
  subst hs hst
  unfold F_X4_forge F_X5_forge
  rcases isT hk h24 a1 with ⟨t, ht, e, e1, e2⟩ | ⟨e1, e2⟩
  · subst e
    obtain ⟨x1, x2, x3⟩ := hh t (by omega)
    obtain ⟨y1, y2, y3⟩ := hd t (by omega)
    rw [e1, e2, Option.bind_some, Option.bind_some, if_neg n10, if_neg n10]
    rcases isPl a2 with ⟨p, hp, e, e1, e2⟩ | ⟨e1, e2⟩
    · subst e
      have hb1 : H t ^^^ 2 ^ p < 2 ^ 24 := Nat.xor_lt_two_pow x1 (Nat.pow_lt_pow_right (by decide) hp)
      obtain ⟨hnx', hsz', ft', fu', fh', fd', fb', pas', fp', r1, r2, hH'⟩ := rec_both hS hH Ex_St Ex_St Ex_St rsold rstk rpun rfra rtur rft rfu rfh rfd rfb
      have s1 := St_fra (St_h hS (show t < 12 by omega) hb1) (fra + 1)
      have i1 : F_X3_isFalse (nI k) (upd fh t (nI (H t ^^^ 2 ^ p))) fd (nI t) = some (if H t ^^^ 2 ^ p = D t then 0 else 1) := isF2 hk ht pk_us y3 hb1 y1
      have i2 : F_X5_isFalse (upd (upd fs (25 + t) (nI (H t ^^^ 2 ^ p))) 63 (fra + 1)) (nI t) = some (if H t ^^^ 2 ^ p = D t then 0 else 1) := isM2 (by omega) (by rw [pk_un (show 25 + t ≠ 63 by omega), pk_us]) (by rw [pk_un (show 37 + t ≠ 63 by omega), pk_un (show 37 + t ≠ 25 + t by omega), y2]) hb1 y1
      have cC : F_X3_changeByFraud (nI k) fra fh (nI t) (nI p) = some (fra + 1, upd fh t (nI (H t ^^^ 2 ^ p))) := by
        unfold F_X3_changeByFraud
        rw [tk1 hk ht, Option.bind_some, if_neg n10, ck_ok (show t < 12 by omega) (by omega), only_eq (by omega), Option.bind_some, ck_ok (show t < 12 by omega) (by omega), tn (by omega), x3, fb_xorI]
      have e63 : upd fs (25 + t) (nI (H t ^^^ 2 ^ p)) 63 = fra := by rw [pk_un (show 63 ≠ 25 + t by omega), ← hfra]
      have c25 : ∀ {α : Type} (x : Option α), ck (ok (nI (25 + t)) 65) x = x := fun x => ck_ok (by omega) (by omega)
      have u25 : Int32.toNatClampNeg (nI (25 + t)) = 25 + t := tn (by omega)
      have v1 : (nI (H t) >>> (nI p &&& 31)) &&& 1 = nI (if (H t).testBit p = true then 1 else 0) := bitM (by omega) (by omega)
      have v2 : (1 : Int32) <<< (nI p &&& 31) = nI (2 ^ p) := z_one (by omega)
      rw [e1, e2, Option.bind_some, Option.bind_some, if_neg n10, if_neg n10, holT hk ht, Option.bind_some, x3, cC]
      simp only [nmd, l25, c25, u25, x2, v1, v2, fb_xorI, k63, t63, e63, i2]
      cases d : (H t).testBit p
      · rw [has_f (by omega) d, Option.bind_some, if_neg (show ¬ nI (if false = true then 1 else 0) = 1 by decide)]
        by_cases f : (0 : Int32) = bz
        · rw [if_pos f, if_pos f]
          exact ⟨_, _, rfl, rfl, rfl, Or.inl hR0⟩
        · rw [if_neg f, if_neg f, r1, r2, Option.bind_some, Option.bind_some, Option.bind_some]
          dsimp only
          rw [i1]
          unfold F_X4_asNumber
          by_cases g : H t ^^^ 2 ^ p = D t
          · rw [if_pos g]
            exact ⟨_, _, rfl, rfl, rfl, Or.inr ⟨s1, hK, hH', hT⟩⟩
          · rw [if_neg g]
            exact ⟨_, _, rfl, rfl, rfl, Or.inr ⟨s1, hK, hH', hT⟩⟩
      · rw [has_t (by omega) d, Option.bind_some, if_pos (show nI (if true = true then 1 else 0) = 1 by decide)]
        by_cases f : (1 : Int32) = bz
        · rw [if_pos f, if_pos f]
          exact ⟨_, _, rfl, rfl, rfl, Or.inl hR0⟩
        · rw [if_neg f, if_neg f, r1, r2, Option.bind_some, Option.bind_some, Option.bind_some]
          dsimp only
          rw [i1]
          unfold F_X4_asNumber
          by_cases g : H t ^^^ 2 ^ p = D t
          · rw [if_pos g]
            exact ⟨_, _, rfl, rfl, rfl, Or.inr ⟨s1, hK, hH', hT⟩⟩
          · rw [if_neg g]
            exact ⟨_, _, rfl, rfl, rfl, Or.inr ⟨s1, hK, hH', hT⟩⟩
    · rw [e1, e2]
      exact ⟨_, _, rfl, rfl, rfl, Or.inl hR0⟩
  · rw [e1, e2]
    exact ⟨_, _, rfl, rfl, rfl, Or.inl hR0⟩
theorem z_mend {rqa r1qa r2qa r3qa : Nat} {ft fu fh fd fb kft kfu kfh kfd kfb xfc xft rft rfu rfh rfd rfb r1ft r1fu r1fh r1fd r1fb r2ft r2fu r2fh r2fd r2fb r3ft r3fu r3fh r3fd r3fb fs fp fn fx fm : Nat → Int32} {isk sold stk pun fra tur ksold kstk kpun kfra ktur hnx hsz xlen xidx xknd xawt xnum xcam xfst xlst rsold rstk rpun rfra rtur r1sold r1stk r1pun r1fra r1tur r2sold r2stk r2pun r2fra r2tur r3sold r3stk r3pun r3fra r3tur pas misk len spo kin cam fst lst inr : Int32} {fr : Nat → Option Nat} (hR : RR rqa r1qa r2qa r3qa isk sold stk pun fra tur ft fu fh fd fb ksold kstk kpun kfra ktur kft kfu kfh kfd kfb hnx hsz fr xlen xidx xknd xawt xnum xcam xfst xlst xfc xft rsold rstk rpun rfra rtur rft rfu rfh rfd rfb r1sold r1stk r1pun r1fra r1tur r1ft r1fu r1fh r1fd r1fb r2sold r2stk r2pun r2fra r2tur r2ft r2fu r2fh r2fd r2fb r3sold r3stk r3pun r3fra r3tur r3ft r3fu r3fh r3fd r3fb pas misk len spo kin cam fst lst inr fs fp fn fx fm) (a1 : Int32) : ∃ rr1 rr2, F_X4_mend sold stk pun fra tur ft fu fh fd fb hnx hsz fr rsold rstk rpun rfra rtur rft rfu rfh rfd rfb rqa a1 = some rr1 ∧ F_X5_mend pas fs fp a1 = some rr2 ∧ rr1.1 = rr2.1 ∧ (RR rqa r1qa r2qa r3qa isk sold stk pun fra tur ft fu rr1.2.1 fd fb ksold kstk kpun kfra ktur kft kfu kfh kfd kfb rr1.2.2.1 rr1.2.2.2.1 fr xlen xidx xknd xawt xnum xcam xfst xlst xfc xft rr1.2.2.2.2.1 rr1.2.2.2.2.2.1 rr1.2.2.2.2.2.2.1 rr1.2.2.2.2.2.2.2.1 rr1.2.2.2.2.2.2.2.2.1 rr1.2.2.2.2.2.2.2.2.2.1 rr1.2.2.2.2.2.2.2.2.2.2.1 rr1.2.2.2.2.2.2.2.2.2.2.2.1 rr1.2.2.2.2.2.2.2.2.2.2.2.2.1 rr1.2.2.2.2.2.2.2.2.2.2.2.2.2 r1sold r1stk r1pun r1fra r1tur r1ft r1fu r1fh r1fd r1fb r2sold r2stk r2pun r2fra r2tur r2ft r2fu r2fh r2fd r2fb r3sold r3stk r3pun r3fra r3tur r3ft r3fu r3fh r3fd r3fb rr2.2.1 misk len spo kin cam fst lst inr rr2.2.2.1 rr2.2.2.2 fn fx fm ∨ RR r1qa r2qa r3qa rqa isk sold stk pun fra tur ft fu rr1.2.1 fd fb ksold kstk kpun kfra ktur kft kfu kfh kfd kfb rr1.2.2.1 rr1.2.2.2.1 fr xlen xidx xknd xawt xnum xcam xfst xlst xfc xft r1sold r1stk r1pun r1fra r1tur r1ft r1fu r1fh r1fd r1fb r2sold r2stk r2pun r2fra r2tur r2ft r2fu r2fh r2fd r2fb r3sold r3stk r3pun r3fra r3tur r3ft r3fu r3fh r3fd r3fb rr1.2.2.2.2.1 rr1.2.2.2.2.2.1 rr1.2.2.2.2.2.2.1 rr1.2.2.2.2.2.2.2.1 rr1.2.2.2.2.2.2.2.2.1 rr1.2.2.2.2.2.2.2.2.2.1 rr1.2.2.2.2.2.2.2.2.2.2.1 rr1.2.2.2.2.2.2.2.2.2.2.2.1 rr1.2.2.2.2.2.2.2.2.2.2.2.2.1 rr1.2.2.2.2.2.2.2.2.2.2.2.2.2 rr2.2.1 misk len spo kin cam fst lst inr rr2.2.2.1 rr2.2.2.2 fn fx fm) := by
  have hR0 := hR
  obtain ⟨hS, hK, hH, hT⟩ := hR
  obtain ⟨σ, k, H, D, ms, hP, hf, hft, ⟨hk, h24, hs⟩, hh, hd, hm, h49, hst⟩ := Rd_of hS
  subst hs hst
  unfold F_X4_mend F_X5_mend
  rcases isT hk h24 a1 with ⟨t, ht, e, e1, e2⟩ | ⟨e1, e2⟩
  · subst e
    obtain ⟨x1, x2, x3⟩ := hh t (by omega)
    obtain ⟨y1, y2, y3⟩ := hd t (by omega)
    have hb1 : H t ^^^ D t < 2 ^ 24 := Nat.xor_lt_two_pow x1 y1
    rw [e1, e2, Option.bind_some, Option.bind_some, if_neg n10, if_neg n10, isF2 hk ht x3 y3 x1 y1, isM2 (by omega) x2 y2 x1 y1]
    by_cases c : H t = D t
    · rw [if_pos c, Option.bind_some, Option.bind_some, if_pos rfl, if_pos rfl]
      exact ⟨_, _, rfl, rfl, rfl, Or.inl hR0⟩
    · obtain ⟨hnx', hsz', ft', fu', fh', fd', fb', pas', fp', r1, r2, hH'⟩ := rec_both hS hH Ex_St Ex_St Ex_St rsold rstk rpun rfra rtur rft rfu rfh rfd rfb
      have cC : F_X3_makeRight (nI k) fh fd (nI t) = some (upd fh t (nI (D t))) := by
        unfold F_X3_makeRight
        rw [tk1 hk ht, Option.bind_some, if_neg n10, ck_ok (by omega) (by omega), ck_ok (by omega) (by omega), tn (by omega), y3]
      rw [if_neg c, Option.bind_some, Option.bind_some, if_neg n10, if_neg n10, holT hk ht, dueT hk ht, Option.bind_some, Option.bind_some, x3, y3, fb_xorI, bc_eq hb1, Option.bind_some, r1, r2, Option.bind_some, Option.bind_some, cC, Option.bind_some, l25, l37, ck_ok (show 25 + t < 65 by omega) (by omega)]
      have c25 : ∀ {α : Type} (x : Option α), ck (ok (nI (25 + t)) 65) x = x := fun x => ck_ok (by omega) (by omega)
      have c37 : ∀ {α : Type} (x : Option α), ck (ok (nI (37 + t)) 65) x = x := fun x => ck_ok (by omega) (by omega)
      have u25 : Int32.toNatClampNeg (nI (25 + t)) = 25 + t := tn (by omega)
      have u37 : Int32.toNatClampNeg (nI (37 + t)) = 37 + t := tn (by omega)
      have o1 : F_X5_ones (nI (H t ^^^ D t)) = some (nI (pc (H t ^^^ D t))) := ones_eq (by omega)
      simp only [nmd, c25, c37, u25, u37, x2, y2, fb_xorI, o1, Option.bind_some]
      exact ⟨_, _, rfl, rfl, rfl, Or.inr ⟨St_h hS (show t < 12 by omega) y1, hK, hH', hT⟩⟩
  · rw [e1, e2]
    exact ⟨_, _, rfl, rfl, rfl, Or.inl hR0⟩
theorem z_stack {rqa r1qa r2qa r3qa : Nat} {ft fu fh fd fb kft kfu kfh kfd kfb xfc xft rft rfu rfh rfd rfb r1ft r1fu r1fh r1fd r1fb r2ft r2fu r2fh r2fd r2fb r3ft r3fu r3fh r3fd r3fb fs fp fn fx fm : Nat → Int32} {isk sold stk pun fra tur ksold kstk kpun kfra ktur hnx hsz xlen xidx xknd xawt xnum xcam xfst xlst rsold rstk rpun rfra rtur r1sold r1stk r1pun r1fra r1tur r2sold r2stk r2pun r2fra r2tur r3sold r3stk r3pun r3fra r3tur pas misk len spo kin cam fst lst inr : Int32} {fr : Nat → Option Nat} (hR : RR rqa r1qa r2qa r3qa isk sold stk pun fra tur ft fu fh fd fb ksold kstk kpun kfra ktur kft kfu kfh kfd kfb hnx hsz fr xlen xidx xknd xawt xnum xcam xfst xlst xfc xft rsold rstk rpun rfra rtur rft rfu rfh rfd rfb r1sold r1stk r1pun r1fra r1tur r1ft r1fu r1fh r1fd r1fb r2sold r2stk r2pun r2fra r2tur r2ft r2fu r2fh r2fd r2fb r3sold r3stk r3pun r3fra r3tur r3ft r3fu r3fh r3fd r3fb pas misk len spo kin cam fst lst inr fs fp fn fx fm) (a1 : Int32) (bz : Int32) (hbz : bz = 0 ∨ bz = 1) : ∃ rr1 rr2, F_X4_stack sold stk pun fra tur ft fu fh fd fb hnx hsz fr rsold rstk rpun rfra rtur rft rfu rfh rfd rfb rqa a1 bz = some rr1 ∧ F_X5_stack pas fs fp a1 bz = some rr2 ∧ rr1.1 = rr2.1 ∧ (RR rqa r1qa r2qa r3qa isk sold rr1.2.1 pun fra tur ft fu fh fd fb ksold kstk kpun kfra ktur kft kfu kfh kfd kfb rr1.2.2.1 rr1.2.2.2.1 fr xlen xidx xknd xawt xnum xcam xfst xlst xfc xft rr1.2.2.2.2.1 rr1.2.2.2.2.2.1 rr1.2.2.2.2.2.2.1 rr1.2.2.2.2.2.2.2.1 rr1.2.2.2.2.2.2.2.2.1 rr1.2.2.2.2.2.2.2.2.2.1 rr1.2.2.2.2.2.2.2.2.2.2.1 rr1.2.2.2.2.2.2.2.2.2.2.2.1 rr1.2.2.2.2.2.2.2.2.2.2.2.2.1 rr1.2.2.2.2.2.2.2.2.2.2.2.2.2 r1sold r1stk r1pun r1fra r1tur r1ft r1fu r1fh r1fd r1fb r2sold r2stk r2pun r2fra r2tur r2ft r2fu r2fh r2fd r2fb r3sold r3stk r3pun r3fra r3tur r3ft r3fu r3fh r3fd r3fb rr2.2.1 misk len spo kin cam fst lst inr rr2.2.2.1 rr2.2.2.2 fn fx fm ∨ RR r1qa r2qa r3qa rqa isk sold rr1.2.1 pun fra tur ft fu fh fd fb ksold kstk kpun kfra ktur kft kfu kfh kfd kfb rr1.2.2.1 rr1.2.2.2.1 fr xlen xidx xknd xawt xnum xcam xfst xlst xfc xft r1sold r1stk r1pun r1fra r1tur r1ft r1fu r1fh r1fd r1fb r2sold r2stk r2pun r2fra r2tur r2ft r2fu r2fh r2fd r2fb r3sold r3stk r3pun r3fra r3tur r3ft r3fu r3fh r3fd r3fb rr1.2.2.2.2.1 rr1.2.2.2.2.2.1 rr1.2.2.2.2.2.2.1 rr1.2.2.2.2.2.2.2.1 rr1.2.2.2.2.2.2.2.2.1 rr1.2.2.2.2.2.2.2.2.2.1 rr1.2.2.2.2.2.2.2.2.2.2.1 rr1.2.2.2.2.2.2.2.2.2.2.2.1 rr1.2.2.2.2.2.2.2.2.2.2.2.2.1 rr1.2.2.2.2.2.2.2.2.2.2.2.2.2 rr2.2.1 misk len spo kin cam fst lst inr rr2.2.2.1 rr2.2.2.2 fn fx fm) := by
  have hR0 := hR
  obtain ⟨hS, hK, hH, hT⟩ := hR
  obtain ⟨σ, k, H, D, ms, hP, hf, hft, ⟨hk, h24, hs⟩, hh, hd, hm, h49, hst⟩ := Rd_of hS
  subst hs hst
  have hm2 := two12 hk hm
  unfold F_X4_stack F_X5_stack F_X3_stacked F_X3_changeStack
  rcases isT hk h24 a1 with ⟨t, ht, e, e1, e2⟩ | ⟨e1, e2⟩
  · subst e
    have hb0 : ms ^^^ 2 ^ t < 2 ^ k := Nat.xor_lt_two_pow hm (Nat.pow_lt_pow_right (by decide) ht)
    have hb1 : ms ^^^ 2 ^ t < 4096 := two12 hk hb0
    obtain ⟨hnx', hsz', ft', fu', fh', fd', fb', pas', fp', r1, r2, hH'⟩ := rec_both hS hH Ex_St Ex_St Ex_St rsold rstk rpun rfra rtur rft rfu rfh rfd rfb
    have s1 := St_stk hS h24 hk hb0
    have v2 : (1 : Int32) <<< (nI t &&& 31) = nI (2 ^ t) := z_one (by omega)
    have o1 : F_X5_ones (nI (ms ^^^ 2 ^ t)) = some (nI (pc (ms ^^^ 2 ^ t))) := ones_eq (by omega)
    have o2 : F_X4_only (nI t) = some (nI (2 ^ t)) := only_eq (by omega)
    have o3 : F_J6_bitCount_0f7a4 (nI (ms ^^^ 2 ^ t)) = some (nI (pc (ms ^^^ 2 ^ t))) := bc_eq (by omega)
    simp only [e1, e2, Option.bind_some, n10, ↓reduceIte, r1, r2, o2, nmd, k49, t49, h49, v2, fb_xorI, pk_us, o1, o3]
    cases d : ms.testBit t
    · rw [has_f (by omega) d, onF hm2 h49 (by omega) d, Option.bind_some, Option.bind_some]
      by_cases f : (0 : Int32) = bz
      · rw [if_pos f, if_pos f]
        exact ⟨_, _, rfl, rfl, rfl, Or.inl hR0⟩
      · rw [if_neg f, if_neg f]
        exact ⟨_, _, rfl, rfl, rfl, Or.inr ⟨s1, hK, hH', hT⟩⟩
    · rw [has_t (by omega) d, onT hm2 h49 (by omega) d, Option.bind_some, Option.bind_some]
      by_cases f : (1 : Int32) = bz
      · rw [if_pos f, if_pos f]
        exact ⟨_, _, rfl, rfl, rfl, Or.inl hR0⟩
      · rw [if_neg f, if_neg f]
        exact ⟨_, _, rfl, rfl, rfl, Or.inr ⟨s1, hK, hH', hT⟩⟩
  · rw [e1, e2]
    exact ⟨_, _, rfl, rfl, rfl, Or.inl hR0⟩
