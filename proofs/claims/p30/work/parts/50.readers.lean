/-! the readers -/
theorem n10 : ¬ (1 : Int32) = 0 := by decide
theorem tgtC {σ : Nat → Nat} {ft : Nat → Int32} (hf : Mv σ ft) {p : Nat} (hp : p < 24) : F_X1_target ft (nI p) = some (nI (σ p)) := by
  unfold F_X1_target
  rw [isP hp, Option.bind_some, if_neg n10, ck_ok hp (by omega), tn (by omega), hf p hp]
theorem srcC {σ : Nat → Nat} {A fu : Nat → Int32} (h : Pm σ) (hf : Mv σ A) (hu : ∀ j, j < 24 → fu (Int32.toNatClampNeg (A j)) = nI j) {j : Nat} (hj : j < 24) : F_X1_source fu (nI (σ j)) = some (nI j) := by
  unfold F_X1_source
  have := h.1 j hj
  have e := hu j hj
  rw [hf j hj] at e
  rw [isP this, Option.bind_some, if_neg n10, ck_ok this (by omega), e]
theorem srcM_lp {σ : Nat → Nat} {fs : Nat → Int32} (h : Pm σ) (hf : Mv σ fs) {j : Nat} (hj : j < 24) : ∀ (n i : Nat), i ≤ 24 → 24 - i < n → F_X5_sourceOf_4 fs n (nI (σ j)) (if j < i then nI j else 0) (nI i) = some (nI j) := by
  intro n
  induction n with
  | zero => intro p _ h; omega
  | succ n ih =>
    intro i hi hn
    rw [F_X5_sourceOf_4]
    by_cases c : 24 ≤ i
    · rw [if_pos ((le24 (by omega)).mpr c), if_pos (by omega)]
    · have hi2 : i < 24 := by omega
      have hr := ih (i + 1) (by omega) (by omega)
      have h1 := h.1 i hi2
      have h2 := h.1 j hj
      rw [if_neg (fun q => c ((le24 (by omega)).mp q)), l0, ck_ok (by omega) (by omega), tn (by omega), hf i hi2, l1]
      by_cases d : i = j
      · rw [if_pos (by rw [d])]
        rw [if_pos (by omega)] at hr
        rw [d]
        rw [d] at hr
        exact hr
      · rw [if_neg (fun q => d (h.2 i j hi2 hj ((nI_eq (by omega) (by omega)).mp q)))]
        rw [show (if j < i + 1 then nI j else (0 : Int32)) = if j < i then nI j else 0 by
          by_cases e : j < i
          · rw [if_pos e, if_pos (by omega)]
          · rw [if_neg e, if_neg (by omega)]] at hr
        exact hr
theorem srcM {σ : Nat → Nat} {fs : Nat → Int32} (h : Pm σ) (hf : Mv σ fs) {j : Nat} (hj : j < 24) : F_X5_sourceOf fs (nI (σ j)) = some (nI j) := srcM_lp h hf hj 10000 0 (Nat.zero_le _) (by omega)
theorem onto {σ : Nat → Nat} (h : Pm σ) {p : Nat} (hp : p < 24) : ∃ j, j < 24 ∧ σ j = p := fb_onto (f := σ) h.1 (fun i j hij hj e => by have := h.2 i j (by omega) hj e; omega) hp
theorem powM {σ : Nat → Nat} {fs : Nat → Int32} (h : Pm σ) (hf : Mv σ fs) {p : Nat} (hp : p < 24) (a : Int32) : F_X5_power_28 fs 10000 (nI p) a (nI p) (nI (fm a (od σ))) = some (nI (it σ (fm a (od σ)) p)) := by
  have h1 := od_le h
  have h2 := fm_lt (a := a) (od_pos σ)
  exact power_lp h hf hp (K := fm a (od σ)) (by omega) (nI p) a 10000 0 (Nat.zero_le _) (by omega)
theorem z_place {rqa r1qa r2qa r3qa : Nat} {ft fu fh fd fb kft kfu kfh kfd kfb xfc xft rft rfu rfh rfd rfb r1ft r1fu r1fh r1fd r1fb r2ft r2fu r2fh r2fd r2fb r3ft r3fu r3fh r3fd r3fb fs fp fn fx fm : Nat → Int32} {isk sold stk pun fra tur ksold kstk kpun kfra ktur hnx hsz xlen xidx xknd xawt xnum xcam xfst xlst rsold rstk rpun rfra rtur r1sold r1stk r1pun r1fra r1tur r2sold r2stk r2pun r2fra r2tur r3sold r3stk r3pun r3fra r3tur pas misk len spo kin cam fst lst inr : Int32} {fr : Nat → Option Nat} (hR : RR rqa r1qa r2qa r3qa isk sold stk pun fra tur ft fu fh fd fb ksold kstk kpun kfra ktur kft kfu kfh kfd kfb hnx hsz fr xlen xidx xknd xawt xnum xcam xfst xlst xfc xft rsold rstk rpun rfra rtur rft rfu rfh rfd rfb r1sold r1stk r1pun r1fra r1tur r1ft r1fu r1fh r1fd r1fb r2sold r2stk r2pun r2fra r2tur r2ft r2fu r2fh r2fd r2fb r3sold r3stk r3pun r3fra r3tur r3ft r3fu r3fh r3fd r3fb pas misk len spo kin cam fst lst inr fs fp fn fx fm) (a1 a2 : Int32) : ∃ r, F_X4_place sold ft fu fh a1 a2 = some r ∧ F_X5_place fs a1 a2 = some r := by
  obtain ⟨hS, _, _, _⟩ := hR
  have hu := hS.2.2.1
  obtain ⟨σ, k, H, D, ms, hP, hf, hft, ⟨hk, h24, hs⟩, hh, hd, hm, h49, hst⟩ := Rd_of hS
  unfold F_X4_place F_X5_place
  rcases isPl a1 with ⟨p, hp, e, e1, e2⟩ | ⟨e1, e2⟩
  · subst e
    rw [e1, e2, Option.bind_some, Option.bind_some, if_neg n10, if_neg n10]
    by_cases c0 : a2 = 0
    · refine ⟨nI (σ p), ?_, ?_⟩
      · rw [if_pos c0, tgtC hft hp, Option.bind_some]
      · rw [if_pos c0, l0, ck_ok (by omega) (by omega), tn (by omega), hf p hp]
    · rw [if_neg c0, if_neg c0]
      by_cases c1 : a2 = 1
      · obtain ⟨j, hj, e⟩ := onto hP hp
        subst e
        refine ⟨nI j, ?_, ?_⟩
        · rw [if_pos c1, srcC hP hf hu hj, Option.bind_some]
        · rw [if_pos c1, srcM hP hf hj, Option.bind_some]
      · rw [if_neg c1, if_neg c1]
        by_cases c2 : a2 = 2
        · refine ⟨nI (ln σ p), ?_, ?_⟩
          · rw [if_pos c2, round_eq hP hft hp, Option.bind_some, bc_eq (rnd_lt hP hp), Option.bind_some, pc_rnd hP hp]
          · rw [if_pos c2, long_eq hP hf hp, Option.bind_some]
        · rw [if_neg c2, if_neg c2]
          by_cases c3 : a2 = 3
          · refine ⟨nI (low σ p), ?_, ?_⟩
            · rw [if_pos c3, round_eq hP hft hp, Option.bind_some, lowest_eq hP hp, Option.bind_some]
            · rw [if_pos c3, low_eq hP hf hp, Option.bind_some]
          · rw [if_neg c3, if_neg c3]
            by_cases c4 : a2 = 4
            · refine ⟨nI (whF H p k), ?_, ?_⟩
              · rw [if_pos c4, hs, whC hk (fun t ht => ⟨(hh t ht).1, (hh t ht).2.2⟩) hp, Option.bind_some]
              · rw [if_pos c4, whM hk h24 (fun t ht => ⟨(hh t ht).1, (hh t ht).2.1⟩) hp, Option.bind_some]
            · rw [if_neg c4, if_neg c4]
              exact ⟨_, rfl, rfl⟩
  · rw [e1, e2]
    exact ⟨_, rfl, rfl⟩
theorem z_move {rqa r1qa r2qa r3qa : Nat} {ft fu fh fd fb kft kfu kfh kfd kfb xfc xft rft rfu rfh rfd rfb r1ft r1fu r1fh r1fd r1fb r2ft r2fu r2fh r2fd r2fb r3ft r3fu r3fh r3fd r3fb fs fp fn fx fm : Nat → Int32} {isk sold stk pun fra tur ksold kstk kpun kfra ktur hnx hsz xlen xidx xknd xawt xnum xcam xfst xlst rsold rstk rpun rfra rtur r1sold r1stk r1pun r1fra r1tur r2sold r2stk r2pun r2fra r2tur r3sold r3stk r3pun r3fra r3tur pas misk len spo kin cam fst lst inr : Int32} {fr : Nat → Option Nat} (hR : RR rqa r1qa r2qa r3qa isk sold stk pun fra tur ft fu fh fd fb ksold kstk kpun kfra ktur kft kfu kfh kfd kfb hnx hsz fr xlen xidx xknd xawt xnum xcam xfst xlst xfc xft rsold rstk rpun rfra rtur rft rfu rfh rfd rfb r1sold r1stk r1pun r1fra r1tur r1ft r1fu r1fh r1fd r1fb r2sold r2stk r2pun r2fra r2tur r2ft r2fu r2fh r2fd r2fb r3sold r3stk r3pun r3fra r3tur r3ft r3fu r3fh r3fd r3fb pas misk len spo kin cam fst lst inr fs fp fn fx fm) (a1 : Int32) : ∃ r, F_X4_move ft a1 = some r ∧ F_X5_move fs a1 = some r := by
  obtain ⟨hS, _, _, _⟩ := hR
  obtain ⟨σ, k, H, D, ms, hP, hf, hft, ⟨hk, h24, hs⟩, hh, hd, hm, h49, hst⟩ := Rd_of hS
  unfold F_X4_move F_X5_move F_X1_isEven F_X4_asNumber
  rw [orderC hP hft, orderM hP hf, roundsC hP hft, roundsM hP hf, fixC hP hft, fixM hP hf, lgC hP hft, lgM hP hf, Option.bind_some, Option.bind_some, Option.bind_some, Option.bind_some, Option.bind_some]
  by_cases c0 : a1 = 0
  · rw [if_pos c0, if_pos c0]; exact ⟨_, rfl, rfl⟩
  · rw [if_neg c0, if_neg c0]
    by_cases c1 : a1 = 1
    · rw [if_pos c1, if_pos c1]; exact ⟨_, rfl, rfl⟩
    · rw [if_neg c1, if_neg c1]
      by_cases c2 : a1 = 2
      · rw [if_pos c2, if_pos c2]; exact ⟨_, rfl, rfl⟩
      · rw [if_neg c2, if_neg c2]
        by_cases c3 : a1 = 3
        · rw [if_pos c3, if_pos c3]; exact ⟨_, rfl, rfl⟩
        · rw [if_neg c3, if_neg c3]
          by_cases c4 : a1 = 4
          · rw [if_pos c4, if_pos c4]
            by_cases d : ((24 : Int32) - nI (rcF σ 24)) - ((24 : Int32) - nI (rcF σ 24)) / 2 * 2 = 0
            · rw [if_pos d]; exact ⟨_, rfl, rfl⟩
            · rw [if_neg d]; exact ⟨_, rfl, rfl⟩
          · rw [if_neg c4, if_neg c4]; exact ⟨_, rfl, rfl⟩
theorem z_power {rqa r1qa r2qa r3qa : Nat} {ft fu fh fd fb kft kfu kfh kfd kfb xfc xft rft rfu rfh rfd rfb r1ft r1fu r1fh r1fd r1fb r2ft r2fu r2fh r2fd r2fb r3ft r3fu r3fh r3fd r3fb fs fp fn fx fm : Nat → Int32} {isk sold stk pun fra tur ksold kstk kpun kfra ktur hnx hsz xlen xidx xknd xawt xnum xcam xfst xlst rsold rstk rpun rfra rtur r1sold r1stk r1pun r1fra r1tur r2sold r2stk r2pun r2fra r2tur r3sold r3stk r3pun r3fra r3tur pas misk len spo kin cam fst lst inr : Int32} {fr : Nat → Option Nat} (hR : RR rqa r1qa r2qa r3qa isk sold stk pun fra tur ft fu fh fd fb ksold kstk kpun kfra ktur kft kfu kfh kfd kfb hnx hsz fr xlen xidx xknd xawt xnum xcam xfst xlst xfc xft rsold rstk rpun rfra rtur rft rfu rfh rfd rfb r1sold r1stk r1pun r1fra r1tur r1ft r1fu r1fh r1fd r1fb r2sold r2stk r2pun r2fra r2tur r2ft r2fu r2fh r2fd r2fb r3sold r3stk r3pun r3fra r3tur r3ft r3fu r3fh r3fd r3fb pas misk len spo kin cam fst lst inr fs fp fn fx fm) (a1 a2 : Int32) : ∃ r, F_X4_power ft a1 a2 = some r ∧ F_X5_power fs a1 a2 = some r := by
  obtain ⟨hS, _, _, _⟩ := hR
  obtain ⟨σ, k, H, D, ms, hP, hf, hft, ⟨hk, h24, hs⟩, hh, hd, hm, h49, hst⟩ := Rd_of hS
  unfold F_X4_power F_X5_power
  rcases isPl a1 with ⟨p, hp, e, e1, e2⟩ | ⟨e1, e2⟩
  · subst e
    rw [e1, e2, Option.bind_some, Option.bind_some, if_neg n10, if_neg n10]
    rcases isPow a2 with ⟨e1, e2, b1, b2⟩ | ⟨e1, e2⟩
    · rw [e1, e2, Option.bind_some, Option.bind_some, if_neg n10, if_neg n10, behind_eq hP hft hp b1 b2, forward_eq hP hf b1 b2, Option.bind_some, Option.bind_some]
      have h1 := od_le hP
      have h2 := fm_lt (a := a2) (od_pos σ)
      exact ⟨_, rfl, powM hP hf hp a2⟩
    · rw [e1, e2]
      exact ⟨_, rfl, rfl⟩
  · rw [e1, e2]
    exact ⟨_, rfl, rfl⟩
theorem z_ticket {rqa r1qa r2qa r3qa : Nat} {ft fu fh fd fb kft kfu kfh kfd kfb xfc xft rft rfu rfh rfd rfb r1ft r1fu r1fh r1fd r1fb r2ft r2fu r2fh r2fd r2fb r3ft r3fu r3fh r3fd r3fb fs fp fn fx fm : Nat → Int32} {isk sold stk pun fra tur ksold kstk kpun kfra ktur hnx hsz xlen xidx xknd xawt xnum xcam xfst xlst rsold rstk rpun rfra rtur r1sold r1stk r1pun r1fra r1tur r2sold r2stk r2pun r2fra r2tur r3sold r3stk r3pun r3fra r3tur pas misk len spo kin cam fst lst inr : Int32} {fr : Nat → Option Nat} (hR : RR rqa r1qa r2qa r3qa isk sold stk pun fra tur ft fu fh fd fb ksold kstk kpun kfra ktur kft kfu kfh kfd kfb hnx hsz fr xlen xidx xknd xawt xnum xcam xfst xlst xfc xft rsold rstk rpun rfra rtur rft rfu rfh rfd rfb r1sold r1stk r1pun r1fra r1tur r1ft r1fu r1fh r1fd r1fb r2sold r2stk r2pun r2fra r2tur r2ft r2fu r2fh r2fd r2fb r3sold r3stk r3pun r3fra r3tur r3ft r3fu r3fh r3fd r3fb pas misk len spo kin cam fst lst inr fs fp fn fx fm) (a1 a2 : Int32) : ∃ r, F_X4_ticket sold stk ft fh fd fb a1 a2 = some r ∧ F_X5_ticket fs a1 a2 = some r := by
  obtain ⟨hS, _, _, _⟩ := hR
  have hb := hS.2.2.2.2.2.1
  obtain ⟨σ, k, H, D, ms, hP, hf, hft, ⟨hk, h24, hs⟩, hh, hd, hm, h49, hst⟩ := Rd_of hS
  subst hs hst
  have hm2 := two12 hk hm
  unfold F_X4_ticket F_X5_ticket
  rcases isT hk h24 a1 with ⟨t, ht, e, e1, e2⟩ | ⟨e1, e2⟩
  · subst e
    obtain ⟨a1, a2', a3⟩ := hh t (by omega)
    obtain ⟨b1, b2, b3⟩ := hd t (by omega)
    rw [e1, e2, Option.bind_some, Option.bind_some, if_neg n10, if_neg n10, holT hk ht, Option.bind_some, dueT hk ht, Option.bind_some, l25, l37, ck_ok (by omega) (by omega), ck_ok (by omega) (by omega), tn (by omega), tn (by omega), a2', a3, b2, b3]
    by_cases c0 : a2 = 0
    · rw [if_pos c0, if_pos c0]; exact ⟨_, rfl, rfl⟩
    · rw [if_neg c0, if_neg c0]
      by_cases c1 : a2 = 1
      · rw [if_pos c1, if_pos c1]; exact ⟨_, rfl, rfl⟩
      · rw [if_neg c1, if_neg c1]
        by_cases c2 : a2 = 2
        · rw [if_pos c2, if_pos c2]; exact ⟨_, rfl, rfl⟩
        · rw [if_neg c2, if_neg c2]
          by_cases c3 : a2 = 3
          · rw [if_pos c3, if_pos c3]; exact ⟨_, rfl, rfl⟩
          · rw [if_neg c3, if_neg c3]
            by_cases c4 : a2 = 4
            · rw [if_pos c4, if_pos c4, bc_eq a1, ones_eq (by omega)]; exact ⟨_, rfl, rfl⟩
            · rw [if_neg c4, if_neg c4]
              by_cases c5 : a2 = 5
              · rw [if_pos c5, if_pos c5, (isFa hk ht hh hd).1, (isFa hk ht hh hd).2, Option.bind_some, Option.bind_some]
                unfold F_X4_asNumber
                by_cases d : H t = D t
                · rw [if_pos d]; exact ⟨_, rfl, rfl⟩
                · rw [if_neg d]; exact ⟨_, rfl, rfl⟩
              · rw [if_neg c5, if_neg c5]
                by_cases c6 : a2 = 6
                · rw [if_pos c6, if_pos c6, sameC hP hft a1, sameM hP hf a1]; exact ⟨_, rfl, rfl⟩
                · rw [if_neg c6, if_neg c6]
                  by_cases c7 : a2 = 7
                  · rw [if_pos c7, if_pos c7]
                    unfold F_X3_stacked F_X4_asNumber
                    rw [Option.bind_some]
                    cases d : ms.testBit t
                    · rw [has_f (by omega) d, onF hm2 h49 (by omega) d]; exact ⟨_, rfl, rfl⟩
                    · rw [has_t (by omega) d, onT hm2 h49 (by omega) d]; exact ⟨_, rfl, rfl⟩
                  · rw [if_neg c7, if_neg c7]
                    by_cases c8 : a2 = 8
                    · rw [if_pos c8, if_pos c8, turT hk ht, l50, ck_ok (by omega) (by omega), tn (by omega), hb t (by omega)]; exact ⟨_, rfl, rfl⟩
                    · rw [if_neg c8, if_neg c8]; exact ⟨_, rfl, rfl⟩
  · rw [e1, e2]
    exact ⟨_, rfl, rfl⟩
theorem z_alikeIn {rqa r1qa r2qa r3qa : Nat} {ft fu fh fd fb kft kfu kfh kfd kfb xfc xft rft rfu rfh rfd rfb r1ft r1fu r1fh r1fd r1fb r2ft r2fu r2fh r2fd r2fb r3ft r3fu r3fh r3fd r3fb fs fp fn fx fm : Nat → Int32} {isk sold stk pun fra tur ksold kstk kpun kfra ktur hnx hsz xlen xidx xknd xawt xnum xcam xfst xlst rsold rstk rpun rfra rtur r1sold r1stk r1pun r1fra r1tur r2sold r2stk r2pun r2fra r2tur r3sold r3stk r3pun r3fra r3tur pas misk len spo kin cam fst lst inr : Int32} {fr : Nat → Option Nat} (hR : RR rqa r1qa r2qa r3qa isk sold stk pun fra tur ft fu fh fd fb ksold kstk kpun kfra ktur kft kfu kfh kfd kfb hnx hsz fr xlen xidx xknd xawt xnum xcam xfst xlst xfc xft rsold rstk rpun rfra rtur rft rfu rfh rfd rfb r1sold r1stk r1pun r1fra r1tur r1ft r1fu r1fh r1fd r1fb r2sold r2stk r2pun r2fra r2tur r2ft r2fu r2fh r2fd r2fb r3sold r3stk r3pun r3fra r3tur r3ft r3fu r3fh r3fd r3fb pas misk len spo kin cam fst lst inr fs fp fn fx fm) (a1 a2 : Int32) : ∃ r, F_X4_alikeIn sold ft fh a1 a2 = some r ∧ F_X5_alikeIn fs a1 a2 = some r := by
  obtain ⟨hS, _, _, _⟩ := hR
  obtain ⟨σ, k, H, D, ms, hP, hf, hft, ⟨hk, h24, hs⟩, hh, hd, hm, h49, hst⟩ := Rd_of hS
  subst hs hst
  unfold F_X4_alikeIn F_X5_alikeIn
  rcases isT hk h24 a1 with ⟨t, ht, e, e1, e2⟩ | ⟨e1, e2⟩
  · subst e
    obtain ⟨x1, x2, x3⟩ := hh t (by omega)
    rw [e1, e2, Option.bind_some, Option.bind_some, if_neg n10, if_neg n10]
    rcases isT hk h24 a2 with ⟨u, hu, e, e1, e2⟩ | ⟨e1, e2⟩
    · subst e
      obtain ⟨y1, y2, y3⟩ := hh u (by omega)
      rw [e1, e2, Option.bind_some, Option.bind_some, if_neg n10, if_neg n10, holT hk ht, holT hk hu, Option.bind_some, Option.bind_some, l25, l25, ck_ok (by omega) (by omega), ck_ok (by omega) (by omega), tn (by omega), tn (by omega), x2, x3, y2, y3, alC hP hft x1 y1, alM hP hf x1 y1]
      exact ⟨_, rfl, rfl⟩
    · rw [e1, e2]
      exact ⟨_, rfl, rfl⟩
  · rw [e1, e2]
    exact ⟨_, rfl, rfl⟩
theorem z_meetsIn {rqa r1qa r2qa r3qa : Nat} {ft fu fh fd fb kft kfu kfh kfd kfb xfc xft rft rfu rfh rfd rfb r1ft r1fu r1fh r1fd r1fb r2ft r2fu r2fh r2fd r2fb r3ft r3fu r3fh r3fd r3fb fs fp fn fx fm : Nat → Int32} {isk sold stk pun fra tur ksold kstk kpun kfra ktur hnx hsz xlen xidx xknd xawt xnum xcam xfst xlst rsold rstk rpun rfra rtur r1sold r1stk r1pun r1fra r1tur r2sold r2stk r2pun r2fra r2tur r3sold r3stk r3pun r3fra r3tur pas misk len spo kin cam fst lst inr : Int32} {fr : Nat → Option Nat} (hR : RR rqa r1qa r2qa r3qa isk sold stk pun fra tur ft fu fh fd fb ksold kstk kpun kfra ktur kft kfu kfh kfd kfb hnx hsz fr xlen xidx xknd xawt xnum xcam xfst xlst xfc xft rsold rstk rpun rfra rtur rft rfu rfh rfd rfb r1sold r1stk r1pun r1fra r1tur r1ft r1fu r1fh r1fd r1fb r2sold r2stk r2pun r2fra r2tur r2ft r2fu r2fh r2fd r2fb r3sold r3stk r3pun r3fra r3tur r3ft r3fu r3fh r3fd r3fb pas misk len spo kin cam fst lst inr fs fp fn fx fm) (a1 a2 : Int32) : ∃ r, F_X4_meetsIn sold ft fh a1 a2 = some r ∧ F_X5_meetsIn fs a1 a2 = some r := by
  obtain ⟨hS, _, _, _⟩ := hR
  obtain ⟨σ, k, H, D, ms, hP, hf, hft, ⟨hk, h24, hs⟩, hh, hd, hm, h49, hst⟩ := Rd_of hS
  subst hs hst
  unfold F_X4_meetsIn F_X5_meetsIn
  rcases isT hk h24 a1 with ⟨t, ht, e, e1, e2⟩ | ⟨e1, e2⟩
  · subst e
    obtain ⟨x1, x2, x3⟩ := hh t (by omega)
    rw [e1, e2, Option.bind_some, Option.bind_some, if_neg n10, if_neg n10]
    rcases isT hk h24 a2 with ⟨u, hu, e, e1, e2⟩ | ⟨e1, e2⟩
    · subst e
      obtain ⟨y1, y2, y3⟩ := hh u (by omega)
      rw [e1, e2, Option.bind_some, Option.bind_some, if_neg n10, if_neg n10, holT hk ht, holT hk hu, Option.bind_some, Option.bind_some, orderM hP hf, Option.bind_some, l25, ck_ok (by omega) (by omega), tn (by omega), x2, x3, y3, mtC hP hft x1, mtM hP hf (by omega) x1 y2]
      exact ⟨_, rfl, rfl⟩
    · rw [e1, e2]
      exact ⟨_, rfl, rfl⟩
  · rw [e1, e2]
    exact ⟨_, rfl, rfl⟩
theorem z_reason {rqa r1qa r2qa r3qa : Nat} {ft fu fh fd fb kft kfu kfh kfd kfb xfc xft rft rfu rfh rfd rfb r1ft r1fu r1fh r1fd r1fb r2ft r2fu r2fh r2fd r2fb r3ft r3fu r3fh r3fd r3fb fs fp fn fx fm : Nat → Int32} {isk sold stk pun fra tur ksold kstk kpun kfra ktur hnx hsz xlen xidx xknd xawt xnum xcam xfst xlst rsold rstk rpun rfra rtur r1sold r1stk r1pun r1fra r1tur r2sold r2stk r2pun r2fra r2tur r3sold r3stk r3pun r3fra r3tur pas misk len spo kin cam fst lst inr : Int32} {fr : Nat → Option Nat} (hR : RR rqa r1qa r2qa r3qa isk sold stk pun fra tur ft fu fh fd fb ksold kstk kpun kfra ktur kft kfu kfh kfd kfb hnx hsz fr xlen xidx xknd xawt xnum xcam xfst xlst xfc xft rsold rstk rpun rfra rtur rft rfu rfh rfd rfb r1sold r1stk r1pun r1fra r1tur r1ft r1fu r1fh r1fd r1fb r2sold r2stk r2pun r2fra r2tur r2ft r2fu r2fh r2fd r2fb r3sold r3stk r3pun r3fra r3tur r3ft r3fu r3fh r3fd r3fb pas misk len spo kin cam fst lst inr fs fp fn fx fm) (a1 a2 : Int32) : ∃ r, F_X4_reason sold ft fh a1 a2 = some r ∧ F_X5_reason fs a1 a2 = some r := by
  obtain ⟨hS, _, _, _⟩ := hR
  obtain ⟨σ, k, H, D, ms, hP, hf, hft, ⟨hk, h24, hs⟩, hh, hd, hm, h49, hst⟩ := Rd_of hS
  subst hs hst
  unfold F_X4_reason F_X5_reason
  rcases isT hk h24 a1 with ⟨t, ht, e, e1, e2⟩ | ⟨e1, e2⟩
  · subst e
    obtain ⟨x1, x2, x3⟩ := hh t (by omega)
    rw [e1, e2, Option.bind_some, Option.bind_some, if_neg n10, if_neg n10]
    rcases isT hk h24 a2 with ⟨u, hu, e, e1, e2⟩ | ⟨e1, e2⟩
    · subst e
      obtain ⟨y1, y2, y3⟩ := hh u (by omega)
      rw [e1, e2, Option.bind_some, Option.bind_some, if_neg n10, if_neg n10, holT hk ht, holT hk hu, Option.bind_some, Option.bind_some, l25, l25, ck_ok (by omega) (by omega), ck_ok (by omega) (by omega), tn (by omega), tn (by omega), x2, x3, y2, y3, bc_eq x1, bc_eq y1, ones_eq (by omega), ones_eq (by omega), Option.bind_some, Option.bind_some, Option.bind_some, Option.bind_some]
      by_cases c : nI (pc (H t)) = nI (pc (H u))
      · rw [if_pos c, if_pos c]
        by_cases d : lkP σ (H t) (H u) 24
        · rw [show F_X1_hasLikeNumbersInRounds ft (nI (H t)) (nI (H u)) = some 1 from lkC_t hP hft x1 y1 d 10000 0 (Nat.zero_le _) (by omega), Option.bind_some, if_neg n10, alC hP hft x1 y1, Option.bind_some, show F_X5_reason_59 fs 10000 (nI t) (nI u) (nI (H t)) (nI (H u)) 1 0 = some (if alv σ (H t) (H u) = -5 then 3 else 0) from lkM_t hP hf x1 y1 _ _ d 10000 0 (Nat.zero_le _) (by omega)]
          by_cases e : alv σ (H t) (H u) = -5
          · rw [if_pos e, if_pos e]; exact ⟨_, rfl, rfl⟩
          · rw [if_neg e, if_neg e]; exact ⟨_, rfl, rfl⟩
        · have z : lkP σ (H t) (H u) 0 := fun q hq => absurd hq (Nat.not_lt_zero _)
          rw [show F_X1_hasLikeNumbersInRounds ft (nI (H t)) (nI (H u)) = some 0 from lkC_f hP hft x1 y1 d 10000 0 z (Nat.zero_le _) (by omega), Option.bind_some, if_pos rfl, show F_X5_reason_59 fs 10000 (nI t) (nI u) (nI (H t)) (nI (H u)) 1 0 = some 2 from lkM_f hP hf x1 y1 _ _ d 10000 0 z (Nat.zero_le _) (by omega)]
          exact ⟨_, rfl, rfl⟩
      · rw [if_neg c, if_neg c]
        exact ⟨_, rfl, rfl⟩
    · rw [e1, e2]
      exact ⟨_, rfl, rfl⟩
  · rw [e1, e2]
    exact ⟨_, rfl, rfl⟩
theorem z_kin {rqa r1qa r2qa r3qa : Nat} {ft fu fh fd fb kft kfu kfh kfd kfb xfc xft rft rfu rfh rfd rfb r1ft r1fu r1fh r1fd r1fb r2ft r2fu r2fh r2fd r2fb r3ft r3fu r3fh r3fd r3fb fs fp fn fx fm : Nat → Int32} {isk sold stk pun fra tur ksold kstk kpun kfra ktur hnx hsz xlen xidx xknd xawt xnum xcam xfst xlst rsold rstk rpun rfra rtur r1sold r1stk r1pun r1fra r1tur r2sold r2stk r2pun r2fra r2tur r3sold r3stk r3pun r3fra r3tur pas misk len spo kin cam fst lst inr : Int32} {fr : Nat → Option Nat} (hR : RR rqa r1qa r2qa r3qa isk sold stk pun fra tur ft fu fh fd fb ksold kstk kpun kfra ktur kft kfu kfh kfd kfb hnx hsz fr xlen xidx xknd xawt xnum xcam xfst xlst xfc xft rsold rstk rpun rfra rtur rft rfu rfh rfd rfb r1sold r1stk r1pun r1fra r1tur r1ft r1fu r1fh r1fd r1fb r2sold r2stk r2pun r2fra r2tur r2ft r2fu r2fh r2fd r2fb r3sold r3stk r3pun r3fra r3tur r3ft r3fu r3fh r3fd r3fb pas misk len spo kin cam fst lst inr fs fp fn fx fm) (a1 : Int32) : ∃ r, F_X4_kin sold ft fh a1 = some r ∧ F_X5_kin fs a1 = some r := by
  obtain ⟨hS, _, _, _⟩ := hR
  obtain ⟨σ, k, H, D, ms, hP, hf, hft, ⟨hk, h24, hs⟩, hh, hd, hm, h49, hst⟩ := Rd_of hS
  subst hs hst
  unfold F_X4_kin F_X5_kin
  rcases isT hk h24 a1 with ⟨t, ht, e, e1, e2⟩ | ⟨e1, e2⟩
  · subst e
    obtain ⟨x1, x2, x3⟩ := hh t (by omega)
    have h1 := od_le hP
    have hC : F_X3_kinOf (nI k) ft fh (nI t) = some (nI (knF σ H k t (od σ))) := by
      unfold F_X3_kinOf
      rw [holT hk ht, Option.bind_some, orderC hP hft, Option.bind_some, x3]
      have := knC_lp (t := t) hP hft hk (fun t ht => ⟨(hh t ht).1, (hh t ht).2.2⟩) (nI t) 10000 0 (Nat.zero_le _) (by omega)
      rw [MV_0 x1] at this
      exact this
    have hM : F_X5_kin_14 fs 10000 (nI t) 0 0 = some (nI (kmF σ H t k)) := knM_lp hP hf hk ht h24 (fun t ht => ⟨(hh t ht).1, (hh t ht).2.1⟩) 10000 0 (Nat.zero_le _) (by omega)
    rw [e1, e2, Option.bind_some, Option.bind_some, if_neg n10, if_neg n10, hC, hM, kn_same hP x1 (fun s hs => (hh s (by omega)).1)]
    exact ⟨_, rfl, rfl⟩
  · rw [e1, e2]
    exact ⟨_, rfl, rfl⟩
theorem z_light {rqa r1qa r2qa r3qa : Nat} {ft fu fh fd fb kft kfu kfh kfd kfb xfc xft rft rfu rfh rfd rfb r1ft r1fu r1fh r1fd r1fb r2ft r2fu r2fh r2fd r2fb r3ft r3fu r3fh r3fd r3fb fs fp fn fx fm : Nat → Int32} {isk sold stk pun fra tur ksold kstk kpun kfra ktur hnx hsz xlen xidx xknd xawt xnum xcam xfst xlst rsold rstk rpun rfra rtur r1sold r1stk r1pun r1fra r1tur r2sold r2stk r2pun r2fra r2tur r3sold r3stk r3pun r3fra r3tur pas misk len spo kin cam fst lst inr : Int32} {fr : Nat → Option Nat} (hR : RR rqa r1qa r2qa r3qa isk sold stk pun fra tur ft fu fh fd fb ksold kstk kpun kfra ktur kft kfu kfh kfd kfb hnx hsz fr xlen xidx xknd xawt xnum xcam xfst xlst xfc xft rsold rstk rpun rfra rtur rft rfu rfh rfd rfb r1sold r1stk r1pun r1fra r1tur r1ft r1fu r1fh r1fd r1fb r2sold r2stk r2pun r2fra r2tur r2ft r2fu r2fh r2fd r2fb r3sold r3stk r3pun r3fra r3tur r3ft r3fu r3fh r3fd r3fb pas misk len spo kin cam fst lst inr fs fp fn fx fm) : ∃ r, F_X4_light sold stk fh = some r ∧ F_X5_light fs = some r := by
  obtain ⟨hS, _, _, _⟩ := hR
  obtain ⟨σ, k, H, D, ms, hP, hf, hft, ⟨hk, h24, hs⟩, hh, hd, hm, h49, hst⟩ := Rd_of hS
  subst hs hst
  obtain ⟨r, _, h1, h2⟩ := light_both hk h24 hm h49 hh
  unfold F_X4_light F_X5_light
  rw [h1, h2]
  exact ⟨_, rfl, rfl⟩
def cl (ms t : Nat) : Nat := ms &&& ((2 ^ 32 - 1) ^^^ 2 ^ t)
theorem clr (ms t : Nat) : nI ms &&& (nI (2 ^ t) ^^^ (-1)) = nI (cl ms t) := by
  rw [show (-1 : Int32) = nI (2 ^ 32 - 1) by decide, fb_xorI, fa_and, Nat.xor_comm]
  rfl
theorem cl_lt {k ms t : Nat} (hm : ms < 2 ^ k) : cl ms t < 2 ^ k := Nat.lt_of_le_of_lt Nat.and_le_left hm
theorem cl_bit {ms t s : Nat} (hs : s < 12) : (cl ms t).testBit s = true ↔ ms.testBit s = true ∧ ¬ s = t := by
  unfold cl
  rw [Nat.testBit_and, fb_bit_flip, Nat.testBit_two_pow_sub_one, Bool.and_eq_true, decide_eq_true (show s < 32 by omega), Bool.true_xor, Bool.not_eq_true', decide_eq_false_iff_not]
theorem bpC {σ : Nat → Nat} {k ms t : Nat} {H : Nat → Nat} {ft fh : Nat → Int32} (hP : Pm σ) (hft : Mv σ ft) (hk : k ≤ 12) (ht : t < k) (hm : ms < 2 ^ k) (hh : ∀ t, t < 12 → H t < 2 ^ 24 ∧ fh t = nI (H t)) : F_X3_bestPower (nI k) (nI ms) ft fh (nI t) = some (nI (bi (lgt σ (H t) (lbF H (cl ms t) k)) (od σ))) := by
  obtain ⟨x1, x2⟩ := hh t (by omega)
  have h0 := od_pos σ
  have h1 := od_le hP
  unfold F_X3_bestPower
  rw [only_eq (by omega), Option.bind_some, clr, chC hk (cl_lt hm) hh, Option.bind_some, holT hk ht, Option.bind_some, orderC hP hft, Option.bind_some, x2, fa_and, bc_eq (and_lt24 x1 _), Option.bind_some]
  have hr := bpC_lp (fh := fh) (a := H t) (c := lbF H (cl ms t) k) hP hft (nI k) (nI ms) (nI t) 10000 1 (by omega) h0 (by omega)
  rw [bi_1, show lgt σ (H t) (lbF H (cl ms t) k) 0 = pc (H t &&& lbF H (cl ms t) k) by unfold lgt; rw [MV_0 x1], show 1 - 1 = 0 from rfl, MV_0 x1] at hr
  exact hr
theorem fm_nI {b d : Nat} (h : b < d) (hd : d ≤ 6561) : fm (nI b) d = b := by
  unfold fm
  rw [nI_toInt (by omega), ← Int.natCast_emod, Nat.mod_eq_of_lt h]
  rfl
theorem mlC {σ : Nat → Nat} {k ms t : Nat} {H : Nat → Nat} {ft fh : Nat → Int32} (hP : Pm σ) (hft : Mv σ ft) (hk : k ≤ 12) (ht : t < k) (hm : ms < 2 ^ k) (hh : ∀ t, t < 12 → H t < 2 ^ 24 ∧ fh t = nI (H t)) : F_X3_mostLight (nI k) (nI ms) ft fh (nI t) = some (nI (lgt σ (H t) (lbF H (cl ms t) k) (bi (lgt σ (H t) (lbF H (cl ms t) k)) (od σ)))) := by
  obtain ⟨x1, x2⟩ := hh t (by omega)
  have h0 := od_pos σ
  have h1 := od_le hP
  have h2 : bi (lgt σ (H t) (lbF H (cl ms t) k)) (od σ) < od σ := by
    obtain ⟨m, e⟩ : ∃ m, od σ = m + 1 := ⟨od σ - 1, by omega⟩
    rw [e]
    exact bi_lt _ m
  have h3 : (nI (bi (lgt σ (H t) (lbF H (cl ms t) k)) (od σ))).toInt = (bi (lgt σ (H t) (lbF H (cl ms t) k)) (od σ) : Int) := nI_toInt (by omega)
  unfold F_X3_mostLight
  rw [only_eq (by omega), Option.bind_some, clr, chC hk (cl_lt hm) hh, Option.bind_some, holT hk ht, Option.bind_some, bpC hP hft hk ht hm hh, Option.bind_some, x2, movedBy_eq hP hft (by omega) (by omega), Option.bind_some, fm_nI h2 h1, fa_and, bc_eq (and_lt24 (MV_lt hP _ _) _), Option.bind_some]
  rfl
theorem z_bestTurn {rqa r1qa r2qa r3qa : Nat} {ft fu fh fd fb kft kfu kfh kfd kfb xfc xft rft rfu rfh rfd rfb r1ft r1fu r1fh r1fd r1fb r2ft r2fu r2fh r2fd r2fb r3ft r3fu r3fh r3fd r3fb fs fp fn fx fm : Nat → Int32} {isk sold stk pun fra tur ksold kstk kpun kfra ktur hnx hsz xlen xidx xknd xawt xnum xcam xfst xlst rsold rstk rpun rfra rtur r1sold r1stk r1pun r1fra r1tur r2sold r2stk r2pun r2fra r2tur r3sold r3stk r3pun r3fra r3tur pas misk len spo kin cam fst lst inr : Int32} {fr : Nat → Option Nat} (hR : RR rqa r1qa r2qa r3qa isk sold stk pun fra tur ft fu fh fd fb ksold kstk kpun kfra ktur kft kfu kfh kfd kfb hnx hsz fr xlen xidx xknd xawt xnum xcam xfst xlst xfc xft rsold rstk rpun rfra rtur rft rfu rfh rfd rfb r1sold r1stk r1pun r1fra r1tur r1ft r1fu r1fh r1fd r1fb r2sold r2stk r2pun r2fra r2tur r2ft r2fu r2fh r2fd r2fb r3sold r3stk r3pun r3fra r3tur r3ft r3fu r3fh r3fd r3fb pas misk len spo kin cam fst lst inr fs fp fn fx fm) (a1 a2 : Int32) : ∃ r, F_X4_bestTurn sold stk ft fh a1 a2 = some r ∧ F_X5_bestTurn fs a1 a2 = some r := by
  obtain ⟨hS, _, _, _⟩ := hR
  obtain ⟨σ, k, H, D, ms, hP, hf, hft, ⟨hk, h24, hs⟩, hh, hd, hm, h49, hst⟩ := Rd_of hS
  subst hs hst
  have hm2 := two12 hk hm
  unfold F_X4_bestTurn F_X5_bestTurn
  rcases isT hk h24 a1 with ⟨t, ht, e, e1, e2⟩ | ⟨e1, e2⟩
  · subst e
    obtain ⟨x1, x2, x3⟩ := hh t (by omega)
    rw [e1, e2, Option.bind_some, Option.bind_some, if_neg n10, if_neg n10]
    unfold F_X5_in F_X3_stacked
    by_cases c : a2 < 0
    · rw [if_pos c, if_pos c]; exact ⟨_, rfl, rfl⟩
    · rw [if_neg c, if_neg c]
      by_cases c1 : a2 ≤ 1
      · have c2 : ¬ 1 < a2 := fun q => by rw [fa_le] at c1; rw [fa_lt] at q; omega
        rw [if_pos c1, if_neg c2, Option.bind_some, Option.bind_some, if_neg n10]
        cases d : ms.testBit t
        · rw [has_f (by omega) d, onF hm2 h49 (by omega) d]; exact ⟨_, rfl, rfl⟩
        · rw [has_t (by omega) d, onT hm2 h49 (by omega) d, Option.bind_some, Option.bind_some, if_neg n10, if_neg n10, bpC hP hft hk ht hm (fun t ht => ⟨(hh t ht).1, (hh t ht).2.2⟩), mlC hP hft hk ht hm (fun t ht => ⟨(hh t ht).1, (hh t ht).2.2⟩), lbM (m := cl ms t) hk h24 hm2 h49 (fun t ht => ⟨(hh t ht).1, (hh t ht).2.1⟩) (fun s hs => (cl_bit hs).trans ⟨fun q => ⟨q.1, fun z => q.2 ((nI_eq (by omega) (by omega)).mp z)⟩, fun q => ⟨q.1, fun z => q.2 (by rw [z])⟩⟩), Option.bind_some, Option.bind_some, Option.bind_some, orderM hP hf, Option.bind_some, l25, ck_ok (by omega) (by omega), tn (by omega), x2, btM_0 hP hf x1]
          by_cases f : a2 = 0
          · rw [if_pos f, if_pos f]; exact ⟨_, rfl, rfl⟩
          · rw [if_neg f, if_neg f]; exact ⟨_, rfl, rfl⟩
      · have c2 : 1 < a2 := by rw [fa_le] at c1; rw [fa_lt]; omega
        rw [if_neg c1, if_pos c2]; exact ⟨_, rfl, rfl⟩
  · rw [e1, e2]
    exact ⟨_, rfl, rfl⟩
theorem z_count {rqa r1qa r2qa r3qa : Nat} {ft fu fh fd fb kft kfu kfh kfd kfb xfc xft rft rfu rfh rfd rfb r1ft r1fu r1fh r1fd r1fb r2ft r2fu r2fh r2fd r2fb r3ft r3fu r3fh r3fd r3fb fs fp fn fx fm : Nat → Int32} {isk sold stk pun fra tur ksold kstk kpun kfra ktur hnx hsz xlen xidx xknd xawt xnum xcam xfst xlst rsold rstk rpun rfra rtur r1sold r1stk r1pun r1fra r1tur r2sold r2stk r2pun r2fra r2tur r3sold r3stk r3pun r3fra r3tur pas misk len spo kin cam fst lst inr : Int32} {fr : Nat → Option Nat} (hR : RR rqa r1qa r2qa r3qa isk sold stk pun fra tur ft fu fh fd fb ksold kstk kpun kfra ktur kft kfu kfh kfd kfb hnx hsz fr xlen xidx xknd xawt xnum xcam xfst xlst xfc xft rsold rstk rpun rfra rtur rft rfu rfh rfd rfb r1sold r1stk r1pun r1fra r1tur r1ft r1fu r1fh r1fd r1fb r2sold r2stk r2pun r2fra r2tur r2ft r2fu r2fh r2fd r2fb r3sold r3stk r3pun r3fra r3tur r3ft r3fu r3fh r3fd r3fb pas misk len spo kin cam fst lst inr fs fp fn fx fm) (a1 : Int32) : ∃ r, F_X4_count sold stk pun fra tur fh fd hsz xlen a1 = some r ∧ F_X5_count pas len fs a1 = some r := by
  obtain ⟨hS, _, hH, hT⟩ := hR
  obtain ⟨n, x, _, _, hsz, hpas, _⟩ := hH
  obtain ⟨n2, _, hxl, hln, _⟩ := hT
  have hpun := hS.2.2.2.2.2.2.2.2.1
  have hfra := hS.2.2.2.2.2.2.2.2.2.1
  have htur := hS.2.2.2.2.2.2.2.2.2.2
  obtain ⟨σ, k, H, D, ms, hP, hf, hft, ⟨hk, h24, hs⟩, hh, hd, hm, h49, hst⟩ := Rd_of hS
  subst hs hst
  have hm2 := two12 hk hm
  obtain ⟨r, hr, h1, h2⟩ := light_both hk h24 hm h49 hh
  have f1 : F_X3_falseTickets (nI k) fh fd = some (nI (flF H D k)) := flC_lp hk hh hd 10000 0 (Nat.zero_le _) (by omega)
  have f2 : F_X5_falseOnes fs = some (nI (flF H D k)) := flM_lp hk h24 hh hd 10000 0 (Nat.zero_le _) (by omega)
  have f3 : F_X3_allHoles (nI k) fh = some (nI (fb_sm (fun t => pc (H t)) k)) := ahC_lp hk (fun t ht => ⟨(hh t ht).1, (hh t ht).2.2⟩) 10000 0 (Nat.zero_le _) (by omega)
  have f4 : F_X3_allDue (nI k) fd = some (nI (fb_sm (fun t => pc (D t)) k)) := by
    unfold F_X3_allDue
    rw [adC_same]
    exact ahC_lp hk (fun t ht => ⟨(hd t ht).1, (hd t ht).2.2⟩) 10000 0 (Nat.zero_le _) (by omega)
  have f5 : F_X5_allOf fs 25 = some (nI (fb_sm (fun t => pc (H t)) k)) := aoM_lp (o := 25) (by omega) hk h24 (fun t ht => ⟨(hh t ht).1, (hh t ht).2.1⟩) 10000 0 (Nat.zero_le _) (by omega)
  have f6 : F_X5_allOf fs 37 = some (nI (fb_sm (fun t => pc (D t)) k)) := aoM_lp (o := 37) (by omega) hk h24 (fun t ht => ⟨(hd t ht).1, (hd t ht).2.1⟩) 10000 0 (Nat.zero_le _) (by omega)
  unfold F_X4_count F_X5_count F_X3_sold F_X3_stacked F_X3_punched F_X3_frauds F_X3_turns F_X0_size F_X2_length
  rw [f1, f2, f3, f4, f5, f6, h1, h2, k24, k49, k62, k63, k64, t24, t49, t62, t63, t64, h24, h49, ← hpun, ← hfra, ← htur, hsz, hpas, hxl, hln]
  by_cases c0 : a1 = 0
  · rw [if_pos c0, if_pos c0]; exact ⟨_, rfl, rfl⟩
  rw [if_neg c0, if_neg c0]
  by_cases c0 : a1 = 1
  · rw [if_pos c0, if_pos c0, Option.bind_some, bc_eq (by omega), ones_eq (by omega)]; exact ⟨_, rfl, rfl⟩
  rw [if_neg c0, if_neg c0]
  by_cases c0 : a1 = 2
  · rw [if_pos c0, if_pos c0]; exact ⟨_, rfl, rfl⟩
  rw [if_neg c0, if_neg c0]
  by_cases c0 : a1 = 3
  · rw [if_pos c0, if_pos c0]; exact ⟨_, rfl, rfl⟩
  rw [if_neg c0, if_neg c0]
  by_cases c0 : a1 = 4
  · rw [if_pos c0, if_pos c0]; exact ⟨_, rfl, rfl⟩
  rw [if_neg c0, if_neg c0]
  by_cases c0 : a1 = 5
  · rw [if_pos c0, if_pos c0, Option.bind_some, Option.bind_some, bc_eq hr, ones_eq (by omega)]; exact ⟨_, rfl, rfl⟩
  rw [if_neg c0, if_neg c0]
  by_cases c0 : a1 = 6
  · rw [if_pos c0, if_pos c0]; exact ⟨_, rfl, rfl⟩
  rw [if_neg c0, if_neg c0]
  by_cases c0 : a1 = 7
  · rw [if_pos c0, if_pos c0]; exact ⟨_, rfl, rfl⟩
  rw [if_neg c0, if_neg c0]
  by_cases c0 : a1 = 8
  · rw [if_pos c0, if_pos c0]; exact ⟨_, rfl, rfl⟩
  rw [if_neg c0, if_neg c0]
  by_cases c0 : a1 = 9
  · rw [if_pos c0, if_pos c0]; exact ⟨_, rfl, rfl⟩
  rw [if_neg c0, if_neg c0]
  by_cases c0 : a1 = 10
  · rw [if_pos c0, if_pos c0]; exact ⟨_, rfl, rfl⟩
  rw [if_neg c0, if_neg c0]
  exact ⟨_, rfl, rfl⟩
