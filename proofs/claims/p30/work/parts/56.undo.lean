/-! undo, keep, restore, the text -/
theorem undo_lp (fs fp : Nat → Int32) {m : Nat} (hm : m < 4) : ∀ (n i : Nat), i ≤ 65 → 65 - i < n → F_X5_undo_22 fp n (nI i) (nI m) (fb_put fs (ps fp m) 0 i) = some (nI m, nI m, fb_put fs (ps fp m) 0 65) := by
  intro n
  induction n with
  | zero => intro i _ h; omega
  | succ n ih =>
    intro i hi hn
    rw [F_X5_undo_22]
    by_cases c : 65 ≤ i
    · rw [if_pos ((le65 (by omega)).mpr c), show i = 65 by omega]
    · rw [if_neg (fun q => c ((le65 (by omega)).mp q)), show (65 : Int32) * nI m = nI (65 * m) from pk_mul 65 m, nI_add, ck_ok (by omega) (by omega), ck_ok (by omega) (by omega), tn (by omega), tn (by omega), l1]
      have := ih (i + 1) (by omega) (by omega)
      rw [← fb_put_succ, Nat.zero_add] at this
      exact this
theorem keep_lp (fs fn : Nat → Int32) (mi : Int32) : ∀ (n i : Nat), i ≤ 65 → 65 - i < n → F_X5_keep_2 fs n (nI i) mi (fb_put fn fs 0 i) = some (fs 24, 1, fb_put fn fs 0 65) := by
  intro n
  induction n with
  | zero => intro i _ h; omega
  | succ n ih =>
    intro i hi hn
    rw [F_X5_keep_2]
    by_cases c : 65 ≤ i
    · rw [if_pos ((le65 (by omega)).mpr c), k24, t24, show i = 65 by omega]
    · rw [if_neg (fun q => c ((le65 (by omega)).mp q)), ck_ok (by omega) (by omega), ck_ok (by omega) (by omega), tn (by omega), l1]
      have := ih (i + 1) (by omega) (by omega)
      rw [← fb_put_succ, Nat.zero_add] at this
      exact this
theorem rest_lp (fs fn : Nat → Int32) (mi pas : Int32) (fp : Nat → Int32) : ∀ (n i : Nat), i ≤ 65 → 65 - i < n → F_X5_restore_16 mi fn n (nI i) pas (fb_put fs fn 0 i) fp = some (fn 24, pas, fb_put fs fn 0 65, fp) := by
  intro n
  induction n with
  | zero => intro i _ h; omega
  | succ n ih =>
    intro i hi hn
    rw [F_X5_restore_16]
    by_cases c : 65 ≤ i
    · rw [if_pos ((le65 (by omega)).mpr c), k24, t24, show i = 65 by omega, fb_put_in (by omega) (by omega)]
    · rw [if_neg (fun q => c ((le65 (by omega)).mp q)), ck_ok (by omega) (by omega), ck_ok (by omega) (by omega), tn (by omega), l1]
      have := ih (i + 1) (by omega) (by omega)
      rw [← fb_put_succ, Nat.zero_add] at this
      exact this
theorem put65 (f g : Nat → Int32) : ∀ k, k < 65 → g k = fb_put f g 0 65 k := fun k hk => by rw [fb_put_in (by omega) (by omega)]; rfl
theorem z_undo {rqa r1qa r2qa r3qa : Nat} {ft fu fh fd fb kft kfu kfh kfd kfb xfc xft rft rfu rfh rfd rfb r1ft r1fu r1fh r1fd r1fb r2ft r2fu r2fh r2fd r2fb r3ft r3fu r3fh r3fd r3fb fs fp fn fx fm : Nat → Int32} {isk sold stk pun fra tur ksold kstk kpun kfra ktur hnx hsz xlen xidx xknd xawt xnum xcam xfst xlst rsold rstk rpun rfra rtur r1sold r1stk r1pun r1fra r1tur r2sold r2stk r2pun r2fra r2tur r3sold r3stk r3pun r3fra r3tur pas misk len spo kin cam fst lst inr : Int32} {fr : Nat → Option Nat} (hR : RR rqa r1qa r2qa r3qa isk sold stk pun fra tur ft fu fh fd fb ksold kstk kpun kfra ktur kft kfu kfh kfd kfb hnx hsz fr xlen xidx xknd xawt xnum xcam xfst xlst xfc xft rsold rstk rpun rfra rtur rft rfu rfh rfd rfb r1sold r1stk r1pun r1fra r1tur r1ft r1fu r1fh r1fd r1fb r2sold r2stk r2pun r2fra r2tur r2ft r2fu r2fh r2fd r2fb r3sold r3stk r3pun r3fra r3tur r3ft r3fu r3fh r3fd r3fb pas misk len spo kin cam fst lst inr fs fp fn fx fm) : ∃ rr1 rr2, F_X4_undo sold stk pun fra tur ft fu fh fd fb hnx hsz fr r3sold r3stk r3pun r3fra r3tur r3ft r3fu r3fh r3fd r3fb r3qa = some rr1 ∧ F_X5_undo pas fs fp = some rr2 ∧ rr1.1 = rr2.1 ∧ (RR rqa r1qa r2qa r3qa isk rr1.2.1 rr1.2.2.1 rr1.2.2.2.1 rr1.2.2.2.2.1 rr1.2.2.2.2.2.1 rr1.2.2.2.2.2.2.1 rr1.2.2.2.2.2.2.2.1 rr1.2.2.2.2.2.2.2.2.1 rr1.2.2.2.2.2.2.2.2.2.1 rr1.2.2.2.2.2.2.2.2.2.2.1 ksold kstk kpun kfra ktur kft kfu kfh kfd kfb rr1.2.2.2.2.2.2.2.2.2.2.2.1 rr1.2.2.2.2.2.2.2.2.2.2.2.2 fr xlen xidx xknd xawt xnum xcam xfst xlst xfc xft rsold rstk rpun rfra rtur rft rfu rfh rfd rfb r1sold r1stk r1pun r1fra r1tur r1ft r1fu r1fh r1fd r1fb r2sold r2stk r2pun r2fra r2tur r2ft r2fu r2fh r2fd r2fb r3sold r3stk r3pun r3fra r3tur r3ft r3fu r3fh r3fd r3fb rr2.2.1 misk len spo kin cam fst lst inr rr2.2.2 fp fn fx fm ∨ RR r3qa rqa r1qa r2qa isk rr1.2.1 rr1.2.2.1 rr1.2.2.2.1 rr1.2.2.2.2.1 rr1.2.2.2.2.2.1 rr1.2.2.2.2.2.2.1 rr1.2.2.2.2.2.2.2.1 rr1.2.2.2.2.2.2.2.2.1 rr1.2.2.2.2.2.2.2.2.2.1 rr1.2.2.2.2.2.2.2.2.2.2.1 ksold kstk kpun kfra ktur kft kfu kfh kfd kfb rr1.2.2.2.2.2.2.2.2.2.2.2.1 rr1.2.2.2.2.2.2.2.2.2.2.2.2 fr xlen xidx xknd xawt xnum xcam xfst xlst xfc xft r3sold r3stk r3pun r3fra r3tur r3ft r3fu r3fh r3fd r3fb rsold rstk rpun rfra rtur rft rfu rfh rfd rfb r1sold r1stk r1pun r1fra r1tur r1ft r1fu r1fh r1fd r1fb r2sold r2stk r2pun r2fra r2tur r2ft r2fu r2fh r2fd r2fb rr2.2.1 misk len spo kin cam fst lst inr rr2.2.2 fp fn fx fm) := by
  have hR0 := hR
  obtain ⟨hS, hK, hH, hT⟩ := hR
  obtain ⟨n, x, hn, hx, hsz1, hpas, hnx1, g0, g1, g2, g3, q3, q2, q1, q0⟩ := hH
  subst hsz1 hpas hnx1
  unfold F_X4_undo F_X5_undo F_X0_size
  rw [Option.bind_some]
  by_cases c : n = 0
  · rw [if_pos (by rw [c]; rfl), if_pos (by rw [c]; rfl)]
    exact ⟨_, _, rfl, rfl, rfl, Or.inl hR0⟩
  · have c2 : ¬ nI n = 0 := fun q => c ((eq0 (by omega)).mp q)
    have c3 : ¬ nI n ≤ 0 := fun q => c ((leN0 (by omega)).mp q)
    obtain ⟨ft', fu', fh', fd', fb', hc, hs'⟩ := copyC (q3 (by omega)) sold stk pun fra tur ft fu fh fd fb
    have hT1 : F_X0_takeLatest (nI x) (nI n) fr sold stk pun fra tur ft fu fh fd fb r3sold r3stk r3pun r3fra r3tur r3ft r3fu r3fh r3fd r3fb r3qa = some (nI ((x + 3) % 4), nI (n - 1), r3sold, r3stk, r3pun, r3fra, r3tur, ft', fu', fh', fd', fb') := by
      unfold F_X0_takeLatest
      by_cases d : x = 0
      · subst d
        rw [if_pos (by decide), show (3 : Int32) = nI 3 from rfl, rowC (by omega), Option.bind_some, show fr 3 = some r3qa from g3]
        unfold ck
        rw [if_pos (by exact decide_eq_true rfl), if_neg c3, hc, Option.bind_some, m1 (by omega) (by omega)]
      · rw [if_neg (fun q => d ((leN0 (by omega)).mp q)), m1 (by omega) (by omega), rowC (by omega), Option.bind_some, show x - 1 = (x + 3) % 4 by omega, g3]
        unfold ck
        rw [if_pos (by exact decide_eq_true rfl), if_neg c3, hc, Option.bind_some, m1 (by omega) (by omega)]
    have hM : F_X5_undo_22 fp 10000 0 (nI n - 1) fs = some (nI (n - 1), nI (n - 1), fb_put fs (ps fp (n - 1)) 0 65) := by
      rw [m1 (by omega) (by omega)]
      have := undo_lp fs fp (m := n - 1) (by omega) 10000 0 (Nat.zero_le _) (by omega)
      rw [fb_put_0] at this
      exact this
    rw [if_neg c2, if_neg c2, hT1, hM, Option.bind_some, Option.bind_some]
    refine ⟨_, _, rfl, rfl, rfl, Or.inr ⟨St_ext (put65 fs (ps fp (n - 1))) hs', hK, ⟨n - 1, (x + 3) % 4, by omega, by omega, rfl, rfl, rfl, ?_, ?_, ?_, ?_, fun h => ?_, fun h => ?_, fun h => ?_, fun h => ?_⟩, hT⟩⟩
    · rw [Nat.mod_mod]; exact g3
    · rw [show ((x + 3) % 4 + 1) % 4 = x % 4 by omega]; exact g0
    · rw [show ((x + 3) % 4 + 2) % 4 = (x + 1) % 4 by omega]; exact g1
    · rw [show ((x + 3) % 4 + 3) % 4 = (x + 2) % 4 by omega]; exact g2
    · rw [show n - 1 - 1 = n - 2 by omega]; exact q2 (by omega)
    · rw [show n - 1 - 2 = n - 3 by omega]; exact q1 (by omega)
    · rw [show n - 1 - 3 = n - 4 by omega]; exact q0 (by omega)
    · omega
theorem z_keep {rqa r1qa r2qa r3qa : Nat} {ft fu fh fd fb kft kfu kfh kfd kfb xfc xft rft rfu rfh rfd rfb r1ft r1fu r1fh r1fd r1fb r2ft r2fu r2fh r2fd r2fb r3ft r3fu r3fh r3fd r3fb fs fp fn fx fm : Nat → Int32} {isk sold stk pun fra tur ksold kstk kpun kfra ktur hnx hsz xlen xidx xknd xawt xnum xcam xfst xlst rsold rstk rpun rfra rtur r1sold r1stk r1pun r1fra r1tur r2sold r2stk r2pun r2fra r2tur r3sold r3stk r3pun r3fra r3tur pas misk len spo kin cam fst lst inr : Int32} {fr : Nat → Option Nat} (hR : RR rqa r1qa r2qa r3qa isk sold stk pun fra tur ft fu fh fd fb ksold kstk kpun kfra ktur kft kfu kfh kfd kfb hnx hsz fr xlen xidx xknd xawt xnum xcam xfst xlst xfc xft rsold rstk rpun rfra rtur rft rfu rfh rfd rfb r1sold r1stk r1pun r1fra r1tur r1ft r1fu r1fh r1fd r1fb r2sold r2stk r2pun r2fra r2tur r2ft r2fu r2fh r2fd r2fb r3sold r3stk r3pun r3fra r3tur r3ft r3fu r3fh r3fd r3fb pas misk len spo kin cam fst lst inr fs fp fn fx fm) : ∃ rr1 rr2, F_X4_keep isk sold stk pun fra tur ft fu fh fd fb ksold kstk kpun kfra ktur kft kfu kfh kfd kfb = some rr1 ∧ F_X5_keep misk fs fn = some rr2 ∧ rr1.1 = rr2.1 ∧ RR rqa r1qa r2qa r3qa rr1.2.1 sold stk pun fra tur ft fu fh fd fb rr1.2.2.1 rr1.2.2.2.1 rr1.2.2.2.2.1 rr1.2.2.2.2.2.1 rr1.2.2.2.2.2.2.1 rr1.2.2.2.2.2.2.2.1 rr1.2.2.2.2.2.2.2.2.1 rr1.2.2.2.2.2.2.2.2.2.1 rr1.2.2.2.2.2.2.2.2.2.2.1 rr1.2.2.2.2.2.2.2.2.2.2.2 hnx hsz fr xlen xidx xknd xawt xnum xcam xfst xlst xfc xft rsold rstk rpun rfra rtur rft rfu rfh rfd rfb r1sold r1stk r1pun r1fra r1tur r1ft r1fu r1fh r1fd r1fb r2sold r2stk r2pun r2fra r2tur r2ft r2fu r2fh r2fd r2fb r3sold r3stk r3pun r3fra r3tur r3ft r3fu r3fh r3fd r3fb pas rr2.2.1 len spo kin cam fst lst inr fs fp rr2.2.2 fx fm := by
  obtain ⟨hS, hK, hH, hT⟩ := hR
  have hs := hS.2.2.2.2.2.2.1
  obtain ⟨ft', fu', fh', fd', fb', hc, hs'⟩ := copyC hS ksold kstk kpun kfra ktur kft kfu kfh kfd kfb
  have hM : F_X5_keep misk fs fn = some (fs 24, 1, fb_put fn fs 0 65) := by
    have := keep_lp fs fn misk 10000 0 (Nat.zero_le _) (by omega)
    rw [fb_put_0] at this
    exact this
  unfold F_X4_keep F_X3_sold
  rw [hc, hM, Option.bind_some, Option.bind_some]
  exact ⟨_, _, rfl, rfl, hs, ⟨hS, ⟨rfl, Or.inr ⟨rfl, St_ext (put65 fn fs) hs'⟩⟩, hH, hT⟩⟩
theorem z_restore {rqa r1qa r2qa r3qa : Nat} {ft fu fh fd fb kft kfu kfh kfd kfb xfc xft rft rfu rfh rfd rfb r1ft r1fu r1fh r1fd r1fb r2ft r2fu r2fh r2fd r2fb r3ft r3fu r3fh r3fd r3fb fs fp fn fx fm : Nat → Int32} {isk sold stk pun fra tur ksold kstk kpun kfra ktur hnx hsz xlen xidx xknd xawt xnum xcam xfst xlst rsold rstk rpun rfra rtur r1sold r1stk r1pun r1fra r1tur r2sold r2stk r2pun r2fra r2tur r3sold r3stk r3pun r3fra r3tur pas misk len spo kin cam fst lst inr : Int32} {fr : Nat → Option Nat} (hR : RR rqa r1qa r2qa r3qa isk sold stk pun fra tur ft fu fh fd fb ksold kstk kpun kfra ktur kft kfu kfh kfd kfb hnx hsz fr xlen xidx xknd xawt xnum xcam xfst xlst xfc xft rsold rstk rpun rfra rtur rft rfu rfh rfd rfb r1sold r1stk r1pun r1fra r1tur r1ft r1fu r1fh r1fd r1fb r2sold r2stk r2pun r2fra r2tur r2ft r2fu r2fh r2fd r2fb r3sold r3stk r3pun r3fra r3tur r3ft r3fu r3fh r3fd r3fb pas misk len spo kin cam fst lst inr fs fp fn fx fm) : ∃ rr1 rr2, F_X4_restore isk sold stk pun fra tur ft fu fh fd fb ksold kstk kpun kfra ktur kft kfu kfh kfd kfb hnx hsz fr rsold rstk rpun rfra rtur rft rfu rfh rfd rfb rqa = some rr1 ∧ F_X5_restore pas misk fs fp fn = some rr2 ∧ rr1.1 = rr2.1 ∧ (RR rqa r1qa r2qa r3qa isk rr1.2.1 rr1.2.2.1 rr1.2.2.2.1 rr1.2.2.2.2.1 rr1.2.2.2.2.2.1 rr1.2.2.2.2.2.2.1 rr1.2.2.2.2.2.2.2.1 rr1.2.2.2.2.2.2.2.2.1 rr1.2.2.2.2.2.2.2.2.2.1 rr1.2.2.2.2.2.2.2.2.2.2.1 ksold kstk kpun kfra ktur kft kfu kfh kfd kfb rr1.2.2.2.2.2.2.2.2.2.2.2.1 rr1.2.2.2.2.2.2.2.2.2.2.2.2.1 fr xlen xidx xknd xawt xnum xcam xfst xlst xfc xft rr1.2.2.2.2.2.2.2.2.2.2.2.2.2.1 rr1.2.2.2.2.2.2.2.2.2.2.2.2.2.2.1 rr1.2.2.2.2.2.2.2.2.2.2.2.2.2.2.2.1 rr1.2.2.2.2.2.2.2.2.2.2.2.2.2.2.2.2.1 rr1.2.2.2.2.2.2.2.2.2.2.2.2.2.2.2.2.2.1 rr1.2.2.2.2.2.2.2.2.2.2.2.2.2.2.2.2.2.2.1 rr1.2.2.2.2.2.2.2.2.2.2.2.2.2.2.2.2.2.2.2.1 rr1.2.2.2.2.2.2.2.2.2.2.2.2.2.2.2.2.2.2.2.2.1 rr1.2.2.2.2.2.2.2.2.2.2.2.2.2.2.2.2.2.2.2.2.2.1 rr1.2.2.2.2.2.2.2.2.2.2.2.2.2.2.2.2.2.2.2.2.2.2 r1sold r1stk r1pun r1fra r1tur r1ft r1fu r1fh r1fd r1fb r2sold r2stk r2pun r2fra r2tur r2ft r2fu r2fh r2fd r2fb r3sold r3stk r3pun r3fra r3tur r3ft r3fu r3fh r3fd r3fb rr2.2.1 misk len spo kin cam fst lst inr rr2.2.2.1 rr2.2.2.2 fn fx fm ∨ RR r1qa r2qa r3qa rqa isk rr1.2.1 rr1.2.2.1 rr1.2.2.2.1 rr1.2.2.2.2.1 rr1.2.2.2.2.2.1 rr1.2.2.2.2.2.2.1 rr1.2.2.2.2.2.2.2.1 rr1.2.2.2.2.2.2.2.2.1 rr1.2.2.2.2.2.2.2.2.2.1 rr1.2.2.2.2.2.2.2.2.2.2.1 ksold kstk kpun kfra ktur kft kfu kfh kfd kfb rr1.2.2.2.2.2.2.2.2.2.2.2.1 rr1.2.2.2.2.2.2.2.2.2.2.2.2.1 fr xlen xidx xknd xawt xnum xcam xfst xlst xfc xft r1sold r1stk r1pun r1fra r1tur r1ft r1fu r1fh r1fd r1fb r2sold r2stk r2pun r2fra r2tur r2ft r2fu r2fh r2fd r2fb r3sold r3stk r3pun r3fra r3tur r3ft r3fu r3fh r3fd r3fb rr1.2.2.2.2.2.2.2.2.2.2.2.2.2.1 rr1.2.2.2.2.2.2.2.2.2.2.2.2.2.2.1 rr1.2.2.2.2.2.2.2.2.2.2.2.2.2.2.2.1 rr1.2.2.2.2.2.2.2.2.2.2.2.2.2.2.2.2.1 rr1.2.2.2.2.2.2.2.2.2.2.2.2.2.2.2.2.2.1 rr1.2.2.2.2.2.2.2.2.2.2.2.2.2.2.2.2.2.2.1 rr1.2.2.2.2.2.2.2.2.2.2.2.2.2.2.2.2.2.2.2.1 rr1.2.2.2.2.2.2.2.2.2.2.2.2.2.2.2.2.2.2.2.2.1 rr1.2.2.2.2.2.2.2.2.2.2.2.2.2.2.2.2.2.2.2.2.2.1 rr1.2.2.2.2.2.2.2.2.2.2.2.2.2.2.2.2.2.2.2.2.2.2 rr2.2.1 misk len spo kin cam fst lst inr rr2.2.2.1 rr2.2.2.2 fn fx fm) := by
  have hR0 := hR
  obtain ⟨hS, hK, hH, hT⟩ := hR
  obtain ⟨k1, k2⟩ := hK
  subst k1
  unfold F_X4_restore F_X5_restore F_X3_sold
  by_cases c : isk = 0
  · rw [if_pos c, if_pos c]
    exact ⟨_, _, rfl, rfl, rfl, Or.inl hR0⟩
  · obtain ⟨hnx', hsz', ft', fu', fh', fd', fb', pas', fp', r1, r2, hH'⟩ := rec_both hS hH Ex_St Ex_St Ex_St rsold rstk rpun rfra rtur rft rfu rfh rfd rfb
    have k3 := k2
    rcases k2 with k2 | ⟨_, k2⟩
    · exact absurd k2 c
    · have hs := k2.2.2.2.2.2.2.1
      obtain ⟨ft2, fu2, fh2, fd2, fb2, hc, hs'⟩ := copyC k2 sold stk pun fra tur ft fu fh fd fb
      have hM : F_X5_restore_16 isk fn 10000 0 pas' fs fp' = some (fn 24, pas', fb_put fs fn 0 65, fp') := by
        have := rest_lp fs fn isk pas' fp' 10000 0 (Nat.zero_le _) (by omega)
        rw [fb_put_0] at this
        exact this
      rw [if_neg c, if_neg c, r1, r2, hc, Option.bind_some, Option.bind_some, Option.bind_some, Option.bind_some, hM]
      exact ⟨_, _, rfl, rfl, hs, Or.inr ⟨St_ext (put65 fs fn) hs', ⟨rfl, k3⟩, hH', hT⟩⟩
theorem chr_v (a : Int32) : ∃ v, v < 65536 ∧ (a.toUInt32 % 65536).toInt32 = nI v := by
  refine ⟨(a.toUInt32 % 65536).toNat, ?_, ?_⟩
  · rw [UInt32.toNat_mod]
    exact Nat.mod_lt _ (by decide)
  · have h : (a.toUInt32 % 65536).toNat < 65536 := by
      rw [UInt32.toNat_mod]
      exact Nat.mod_lt _ (by decide)
    apply Int32.toBitVec_inj.1
    apply BitVec.eq_of_toNat_eq
    show (a.toUInt32 % 65536).toNat = (BitVec.ofNat 32 (a.toUInt32 % 65536).toNat).toNat
    rw [BitVec.toNat_ofNat, Nat.mod_eq_of_lt (by omega)]
theorem z_type {rqa r1qa r2qa r3qa : Nat} {ft fu fh fd fb kft kfu kfh kfd kfb xfc xft rft rfu rfh rfd rfb r1ft r1fu r1fh r1fd r1fb r2ft r2fu r2fh r2fd r2fb r3ft r3fu r3fh r3fd r3fb fs fp fn fx fm : Nat → Int32} {isk sold stk pun fra tur ksold kstk kpun kfra ktur hnx hsz xlen xidx xknd xawt xnum xcam xfst xlst rsold rstk rpun rfra rtur r1sold r1stk r1pun r1fra r1tur r2sold r2stk r2pun r2fra r2tur r3sold r3stk r3pun r3fra r3tur pas misk len spo kin cam fst lst inr : Int32} {fr : Nat → Option Nat} (hR : RR rqa r1qa r2qa r3qa isk sold stk pun fra tur ft fu fh fd fb ksold kstk kpun kfra ktur kft kfu kfh kfd kfb hnx hsz fr xlen xidx xknd xawt xnum xcam xfst xlst xfc xft rsold rstk rpun rfra rtur rft rfu rfh rfd rfb r1sold r1stk r1pun r1fra r1tur r1ft r1fu r1fh r1fd r1fb r2sold r2stk r2pun r2fra r2tur r2ft r2fu r2fh r2fd r2fb r3sold r3stk r3pun r3fra r3tur r3ft r3fu r3fh r3fd r3fb pas misk len spo kin cam fst lst inr fs fp fn fx fm) (a1 : Int32) : ∃ rr1 rr2, F_X4_type xlen xfc ((a1.toUInt32 % 65536).toInt32) = some rr1 ∧ F_X5_type len fx ((a1.toUInt32 % 65536).toInt32) = some rr2 ∧ rr1.1 = rr2.1 ∧ RR rqa r1qa r2qa r3qa isk sold stk pun fra tur ft fu fh fd fb ksold kstk kpun kfra ktur kft kfu kfh kfd kfb hnx hsz fr rr1.2.1 xidx xknd xawt xnum xcam xfst xlst rr1.2.2 xft rsold rstk rpun rfra rtur rft rfu rfh rfd rfb r1sold r1stk r1pun r1fra r1tur r1ft r1fu r1fh r1fd r1fb r2sold r2stk r2pun r2fra r2tur r2ft r2fu r2fh r2fd r2fb r3sold r3stk r3pun r3fra r3tur r3ft r3fu r3fh r3fd r3fb pas misk rr2.2.1 spo kin cam fst lst inr fs fp fn rr2.2.2 fm := by
  have hR0 := hR
  obtain ⟨hS, hK, hH, hT⟩ := hR
  obtain ⟨n, hn, h1, h2, h3⟩ := hT
  subst h1 h2
  obtain ⟨v, hv, ev⟩ := chr_v a1
  have e2 := pk_vc a1
  rw [ev] at e2
  unfold F_X4_type F_X5_type F_X2_length F_X2_append
  rw [ev, e2, Option.bind_some]
  by_cases c : n = 80
  · rw [c, if_neg (show ¬ nI 80 < 80 by decide), if_pos (show nI 80 = 80 from rfl)]
    rw [c] at hR0
    exact ⟨_, _, rfl, rfl, rfl, hR0⟩
  · have c1 : nI n < 80 := (nI_ltI (b := 80) (by omega) (by omega)).mpr (by omega)
    have c2 : ¬ nI n = 80 := fun q => c ((nI_eq (b := 80) (by omega) (by omega)).mp q)
    have c3 : ¬ 80 ≤ nI n := fun q => by have := (le80 (by omega)).mp q; omega
    rw [if_pos c1, if_neg c2, if_neg (fun q => (lt0 (by omega)).mp q), if_neg c3, ck_ok (by omega) (by omega), ck_ok (by omega) (by omega), Option.bind_some, tn (by omega), l1, Option.bind_some]
    refine ⟨_, _, rfl, rfl, rfl, ⟨hS, hK, hH, ⟨n + 1, by omega, rfl, rfl, fun j hj => ?_⟩⟩⟩
    by_cases d : j = n
    · exact ⟨v, hv, by dsimp only; rw [d, pk_us], by dsimp only; rw [d, pk_us]⟩
    · obtain ⟨w, hw, w1, w2⟩ := h3 j (by omega)
      exact ⟨w, hw, by dsimp only; rw [pk_un d, w1], by dsimp only; rw [pk_un d, w2]⟩
theorem z_clearText {rqa r1qa r2qa r3qa : Nat} {ft fu fh fd fb kft kfu kfh kfd kfb xfc xft rft rfu rfh rfd rfb r1ft r1fu r1fh r1fd r1fb r2ft r2fu r2fh r2fd r2fb r3ft r3fu r3fh r3fd r3fb fs fp fn fx fm : Nat → Int32} {isk sold stk pun fra tur ksold kstk kpun kfra ktur hnx hsz xlen xidx xknd xawt xnum xcam xfst xlst rsold rstk rpun rfra rtur r1sold r1stk r1pun r1fra r1tur r2sold r2stk r2pun r2fra r2tur r3sold r3stk r3pun r3fra r3tur pas misk len spo kin cam fst lst inr : Int32} {fr : Nat → Option Nat} (hR : RR rqa r1qa r2qa r3qa isk sold stk pun fra tur ft fu fh fd fb ksold kstk kpun kfra ktur kft kfu kfh kfd kfb hnx hsz fr xlen xidx xknd xawt xnum xcam xfst xlst xfc xft rsold rstk rpun rfra rtur rft rfu rfh rfd rfb r1sold r1stk r1pun r1fra r1tur r1ft r1fu r1fh r1fd r1fb r2sold r2stk r2pun r2fra r2tur r2ft r2fu r2fh r2fd r2fb r3sold r3stk r3pun r3fra r3tur r3ft r3fu r3fh r3fd r3fb pas misk len spo kin cam fst lst inr fs fp fn fx fm) : ∃ rr1 rr2, F_X4_clearText xlen = some rr1 ∧ F_X5_clearText len = some rr2 ∧ rr1.1 = rr2.1 ∧ RR rqa r1qa r2qa r3qa isk sold stk pun fra tur ft fu fh fd fb ksold kstk kpun kfra ktur kft kfu kfh kfd kfb hnx hsz fr rr1.2 xidx xknd xawt xnum xcam xfst xlst xfc xft rsold rstk rpun rfra rtur rft rfu rfh rfd rfb r1sold r1stk r1pun r1fra r1tur r1ft r1fu r1fh r1fd r1fb r2sold r2stk r2pun r2fra r2tur r2ft r2fu r2fh r2fd r2fb r3sold r3stk r3pun r3fra r3tur r3ft r3fu r3fh r3fd r3fb pas misk rr2.2 spo kin cam fst lst inr fs fp fn fx fm := by
  obtain ⟨hS, hK, hH, hT⟩ := hR
  obtain ⟨n, hn, h1, h2, h3⟩ := hT
  unfold F_X4_clearText F_X5_clearText F_X2_length F_X2_empty
  exact ⟨_, _, rfl, rfl, h1.trans h2.symm, ⟨hS, hK, hH, ⟨0, by omega, rfl, rfl, fun j hj => absurd hj (Nat.not_lt_zero j)⟩⟩⟩
