/-! the move back -/
def iv (σ : Nat → Nat) (p : Nat) : Nat := fa_first (fun j => decide (σ j = p)) 24
theorem iv_lt {σ : Nat → Nat} (h : Pm σ) {p : Nat} (hp : p < 24) : iv σ p < 24 := by
  obtain ⟨j, hj, e⟩ := onto h hp
  exact first_of hj (decide_eq_true e)
theorem iv_r {σ : Nat → Nat} (h : Pm σ) {p : Nat} (hp : p < 24) : σ (iv σ p) = p := of_decide_eq_true (fa_first_yes (fun j => decide (σ j = p)) 24 (iv_lt h hp))
theorem iv_l {σ : Nat → Nat} (h : Pm σ) {p : Nat} (hp : p < 24) : iv σ (σ p) = p := h.2 _ _ (iv_lt h (h.1 p hp)) hp (iv_r h (h.1 p hp))
theorem iv_Pm {σ : Nat → Nat} (h : Pm σ) : Pm (iv σ) := ⟨fun _ hj => iv_lt h hj, fun i j hi hj e => by rw [← iv_r h hi, ← iv_r h hj, e]⟩
theorem it_s (σ : Nat → Nat) (n p : Nat) : it σ (n + 1) p = σ (it σ n p) := rfl
theorem iv_it {σ : Nat → Nat} (h : Pm σ) {p : Nat} (hp : p < 24) : ∀ n, it (iv σ) n (it σ n p) = p
  | 0 => rfl
  | n + 1 => by
    rw [it_one (iv σ) n, it_s σ n p, iv_l h (it_lt h hp n)]
    exact iv_it h hp n
theorem it_iv {σ : Nat → Nat} (h : Pm σ) {p : Nat} (hp : p < 24) : ∀ n, it σ n (it (iv σ) n p) = p
  | 0 => rfl
  | n + 1 => by
    rw [it_one σ n, it_s (iv σ) n p, iv_r h (it_lt (iv_Pm h) hp n)]
    exact it_iv h hp n
theorem od_div {σ : Nat → Nat} (h : Pm σ) {n : Nat} (e : ∀ p, p < 24 → it σ n p = p) : od σ ∣ n := by
  have : ∀ p, p ≤ 24 → odF σ p ∣ n := by
    intro p
    induction p with
    | zero => intro _; exact Nat.one_dvd n
    | succ p ih => intro hp; exact Nat.lcm_dvd (ih (by omega)) ((it_dvd h (by omega) n).mp (e p (by omega)))
  exact this 24 (Nat.le_refl 24)
theorem od_all {σ : Nat → Nat} (h : Pm σ) {n : Nat} (e : od σ ∣ n) {p : Nat} (hp : p < 24) : it σ n p = p := (it_dvd h hp n).mpr (Nat.dvd_trans (od_dvd σ hp) e)
theorem iv_od {σ : Nat → Nat} (h : Pm σ) : od (iv σ) = od σ := by
  apply Nat.dvd_antisymm
  · refine od_div (iv_Pm h) (fun p hp => ?_)
    have e := od_all h (Nat.dvd_refl (od σ)) hp
    have := iv_it h hp (od σ)
    rw [e] at this
    exact this
  · refine od_div h (fun p hp => ?_)
    have e := od_all (iv_Pm h) (Nat.dvd_refl (od (iv σ))) hp
    have := it_iv h hp (od (iv σ))
    rw [e] at this
    exact this
theorem od_2 {σ : Nat → Nat} (h : Pm σ) : ¬ 2 < od σ ↔ ∀ j, j < 24 → iv σ j = σ j := by
  constructor
  · intro c j hj
    have h0 := od_pos σ
    have d : od σ ∣ 2 := by
      rcases Nat.lt_or_ge (od σ) 2 with q | q
      · rw [show od σ = 1 by omega]; exact Nat.one_dvd 2
      · rw [show od σ = 2 by omega]; exact Nat.dvd_refl 2
    have e : σ (σ j) = j := od_all h d hj
    exact h.2 _ _ (iv_lt h hj) (h.1 j hj) (by rw [iv_r h hj, e])
  · intro e c
    have d : od σ ∣ 2 := od_div h (fun p hp => by
      show σ (σ p) = p
      rw [← e p hp]
      exact iv_r h hp)
    have := Nat.le_of_dvd (by decide) d
    omega
theorem srcI {σ : Nat → Nat} {fs : Nat → Int32} (h : Pm σ) (hf : Mv σ fs) {p : Nat} (hp : p < 24) : F_X5_sourceOf fs (nI p) = some (nI (iv σ p)) := by
  have := srcM h hf (iv_lt h hp)
  rw [iv_r h hp] at this
  exact this
def rvM (σ : Nat → Nat) (fm : Nat → Int32) (i : Nat) : Nat → Int32 := fb_put fm (fun j => nI (iv σ j)) 0 i
def rvR (pas : Int32) (fs fp M : Nat → Int32) : Option (Int32 × Int32 × (Nat → Int32) × (Nat → Int32) × (Nat → Int32)) := Option.bind (F_X5_takes pas fs fp M) fun r3 => Option.bind (F_X5_order r3.2.1) fun r4 => some (r4, r3.1, r3.2.1, r3.2.2, M)
theorem rv_up {σ : Nat → Nat} {g : Nat → Int32} (i : Nat) : upd (rvM σ g i) i (nI (iv σ i)) = rvM σ g (i + 1) := by
  have := fb_put_succ g (fun j => nI (iv σ j)) 0 i
  rw [Nat.zero_add] at this
  exact this
theorem rv_0 {σ : Nat → Nat} {fs : Nat → Int32} (h : Pm σ) (hf : Mv σ fs) (pas : Int32) (fp g : Nat → Int32) : ∀ (n i : Nat), i ≤ 24 → 24 - i < n → F_X5_reverse_4 n 0 (nI i) pas fs fp (rvM σ g i) = rvR pas fs fp (rvM σ g 24) := by
  intro n
  induction n with
  | zero => intro i _ h; omega
  | succ n ih =>
    intro i hi hn
    rw [F_X5_reverse_4]
    by_cases c : 24 ≤ i
    · rw [if_pos ((le24 (by omega)).mpr c), if_pos rfl, show i = 24 by omega]
      rfl
    · have hi2 : i < 24 := by omega
      rw [if_neg (fun q => c ((le24 (by omega)).mp q)), srcI h hf hi2, Option.bind_some, ck_ok hi2 (by omega), if_pos rfl, tn (by omega), rv_up, l1]
      exact ih (i + 1) (by omega) (by omega)
theorem rv_t {σ : Nat → Nat} {fs : Nat → Int32} (h : Pm σ) (hf : Mv σ fs) (pas : Int32) (fp g : Nat → Int32) (hs : ∀ j, j < 24 → iv σ j = σ j) : ∀ (n i : Nat), i ≤ 24 → 24 - i < n → F_X5_reverse_4 n 1 (nI i) pas fs fp (rvM σ g i) = some (-5, pas, fs, fp, rvM σ g 24) := by
  intro n
  induction n with
  | zero => intro i _ h; omega
  | succ n ih =>
    intro i hi hn
    rw [F_X5_reverse_4]
    by_cases c : 24 ≤ i
    · rw [if_pos ((le24 (by omega)).mpr c), if_neg n10, show i = 24 by omega]
    · have hi2 : i < 24 := by omega
      rw [if_neg (fun q => c ((le24 (by omega)).mp q)), srcI h hf hi2, Option.bind_some, ck_ok hi2 (by omega), if_neg n10, ck_ok hi2 (by omega), l0, ck_ok (by omega) (by omega), tn (by omega), pk_us, hf i hi2, if_pos (by rw [hs i hi2]), rv_up, l1]
      exact ih (i + 1) (by omega) (by omega)
theorem rv_f {σ : Nat → Nat} {fs : Nat → Int32} (h : Pm σ) (hf : Mv σ fs) (pas : Int32) (fp g : Nat → Int32) (hs : ¬ ∀ j, j < 24 → iv σ j = σ j) : ∀ (n i : Nat), (∀ j, j < i → iv σ j = σ j) → i ≤ 24 → 24 - i < n → F_X5_reverse_4 n 1 (nI i) pas fs fp (rvM σ g i) = rvR pas fs fp (rvM σ g 24) := by
  intro n
  induction n with
  | zero => intro i _ _ h; omega
  | succ n ih =>
    intro i hl hi hn
    have hi2 : i < 24 := by
      rcases Nat.lt_or_ge i 24 with c | c
      · exact c
      · exact absurd (fun j hj => hl j (by omega)) hs
    have h1 := h.1 i hi2
    have h2 := iv_lt h hi2
    rw [F_X5_reverse_4, if_neg (fun q => by have := (le24 (by omega)).mp q; omega), srcI h hf hi2, Option.bind_some, ck_ok hi2 (by omega), if_neg n10, ck_ok hi2 (by omega), l0, ck_ok (by omega) (by omega), tn (by omega), pk_us, hf i hi2, rv_up, l1]
    by_cases d : iv σ i = σ i
    · rw [if_pos (by rw [d])]
      refine ih (i + 1) (fun j hj => ?_) (by omega) (by omega)
      rcases Nat.lt_or_ge j i with q | q
      · exact hl j q
      · rw [show j = i by omega]; exact d
    · rw [if_neg (fun q => d ((nI_eq (by omega) (by omega)).mp q))]
      exact rv_0 h hf pas fp g n (i + 1) (by omega) (by omega)
theorem takes_lp (M : Nat → Int32) (pas : Int32) (fs fp : Nat → Int32) : ∀ (n i : Nat), i ≤ 24 → 24 - i < n → F_X5_takes_6 M n (nI i) pas (fb_put fs M 0 i) fp = some (pas, fb_put fs M 0 24, fp) := by
  intro n
  induction n with
  | zero => intro i _ h; omega
  | succ n ih =>
    intro i hi hn
    rw [F_X5_takes_6]
    by_cases c : 24 ≤ i
    · rw [if_pos ((le24 (by omega)).mpr c), show i = 24 by omega]
    · rw [if_neg (fun q => c ((le24 (by omega)).mp q)), l0, ck_ok (by omega) (by omega), ck_ok (by omega) (by omega), tn (by omega), l1]
      have := ih (i + 1) (by omega) (by omega)
      rw [← fb_put_succ, Nat.zero_add] at this
      exact this
theorem takesM {pas pas' : Int32} {fs fp fp' : Nat → Int32} (M : Nat → Int32) (hr : F_X5_records pas fs fp = some (pas', fp')) : F_X5_takes pas fs fp M = some (pas', fb_put fs M 0 24, fp') := by
  unfold F_X5_takes
  rw [hr, Option.bind_some]
  have := takes_lp M pas' fs fp' 10000 0 (Nat.zero_le _) (by omega)
  rw [fb_put_0] at this
  exact this
theorem put_Mv {σ : Nat → Nat} {fs M : Nat → Int32} (h : Mv σ M) : Mv σ (fb_put fs M 0 24) := fun j hj => by
  rw [fb_put_in (by omega) (by omega), Nat.sub_zero]
  exact h j hj
theorem rv_Mv {σ : Nat → Nat} {g : Nat → Int32} : Mv (iv σ) (rvM σ g 24) := fun j hj => by
  unfold rvM
  rw [fb_put_in (by omega) (by omega), Nat.sub_zero]
theorem z_reverse (qt qu : Nat) {rqa r1qa r2qa r3qa : Nat} {ft fu fh fd fb kft kfu kfh kfd kfb xfc xft rft rfu rfh rfd rfb r1ft r1fu r1fh r1fd r1fb r2ft r2fu r2fh r2fd r2fb r3ft r3fu r3fh r3fd r3fb fs fp fn fx fm : Nat → Int32} {isk sold stk pun fra tur ksold kstk kpun kfra ktur hnx hsz xlen xidx xknd xawt xnum xcam xfst xlst rsold rstk rpun rfra rtur r1sold r1stk r1pun r1fra r1tur r2sold r2stk r2pun r2fra r2tur r3sold r3stk r3pun r3fra r3tur pas misk len spo kin cam fst lst inr : Int32} {fr : Nat → Option Nat} (hR : RR rqa r1qa r2qa r3qa isk sold stk pun fra tur ft fu fh fd fb ksold kstk kpun kfra ktur kft kfu kfh kfd kfb hnx hsz fr xlen xidx xknd xawt xnum xcam xfst xlst xfc xft rsold rstk rpun rfra rtur rft rfu rfh rfd rfb r1sold r1stk r1pun r1fra r1tur r1ft r1fu r1fh r1fd r1fb r2sold r2stk r2pun r2fra r2tur r2ft r2fu r2fh r2fd r2fb r3sold r3stk r3pun r3fra r3tur r3ft r3fu r3fh r3fd r3fb pas misk len spo kin cam fst lst inr fs fp fn fx fm) : ∃ rr1 rr2, F_X4_reverse sold stk pun fra tur ft fu fh fd fb hnx hsz fr rsold rstk rpun rfra rtur rft rfu rfh rfd rfb rqa qt qu = some rr1 ∧ F_X5_reverse pas fs fp fm = some rr2 ∧ rr1.1 = rr2.1 ∧ ((rr1.2.2.2.2.2.2.2.2.2.2.2.2.2.1 = qt ∧ rr1.2.2.2.2.2.2.2.2.2.2.2.2.2.2 = qu ∧ RR rqa r1qa r2qa r3qa isk sold stk pun fra tur ft fu fh fd fb ksold kstk kpun kfra ktur kft kfu kfh kfd kfb rr1.2.1 rr1.2.2.1 fr xlen xidx xknd xawt xnum xcam xfst xlst xfc xft rr1.2.2.2.1 rr1.2.2.2.2.1 rr1.2.2.2.2.2.1 rr1.2.2.2.2.2.2.1 rr1.2.2.2.2.2.2.2.1 rr1.2.2.2.2.2.2.2.2.1 rr1.2.2.2.2.2.2.2.2.2.1 rr1.2.2.2.2.2.2.2.2.2.2.1 rr1.2.2.2.2.2.2.2.2.2.2.2.1 rr1.2.2.2.2.2.2.2.2.2.2.2.2.1 r1sold r1stk r1pun r1fra r1tur r1ft r1fu r1fh r1fd r1fb r2sold r2stk r2pun r2fra r2tur r2ft r2fu r2fh r2fd r2fb r3sold r3stk r3pun r3fra r3tur r3ft r3fu r3fh r3fd r3fb rr2.2.1 misk len spo kin cam fst lst inr rr2.2.2.1 rr2.2.2.2.1 fn fx rr2.2.2.2.2) ∨ (rr1.2.2.2.2.2.2.2.2.2.2.2.2.2.1 = qu ∧ rr1.2.2.2.2.2.2.2.2.2.2.2.2.2.2 = qt ∧ RR r1qa r2qa r3qa rqa isk sold stk pun fra tur fu ft fh fd fb ksold kstk kpun kfra ktur kft kfu kfh kfd kfb rr1.2.1 rr1.2.2.1 fr xlen xidx xknd xawt xnum xcam xfst xlst xfc xft r1sold r1stk r1pun r1fra r1tur r1ft r1fu r1fh r1fd r1fb r2sold r2stk r2pun r2fra r2tur r2ft r2fu r2fh r2fd r2fb r3sold r3stk r3pun r3fra r3tur r3ft r3fu r3fh r3fd r3fb rr1.2.2.2.1 rr1.2.2.2.2.1 rr1.2.2.2.2.2.1 rr1.2.2.2.2.2.2.1 rr1.2.2.2.2.2.2.2.1 rr1.2.2.2.2.2.2.2.2.1 rr1.2.2.2.2.2.2.2.2.2.1 rr1.2.2.2.2.2.2.2.2.2.2.1 rr1.2.2.2.2.2.2.2.2.2.2.2.1 rr1.2.2.2.2.2.2.2.2.2.2.2.2.1 rr2.2.1 misk len spo kin cam fst lst inr rr2.2.2.1 rr2.2.2.2.1 fn fx rr2.2.2.2.2)) := by
  obtain ⟨hS, hK, hH, hT⟩ := hR
  have hu := hS.2.2.1
  obtain ⟨σ, k, H, D, ms, hP, hf, hft, ⟨hk, h24, hs⟩, hh, hd, hm, h49, hst⟩ := Rd_of hS
  have ho := od_le hP
  unfold F_X4_reverse F_X5_reverse
  rw [orderC hP hft, Option.bind_some]
  have z0 : rvM σ fm 0 = fm := fb_put_0 _ _ _
  by_cases c : 2 < od σ
  · have c2 : (2 : Int32) < nI (od σ) := (nI_ltI (a := 2) (by omega) (by omega)).mpr c
    have c3 : ¬ ∀ j, j < 24 → iv σ j = σ j := fun q => (od_2 hP).mpr q c
    have hM := rv_f hP hf pas fp fm c3 10000 0 (fun j hj => absurd hj (Nat.not_lt_zero j)) (Nat.zero_le _) (by omega)
    rw [z0] at hM
    obtain ⟨hnx', hsz', ft', fu', fh', fd', fb', pas', fp', r1, r2, hH'⟩ := rec_both hS hH Ex_St Ex_St Ex_St rsold rstk rpun rfra rtur rft rfu rfh rfd rfb
    have m2 : Mv (iv σ) (fb_put fs (rvM σ fm 24) 0 24) := put_Mv rv_Mv
    unfold rvR at hM
    rw [takesM _ r2, Option.bind_some] at hM
    dsimp only at hM
    rw [orderM (iv_Pm hP) m2, Option.bind_some, iv_od hP] at hM
    unfold F_X1_turnBack
    rw [if_pos c2, r1, Option.bind_some, Option.bind_some, show F_X5_reverse_4 10000 1 0 pas fs fp fm = _ from hM]
    refine ⟨_, _, rfl, rfl, rfl, Or.inr ⟨rfl, rfl, St_move hS (iv_Pm hP) m2 (fun j h1 h2 => fb_put_out (by omega)) (fun j hj => ?_) (fun j hj => ?_), hK, hH', hT⟩⟩
    · have e := hu (iv σ j) (iv_lt hP hj)
      rw [hf _ (iv_lt hP hj), iv_r hP hj, tn (by omega)] at e
      exact e
    · rw [hft _ (iv_lt hP hj), iv_r hP hj]
  · have c2 : ¬ (2 : Int32) < nI (od σ) := fun q => c ((nI_ltI (a := 2) (by omega) (by omega)).mp q)
    have hM := rv_t hP hf pas fp fm ((od_2 hP).mp c) 10000 0 (Nat.zero_le _) (by omega)
    rw [z0] at hM
    rw [if_neg c2, show F_X5_reverse_4 10000 1 0 pas fs fp fm = _ from hM]
    exact ⟨_, _, rfl, rfl, rfl, Or.inl ⟨rfl, rfl, hS, hK, hH, hT⟩⟩
