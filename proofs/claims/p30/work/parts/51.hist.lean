/-! the two histories -/
theorem Val_ext {A B : Nat → Int32} (h : ∀ k, k < 65 → A k = B k) (hv : Val A) : Val B := by
  obtain ⟨σ, k, hP, hA, hk, h24, hh, hd, ⟨m, hm, h49⟩, hz⟩ := hv
  refine ⟨σ, k, hP, fun j hj => by rw [← h j (by omega)]; exact hA j hj, hk, by rw [← h 24 (by omega)]; exact h24, fun t ht => ?_, fun t ht => ?_, ⟨m, hm, by rw [← h 49 (by omega)]; exact h49⟩, fun t h1 h2 => by rw [← h (50 + t) (by omega)]; exact hz t h1 h2⟩
  · rw [← h (25 + t) (by omega)]; exact hh t ht
  · rw [← h (37 + t) (by omega)]; exact hd t ht
theorem St_ext {A B ft fu fh fd fb : Nat → Int32} {sold stk pun fra tur : Int32} (h : ∀ k, k < 65 → A k = B k) (hs : St A sold stk pun fra tur ft fu fh fd fb) : St B sold stk pun fra tur ft fu fh fd fb := by
  obtain ⟨hv, h1, h2, h3, h4, h5, h6, h7, h8, h9, h10⟩ := hs
  exact ⟨Val_ext h hv, fun j hj => by rw [← h j (by omega)]; exact h1 j hj, fun j hj => by rw [← h j (by omega)]; exact h2 j hj, fun j hj => by rw [← h (25 + j) (by omega)]; exact h3 j hj, fun j hj => by rw [← h (37 + j) (by omega)]; exact h4 j hj, fun j hj => by rw [← h (50 + j) (by omega)]; exact h5 j hj, by rw [← h 24 (by omega)]; exact h6, by rw [← h 49 (by omega)]; exact h7, by rw [← h 62 (by omega)]; exact h8, by rw [← h 63 (by omega)]; exact h9, by rw [← h 64 (by omega)]; exact h10⟩
theorem tn0 : Int32.toNatClampNeg (0 : Int32) = 0 := tn (j := 0) (by omega)
theorem tn12 : Int32.toNatClampNeg (12 : Int32) = 12 := tn (j := 12) (by omega)
theorem Val_mv {A : Nat → Int32} (hv : Val A) {j : Nat} (hj : j < 24) : Int32.toNatClampNeg (A j) < 24 := by
  obtain ⟨σ, k, hP, hA, _⟩ := hv
  have := hP.1 j hj
  rw [hA j hj, tn (by omega)]
  exact this
/-- a copy of the class's state -/
theorem copyC {A ft fu fh fd fb : Nat → Int32} {sold stk pun fra tur : Int32} (hs : St A sold stk pun fra tur ft fu fh fd fb) (sold2 stk2 pun2 fra2 tur2 : Int32) (ft2 fu2 fh2 fd2 fb2 : Nat → Int32) : ∃ ft' fu' fh' fd' fb', F_X3_copy sold2 stk2 pun2 fra2 tur2 ft2 fu2 fh2 fd2 fb2 sold stk pun fra tur ft fu fh fd fb = some (sold, stk, pun, fra, tur, ft', fu', fh', fd', fb') ∧ St A sold stk pun fra tur ft' fu' fh' fd' fb' := by
  obtain ⟨hv, h1, h2, h3, h4, h5, h6⟩ := hs
  refine ⟨_, _, _, _, _, rfl, hv, fun j hj => ?_, fun j hj => ?_, fun j hj => ?_, fun j hj => ?_, fun j hj => ?_, h6⟩
  · dsimp only
    rw [t24, tn0, sb_cpy0 hj]; exact h1 j hj
  · dsimp only
    rw [t24, tn0, sb_cpy0 (Val_mv hv hj)]; exact h2 j hj
  · rw [tn12, tn0, sb_cpy0 hj]; exact h3 j hj
  · rw [tn12, tn0, sb_cpy0 hj]; exact h4 j hj
  · rw [tn12, tn0, sb_cpy0 hj]; exact h5 j hj
theorem rec50_lp (fs fp : Nat → Int32) {m : Nat} (hm : m < 4) : ∀ (n i : Nat), i ≤ 65 → 65 - i < n → F_X5_records_50 fs n (nI i) (nI m) (fb_put fp fs (65 * m) i) = some (nI (m + 1), fb_put fp fs (65 * m) 65) := by
  intro n
  induction n with
  | zero => intro i _ h; omega
  | succ n ih =>
    intro i hi hn
    rw [F_X5_records_50]
    by_cases c : 65 ≤ i
    · rw [if_pos ((le65 (by omega)).mpr c), l1, show i = 65 by omega]
    · rw [if_neg (fun q => c ((le65 (by omega)).mp q)), show (65 : Int32) * nI m = nI (65 * m) from pk_mul 65 m, nI_add, ck_ok (by omega) (by omega), ck_ok (by omega) (by omega), tn (by omega), tn (by omega), fb_put_succ, l1]
      exact ih (i + 1) (by omega) (by omega)
theorem rec10_lp (fs fp : Nat → Int32) : ∀ (n i : Nat), i ≤ 195 → 195 - i < n → F_X5_records_10 fs n (nI i) 4 (fb_put fp (fun k => fp (65 + k)) 0 i) = some (4, fb_put (fb_put fp (fun k => fp (65 + k)) 0 195) fs 195 65) := by
  intro n
  induction n with
  | zero => intro i _ h; omega
  | succ n ih =>
    intro i hi hn
    rw [F_X5_records_10]
    by_cases c : 195 ≤ i
    · rw [if_pos ((le195 (by omega)).mpr c), show i = 195 by omega, show (4 : Int32) - 1 = nI 3 by decide]
      have := rec50_lp fs (fb_put fp (fun k => fp (65 + k)) 0 195) (m := 3) (by omega) 10000 0 (Nat.zero_le _) (by omega)
      rw [fb_put_0] at this
      exact this
    · rw [if_neg (fun q => c ((le195 (by omega)).mp q)), l65, ck_ok (by omega) (by omega), ck_ok (by omega) (by omega), tn (by omega), tn (by omega), fb_put_out (by omega), l1]
      have := ih (i + 1) (by omega) (by omega)
      rw [← fb_put_succ, Nat.zero_add] at this
      exact this
theorem recM {n : Nat} (fs fp : Nat → Int32) (hn : n ≤ 4) : ∃ n' fp', F_X5_records (nI n) fs fp = some (nI n', fp') ∧ n' = min (n + 1) 4 ∧ (∀ k, k < 65 → ps fp' (n' - 1) k = fs k) ∧ ∀ d, 2 ≤ d → d ≤ n' → ∀ k, k < 65 → ps fp' (n' - d) k = ps fp (n + 1 - d) k := by
  unfold F_X5_records
  rcases Nat.lt_or_ge n 4 with c | c
  · refine ⟨n + 1, fb_put fp fs (65 * n) 65, ?_, by omega, fun k hk => ?_, fun d h1 h2 k hk => ?_⟩
    · rw [if_neg (fun q => by have := (nI_eq (a := n) (b := 4) (by omega) (by omega)).mp q; omega)]
      have := rec50_lp fs fp c 10000 0 (Nat.zero_le _) (by omega)
      rw [fb_put_0] at this
      exact this
    · show fb_put fp fs (65 * n) 65 (65 * (n + 1 - 1) + k) = fs k
      rw [fb_put_in (by omega) (by omega)]
      congr 1
      omega
    · show fb_put fp fs (65 * n) 65 (65 * (n + 1 - d) + k) = fp (65 * (n + 1 - d) + k)
      rw [fb_put_out (by omega)]
  · have e : n = 4 := by omega
    subst e
    refine ⟨4, fb_put (fb_put fp (fun k => fp (65 + k)) 0 195) fs 195 65, ?_, by omega, fun k hk => ?_, fun d h1 h2 k hk => ?_⟩
    · rw [if_pos (show nI 4 = 4 from rfl)]
      have := rec10_lp fs fp 10000 0 (Nat.zero_le _) (by omega)
      rw [fb_put_0] at this
      exact this
    · show fb_put (fb_put fp (fun k => fp (65 + k)) 0 195) fs 195 65 (65 * (4 - 1) + k) = fs k
      rw [fb_put_in (by omega) (by omega), show 65 * (4 - 1) + k - 195 = k by omega]
    · show fb_put (fb_put fp (fun k => fp (65 + k)) 0 195) fs 195 65 (65 * (4 - d) + k) = fp (65 * (4 + 1 - d) + k)
      rw [fb_put_out (by omega), fb_put_in (by omega) (by omega), show 65 + (65 * (4 - d) + k - 0) = 65 * (4 + 1 - d) + k by omega]
theorem rowC {fr : Nat → Option Nat} {x : Nat} (hx : x < 4) : F_X0_row fr (nI x) = some (fr x) := by
  unfold F_X0_row
  rw [if_neg (fun q => (lt0 (by omega)).mp q), if_neg (fun q => by have := (le4 (by omega)).mp q; omega), ck_ok hx (by omega), tn (by omega)]
def Ex (P : (Nat → Int32) → Prop) : Prop := ∀ A B : Nat → Int32, (∀ k, k < 65 → A k = B k) → P A → P B
theorem rec_both {rqa r1qa r2qa r3qa : Nat} {hnx hsz pas : Int32} {fr : Nat → Option Nat} {P0 P1 P2 P3 : (Nat → Int32) → Prop} {fs fp ft fu fh fd fb : Nat → Int32} {sold stk pun fra tur : Int32} (hS : St fs sold stk pun fra tur ft fu fh fd fb) (hH : Hs rqa r1qa r2qa r3qa hnx hsz pas fr P0 P1 P2 P3 fp) (E1 : Ex P1) (E2 : Ex P2) (E3 : Ex P3) (rsold rstk rpun rfra rtur : Int32) (rft rfu rfh rfd rfb : Nat → Int32) : ∃ hnx' hsz' ft' fu' fh' fd' fb' pas' fp', F_X0_record hnx hsz fr sold stk pun fra tur ft fu fh fd fb rsold rstk rpun rfra rtur rft rfu rfh rfd rfb rqa = some (hnx', hsz', sold, stk, pun, fra, tur, ft', fu', fh', fd', fb') ∧ F_X5_records pas fs fp = some (pas', fp') ∧ Hs r1qa r2qa r3qa rqa hnx' hsz' pas' fr P1 P2 P3 (fun A => St A sold stk pun fra tur ft' fu' fh' fd' fb') fp' := by
  obtain ⟨n, x, hn, hx, hsz1, hpas, hnx1, g0, g1, g2, g3, q3, q2, q1, q0⟩ := hH
  subst hsz1 hpas hnx1
  obtain ⟨ft', fu', fh', fd', fb', hc, hs'⟩ := copyC hS rsold rstk rpun rfra rtur rft rfu rfh rfd rfb
  obtain ⟨n', fp', hr, en, w1, w2⟩ := recM fs fp hn
  have hv : (if (4 : Int32) < nI n + 1 then 4 else nI n + 1) = nI n' := by
    rw [l1]
    by_cases c : 4 < n + 1
    · rw [if_pos (by rw [show (4 : Int32) = nI 4 from rfl]; exact (nI_ltI (by omega) (by omega)).mpr c), show n' = 4 by omega]
      rfl
    · rw [if_neg (show ¬ (4 : Int32) < nI (n + 1) from fun q => c ((nI_ltI (a := 4) (by omega) (by omega)).mp q)), show n' = n + 1 by omega]
  rw [Nat.mod_eq_of_lt hx] at g0
  have hC : F_X0_record (nI x) (nI n) fr sold stk pun fra tur ft fu fh fd fb rsold rstk rpun rfra rtur rft rfu rfh rfd rfb rqa = some (nI ((x + 1) % 4), nI n', sold, stk, pun, fra, tur, ft', fu', fh', fd', fb') := by
    unfold F_X0_record
    rw [rowC hx, Option.bind_some, g0]
    unfold ck
    rw [if_pos (by exact decide_eq_true rfl), hc, Option.bind_some, l1]
    unfold nmd
    dsimp only
    rw [hv]
    by_cases c : 4 ≤ x + 1
    · rw [if_pos ((le4 (by omega)).mpr c), show (x + 1) % 4 = 0 by omega]
      rfl
    · rw [if_neg (fun q => c ((le4 (by omega)).mp q)), show (x + 1) % 4 = x + 1 by omega]
  refine ⟨_, _, _, _, _, _, _, _, _, hC, hr, n', (x + 1) % 4, by omega, by omega, rfl, rfl, rfl, ?_, ?_, ?_, ?_, fun h => ?_, fun h => ?_, fun h => ?_, fun h => ?_⟩
  · rw [Nat.mod_mod]; exact g1
  · rw [show ((x + 1) % 4 + 1) % 4 = (x + 2) % 4 by omega]; exact g2
  · rw [show ((x + 1) % 4 + 2) % 4 = (x + 3) % 4 by omega]; exact g3
  · rw [show ((x + 1) % 4 + 3) % 4 = x by omega]; exact g0
  · exact St_ext (fun k hk => (w1 k hk).symm) hs'
  · exact E3 _ _ (fun k hk => (w2 2 (by omega) h k hk).symm) (by rw [show n + 1 - 2 = n - 1 by omega]; exact q3 (by omega))
  · exact E2 _ _ (fun k hk => (w2 3 (by omega) h k hk).symm) (by rw [show n + 1 - 3 = n - 2 by omega]; exact q2 (by omega))
  · exact E1 _ _ (fun k hk => (w2 4 (by omega) h k hk).symm) (by rw [show n + 1 - 4 = n - 3 by omega]; exact q1 (by omega))
theorem Ex_St {ft fu fh fd fb : Nat → Int32} {sold stk pun fra tur : Int32} : Ex (fun A => St A sold stk pun fra tur ft fu fh fd fb) := fun _ _ h hs => St_ext h hs
