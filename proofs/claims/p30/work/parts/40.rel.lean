def Pm (σ : Nat → Nat) : Prop := (∀ j, j < 24 → σ j < 24) ∧ ∀ i j, i < 24 → j < 24 → σ i = σ j → i = j
/-- a row of 65 numbers that is a state -/
def Val (A : Nat → Int32) : Prop := ∃ (σ : Nat → Nat) (k : Nat), Pm σ ∧ (∀ j, j < 24 → A j = nI (σ j)) ∧ k ≤ 12 ∧ A 24 = nI k ∧ (∀ t, t < 12 → ∃ m, m < 2 ^ 24 ∧ A (25 + t) = nI m) ∧ (∀ t, t < 12 → ∃ m, m < 2 ^ 24 ∧ A (37 + t) = nI m) ∧ (∃ m, m < 2 ^ k ∧ A 49 = nI m) ∧ ∀ t, k ≤ t → t < 12 → A (50 + t) = 0
/-- the class's state is the row A -/
def St (A : Nat → Int32) (sold stk pun fra tur : Int32) (ft fu fh fd fb : Nat → Int32) : Prop := Val A ∧ (∀ j, j < 24 → ft j = A j) ∧ (∀ j, j < 24 → fu (Int32.toNatClampNeg (A j)) = nI j) ∧ (∀ j, j < 12 → fh j = A (25 + j)) ∧ (∀ j, j < 12 → fd j = A (37 + j)) ∧ (∀ j, j < 12 → fb j = A (50 + j)) ∧ sold = A 24 ∧ stk = A 49 ∧ pun = A 62 ∧ fra = A 63 ∧ tur = A 64
def ps (fp : Nat → Int32) (j : Nat) : Nat → Int32 := fun k => fp (65 * j + k)
def Tx (xlen len : Int32) (xfc fx : Nat → Int32) : Prop := ∃ n, n ≤ 80 ∧ xlen = nI n ∧ len = nI n ∧ ∀ j, j < n → ∃ v, v < 65536 ∧ xfc j = nI v ∧ fx j = nI v
def Hs (rqa r1qa r2qa r3qa : Nat) (hnx hsz pas : Int32) (fr : Nat → Option Nat) (P0 P1 P2 P3 : (Nat → Int32) → Prop) (fp : Nat → Int32) : Prop := ∃ n x, n ≤ 4 ∧ x < 4 ∧ hsz = nI n ∧ pas = nI n ∧ hnx = nI x ∧ fr (x % 4) = some rqa ∧ fr ((x + 1) % 4) = some r1qa ∧ fr ((x + 2) % 4) = some r2qa ∧ fr ((x + 3) % 4) = some r3qa ∧ (1 ≤ n → P3 (ps fp (n - 1))) ∧ (2 ≤ n → P2 (ps fp (n - 2))) ∧ (3 ≤ n → P1 (ps fp (n - 3))) ∧ (4 ≤ n → P0 (ps fp (n - 4)))
def RR (rqa r1qa r2qa r3qa : Nat) (isk : Int32) (sold : Int32) (stk : Int32) (pun : Int32) (fra : Int32) (tur : Int32) (ft : Nat → Int32) (fu : Nat → Int32) (fh : Nat → Int32) (fd : Nat → Int32) (fb : Nat → Int32) (ksold : Int32) (kstk : Int32) (kpun : Int32) (kfra : Int32) (ktur : Int32) (kft : Nat → Int32) (kfu : Nat → Int32) (kfh : Nat → Int32) (kfd : Nat → Int32) (kfb : Nat → Int32) (hnx : Int32) (hsz : Int32) (fr : Nat → Option Nat) (xlen : Int32) (xidx : Int32) (xknd : Int32) (xawt : Int32) (xnum : Int32) (xcam : Int32) (xfst : Int32) (xlst : Int32) (xfc : Nat → Int32) (xft : Nat → Int32) (rsold : Int32) (rstk : Int32) (rpun : Int32) (rfra : Int32) (rtur : Int32) (rft : Nat → Int32) (rfu : Nat → Int32) (rfh : Nat → Int32) (rfd : Nat → Int32) (rfb : Nat → Int32) (r1sold : Int32) (r1stk : Int32) (r1pun : Int32) (r1fra : Int32) (r1tur : Int32) (r1ft : Nat → Int32) (r1fu : Nat → Int32) (r1fh : Nat → Int32) (r1fd : Nat → Int32) (r1fb : Nat → Int32) (r2sold : Int32) (r2stk : Int32) (r2pun : Int32) (r2fra : Int32) (r2tur : Int32) (r2ft : Nat → Int32) (r2fu : Nat → Int32) (r2fh : Nat → Int32) (r2fd : Nat → Int32) (r2fb : Nat → Int32) (r3sold : Int32) (r3stk : Int32) (r3pun : Int32) (r3fra : Int32) (r3tur : Int32) (r3ft : Nat → Int32) (r3fu : Nat → Int32) (r3fh : Nat → Int32) (r3fd : Nat → Int32) (r3fb : Nat → Int32) (pas : Int32) (misk : Int32) (len : Int32) (spo : Int32) (kin : Int32) (cam : Int32) (fst : Int32) (lst : Int32) (inr : Int32) (fs : Nat → Int32) (fp : Nat → Int32) (fn : Nat → Int32) (fx : Nat → Int32) (fm : Nat → Int32) : Prop :=
  St fs sold stk pun fra tur ft fu fh fd fb ∧ (isk = misk ∧ (isk = 0 ∨ (isk = 1 ∧ St fn ksold kstk kpun kfra ktur kft kfu kfh kfd kfb))) ∧ Hs rqa r1qa r2qa r3qa hnx hsz pas fr (fun A => St A rsold rstk rpun rfra rtur rft rfu rfh rfd rfb) (fun A => St A r1sold r1stk r1pun r1fra r1tur r1ft r1fu r1fh r1fd r1fb) (fun A => St A r2sold r2stk r2pun r2fra r2tur r2ft r2fu r2fh r2fd r2fb) (fun A => St A r3sold r3stk r3pun r3fra r3tur r3ft r3fu r3fh r3fd r3fb) fp ∧ Tx xlen len xfc fx
theorem lw_gt {k L : Nat} (hL : L ≤ 2048) (hk : k ≤ L + 4) (h : L < k + 4) : Int32.ofNat L - 4 < nI k := by
  have e1 := pk_sub_toInt (a := L) (b := 4) (by omega) (by omega)
  have e2 := nI_toInt (n := k) (by omega)
  rw [Int32.lt_iff_toInt_lt, e2]
  show (nI L - nI 4).toInt < _
  rw [e1]
  omega
theorem lw_ngt {k L : Nat} (hL : L ≤ 2048) (h : k + 4 ≤ L) : ¬ Int32.ofNat L - 4 < nI k := by
  have e1 := pk_sub_toInt (a := L) (b := 4) (by omega) (by omega)
  have e2 := nI_toInt (n := k) (by omega)
  rw [Int32.lt_iff_toInt_lt, e2]
  show ¬ (nI L - nI 4).toInt < _
  rw [e1]
  omega
