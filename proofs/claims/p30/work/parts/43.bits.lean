/-! numbers, shifts and bits -/
theorem z_sl : ∀ n, n < 32 → ((nI n &&& 31).toBitVec.smod 32).toNat = n := by decide +kernel
theorem z_c : ∀ k, k < 32 → (nI k &&& 31) = nI k := by decide +kernel
theorem z_sm : ∀ k, k < 32 → (BitVec.ofNat 32 k).smod 32 = BitVec.ofNat 32 k := by decide +kernel
theorem z_cu : ∀ k, k < 32 → ((nI k).toUInt32 &&& Int32.toUInt32 31) = UInt32.ofNat k := by decide +kernel
theorem z_tb (n : Nat) : (nI n).toBitVec = BitVec.ofNat 32 n := rfl
theorem z_shrD {a d : Nat} {D : Int32} (hD : (D.toBitVec.smod 32).toNat = d) (h : a < 2 ^ 31) : nI a >>> D = nI (a / 2 ^ d) := by
  have hd : a / 2 ^ d ≤ a := Nat.div_le_self _ _
  apply Int32.toInt_inj.mp
  have e : (nI a >>> D).toInt = (nI a).toInt >>> d := by
    rw [← hD]
    exact BitVec.toInt_sshiftRight ..
  rw [e, Int.shiftRight_eq_div_pow, nI_toInt (by omega), nI_toInt (by omega)]
  rfl
theorem z_shr {m x : Nat} (hm : m < 2 ^ 31) (hx : x < 32) : nI m >>> (nI x &&& 31) = nI (m / 2 ^ x) := z_shrD (z_sl x hx) hm
theorem z_shl (n : Nat) {k : Nat} (hk : k < 32) : nI n <<< (nI k &&& 31) = nI (n * 2 ^ k) := by
  rw [z_c k hk]
  apply Int32.toBitVec_inj.mp
  rw [Int32.toBitVec_shiftLeft, z_tb, z_tb, z_tb, z_sm k hk]
  apply BitVec.eq_of_toNat_eq
  rw [BitVec.shiftLeft_eq', BitVec.toNat_shiftLeft, BitVec.toNat_ofNat, BitVec.toNat_ofNat, BitVec.toNat_ofNat, Nat.mod_eq_of_lt (show k < 2 ^ 32 by omega), Nat.shiftLeft_eq, Nat.mul_mod, Nat.mod_mod, ← Nat.mul_mod]
theorem z_one {x : Nat} (hx : x < 32) : (1 : Int32) <<< (nI x &&& 31) = nI (2 ^ x) := by
  have h := z_shl 1 hx
  rw [Nat.one_mul] at h
  exact h
theorem z_ushr {n k : Nat} (hn : n < 2 ^ 32) (hk : k < 32) : ((nI n).toUInt32 >>> ((nI k).toUInt32 &&& Int32.toUInt32 31)).toInt32 = nI (n / 2 ^ k) := by
  rw [z_cu k hk]
  apply Int32.toBitVec_inj.mp
  apply BitVec.eq_of_toNat_eq
  show ((nI n).toUInt32 >>> UInt32.ofNat k).toNat = (BitVec.ofNat 32 _).toNat
  have h1 : (UInt32.ofNat k).toNat = k := by
    show (BitVec.ofNat 32 k).toNat = k
    rw [BitVec.toNat_ofNat, Nat.mod_eq_of_lt (by omega)]
  have h2 : (nI n).toUInt32.toNat = n := by
    show (BitVec.ofNat 32 n).toNat = n
    rw [BitVec.toNat_ofNat, Nat.mod_eq_of_lt hn]
  rw [UInt32.toNat_shiftRight, h1, h2, Nat.mod_eq_of_lt hk, Nat.shiftRight_eq_div_pow, BitVec.toNat_ofNat, Nat.mod_eq_of_lt (Nat.lt_of_le_of_lt (Nat.div_le_self _ _) hn)]
theorem z_and1 (n : Nat) : nI n &&& 1 = nI (n % 2) := fa_mask n 1
/-- checks and places -/
theorem ok_nI {j n : Nat} (h : j < n) (hn : n ≤ 300) : ok (nI j) n = true := by
  unfold ok
  rw [nI_toInt (by omega), Bool.and_eq_true, decide_eq_true_eq, decide_eq_true_eq]
  omega
theorem ck_ok {α : Type} {j n : Nat} {x : Option α} (h : j < n) (hn : n ≤ 300) : ck (ok (nI j) n) x = x := by
  unfold ck
  rw [if_pos (ok_nI h hn)]
theorem ck_nz {α : Type} {x : Int32} {y : Option α} (h : ¬ x = 0) : ck (nz x) y = y := by
  unfold ck nz
  rw [decide_eq_false h]
  rfl
theorem tn {j : Nat} (h : j < 2 ^ 31) : Int32.toNatClampNeg (nI j) = j := nI_clamp h
theorem l0 (t : Nat) : (0 : Int32) + nI t = nI t := by have := nI_add 0 t; rw [Nat.zero_add] at this; exact this
theorem l1 (t : Nat) : nI t + 1 = nI (t + 1) := nI_1 t
theorem l25 (t : Nat) : (25 : Int32) + nI t = nI (25 + t) := nI_add 25 t
theorem l37 (t : Nat) : (37 : Int32) + nI t = nI (37 + t) := nI_add 37 t
theorem l50 (t : Nat) : (50 : Int32) + nI t = nI (50 + t) := nI_add 50 t
theorem l65 (t : Nat) : (65 : Int32) + nI t = nI (65 + t) := nI_add 65 t
theorem le24 {j : Nat} (h : j < 2 ^ 31) : (24 : Int32) ≤ nI j ↔ 24 ≤ j := nI_leI (by decide) h
theorem le12 {j : Nat} (h : j < 2 ^ 31) : (12 : Int32) ≤ nI j ↔ 12 ≤ j := nI_leI (by decide) h
theorem le80 {j : Nat} (h : j < 2 ^ 31) : (80 : Int32) ≤ nI j ↔ 80 ≤ j := nI_leI (by decide) h
theorem le65 {j : Nat} (h : j < 2 ^ 31) : (65 : Int32) ≤ nI j ↔ 65 ≤ j := nI_leI (by decide) h
theorem le195 {j : Nat} (h : j < 2 ^ 31) : (195 : Int32) ≤ nI j ↔ 195 ≤ j := nI_leI (by decide) h
theorem le4 {j : Nat} (h : j < 2 ^ 31) : (4 : Int32) ≤ nI j ↔ 4 ≤ j := nI_leI (by decide) h
theorem le1 {j : Nat} (h : j < 2 ^ 31) : (1 : Int32) ≤ nI j ↔ 1 ≤ j := nI_leI (by decide) h
theorem lt0 {j : Nat} (h : j < 2 ^ 31) : nI j < 0 ↔ False := ⟨fun q => nI_pos h q, fun q => q.elim⟩
theorem ge0 {j : Nat} (h : j < 2 ^ 31) : (0 : Int32) ≤ nI j ↔ True := ⟨fun _ => trivial, fun _ => nI_pos' h⟩
theorem leN0 {j : Nat} (h : j < 2 ^ 31) : nI j ≤ 0 ↔ j = 0 := by
  have := nI_leI (a := j) (b := 0) h (by decide)
  exact this.trans (by omega)
theorem eq0 {j : Nat} (h : j < 2 ^ 31) : nI j = 0 ↔ j = 0 := nI_eq (a := j) (b := 0) h (by decide)
theorem eq1 {j : Nat} (h : j < 2 ^ 31) : nI j = 1 ↔ j = 1 := nI_eq (a := j) (b := 1) h (by decide)
/-- the bits of a set -/
def pc (m : Nat) : Nat := fb_sm (fun x => m / 2 ^ x % 2) 24
theorem fb_sm_0 (f : Nat → Nat) : fb_sm f 0 = 0 := rfl
theorem ones_lp (m : Nat) (hm : m < 2 ^ 31) : ∀ (n j : Nat), j ≤ 24 → 24 - j < n → F_X5_ones_4 n (nI m) (nI (fb_sm (fun x => m / 2 ^ x % 2) j)) (nI j) = some (nI (pc m)) := by
  intro n
  induction n with
  | zero => intro j _ h; omega
  | succ n ih =>
    intro j hj hn
    rw [F_X5_ones_4]
    by_cases h : 24 ≤ j
    · rw [if_pos ((le24 (by omega)).mpr h)]
      have e : j = 24 := by omega
      subst e
      rfl
    · rw [if_neg (fun q => h ((le24 (by omega)).mp q)), z_shr hm (by omega), z_and1, nI_add, l1, ← fb_sm_succ]
      exact ih (j + 1) (by omega) (by omega)
theorem ones_eq {m : Nat} (hm : m < 2 ^ 31) : F_X5_ones (nI m) = some (nI (pc m)) := ones_lp m hm 10000 0 (by omega) (by omega)
theorem and_b (x y : Nat) : x &&& y = (x % 256 &&& y % 256) + 256 * (x / 256 &&& y / 256) := by
  have h1 : (x &&& y) % 256 = x % 256 &&& y % 256 := Nat.and_mod_two_pow (n := 8)
  have h2 : (x &&& y) / 256 = x / 256 &&& y / 256 := Nat.and_div_two_pow (n := 8)
  rw [← h1, ← h2]
  omega
theorem and_3 {x a b c y p q r s : Nat} (hx : x = a + 256 * b + 65536 * c) (ha : a < 256) (hb : b < 256) (hc : c < 256) (hy : y = p + 256 * q + 65536 * r + 16777216 * s) (hp : p < 256) (hq : q < 256) (hr : r < 256) : x &&& y = (a &&& p) + 256 * (b &&& q) + 65536 * (c &&& r) := by
  rw [and_b x y, and_b (x / 256), and_b (x / 256 / 256), show x % 256 = a by omega, show x / 256 % 256 = b by omega, show x / 256 / 256 % 256 = c by omega, show x / 256 / 256 / 256 = 0 by omega, show y % 256 = p by omega, show y / 256 % 256 = q by omega, show y / 256 / 256 % 256 = r by omega, Nat.zero_and]
  omega
def t1 (x : Nat) : Nat := x - (x / 2 &&& 85)
def t2 (y : Nat) : Nat := (y &&& 51) + (y / 4 &&& 51)
def t3 (z : Nat) : Nat := (z + z / 16) &&& 15
def pc8 (x : Nat) : Nat := fb_sm (fun k => x / 2 ^ k % 2) 8
theorem f1 : ∀ a, a < 256 → ∀ β, β < 2 → ((a / 2 + 128 * β) &&& 85) = (a / 2 &&& 85) := by decide +kernel
theorem f2 : ∀ a, a < 256 → ∀ β, β < 4 → ((a / 4 + 64 * β) &&& 51) = (a / 4 &&& 51) := by decide +kernel
theorem f4 : ∀ x, x < 256 → (x / 2 &&& 85) ≤ x ∧ t1 x < 256 ∧ t2 (t1 x) ≤ 68 ∧ t2 (t1 x) % 16 ≤ 4 ∧ t3 (t2 (t1 x)) = pc8 x ∧ pc8 x ≤ 8 := by decide +kernel
theorem f3 : ∀ z, z < 69 → ∀ β, β < 5 → ((z + z / 16 + 16 * β) &&& 15) = t3 z := by decide +kernel
theorem pc_bytes {m a b c : Nat} (hm : m = a + 256 * b + 65536 * c) (ha : a < 256) (hb : b < 256) (hc : c < 256) : pc m = pc8 a + pc8 b + pc8 c := by
  unfold pc
  rw [show (24 : Nat) = 8 + 16 by rfl, fb_sm_split, show (16 : Nat) = 8 + 8 by rfl, fb_sm_split]
  have e1 : fb_sm (fun x => m / 2 ^ x % 2) 8 = pc8 a := fb_sm_cong (fun k hk => by
    rcases (show k = 0 ∨ k = 1 ∨ k = 2 ∨ k = 3 ∨ k = 4 ∨ k = 5 ∨ k = 6 ∨ k = 7 by omega) with rfl | rfl | rfl | rfl | rfl | rfl | rfl | rfl <;> simp only [Nat.reducePow] <;> omega)
  have e2 : fb_sm (fun k => m / 2 ^ (8 + k) % 2) 8 = pc8 b := fb_sm_cong (fun k hk => by
    rcases (show k = 0 ∨ k = 1 ∨ k = 2 ∨ k = 3 ∨ k = 4 ∨ k = 5 ∨ k = 6 ∨ k = 7 by omega) with rfl | rfl | rfl | rfl | rfl | rfl | rfl | rfl <;> simp only [Nat.reducePow, Nat.reduceAdd] <;> omega)
  have e3 : fb_sm (fun k => m / 2 ^ (8 + (8 + k)) % 2) 8 = pc8 c := fb_sm_cong (fun k hk => by
    rcases (show k = 0 ∨ k = 1 ∨ k = 2 ∨ k = 3 ∨ k = 4 ∨ k = 5 ∨ k = 6 ∨ k = 7 by omega) with rfl | rfl | rfl | rfl | rfl | rfl | rfl | rfl <;> simp only [Nat.reducePow, Nat.reduceAdd] <;> omega)
  rw [e1, e2, e3]
  omega
theorem bc_eq {m : Nat} (hm : m < 2 ^ 24) : F_J6_bitCount_0f7a4 (nI m) = some (nI (pc m)) := by
  obtain ⟨a, b, c, rfl, ha, hb, hc⟩ : ∃ a b c, m = a + 256 * b + 65536 * c ∧ a < 256 ∧ b < 256 ∧ c < 256 := ⟨m % 256, m / 256 % 256, m / 65536, by omega, by omega, by omega, by omega⟩
  rw [pc_bytes rfl ha hb hc]
  obtain ⟨a1, a2, a3, a4, a5, a6⟩ := f4 a ha
  obtain ⟨b1, b2, b3, b4, b5, b6⟩ := f4 b hb
  obtain ⟨c1, c2, c3, c4, c5, c6⟩ := f4 c hc
  generalize hM : a + 256 * b + 65536 * c = m at hm ⊢
  unfold F_J6_bitCount_0f7a4 nmd
  dsimp only
  rw [show ((nI m).toUInt32 >>> ((1 : Int32).toUInt32 &&& Int32.toUInt32 31)).toInt32 = nI (m / 2) from z_ushr (k := 1) (by omega) (by omega)]
  have g1 : m / 2 &&& 1431655765 = (a / 2 &&& 85) + 256 * (b / 2 &&& 85) + 65536 * (c / 2 &&& 85) := by
    rw [and_3 (x := m / 2) (a := a / 2 + 128 * (b % 2)) (b := b / 2 + 128 * (c % 2)) (c := c / 2) (p := 85) (q := 85) (r := 85) (s := 85) (by omega) (by omega) (by omega) (by omega) (by omega) (by omega) (by omega) (by omega), f1 a ha _ (by omega), f1 b hb _ (by omega)]
  rw [show nI (m / 2) &&& 1431655765 = nI (m / 2 &&& 1431655765) from fa_and _ _, g1, pk_sub (by omega)]
  have g2 : m - ((a / 2 &&& 85) + 256 * (b / 2 &&& 85) + 65536 * (c / 2 &&& 85)) = t1 a + 256 * t1 b + 65536 * t1 c := by unfold t1; omega
  rw [g2]
  generalize hx : t1 a = x at a2 a3 a4 a5
  generalize hy : t1 b = y at b2 b3 b4 b5
  generalize hz : t1 c = z at c2 c3 c4 c5
  generalize hU : x + 256 * y + 65536 * z = u
  rw [show ((nI u).toUInt32 >>> ((2 : Int32).toUInt32 &&& Int32.toUInt32 31)).toInt32 = nI (u / 4) from z_ushr (k := 2) (by omega) (by omega)]
  have g3 : u / 4 &&& 858993459 = (x / 4 &&& 51) + 256 * (y / 4 &&& 51) + 65536 * (z / 4 &&& 51) := by
    rw [and_3 (x := u / 4) (a := x / 4 + 64 * (y % 4)) (b := y / 4 + 64 * (z % 4)) (c := z / 4) (p := 51) (q := 51) (r := 51) (s := 51) (by omega) (by omega) (by omega) (by omega) (by omega) (by omega) (by omega) (by omega), f2 x a2 _ (by omega), f2 y b2 _ (by omega)]
  have g4 : u &&& 858993459 = (x &&& 51) + 256 * (y &&& 51) + 65536 * (z &&& 51) := and_3 (s := 51) hU.symm a2 b2 c2 (by omega) (by omega) (by omega) (by omega)
  rw [show nI u &&& 858993459 = nI (u &&& 858993459) from fa_and _ _, show nI (u / 4) &&& 858993459 = nI (u / 4 &&& 858993459) from fa_and _ _, nI_add, g3, g4]
  have g5 : (x &&& 51) + 256 * (y &&& 51) + 65536 * (z &&& 51) + ((x / 4 &&& 51) + 256 * (y / 4 &&& 51) + 65536 * (z / 4 &&& 51)) = t2 x + 256 * t2 y + 65536 * t2 z := by unfold t2; omega
  rw [g5]
  generalize t2 x = x at a3 a4 a5
  generalize t2 y = y at b3 b4 b5
  generalize t2 z = z at c3 c4 c5
  generalize hV : x + 256 * y + 65536 * z = v
  rw [show ((nI v).toUInt32 >>> ((4 : Int32).toUInt32 &&& Int32.toUInt32 31)).toInt32 = nI (v / 16) from z_ushr (k := 4) (by omega) (by omega), nI_add, show nI (v + v / 16) &&& 252645135 = nI ((v + v / 16) &&& 252645135) from fa_and _ _]
  have g6 : (v + v / 16) &&& 252645135 = t3 x + 256 * t3 y + 65536 * t3 z := by
    rw [and_3 (x := v + v / 16) (a := x + x / 16 + 16 * (y % 16)) (b := y + y / 16 + 16 * (z % 16)) (c := z + z / 16) (p := 15) (q := 15) (r := 15) (s := 15) (by omega) (by omega) (by omega) (by omega) (by omega) (by omega) (by omega) (by omega), f3 x (by omega) _ (by omega), f3 y (by omega) _ (by omega)]
    rfl
  rw [g6, a5, b5, c5]
  generalize pc8 a = x at a6
  generalize pc8 b = y at b6
  generalize pc8 c = z at c6
  generalize hB : x + 256 * y + 65536 * z = w
  rw [show ((nI w).toUInt32 >>> ((8 : Int32).toUInt32 &&& Int32.toUInt32 31)).toInt32 = nI (w / 256) from z_ushr (k := 8) (by omega) (by omega), nI_add, show ((nI (w + w / 256)).toUInt32 >>> ((16 : Int32).toUInt32 &&& Int32.toUInt32 31)).toInt32 = nI ((w + w / 256) / 65536) from z_ushr (k := 16) (by omega) (by omega), nI_add, show nI (w + w / 256 + (w + w / 256) / 65536) &&& 63 = nI ((w + w / 256 + (w + w / 256) / 65536) % 64) from fa_mask _ 6]
  have k1 : w / 256 = y + 256 * z := by clear g1 g2 g3 g4 g5 g6 a5 b5 c5; omega
  have k2 : (w + w / 256) / 65536 = z := by clear g1 g2 g3 g4 g5 g6 a5 b5 c5; omega
  have k3 : (w + w / 256 + (w + w / 256) / 65536) % 64 = x + y + z := by
    rw [k2, k1, ← hB]
    clear g1 g2 g3 g4 g5 g6 a5 b5 c5 k1 k2
    omega
  rw [k3]
