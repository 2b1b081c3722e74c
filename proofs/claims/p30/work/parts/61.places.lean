/-! reading a place, by both -/
abbrev RD := Int32 × Int32 × Int32 × Int32 × Int32 × Int32 × (Nat → Int32)
/-- what the model stores for a place -/
def insR (i y cam r : Nat) (fst : Int32) (l : Nat) (g : Nat → Int32) : RD := if r = 0 then (nI i, 0, nI (cam ||| 2 ^ y), nI y, nI y, nI (r + 1), upd g y (nI y)) else (nI i, 0, nI (cam ||| 2 ^ y), fst, nI y, nI (r + 1), upd (upd g l (nI y)) y fst)
theorem insE {N i y cam r l : Nat} {fst lst : Int32} {g fx : Nat → Int32} (hy : y < 24) (hr : r < 1000) (hl : r ≠ 0 → lst = nI l ∧ l < 24) (hcam : cam < 2 ^ 24) (hb : cam.testBit y = false) :
    (if ((nI cam >>> (nI y &&& 31)) &&& 1) = 1 then some (nI i, 3, nI cam, fst, lst, nI r, g) else (if nI r = 0 then (ck (ok (nI y) 24) (some (nI i, 0, nI cam ||| ((1 : Int32) <<< (nI y &&& 31)), nI y, nI y, nI r + 1, upd g (Int32.toNatClampNeg (nI y)) (nI y)))) else (ck (ok lst 24) (ck (ok (nI y) 24) (some (nI i, 0, nI cam ||| ((1 : Int32) <<< (nI y &&& 31)), fst, nI y, nI r + 1, upd (upd g (Int32.toNatClampNeg lst) (nI y)) (Int32.toNatClampNeg (nI y)) fst)))))) = some (insR i y cam r fst l g) := by
  have v1 : (nI cam >>> (nI y &&& 31)) &&& 1 = nI (if cam.testBit y = true then 1 else 0) := bitM (by omega) (by omega)
  have v2 : (1 : Int32) <<< (nI y &&& 31) = nI (2 ^ y) := z_one (by omega)
  rw [v1, hb, if_neg (by decide), v2, fa_or, l1, ck_ok hy (by omega), ck_ok hy (by omega), tn (show y < 2 ^ 31 by omega)]
  unfold insR
  by_cases c : r = 0
  · rw [if_pos (by rw [c]; rfl), if_pos c]
  · obtain ⟨e1, e2⟩ := hl c
    rw [if_neg (fun q => c ((eq0 (by omega)).mp q)), if_neg c, e1, ck_ok e2 (by omega), tn (by omega)]
theorem insH {i y cam : Nat} {fst lst inr : Int32} {g : Nat → Int32} {Z : Option RD} (hy : y < 24) (hcam : cam < 2 ^ 24) (hb : cam.testBit y = true) : (if ((nI cam >>> (nI y &&& 31)) &&& 1) = 1 then some (nI i, 3, nI cam, fst, lst, inr, g) else Z) = some (nI i, 3, nI cam, fst, lst, inr, g) := by
  have v1 : (nI cam >>> (nI y &&& 31)) &&& 1 = nI (if cam.testBit y = true then 1 else 0) := bitM (by omega) (by omega)
  rw [v1, hb, if_pos (by decide)]
def Tt (N : Nat) (xfc fx : Nat → Int32) : Prop := N ≤ 80 ∧ ∀ j, j < N → ∃ v, v < 65536 ∧ xfc j = nI v ∧ fx j = nI v
/-- the outcome of reading a place: a fault at which both stop, or a place -/
def PO (N : Nat) (xfc fx : Nat → Int32) (i0 : Nat) (awt num : Int32) (cam r : Nat) (fst lst : Int32) (l : Nat) (cf cl : Int32) (xft g : Nat → Int32) (res : Option RD) : Prop :=
  (∃ i k w, i ≤ N ∧ ¬ k = 0 ∧ res = some (nI i, k, w) ∧ ∀ M, CR N xfc i0 awt num (nI cam) cf cl xft (nI i) k M) ∨
  ∃ i y, i0 ≤ i ∧ i ≤ N ∧ y < 24 ∧ cam.testBit y = false ∧ (∀ c, i < N → fx i = nI c → c < 65536 → ¬ dg c) ∧ res = some (insR i y cam r fst l g) ∧ ∀ o k M, CR N xfc i 2 (nI y) (nI cam) cf cl xft o k M → CR N xfc i0 awt num (nI cam) cf cl xft o k M
theorem dig_lp {N cam r l : Nat} {xfc fx xft g : Nat → Int32} {fst lst cf cl : Int32} (hT : Tt N xfc fx) (hcam : cam < 2 ^ 24) (hr : r < 1000) (hl : r ≠ 0 → lst = nI l ∧ l < 24) : ∀ (n i x : Nat), x < 24 → i ≤ N → N - i < n → PO N xfc fx i 2 (nI x) cam r fst lst l cf cl xft g (F_X5_reads_35 (nI N) fx n (nI x) (nI i) 0 (nI cam) fst lst (nI r) g) := by
  obtain ⟨hN, hv⟩ := hT
  intro n
  induction n with
  | zero => intro i _ _ _ h; omega
  | succ n ih =>
    intro i x hx hi hn
    rw [F_X5_reads_35]
    rcases Nat.lt_or_ge i N with c | c
    · obtain ⟨v, hv1, hv2, hv3⟩ := hv i c
      by_cases d : dg v
      · rw [mdT hN c hv3 d, Option.bind_some, if_neg n10, if_pos rfl, ck_ok (by omega) (by omega)]
        by_cases e : x = 0
        · refine Or.inl ⟨i, 2, _, by omega, by decide, by rw [if_pos (by rw [e]; rfl)], fun M => CR_fault hN c (w := _) (by rw [hv2, e]; exact fo_2d0 _ _ _ _ d) (by decide)⟩
        · have e2 : (10 : Int32) * nI x + fx (Int32.toNatClampNeg (nI i)) - 48 = nI (10 * x + (v - 48)) := by
            rw [tn (by omega), hv3, show (10 : Int32) * nI x = nI (10 * x) from pk_mul 10 x, nI_add, show (48 : Int32) = nI 48 from rfl, msub (by have := d.1; omega) (by omega)]
            congr 1
            have := d.1
            omega
          rw [if_neg (fun q => e ((eq0 (by omega)).mp q)), e2]
          by_cases f : 10 * x + (v - 48) < 24
          · rw [if_pos ((ltI24 (by omega)).mpr f), l1]
            have st : ∀ o k M, CR N xfc (i + 1) 2 (nI (10 * x + (v - 48))) (nI cam) cf cl xft o k M → CR N xfc i 2 (nI x) (nI cam) cf cl xft o k M := fun o k M h => CR_step hN c (by rw [hv2]; exact fo_2dy _ _ _ _ hx e d f) h
            rcases ih (i + 1) (10 * x + (v - 48)) f (by omega) (by omega) with ⟨a, k, w, p1, p2, p3, p4⟩ | ⟨a, y, p1, p2, p3, p4, p5, p6, p7⟩
            · exact Or.inl ⟨a, k, w, p1, p2, p3, fun M => st _ _ _ (p4 M)⟩
            · exact Or.inr ⟨a, y, by omega, p2, p3, p4, p5, p6, fun o k M h => st _ _ _ (p7 o k M h)⟩
          · refine Or.inl ⟨i, 2, _, by omega, by decide, by rw [if_neg (fun q => f ((ltI24 (by omega)).mp q))], fun M => CR_fault hN c (w := _) (by rw [hv2]; exact fo_2dn _ _ _ _ hx e d f) (by decide)⟩
      · rw [mdF hN c hv3 hv1 d, Option.bind_some, if_pos rfl]
        cases e : cam.testBit x
        · refine Or.inr ⟨i, x, Nat.le_refl _, hi, hx, e, fun c2 h1 h2 h3 h4 => ?_, insE (N := N) (fx := fx) hx hr hl hcam e, fun o k M h => h⟩
          rw [hv3] at h2
          rw [(nI_eq (by omega) (by omega)).mp h2] at d
          exact d h4
        · exact Or.inl ⟨i, 3, _, hi, by decide, insH hx hcam e, fun M => CR_fault hN c (w := _) (by rw [hv2]; exact fo_2h _ _ _ hx d hv1 e) (by decide)⟩
    · have e0 : i = N := by omega
      subst e0
      rw [mdO hN (Nat.le_refl i) (by omega), Option.bind_some, if_pos rfl]
      cases e : cam.testBit x
      · exact Or.inr ⟨i, x, Nat.le_refl _, hi, hx, e, fun c2 h1 => absurd h1 (Nat.lt_irrefl _), insE (N := i) (fx := fx) hx hr hl hcam e, fun o k M h => h⟩
      · exact Or.inl ⟨i, 3, _, hi, by decide, insH hx hcam e, fun M => CR_end hN (fe_2h hx e) (fun q => absurd q (by decide))⟩
theorem reads_eq {N cam r l : Nat} {xfc fx xft g : Nat → Int32} {fst lst cf cl num : Int32} (hT : Tt N xfc fx) (hcam : cam < 2 ^ 24) (hr : r < 1000) (hl : r ≠ 0 → lst = nI l ∧ l < 24) {i : Nat} (hi : i ≤ N) : PO N xfc fx i 1 num cam r fst lst l cf cl xft g (F_X5_reads (nI N) (nI i) 0 (nI cam) fst lst (nI r) fx g) := by
  have hT2 := hT
  obtain ⟨hN, hv⟩ := hT
  unfold F_X5_reads
  rcases Nat.lt_or_ge i N with c | c
  · obtain ⟨v, hv1, hv2, hv3⟩ := hv i c
    by_cases d : dg v
    · have d1 := d.1
      have d2 := d.2
      rw [mdT hN c hv3 d, Option.bind_some, if_neg n10, ck_ok (by omega) (by omega), tn (by omega), hv3, show (48 : Int32) = nI 48 from rfl, msub d.1 (by omega), l1]
      have st : ∀ o k M, CR N xfc (i + 1) 2 (nI (v - 48)) (nI cam) cf cl xft o k M → CR N xfc i 1 num (nI cam) cf cl xft o k M := fun o k M h => CR_step hN c (by rw [hv2]; exact fo_1y _ _ _ _ _ d) h
      rcases dig_lp (xft := xft) (g := g) (fst := fst) (cf := cf) (cl := cl) hT2 hcam hr hl 10000 (i + 1) (v - 48) (by omega) (by omega) (by omega) with ⟨a, k, w, p1, p2, p3, p4⟩ | ⟨a, y, p1, p2, p3, p4, p5, p6, p7⟩
      · exact Or.inl ⟨a, k, w, p1, p2, p3, fun M => st _ _ _ (p4 M)⟩
      · exact Or.inr ⟨a, y, by omega, p2, p3, p4, p5, p6, fun o k M h => st _ _ _ (p7 o k M h)⟩
    · rw [mdF hN c hv3 hv1 d, Option.bind_some, if_pos rfl, failsM hN c, Option.bind_some]
      exact Or.inl ⟨i, 4, _, hi, by decide, rfl, fun M => CR_fault hN c (w := _) (by rw [hv2]; exact fo_1n _ _ _ _ _ d hv1) (by decide)⟩
  · have e0 : i = N := by omega
    subst e0
    rw [mdO hN (Nat.le_refl i) (by omega), Option.bind_some, if_pos rfl, failsE, Option.bind_some]
    exact Or.inl ⟨i, 1, _, hi, by decide, rfl, fun M => CR_end hN fe_1 (fun q => absurd q (by decide))⟩
