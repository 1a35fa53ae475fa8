/-! out of kit/laws/BITS.to-paste: Int64 as an unsigned number -/
def uN (x : Int64) : Nat := x.toUInt64.toNat
theorem uN_lt (x : Int64) : uN x < 18446744073709551616 := x.toUInt64.toNat_lt
theorem uN_inj {x y : Int64} (h : uN x = uN y) : x = y := congrArg UInt64.toInt64 (UInt64.toNat_inj.mp h)
theorem uN_shr (x : Int64) (s : UInt64) : uN (x.toUInt64 >>> s).toInt64 = uN x / 2 ^ (s.toNat % 64) := by
  show (x.toUInt64 >>> s).toNat = _
  rw [UInt64.toNat_shiftRight, Nat.shiftRight_eq_div_pow]
  rfl
theorem uN_sk (x : Int64) {k : Nat} (hk : k < 64) : uN (x.toUInt64 >>> ((nI k).toInt64.toUInt64 &&& Int64.toUInt64 63)).toInt64 = uN x / 2 ^ k := by
  have h : ((nI k).toInt64.toUInt64 &&& Int64.toUInt64 63).toNat % 64 = k := by
    rw [nI_l (by omega), UInt64.toNat_and]
    have e : (lN k).toUInt64.toNat = k % 2 ^ 64 := rfl
    have e2 : (Int64.toUInt64 63).toNat = 2 ^ 6 - 1 := by decide
    rw [e, e2, Nat.and_two_pow_sub_one_eq_mod]
    omega
  rw [uN_shr, h]
/-! bytes and texts -/
def by8 (b : Int32) : Nat := b.toBitVec.toNat % 256
theorem by8_and (b : Int32) : b &&& 255 = nI (by8 b) := pk_and b (m := 255) 8 (by decide)
theorem by8_lt (b : Int32) : by8 b < 256 := Nat.mod_lt _ (by decide)
theorem by8_nI {x : Nat} (h : x < 256) : by8 (nI x) = x := by
  unfold by8
  rw [pk_tn (by omega)]
  omega
def tTx (ca : Nat → ClassId) (ad : Nat → Nat) (c : Nat → va_E) (k cap : Nat) (t : List Nat) : Prop :=
  t.length ≤ cap ∧ cap < 1048576 ∧ (∀ x ∈ t, x < 256) ∧ c k = .inr (tCT, [.ref (ad (k + 1)), .int (nI t.length)]) ∧ ∃ f : Nat → Int32, c (k + 1) = .inl (ca 0, cap, .inl f) ∧ ∀ j, j < t.length → f j = nI (t.getD j 0)
theorem tTx.keep {ca : Nat → ClassId} {ad : Nat → Nat} {c c' : Nat → va_E} {k cap : Nat} {t : List Nat} (h : tTx ca ad c k cap t) (h1 : c' k = c k) (h2 : c' (k + 1) = c (k + 1)) : tTx ca ad c' k cap t := by
  obtain ⟨a, b, b2, d, f, e, g⟩ := h
  exact ⟨a, b, b2, h1.trans d, f, h2.trans e, g⟩
theorem tTx.mv {ca : Nat → ClassId} {ad ad' : Nat → Nat} {c c' : Nat → va_E} {k cap : Nat} {t : List Nat} (h : tTx ca ad c k cap t) (ha : ad' (k + 1) = ad (k + 1)) (h1 : c' k = c k) (h2 : c' (k + 1) = c (k + 1)) : tTx ca ad' c' k cap t := by
  obtain ⟨a, b, b2, d, f, e, g⟩ := h
  exact ⟨a, b, b2, by rw [h1, d, ha], f, h2.trans e, g⟩
theorem tTx.cell {ca : Nat → ClassId} {ad : Nat → Nat} {c : Nat → va_E} {k cap : Nat} {t : List Nat} (h : tTx ca ad c k cap t) : c k = .inr (tCT, [.ref (ad (k + 1)), .int (nI t.length)]) := h.2.2.2.1
theorem tTx.le {ca : Nat → ClassId} {ad : Nat → Nat} {c : Nat → va_E} {k cap : Nat} {t : List Nat} (h : tTx ca ad c k cap t) : t.length ≤ cap := h.1
theorem tTx.cap {ca : Nat → ClassId} {ad : Nat → Nat} {c : Nat → va_E} {k cap : Nat} {t : List Nat} (h : tTx ca ad c k cap t) : cap < 1048576 := h.2.1
theorem tTx.b8 {ca : Nat → ClassId} {ad : Nat → Nat} {c : Nat → va_E} {k cap : Nat} {t : List Nat} (h : tTx ca ad c k cap t) : ∀ x ∈ t, x < 256 := h.2.2.1
/-- nothing but a text's two cells has changed -/
def tSm (c c' : Nat → va_E) (k : Nat) : Prop := ∀ j, j ≠ k → j ≠ k + 1 → c' j = c j
theorem tSm.rf {c : Nat → va_E} {k : Nat} : tSm c c k := fun _ _ _ => rfl
theorem tSm.tr {c c' c'' : Nat → va_E} {k : Nat} (h : tSm c c' k) (h' : tSm c' c'' k) : tSm c c'' k := fun j h1 h2 => (h' j h1 h2).trans (h j h1 h2)
/-- byte i of a text, or -1 -/
def tAt (t : List Nat) (i : Nat) : Int32 := if i < t.length then nI (t.getD i 0) else -1
def tAtI (t : List Nat) (i : Int32) : Int32 := if i < 0 then -1 else tAt t i.toNatClampNeg
theorem tAtI_nI {t : List Nat} {i : Nat} (h : i < 2 ^ 31) : tAtI t (nI i) = tAt t i := by
  unfold tAtI
  rw [if_neg (nI_pos h), nI_clamp h]
theorem tAtI_neg {t : List Nat} {x : Int32} (h : x < 0) : tAtI t x = -1 := if_pos h
theorem tAtI_big {t : List Nat} {x : Int32} (h0 : ¬ x < 0) (h : nI t.length ≤ x) (hl : t.length < 2 ^ 31) : tAtI t x = -1 := by
  obtain ⟨j, hj, rfl⟩ := nI_of h0
  rw [tAtI_nI hj]
  exact if_neg (by have := (nI_leI hl hj).mp h; omega)
theorem tAtI_in {t : List Nat} {x : Int32} (h0 : ¬ x < 0) (h : ¬ nI t.length ≤ x) (hl : t.length < 2 ^ 31) : ∃ j, j < t.length ∧ x = nI j ∧ tAtI t x = nI (t.getD j 0) := by
  obtain ⟨j, hj, rfl⟩ := nI_of h0
  have hlt : j < t.length := by
    rcases Nat.lt_or_ge j t.length with h9 | h9
    · exact h9
    · exact absurd (nI_le h9 hj) h
  exact ⟨j, hlt, rfl, by rw [tAtI_nI hj]; exact if_pos hlt⟩
theorem tk_getD {t : List Nat} {i j : Nat} (h : i < j) : (t.take j).getD i 0 = t.getD i 0 := by
  simp [List.getD_eq_getElem?_getD, List.getElem?_take, h]
theorem gD_mem {t : List Nat} {i : Nat} (h : i < t.length) : t.getD i 0 ∈ t := by
  rw [List.getD_eq_getElem?_getD, List.getElem?_eq_getElem h]
  exact List.getElem_mem h
theorem tk_succ {t : List Nat} {i : Nat} (h : i < t.length) : t.take (i + 1) = t.take i ++ [t.getD i 0] := by
  rw [List.take_add_one, List.getElem?_eq_getElem h, List.getD_eq_getElem?_getD, List.getElem?_eq_getElem h]
  rfl
theorem tb_app {t : List Nat} {b : Nat} (h : ∀ x ∈ t, x < 256) (hb : b < 256) : ∀ x ∈ t ++ [b], x < 256 := by
  intro x hx
  rcases List.mem_append.mp hx with h1 | h1
  · exact h x h1
  · rw [List.mem_singleton.mp h1]; exact hb
theorem tUpd {t : List Nat} {b : Nat} {f : Nat → Int32} (hf : ∀ j, j < t.length → f j = nI (t.getD j 0)) (hl : t.length < 2 ^ 31) : ∀ j, j < (t ++ [b]).length → upd f (nI t.length).toNatClampNeg (nI b) j = nI ((t ++ [b]).getD j 0) := by
  intro j hj
  rw [nI_clamp hl]
  by_cases h : j = t.length
  · subst h
    rw [pk_us, List.getD_eq_getElem?_getD, List.getElem?_append_right (Nat.le_refl _), Nat.sub_self]
    rfl
  · rw [List.length_append] at hj
    have hj2 : j < t.length := by simp at hj; omega
    rw [pk_un h, hf j hj2, List.getD_eq_getElem?_getD, List.getD_eq_getElem?_getD, List.getElem?_append_left hj2]
def tFour (x : Int32) : List Nat := [by8 (x.toUInt32 >>> ((24 : Int32).toUInt32 &&& Int32.toUInt32 31)).toInt32, by8 (x.toUInt32 >>> ((16 : Int32).toUInt32 &&& Int32.toUInt32 31)).toInt32, by8 (x.toUInt32 >>> ((8 : Int32).toUInt32 &&& Int32.toUInt32 31)).toInt32, by8 x]
/-! digits, the highest first, without 0s ahead -/
def bI (b : Bool) : Int32 := if b then 1 else 0
def dgF (dig ch : Nat → Nat) : Nat → Bool → List Nat
  | 0, _ => []
  | e + 1, b => if (b || (dig e != 0) || (e == 0)) = true then ch (dig e) :: dgF dig ch e true else dgF dig ch e false
theorem dgF_t {dig ch : Nat → Nat} {e : Nat} {b : Bool} (h : b = true ∨ dig e ≠ 0 ∨ e = 0) : dgF dig ch (e + 1) b = ch (dig e) :: dgF dig ch e true := by
  show (if _ then _ else _) = _
  rw [if_pos]
  rcases h with h | h | h
  · simp [h]
  · simp [h]
  · simp [h]
theorem dgF_f {dig ch : Nat → Nat} {e : Nat} {b : Bool} (hb : b = false) (h1 : dig e = 0) (h2 : e ≠ 0) : dgF dig ch (e + 1) b = dgF dig ch e false := by
  show (if _ then _ else _) = _
  rw [if_neg]
  simp [hb, h1, h2]
theorem dgF_len {dig ch : Nat → Nat} : ∀ (e : Nat) (b : Bool), (dgF dig ch e b).length ≤ e
  | 0, _ => Nat.le_refl 0
  | e + 1, b => by
    show (if _ then _ else _ : List Nat).length ≤ _
    split
    · have := dgF_len (dig := dig) (ch := ch) e true
      simp only [List.length_cons]; omega
    · have := dgF_len (dig := dig) (ch := ch) e false
      omega
theorem bI_ne {b : Bool} (h : ¬ bI b = 0) : b = true := by
  cases b
  · exact absurd rfl h
  · rfl
theorem bI_eq {b : Bool} (h : bI b = 0) : b = false := by
  cases b
  · rfl
  · exact absurd h (by decide)
/-- the units of the decimal places: 0 behind the last -/
def tU (e : Nat) : Int64 := match e with
  | 0 => 0
  | e + 1 => lN (10 ^ e)
theorem tU_step : ∀ e, e < 19 → tU (e + 1) / 10 = tU e := by decide +kernel
theorem tU_pos : ∀ e, e < 19 → ¬ tU (e + 1) ≤ 0 := by decide +kernel
theorem tU_one : ∀ e, e < 19 → (tU (e + 1) = 1 ↔ e = 0) := by decide +kernel
theorem tU_ne : ∀ e, e < 19 → ¬ tU (e + 1) = 0 := by decide +kernel
theorem tU_int : ∀ e, e < 19 → (tU (e + 1)).toInt = ((10 ^ e : Nat) : Int) := by decide +kernel
def dDig (v : Int64) (e : Nat) : Nat := v.toInt.natAbs / 10 ^ e % 10
def dCh (d : Nat) : Nat := 48 + d
def tDec (v : Int64) : List Nat := dgF (dDig v) dCh 19 false
theorem dDig_lt (v : Int64) (e : Nat) : dDig v e < 10 := Nat.mod_lt _ (by decide)
theorem i64_div_toInt {a b : Int64} (hb : 0 < b.toInt) : (a / b).toInt = a.toInt.tdiv b.toInt := Int64.toInt_div_of_ne_right a b (by rintro rfl; revert hb; decide)
theorem dDig_eq (v : Int64) {e : Nat} (he : e < 19) : (if 0 ≤ (v / tU (e + 1) - v / tU (e + 1) / 10 * 10).toInt32 then (v / tU (e + 1) - v / tU (e + 1) / 10 * 10).toInt32 else 0 - (v / tU (e + 1) - v / tU (e + 1) / 10 * 10).toInt32) = nI (dDig v e) := by
  have hu := tU_int e he
  have hp : 0 < (tU (e + 1)).toInt := by rw [hu]; exact Int.ofNat_lt.mpr (Nat.pow_pos (by decide))
  have hq := i64_div_toInt (a := v) hp
  generalize v / tU (e + 1) = q at hq ⊢
  have h10 : (10 : Int64).toInt = 10 := by decide
  have hqq := i64_div_toInt (a := q) (b := 10) (by decide)
  rw [h10] at hqq
  have hm : (q - q / 10 * 10).toInt = q.toInt.tmod 10 := by
    rw [Int64.toInt_sub, Int64.toInt_mul, h10, hqq]
    have h1 := Int.tmod_add_mul_tdiv q.toInt 10
    have h2 : (q.toInt.tmod 10).natAbs < 10 := by rw [Int.natAbs_tmod]; exact Nat.mod_lt _ (by decide)
    have h3 := Int64.le_toInt q
    have h4 := Int64.toInt_lt q
    have h7 : (q.toInt.tdiv 10).natAbs = q.toInt.natAbs / 10 := by rw [Int.natAbs_tdiv]; rfl
    have h5 : (q.toInt.tdiv 10 * 10).bmod (2 ^ 64) = q.toInt.tdiv 10 * 10 := by
      apply Int.bmod_eq_of_le
      · omega
      · omega
    rw [h5]
    have h6 : q.toInt - q.toInt.tdiv 10 * 10 = q.toInt.tmod 10 := by omega
    rw [h6]
    apply Int.bmod_eq_of_le
    · omega
    · omega
  have hd : dDig v e = (q.toInt.tmod 10).natAbs := by
    rw [Int.natAbs_tmod, hq, Int.natAbs_tdiv, hu]
    rfl
  have hlt : (q.toInt.tmod 10).natAbs < 10 := by rw [← hd]; exact dDig_lt v e
  generalize q - q / 10 * 10 = w at hm ⊢
  have hw : w.toInt32.toInt = q.toInt.tmod 10 := by
    rw [Int64.toInt_toInt32, hm]
    apply Int.bmod_eq_of_le
    · omega
    · omega
  apply Int32.toInt_inj.mp
  rw [nI_toInt (by rw [hd]; omega), hd]
  split
  · next h =>
    have h9 := Int32.le_iff_toInt_le.mp h
    rw [hw] at h9
    rw [hw]
    have h8 : (0 : Int32).toInt = 0 := by decide
    omega
  · next h =>
    have h9 : ¬ (0 : Int32).toInt ≤ w.toInt32.toInt := fun q => h (Int32.le_iff_toInt_le.mpr q)
    have h8 : (0 : Int32).toInt = 0 := by decide
    rw [hw, h8] at h9
    rw [Int32.toInt_sub, h8, hw]
    rw [Int.bmod_eq_of_le (by omega) (by omega)]
    omega
/-! bits: hexadecimal and octal digits -/
def tI (e : Nat) : Int32 := match e with
  | 0 => -1
  | e + 1 => nI e
theorem tI_step (e : Nat) : tI (e + 1) + Int32.ofInt (-1) = tI e := by
  rcases e with _ | e
  · decide
  · exact pk_m1 e
def bDig (v : Int64) (bt e : Nat) : Nat := uN v / 2 ^ (e * bt) % 2 ^ bt
def bCh (lb d : Nat) : Nat := if d < 10 then 48 + d else lb + d - 10
def tBits (v : Int64) (mo bt lb : Nat) : List Nat := dgF (bDig v bt) (bCh lb) mo false
theorem bDig_lt (v : Int64) {bt : Nat} (h : bt ≤ 4) (e : Nat) : bDig v bt e < 16 := by
  have h1 : bDig v bt e < 2 ^ bt := Nat.mod_lt _ (Nat.pow_pos (by decide))
  have h2 : 2 ^ bt ≤ 2 ^ 4 := Nat.pow_le_pow_right (by decide) h
  omega
theorem l2i_nat (z : Int64) : z.toInt32.toBitVec.toNat = uN z % 2 ^ 32 := by
  show (z.toBitVec.signExtend 32).toNat = _
  rw [BitVec.signExtend_eq_setWidth_of_le _ (by decide), BitVec.toNat_setWidth]
  rfl
theorem bDig_eq (v : Int64) {bt e : Nat} (hb : bt = 3 ∨ bt = 4) (he : e * bt < 64) {x4 mk : Int32} (h4 : x4 = nI bt) (hm : mk = (1 <<< (x4 &&& 31)) - 1) : ((v.toUInt64 >>> ((nI (e * bt) : Int32).toInt64.toUInt64 &&& Int64.toUInt64 63)).toInt64).toInt32 &&& mk = nI (bDig v bt e) := by
  have hmk : mk.toBitVec.toNat = 2 ^ bt - 1 := by
    rw [hm, h4]
    rcases hb with rfl | rfl <;> decide
  rw [pk_and _ bt hmk, l2i_nat, uN_sk v he]
  unfold bDig
  congr 1
  rcases hb with rfl | rfl
  · omega
  · omega
/-! a place -/
abbrev fl4 : Type := Bool × Bool × Bool × Bool
def tPl (c : Nat → va_E) (k : Nat) (f : fl4) (w kd bh : Int32) : Prop := c k = .inr (tCP, [.int (bI f.1), .int (bI f.2.1), .int (bI f.2.2.1), .int (bI f.2.2.2), .int w, .int kd, .int bh])
def pFlag (x : Nat) (f : fl4) : Option fl4 := if x = 45 then some (true, f.2.1, f.2.2.1, f.2.2.2) else if x = 48 then some (f.1, true, f.2.2.1, f.2.2.2) else if x = 43 then some (f.1, f.2.1, true, f.2.2.2) else if x = 32 then some (f.1, f.2.1, f.2.2.1, true) else none
def pFlags : List Nat → fl4 → fl4 × List Nat
  | [], f => (f, [])
  | x :: t, f => match pFlag x f with
    | some f' => pFlags t f'
    | none => (f, x :: t)
def isDg (x : Nat) : Bool := decide (48 ≤ x) && decide (x ≤ 57)
def pWid : List Nat → Nat → Nat × List Nat
  | [], w => (w, [])
  | x :: t, w => if isDg x = true then pWid t (min 100000 (w * 10 + (x - 48))) else (w, x :: t)
def isKd (x : Nat) : Bool := x == 37 || x == 88 || x == 99 || x == 100 || x == 111 || x == 115 || x == 120
theorem pFlags_le : ∀ (t : List Nat) (f : fl4), (pFlags t f).2.length ≤ t.length
  | [], f => Nat.le_refl _
  | x :: t, f => by
    unfold pFlags
    split
    · next f' h => exact Nat.le_trans (pFlags_le t f') (Nat.le_succ _)
    · exact Nat.le_refl _
theorem pWid_le : ∀ (t : List Nat) (w : Nat), (pWid t w).2.length ≤ t.length
  | [], w => Nat.le_refl _
  | x :: t, w => by
    unfold pWid
    split
    · exact Nat.le_trans (pWid_le t _) (Nat.le_succ _)
    · exact Nat.le_refl _
theorem pWid_lt : ∀ (t : List Nat) (w : Nat), w ≤ 100000 → (pWid t w).1 ≤ 100000
  | [], w => fun h => h
  | x :: t, w => fun h => by
    unfold pWid
    split
    · exact pWid_lt t _ (Nat.min_le_left _ _)
    · exact h
theorem dr_cons {t : List Nat} {i : Nat} (h : i < t.length) : t.drop i = t.getD i 0 :: t.drop (i + 1) := by
  rw [List.drop_eq_getElem_cons h, List.getD_eq_getElem?_getD, List.getElem?_eq_getElem h]
  rfl
theorem dr_nil {t : List Nat} {i : Nat} (h : t.length ≤ i) : t.drop i = [] := List.drop_eq_nil_of_le h
theorem isDg_t {b : Nat} (hb : b < 256) (h1 : (48 : Int32) ≤ nI b) (h2 : nI b ≤ 57) : isDg b = true := by
  have e1 : 48 ≤ b := (nI_leI (a := 48) (by omega) (by omega)).mp h1
  have e2 : b ≤ 57 := (nI_leI (b := 57) (by omega) (by omega)).mp h2
  simp [isDg, e1, e2]
theorem isDg_f {b : Nat} (hb : b < 256) (h : ¬ ((48 : Int32) ≤ nI b ∧ nI b ≤ 57)) : isDg b = false := by
  have e : ¬ (48 ≤ b ∧ b ≤ 57) := fun q => h ⟨nI_le (a := 48) q.1 (by omega), nI_le (b := 57) q.2 (by omega)⟩
  simp only [isDg, Bool.and_eq_false_iff, decide_eq_false_iff_not]
  omega
theorem isDg_le {b : Nat} (h : isDg b = true) : 48 ≤ b ∧ b ≤ 57 := by
  simpa [isDg] using h
theorem wd_eq {w b : Nat} (h : 48 ≤ b) : nI w * 10 + nI b - 48 = nI (w * 10 + (b - 48)) := by
  rw [show (10 : Int32) = nI 10 from rfl, pk_mul, nI_add, show (48 : Int32) = nI 48 from rfl, pk_sub (by omega)]
  congr 1
  omega
theorem wd_min {a : Nat} (h : a < 2 ^ 31) : (if nI a < (100000 : Int32) then nI a else 100000) = nI (min 100000 a) := by
  show (if nI a < nI 100000 then nI a else nI 100000) = _
  by_cases h1 : a < 100000
  · rw [if_pos (nI_lt (b := 100000) h1 (by omega)), Nat.min_eq_right (by omega)]
  · rw [if_neg (nI_nlt (b := 100000) (by omega) h), Nat.min_eq_left (by omega)]
/-- what stands behind a %: flags, width, and the rest, which begins with the kind -/
def pPlace (s : List Nat) : fl4 × Nat × List Nat := ((pFlags s (false, false, false, false)).1, pWid (pFlags s (false, false, false, false)).2 0)
theorem kd_cases {t : List Nat} {i : Nat} {r : Int32} (hb : ∀ x ∈ t, x < 256) (h : ((tAt t i = 37 ∨ tAt t i = 88 ∨ tAt t i = 99 ∨ tAt t i = 100 ∨ tAt t i = 111 ∨ tAt t i = 115 ∨ tAt t i = 120) ∧ r = 1) ∨ (¬ (tAt t i = 37 ∨ tAt t i = 88 ∨ tAt t i = 99 ∨ tAt t i = 100 ∨ tAt t i = 111 ∨ tAt t i = 115 ∨ tAt t i = 120) ∧ r = 0)) :
    (i < t.length ∧ isKd (t.getD i 0) = true ∧ r = 1) ∨ (¬ (i < t.length ∧ isKd (t.getD i 0) = true) ∧ r = 0) := by
  by_cases hi : i < t.length
  · have e : tAt t i = nI (t.getD i 0) := if_pos hi
    have hb8 := hb _ (gD_mem hi)
    have key : ∀ y : Nat, y < 256 → (tAt t i = nI y ↔ t.getD i 0 = y) := fun y hy => by
      rw [e]
      exact nI_eq (by omega) (by omega)
    have h2 : (tAt t i = 37 ∨ tAt t i = 88 ∨ tAt t i = 99 ∨ tAt t i = 100 ∨ tAt t i = 111 ∨ tAt t i = 115 ∨ tAt t i = 120) ↔ isKd (t.getD i 0) = true := by
      rw [show (37 : Int32) = nI 37 from rfl, show (88 : Int32) = nI 88 from rfl, show (99 : Int32) = nI 99 from rfl, show (100 : Int32) = nI 100 from rfl, show (111 : Int32) = nI 111 from rfl, show (115 : Int32) = nI 115 from rfl, show (120 : Int32) = nI 120 from rfl,
        key 37 (by decide), key 88 (by decide), key 99 (by decide), key 100 (by decide), key 111 (by decide), key 115 (by decide), key 120 (by decide)]
      simp [isKd, or_assoc]
    rcases h with ⟨h, hr⟩ | ⟨h, hr⟩
    · exact Or.inl ⟨hi, h2.mp h, hr⟩
    · exact Or.inr ⟨fun q => h (h2.mpr q.2), hr⟩
  · have e : tAt t i = -1 := if_neg hi
    rcases h with ⟨h, hr⟩ | ⟨h, hr⟩
    · rw [e] at h
      exact absurd h (by decide)
    · exact Or.inr ⟨fun q => hi q.1, hr⟩
/-! numerals -/
def tNm (c : Nat → va_E) (k : Nat) (v : Int64) : Prop := c k = .inr (tCN, [.long v])
def hxD (b : Nat) : Option Nat := if isDg b = true then some (b - 48) else if 97 ≤ b ∧ b ≤ 102 then some (b - 87) else if 65 ≤ b ∧ b ≤ 70 then some (b - 55) else none
def hxI (b : Nat) : Int32 := match hxD b with
  | some d => nI d
  | none => -1
def hxRd : List Nat → Int64 → Option Int64
  | [], v => some v
  | b :: s, v => match hxD b with
    | some d => hxRd s (v <<< ((4 : Int32).toInt64 &&& 63) ||| (nI d).toInt64)
    | none => none
def pHex (s : List Nat) (mi : Bool) : Option Int64 := if 1 ≤ s.length ∧ s.length ≤ 16 then (match hxRd s 0 with
    | some v => some (if mi = true then -v else v)
    | none => none) else none
def gTake (v : Int64) (d : Int32) : Option Int64 := if v < -922337203685477580 ∨ v * 10 < -9223372036854775808 + d.toInt64 then none else some (v * 10 - d.toInt64)
def gRd : List Nat → Int64 → Option Int64
  | [], v => some v
  | b :: s, v => if isDg b = true then (match gTake v (nI (b - 48)) with
    | some v' => gRd s v'
    | none => none) else none
def pDec (s : List Nat) (mi : Bool) : Option Int64 := match s with
  | [] => none
  | b :: s' => match gRd (b :: s') 0 with
    | some v => if mi = true then some v else if v = -9223372036854775808 then none else some (-v)
    | none => none
def pNum (t : List Nat) : Option Int64 := 
  if tAt (t.drop (if tAt t 0 = 45 ∨ tAt t 0 = 43 then 1 else 0)) 0 = 48 ∧ tAt (t.drop (if tAt t 0 = 45 ∨ tAt t 0 = 43 then 1 else 0)) 1 = 120 then pHex (t.drop ((if tAt t 0 = 45 ∨ tAt t 0 = 43 then 1 else 0) + 2)) (decide (tAt t 0 = 45)) else pDec (t.drop (if tAt t 0 = 45 ∨ tAt t 0 = 43 then 1 else 0)) (decide (tAt t 0 = 45))
theorem tAt_drop {t : List Nat} {i j : Nat} : tAt (t.drop i) j = tAt t (i + j) := by
  unfold tAt
  rw [List.length_drop]
  by_cases h : i + j < t.length
  · rw [if_pos h, if_pos (by omega), List.getD_eq_getElem?_getD, List.getElem?_drop, List.getD_eq_getElem?_getD]
  · rw [if_neg h, if_neg (by omega)]
theorem nI_ne_m1 {d : Nat} (h : d < 2 ^ 31) : ¬ nI d = -1 := fun q => absurd (by rw [q]; decide : nI d < 0) (nI_pos h)
theorem hxD_lt {b d : Nat} (h : hxD b = some d) : d < 16 := by
  unfold hxD at h
  split at h
  · next h1 => have := isDg_le h1; cases h; omega
  · split at h
    · cases h; omega
    · split at h
      · cases h; omega
      · cases h
theorem hxI_t {b d : Nat} (h : hxD b = some d) : hxI b = nI d := by unfold hxI; rw [h]
theorem hxI_f {b : Nat} (h : hxD b = none) : hxI b = -1 := by unfold hxI; rw [h]
theorem hx_eq {a b : Nat} (h : a ≤ b) (ha : 10 ≤ a) : nI b - nI a + 10 = nI (b - (a - 10)) := by
  rw [pk_sub h, show (10 : Int32) = nI 10 from rfl, nI_add]
  congr 1
  omega
theorem pDec_s {t : List Nat} {i : Nat} {mi : Bool} {v : Int64} (hi : i < t.length) (h : gRd (t.drop i) 0 = some v) : pDec (t.drop i) mi = if mi = true then some v else if v = -9223372036854775808 then none else some (-v) := by
  rw [dr_cons hi] at h ⊢
  show (match gRd _ 0 with | some v => _ | none => _) = _
  rw [h]
theorem pDec_n {t : List Nat} {i : Nat} {mi : Bool} (hi : i < t.length) (h : gRd (t.drop i) 0 = none) : pDec (t.drop i) mi = none := by
  rw [dr_cons hi] at h ⊢
  show (match gRd _ 0 with | some v => _ | none => _) = _
  rw [h]
theorem tI_pred (e : Nat) : nI e - 1 = tI e := by
  rcases e with _ | e
  · decide
  · exact nI_pred e
theorem bCh_hi {lb d : Nat} (h : 10 ≤ d) : nI lb + nI d - 10 = nI (bCh lb d) := by
  rw [nI_add, show (10 : Int32) = nI 10 from rfl, pk_sub (by omega)]
  unfold bCh
  rw [if_neg (by omega)]
theorem bCh_lo {lb d : Nat} (h : d < 10) : 48 + nI d = nI (bCh lb d) := by
  rw [show (48 : Int32) = nI 48 from rfl, nI_add]
  unfold bCh
  rw [if_pos h]
theorem bCh_lt {lb d : Nat} (h : d < 16) (hl : lb < 200) : bCh lb d < 256 := by
  unfold bCh
  split <;> omega
/-! the mill: 52 cells: the object 0; texts tape 1, pattern 3, made 5; the row of arguments 7, argument i at 8 + 2 i; place 48, numeral 49, digits 50 -/
def tMF (ca : Nat → ClassId) (ad : Nat → Nat) (c : Nat → va_E) (tp pt md : List Nat) (ar : Nat → List Nat) (ac tk : Nat) (f : fl4) (w kd bh : Int32) (v : Int64) (dg : List Nat) : Prop :=
  c 0 = .inr (tCM, [.ref (ad 1), .ref (ad 3), .ref (ad 5), .ref (ad 7), .int (nI ac), .int (nI tk), .ref (ad 48), .ref (ad 49), .ref (ad 50)]) ∧ tTx ca ad c 1 400 tp ∧ tTx ca ad c 3 400 pt ∧ tTx ca ad c 5 1024 md ∧
  (∃ g : Nat → Option Nat, c 7 = .inl (ca 1, 20, .inr (.inr (.inr (.inr g)))) ∧ ∀ i, i < 20 → g i = some (ad (8 + 2 * i))) ∧ (∀ i, i < 20 → tTx ca ad c (8 + 2 * i) 40 (ar i)) ∧ tPl c 48 f w kd bh ∧ tNm c 49 v ∧ tTx ca ad c 50 40 dg ∧ ac ≤ 20 ∧ tk ≤ 20
def tMS (ca : Nat → ClassId) (ad : Nat → Nat) (c : Nat → va_E) (tp pt md : List Nat) (ar : Nat → List Nat) (ac : Nat) : Prop := ∃ tk f w kd bh v dg, tMF ca ad c tp pt md ar ac tk f w kd bh v dg
theorem tMF.ms {ca : Nat → ClassId} {ad : Nat → Nat} {c : Nat → va_E} {tp pt md dg : List Nat} {ar : Nat → List Nat} {ac tk : Nat} {f : fl4} {w kd bh : Int32} {v : Int64} (h : tMF ca ad c tp pt md ar ac tk f w kd bh v dg) : tMS ca ad c tp pt md ar ac := ⟨tk, f, w, kd, bh, v, dg, h⟩
theorem tMF.tape {ca : Nat → ClassId} {ad : Nat → Nat} {c c' : Nat → va_E} {tp pt md dg : List Nat} {ar : Nat → List Nat} {ac tk : Nat} {f : fl4} {w kd bh : Int32} {v : Int64} {t : List Nat} (h : tMF ca ad c tp pt md ar ac tk f w kd bh v dg) (hs : tSm c c' 1) (ht : tTx ca ad c' 1 400 t) : tMF ca ad c' t pt md ar ac tk f w kd bh v dg := by
  obtain ⟨hm, ht1, ht3, ht5, ⟨g7, h7, hg7⟩, hA, hL, hV, ht50, hac, htk⟩ := h
  exact ⟨(hs 0 (by omega) (by omega)).trans hm, ht, ht3.keep (hs 3 (by omega) (by omega)) (hs 4 (by omega) (by omega)), ht5.keep (hs 5 (by omega) (by omega)) (hs 6 (by omega) (by omega)), ⟨g7, (hs 7 (by omega) (by omega)).trans h7, hg7⟩, fun i hi => (hA i hi).keep (hs _ (by omega) (by omega)) (hs _ (by omega) (by omega)), (hs 48 (by omega) (by omega)).trans hL, (hs 49 (by omega) (by omega)).trans hV, ht50.keep (hs 50 (by omega) (by omega)) (hs 51 (by omega) (by omega)), hac, htk⟩
theorem tMF.pat {ca : Nat → ClassId} {ad : Nat → Nat} {c c' : Nat → va_E} {tp pt md dg : List Nat} {ar : Nat → List Nat} {ac tk : Nat} {f : fl4} {w kd bh : Int32} {v : Int64} {t : List Nat} (h : tMF ca ad c tp pt md ar ac tk f w kd bh v dg) (hs : tSm c c' 3) (ht : tTx ca ad c' 3 400 t) : tMF ca ad c' tp t md ar ac tk f w kd bh v dg := by
  obtain ⟨hm, ht1, ht3, ht5, ⟨g7, h7, hg7⟩, hA, hL, hV, ht50, hac, htk⟩ := h
  exact ⟨(hs 0 (by omega) (by omega)).trans hm, ht1.keep (hs 1 (by omega) (by omega)) (hs 2 (by omega) (by omega)), ht, ht5.keep (hs 5 (by omega) (by omega)) (hs 6 (by omega) (by omega)), ⟨g7, (hs 7 (by omega) (by omega)).trans h7, hg7⟩, fun i hi => (hA i hi).keep (hs _ (by omega) (by omega)) (hs _ (by omega) (by omega)), (hs 48 (by omega) (by omega)).trans hL, (hs 49 (by omega) (by omega)).trans hV, ht50.keep (hs 50 (by omega) (by omega)) (hs 51 (by omega) (by omega)), hac, htk⟩
theorem tMF.made {ca : Nat → ClassId} {ad : Nat → Nat} {c c' : Nat → va_E} {tp pt md dg : List Nat} {ar : Nat → List Nat} {ac tk : Nat} {f : fl4} {w kd bh : Int32} {v : Int64} {t : List Nat} (h : tMF ca ad c tp pt md ar ac tk f w kd bh v dg) (hs : tSm c c' 5) (ht : tTx ca ad c' 5 1024 t) : tMF ca ad c' tp pt t ar ac tk f w kd bh v dg := by
  obtain ⟨hm, ht1, ht3, ht5, ⟨g7, h7, hg7⟩, hA, hL, hV, ht50, hac, htk⟩ := h
  exact ⟨(hs 0 (by omega) (by omega)).trans hm, ht1.keep (hs 1 (by omega) (by omega)) (hs 2 (by omega) (by omega)), ht3.keep (hs 3 (by omega) (by omega)) (hs 4 (by omega) (by omega)), ht, ⟨g7, (hs 7 (by omega) (by omega)).trans h7, hg7⟩, fun i hi => (hA i hi).keep (hs _ (by omega) (by omega)) (hs _ (by omega) (by omega)), (hs 48 (by omega) (by omega)).trans hL, (hs 49 (by omega) (by omega)).trans hV, ht50.keep (hs 50 (by omega) (by omega)) (hs 51 (by omega) (by omega)), hac, htk⟩
theorem tMF.dig {ca : Nat → ClassId} {ad : Nat → Nat} {c c' : Nat → va_E} {tp pt md dg : List Nat} {ar : Nat → List Nat} {ac tk : Nat} {f : fl4} {w kd bh : Int32} {v : Int64} {t : List Nat} (h : tMF ca ad c tp pt md ar ac tk f w kd bh v dg) (hs : tSm c c' 50) (ht : tTx ca ad c' 50 40 t) : tMF ca ad c' tp pt md ar ac tk f w kd bh v t := by
  obtain ⟨hm, ht1, ht3, ht5, ⟨g7, h7, hg7⟩, hA, hL, hV, ht50, hac, htk⟩ := h
  exact ⟨(hs 0 (by omega) (by omega)).trans hm, ht1.keep (hs 1 (by omega) (by omega)) (hs 2 (by omega) (by omega)), ht3.keep (hs 3 (by omega) (by omega)) (hs 4 (by omega) (by omega)), ht5.keep (hs 5 (by omega) (by omega)) (hs 6 (by omega) (by omega)), ⟨g7, (hs 7 (by omega) (by omega)).trans h7, hg7⟩, fun i hi => (hA i hi).keep (hs _ (by omega) (by omega)) (hs _ (by omega) (by omega)), (hs 48 (by omega) (by omega)).trans hL, (hs 49 (by omega) (by omega)).trans hV, ht, hac, htk⟩
theorem tMF.plc {ca : Nat → ClassId} {ad : Nat → Nat} {c c' : Nat → va_E} {tp pt md dg : List Nat} {ar : Nat → List Nat} {ac tk : Nat} {f : fl4} {w kd bh : Int32} {v : Int64} {f1 : fl4} {w1 kd1 bh1 : Int32} (h : tMF ca ad c tp pt md ar ac tk f w kd bh v dg) (hs : ∀ j, j ≠ 48 → c' j = c j) (hL1 : tPl c' 48 f1 w1 kd1 bh1) : tMF ca ad c' tp pt md ar ac tk f1 w1 kd1 bh1 v dg := by
  obtain ⟨hm, ht1, ht3, ht5, ⟨g7, h7, hg7⟩, hA, hL, hV, ht50, hac, htk⟩ := h
  exact ⟨(hs 0 (by omega)).trans hm, ht1.keep (hs 1 (by omega)) (hs 2 (by omega)), ht3.keep (hs 3 (by omega)) (hs 4 (by omega)), ht5.keep (hs 5 (by omega)) (hs 6 (by omega)), ⟨g7, (hs 7 (by omega)).trans h7, hg7⟩, fun i hi => (hA i hi).keep (hs _ (by omega)) (hs _ (by omega)), hL1, (hs 49 (by omega)).trans hV, ht50.keep (hs 50 (by omega)) (hs 51 (by omega)), hac, htk⟩
theorem tMF.num {ca : Nat → ClassId} {ad : Nat → Nat} {c c' : Nat → va_E} {tp pt md dg : List Nat} {ar : Nat → List Nat} {ac tk : Nat} {f : fl4} {w kd bh : Int32} {v : Int64} {v1 : Int64} (h : tMF ca ad c tp pt md ar ac tk f w kd bh v dg) (hs : ∀ j, j ≠ 49 → c' j = c j) (hV1 : tNm c' 49 v1) : tMF ca ad c' tp pt md ar ac tk f w kd bh v1 dg := by
  obtain ⟨hm, ht1, ht3, ht5, ⟨g7, h7, hg7⟩, hA, hL, hV, ht50, hac, htk⟩ := h
  exact ⟨(hs 0 (by omega)).trans hm, ht1.keep (hs 1 (by omega)) (hs 2 (by omega)), ht3.keep (hs 3 (by omega)) (hs 4 (by omega)), ht5.keep (hs 5 (by omega)) (hs 6 (by omega)), ⟨g7, (hs 7 (by omega)).trans h7, hg7⟩, fun i hi => (hA i hi).keep (hs _ (by omega)) (hs _ (by omega)), (hs 48 (by omega)).trans hL, hV1, ht50.keep (hs 50 (by omega)) (hs 51 (by omega)), hac, htk⟩
theorem tMF.cel {ca : Nat → ClassId} {ad : Nat → Nat} {c c' : Nat → va_E} {tp pt md dg : List Nat} {ar : Nat → List Nat} {ac tk : Nat} {f : fl4} {w kd bh : Int32} {v : Int64} {ac1 tk1 : Nat} (h : tMF ca ad c tp pt md ar ac tk f w kd bh v dg) (hs : ∀ j, j ≠ 0 → c' j = c j) (hm1 : c' 0 = .inr (tCM, [.ref (ad 1), .ref (ad 3), .ref (ad 5), .ref (ad 7), .int (nI ac1), .int (nI tk1), .ref (ad 48), .ref (ad 49), .ref (ad 50)])) (hac1 : ac1 ≤ 20) (htk1 : tk1 ≤ 20) : tMF ca ad c' tp pt md ar ac1 tk1 f w kd bh v dg := by
  obtain ⟨hm, ht1, ht3, ht5, ⟨g7, h7, hg7⟩, hA, hL, hV, ht50, hac, htk⟩ := h
  exact ⟨hm1, ht1.keep (hs 1 (by omega)) (hs 2 (by omega)), ht3.keep (hs 3 (by omega)) (hs 4 (by omega)), ht5.keep (hs 5 (by omega)) (hs 6 (by omega)), ⟨g7, (hs 7 (by omega)).trans h7, hg7⟩, fun i hi => (hA i hi).keep (hs _ (by omega)) (hs _ (by omega)), (hs 48 (by omega)).trans hL, (hs 49 (by omega)).trans hV, ht50.keep (hs 50 (by omega)) (hs 51 (by omega)), hac1, htk1⟩
theorem tMF.arg {ca : Nat → ClassId} {ad : Nat → Nat} {c c' : Nat → va_E} {tp pt md dg : List Nat} {ar : Nat → List Nat} {ac tk : Nat} {f : fl4} {w kd bh : Int32} {v : Int64} {t : List Nat} {q : Nat} (hq : q < 20) (h : tMF ca ad c tp pt md ar ac tk f w kd bh v dg) (hs : tSm c c' (8 + 2 * q)) (ht : tTx ca ad c' (8 + 2 * q) 40 t) : tMF ca ad c' tp pt md (va_up ar q t) ac tk f w kd bh v dg := by
  obtain ⟨hm, ht1, ht3, ht5, ⟨g7, h7, hg7⟩, hA, hL, hV, ht50, hac, htk⟩ := h
  exact ⟨(hs 0 (by omega) (by omega)).trans hm, ht1.keep (hs 1 (by omega) (by omega)) (hs 2 (by omega) (by omega)), ht3.keep (hs 3 (by omega) (by omega)) (hs 4 (by omega) (by omega)), ht5.keep (hs 5 (by omega) (by omega)) (hs 6 (by omega) (by omega)), ⟨g7, (hs 7 (by omega) (by omega)).trans h7, hg7⟩, fun i hi => by
    by_cases hiq : i = q
    · subst hiq
      rw [va_up_self]
      exact ht
    · rw [va_up_ne _ _ hiq]
      exact (hA i hi).keep (hs _ (by omega) (by omega)) (hs _ (by omega) (by omega)), (hs 48 (by omega) (by omega)).trans hL, (hs 49 (by omega) (by omega)).trans hV, ht50.keep (hs 50 (by omega) (by omega)) (hs 51 (by omega) (by omega)), hac, htk⟩
theorem tFour_len (x : Int32) : (tFour x).length = 4 := rfl
def tNum (x : Int64) : List Nat := if x < 0 then ([] ++ [by8 45]) ++ tDec x else [] ++ tDec x
/-! what a place puts -/
def pad (lf zr : Bool) (wd : Nat) (sg body : List Nat) : List Nat :=
  if lf = true then sg ++ body ++ List.replicate (max (body.length + sg.length) wd - (body.length + sg.length)) 32
  else if zr = true then sg ++ List.replicate (max (body.length + sg.length) wd - (body.length + sg.length)) 48 ++ body
  else List.replicate (max (body.length + sg.length) wd - (body.length + sg.length)) 32 ++ sg ++ body
theorem pad_len {lf zr : Bool} {wd : Nat} {sg body : List Nat} : (pad lf zr wd sg body).length = max (body.length + sg.length) wd := by
  unfold pad
  split
  · simp only [List.length_append, List.length_replicate]; omega
  · split
    · simp only [List.length_append, List.length_replicate]; omega
    · simp only [List.length_append, List.length_replicate]; omega
def sgL (x : Int32) : List Nat := if x = 0 then [] else [by8 x]
def sgn (f : fl4) (v : Int64) : Int32 := if v < 0 then 45 else if f.2.2.1 = true then 43 else if f.2.2.2 = true then 32 else 0
def fInt (f : fl4) (wd : Nat) (kd : Int32) (v : Int64) : List Nat :=
  if kd = 88 then pad f.1 f.2.1 wd (sgL 0) (tBits v 16 4 65)
  else if kd = 100 then pad f.1 f.2.1 wd (sgL (sgn f v)) (tDec v)
  else if kd = 111 then pad f.1 f.2.1 wd (sgL 0) (tBits v 22 3 97)
  else if kd = 120 then pad f.1 f.2.1 wd (sgL 0) (tBits v 16 4 97)
  else pad f.1 false wd (sgL 0) [by8 v.toInt32]
theorem wh_max {a b : Nat} (ha : a < 2 ^ 31) (hb : b < 2 ^ 31) : (if nI a < nI b then nI b else nI a) = nI (max a b) := by
  by_cases h : a < b
  · rw [if_pos (nI_lt h hb), Nat.max_eq_right (by omega)]
  · rw [if_neg (nI_nlt (by omega) ha), Nat.max_eq_left (by omega)]
/-- what a place gives: a fault or 0, the bytes, how many arguments are taken then -/
def pcs (ar : Nat → List Nat) (ac tk : Nat) (f : fl4) (wd : Nat) (kd : Int32) : Int32 × List Nat × Nat :=
  if kd = 37 then (0, [37], tk) else if ac ≤ tk then (-3, [], tk) else if kd = 115 then (0, pad f.1 false wd (sgL 0) (ar tk), tk + 1)
  else match pNum (ar tk) with
    | none => (-4, [], tk + 1)
    | some x => (0, fInt f wd kd x, tk + 1)
/-- what make answers and leaves made -/
def mkF (ar : Nat → List Nat) (ac : Nat) : Nat → List Nat → Nat → List Nat → Int32 × List Nat
  | 0, _, _, _ => (0, [])
  | _ + 1, [], _, md => (nI md.length, md)
  | q + 1, x :: s, tk, md =>
    if x = 37 then match (pPlace s).2.2 with
      | [] => (-2, [])
      | kd :: s' => if isKd kd = true then
          (if (pcs ar ac tk (pPlace s).1 (pPlace s).2.1 (nI kd)).1 = 0 then
            (if md.length + (pcs ar ac tk (pPlace s).1 (pPlace s).2.1 (nI kd)).2.1.length ≤ 1024 then mkF ar ac q s' (pcs ar ac tk (pPlace s).1 (pPlace s).2.1 (nI kd)).2.2 (md ++ (pcs ar ac tk (pPlace s).1 (pPlace s).2.1 (nI kd)).2.1) else (-5, []))
          else ((pcs ar ac tk (pPlace s).1 (pPlace s).2.1 (nI kd)).1, []))
        else (-2, [])
    else if md.length < 1024 then mkF ar ac q s tk (md ++ [x]) else (-5, [])
theorem mkF_nil {ar : Nat → List Nat} {ac q tk : Nat} {md : List Nat} : mkF ar ac (q + 1) [] tk md = (nI md.length, md) := rfl
theorem mkF_byte {ar : Nat → List Nat} {ac q tk x : Nat} {s md : List Nat} (hx : ¬ x = 37) : mkF ar ac (q + 1) (x :: s) tk md = if md.length < 1024 then mkF ar ac q s tk (md ++ [x]) else (-5, []) := if_neg hx
theorem mkF_bad {ar : Nat → List Nat} {ac q tk x : Nat} {s md : List Nat} (hx : x = 37) (h : (pPlace s).2.2 = [] ∨ ∃ kd s', (pPlace s).2.2 = kd :: s' ∧ isKd kd = false) : mkF ar ac (q + 1) (x :: s) tk md = (-2, []) := by
  show (if x = 37 then _ else _) = _
  rw [if_pos hx]
  rcases h with h | ⟨kd, s', h, hk⟩
  · rw [h]
  · rw [h]
    show (if isKd kd = true then _ else _) = _
    rw [if_neg (by rw [hk]; decide)]
theorem mkF_plc {ar : Nat → List Nat} {ac q tk x kd : Nat} {s s' md : List Nat} (hx : x = 37) (h : (pPlace s).2.2 = kd :: s') (hk : isKd kd = true) : mkF ar ac (q + 1) (x :: s) tk md = 
    if (pcs ar ac tk (pPlace s).1 (pPlace s).2.1 (nI kd)).1 = 0 then
            (if md.length + (pcs ar ac tk (pPlace s).1 (pPlace s).2.1 (nI kd)).2.1.length ≤ 1024 then mkF ar ac q s' (pcs ar ac tk (pPlace s).1 (pPlace s).2.1 (nI kd)).2.2 (md ++ (pcs ar ac tk (pPlace s).1 (pPlace s).2.1 (nI kd)).2.1) else (-5, []))
          else ((pcs ar ac tk (pPlace s).1 (pPlace s).2.1 (nI kd)).1, []) := by
  show (if x = 37 then _ else _) = _
  rw [if_pos hx, h]
  exact if_pos hk
theorem pPlace_le (s : List Nat) : (pPlace s).2.2.length ≤ s.length := Nat.le_trans (pWid_le _ _) (pFlags_le _ _)
