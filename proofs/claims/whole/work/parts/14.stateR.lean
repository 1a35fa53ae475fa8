/-! the reference: cell 52 the object, 53 tape, 54 text, 55 words, 56 out, 57 word sizes, 58 piece -/
def sB (b : Nat) : Int32 := (nI b).toInt8.toInt32
theorem sB_lo : ∀ b, b < 128 → sB b = nI b := by decide +kernel
theorem sB_hi : ∀ b, b < 128 → sB (b + 128) < 0 := by decide +kernel
theorem sB_neg {b : Nat} (h : b < 256) (h2 : 128 ≤ b) : sB b < 0 := by
  have := sB_hi (b - 128) (by omega)
  rwa [show b - 128 + 128 = b by omega] at this
theorem sB_iff {b k : Nat} (h : b < 256) (hk : k < 128) : sB b = nI k ↔ b = k := by
  by_cases h2 : b < 128
  · rw [sB_lo b h2]
    exact nI_eq (by omega) (by omega)
  · refine ⟨fun e => ?_, fun e => by omega⟩
    have h3 := sB_neg h (by omega)
    rw [e] at h3
    exact absurd h3 (nI_pos (by omega))
theorem sB_and : ∀ b, b < 256 → sB b &&& 255 = nI b := by decide +kernel
theorem sB_by8 : ∀ b, b < 256 → by8 (sB b) = b := by decide +kernel
theorem i8_by8 (z : Int32) : z.toInt8.toInt32 = sB (by8 z) := by
  unfold sB by8
  apply Int32.toBitVec_inj.mp
  show (z.toBitVec.signExtend 8).signExtend 32 = ((Int32.ofNat (z.toBitVec.toNat % 256)).toBitVec.signExtend 8).signExtend 32
  congr 1
  apply BitVec.eq_of_toNat_eq
  rw [BitVec.signExtend_eq_setWidth_of_le _ (by decide), BitVec.signExtend_eq_setWidth_of_le _ (by decide), BitVec.toNat_setWidth, BitVec.toNat_setWidth]
  show _ = (BitVec.ofNat 32 (z.toBitVec.toNat % 256)).toNat % 2 ^ 8
  rw [BitVec.toNat_ofNat]
  omega
theorem nar_sB (b : Nat) : vp_nar .byte (sB b) = sB b := pk_vb (nI b)
def rO (ad : Nat → Nat) (x0 x1 x2 x3 x4 x5 x6 x7 x8 x9 x10 x11 x12 : Int32) (v : Int64) : va_E :=
  .inr (tCR, [.ref (ad 53), .ref (ad 54), .ref (ad 55), .ref (ad 56), .int x0, .int x1, .int x2, .int x3, .int x4, .ref (ad 57), .int x5, .int x6, .int x7, .int x8, .int x9, .int x10, .int x11, .ref (ad 58), .int x12, .long v])
/-- a byte array holds a text from a place on -/
def tB (ca : Nat → ClassId) (c : Nat → va_E) (k cap off : Nat) (t : List Nat) : Prop :=
  off + t.length ≤ cap ∧ cap < 1048576 ∧ (∀ x ∈ t, x < 256) ∧ ∃ f : Nat → Int32, c k = .inl (ca 2, cap, .inl f) ∧ ∀ j, j < t.length → f (off + j) = sB (t.getD j 0)
theorem tB.keep {ca : Nat → ClassId} {c c' : Nat → va_E} {k cap off : Nat} {t : List Nat} (h : tB ca c k cap off t) (h1 : c' k = c k) : tB ca c' k cap off t := by
  obtain ⟨a, b, d, f, e, g⟩ := h
  exact ⟨a, b, d, f, h1.trans e, g⟩
theorem tB.nil {ca : Nat → ClassId} {c : Nat → va_E} {k cap off : Nat} {f : Nat → Int32} (h : c k = .inl (ca 2, cap, .inl f)) (h1 : off ≤ cap) (h2 : cap < 1048576) : tB ca c k cap off [] := ⟨h1, h2, by simp, f, h, by simp⟩
theorem tB.pre {ca : Nat → ClassId} {c c' : Nat → va_E} {k cap off b : Nat} {t : List Nat} {f : Nat → Int32} (h : tB ca c k cap (off + 1) t) (hf : c k = .inl (ca 2, cap, .inl f)) (hb : b < 256) (h1 : c' k = .inl (ca 2, cap, .inl (upd f off (sB b)))) : tB ca c' k cap off (b :: t) := by
  obtain ⟨a, b1, d, f1, e, g⟩ := h
  have hff : f1 = f := by
    have := e.symm.trans hf
    simp at this
    exact this
  subst hff
  refine ⟨by simp only [List.length_cons]; omega, b1, ?_, _, h1, ?_⟩
  · intro x hx
    rcases List.mem_cons.mp hx with h | h
    · rw [h]; exact hb
    · exact d x h
  · intro j hj
    rcases j with _ | j
    · rw [Nat.add_zero, pk_us]; rfl
    · rw [pk_un (by omega)]
      have := g j (by simp only [List.length_cons] at hj; omega)
      rw [show off + (j + 1) = off + 1 + j by omega, this]
      rfl
theorem tB.app {ca : Nat → ClassId} {c c' : Nat → va_E} {k cap off b : Nat} {t : List Nat} {f : Nat → Int32} (h : tB ca c k cap off t) (hf : c k = .inl (ca 2, cap, .inl f)) (hb : b < 256) (hr : off + t.length < cap) (h1 : c' k = .inl (ca 2, cap, .inl (upd f (off + t.length) (sB b)))) : tB ca c' k cap off (t ++ [b]) := by
  obtain ⟨a, b1, d, f1, e, g⟩ := h
  have hff : f1 = f := by
    have := e.symm.trans hf
    simp at this
    exact this
  subst hff
  refine ⟨by simp only [List.length_append, List.length_cons, List.length_nil]; omega, b1, tb_app d hb, _, h1, ?_⟩
  intro j hj
  by_cases h : j = t.length
  · subst h
    rw [pk_us, List.getD_eq_getElem?_getD, List.getElem?_append_right (Nat.le_refl _), Nat.sub_self]
    rfl
  · have hj2 : j < t.length := by simp only [List.length_append, List.length_cons, List.length_nil] at hj; omega
    rw [pk_un (by omega), g j hj2, List.getD_eq_getElem?_getD, List.getD_eq_getElem?_getD, List.getElem?_append_left hj2]
theorem tB.take {ca : Nat → ClassId} {c : Nat → va_E} {k cap off j : Nat} {t : List Nat} (h : tB ca c k cap off t) : tB ca c k cap off (t.take j) := by
  obtain ⟨a, b, d, f, e, g⟩ := h
  refine ⟨by rw [List.length_take]; omega, b, fun y hy => d y (List.mem_of_mem_take hy), f, e, fun i hi => ?_⟩
  rw [List.length_take] at hi
  rw [g i (by omega), tk_getD (by omega)]
theorem tB.le {ca : Nat → ClassId} {c : Nat → va_E} {k cap off : Nat} {t : List Nat} (h : tB ca c k cap off t) : off + t.length ≤ cap := h.1
theorem tB.b8 {ca : Nat → ClassId} {c : Nat → va_E} {k cap off : Nat} {t : List Nat} (h : tB ca c k cap off t) : ∀ x ∈ t, x < 256 := h.2.2.1
theorem dgF_trim {dig ch : Nat → Nat} {n : Nat} (h : dig n ≠ 0 ∨ n = 0) : ∀ E, n < E → (∀ e, n < e → e < E → dig e = 0) → dgF dig ch E false = dgF dig ch (n + 1) true
  | 0, hn, _ => absurd hn (by omega)
  | E + 1, hn, hz => by
    by_cases hE : E = n
    · subst hE
      rw [dgF_t (Or.inr h), dgF_t (Or.inl rfl)]
    · rw [dgF_f rfl (hz E (by omega) (by omega)) (by omega)]
      exact dgF_trim h E (by omega) (fun e h1 h2 => hz e h1 (by omega))
theorem dgF_full {dig ch : Nat → Nat} : ∀ e, (dgF dig ch e true).length = e
  | 0 => rfl
  | e + 1 => by rw [dgF_t (Or.inl rfl), List.length_cons, dgF_full e]
theorem dg_rem {z r d : Int64} {i : Nat} (hr : r.toInt.natAbs = z.toInt.natAbs / 10 ^ i) (hd : d = r - r / 10 * 10) : (0 ≤ d → d.toInt32 = nI (dDig z i)) ∧ (¬ 0 ≤ d → (-d).toInt32 = nI (dDig z i)) := by
  have h10 : (10 : Int64).toInt = 10 := by decide
  have hqq := i64_div_toInt (a := r) (b := 10) (by decide)
  rw [h10] at hqq
  have hm : d.toInt = r.toInt.tmod 10 := by
    rw [hd, Int64.toInt_sub, Int64.toInt_mul, h10, hqq]
    have h1 := Int.tmod_add_mul_tdiv r.toInt 10
    have h2 : (r.toInt.tmod 10).natAbs < 10 := by rw [Int.natAbs_tmod]; exact Nat.mod_lt _ (by decide)
    have h3 := Int64.le_toInt r
    have h4 := Int64.toInt_lt r
    have h7 : (r.toInt.tdiv 10).natAbs = r.toInt.natAbs / 10 := by rw [Int.natAbs_tdiv]; rfl
    have h5 : (r.toInt.tdiv 10 * 10).bmod (2 ^ 64) = r.toInt.tdiv 10 * 10 := by
      apply Int.bmod_eq_of_le
      · omega
      · omega
    rw [h5]
    have h6 : r.toInt - r.toInt.tdiv 10 * 10 = r.toInt.tmod 10 := by omega
    rw [h6]
    apply Int.bmod_eq_of_le
    · omega
    · omega
  have hdd : dDig z i = (r.toInt.tmod 10).natAbs := by
    rw [Int.natAbs_tmod, hr]
    rfl
  have hlt : (r.toInt.tmod 10).natAbs < 10 := by rw [← hdd]; exact dDig_lt z i
  have h0 : (0 : Int64).toInt = 0 := by decide
  constructor
  · intro h
    have h9 := Int64.le_iff_toInt_le.mp h
    rw [hm, h0] at h9
    apply Int32.toInt_inj.mp
    rw [nI_toInt (by rw [hdd]; omega), hdd, Int64.toInt_toInt32, hm]
    rw [Int.bmod_eq_of_le (by omega) (by omega)]
    omega
  · intro h
    have h9 : ¬ (0 : Int64).toInt ≤ d.toInt := fun q => h (Int64.le_iff_toInt_le.mpr q)
    rw [hm, h0] at h9
    apply Int32.toInt_inj.mp
    rw [nI_toInt (by rw [hdd]; omega), hdd, Int64.toInt_toInt32, Int64.toInt_neg, hm]
    rw [Int.bmod_eq_of_le (n := -r.toInt.tmod 10) (by omega) (by omega), Int.bmod_eq_of_le (by omega) (by omega)]
    omega
theorem dg_div {z r r2 : Int64} {i : Nat} (hr : r.toInt.natAbs = z.toInt.natAbs / 10 ^ i) (h2 : r2 = r / 10) : r2.toInt.natAbs = z.toInt.natAbs / 10 ^ (i + 1) := by
  have hqq := i64_div_toInt (a := r) (b := 10) (by decide)
  rw [h2, hqq, Int.natAbs_tdiv, hr, Nat.pow_succ, ← Nat.div_div_eq_div_mul]
  rfl
theorem dg_nz {z r : Int64} {i : Nat} (hr : r.toInt.natAbs = z.toInt.natAbs / 10 ^ i) (h : ¬ r = 0) : z.toInt.natAbs / 10 ^ i ≠ 0 := by
  rw [← hr]
  intro q
  apply h
  apply Int64.toInt_inj.mp
  have h0 : (0 : Int64).toInt = 0 := by decide
  omega
theorem dg_lt {z : Int64} {i : Nat} (h : z.toInt.natAbs / 10 ^ i ≠ 0) : i ≤ 18 := by
  rcases Nat.lt_or_ge i 19 with h1 | h1
  · omega
  · exfalso
    apply h
    apply Nat.div_eq_of_lt
    have h3 := Int64.le_toInt z
    have h4 := Int64.toInt_lt z
    have h5 : 10 ^ 19 ≤ 10 ^ i := Nat.pow_le_pow_right (by decide) h1
    omega
theorem dg_trim {z : Int64} {i : Nat} (h : z.toInt.natAbs / 10 ^ (i + 1) = 0) (hi : i < 19) (hn : i = 0 ∨ z.toInt.natAbs / 10 ^ i ≠ 0) : tDec z = dgF (dDig z) dCh (i + 1) true := by
  apply dgF_trim
  · rcases hn with h1 | h1
    · exact Or.inr h1
    · refine Or.inl ?_
      unfold dDig
      rw [Nat.pow_succ, ← Nat.div_div_eq_div_mul] at h
      omega
  · exact hi
  · intro e h1 h2
    unfold dDig
    have h3 : z.toInt.natAbs < 10 ^ (i + 1) := by
      rcases Nat.lt_or_ge z.toInt.natAbs (10 ^ (i + 1)) with q | q
      · exact q
      · have := Nat.div_pos q (Nat.pow_pos (by decide))
        omega
    have h4 : 10 ^ (i + 1) ≤ 10 ^ e := Nat.pow_le_pow_right (by decide) (by omega)
    rw [Nat.div_eq_of_lt (by omega)]

theorem bg_rem {z r : Int64} {bt i : Nat} {y3 : Int32} (hb : bt = 3 ∨ bt = 4) (hr : uN r = uN z / 2 ^ (i * bt)) (h3 : y3 = nI bt) : (r &&& ((1 <<< (y3.toInt64 &&& 63)) - 1)).toInt32 = nI (bDig z bt i) := by
  have hm : ((1 : Int64) <<< (y3.toInt64 &&& 63)) - 1 = lN (2 ^ bt - 1) := by
    rw [h3]
    rcases hb with rfl | rfl <;> decide
  rw [hm]
  have h1 : uN (r &&& lN (2 ^ bt - 1)) = uN r % 2 ^ bt := by
    show (r.toUInt64 &&& (lN (2 ^ bt - 1)).toUInt64).toNat = _
    rw [UInt64.toNat_and]
    have e : (lN (2 ^ bt - 1)).toUInt64.toNat = 2 ^ bt - 1 := by
      rcases hb with rfl | rfl <;> decide
    rw [e, Nat.and_two_pow_sub_one_eq_mod]
    rfl
  have h2 : (r &&& lN (2 ^ bt - 1)).toInt32.toBitVec.toNat = bDig z bt i := by
    rw [l2i_nat, h1, hr]
    unfold bDig
    rcases hb with rfl | rfl <;> omega
  apply Int32.toBitVec_inj.mp
  apply BitVec.eq_of_toNat_eq
  rw [h2, pk_tn (by have := bDig_lt z (bt := bt) (by omega) i; omega)]
theorem bg_div {z r r2 : Int64} {bt i : Nat} {y3 : Int32} (hb : bt = 3 ∨ bt = 4) (hr : uN r = uN z / 2 ^ (i * bt)) (h3 : y3 = nI bt) (h2 : r2 = (r.toUInt64 >>> ((y3 : Int32).toInt64.toUInt64 &&& Int64.toUInt64 63)).toInt64) : uN r2 = uN z / 2 ^ ((i + 1) * bt) := by
  rw [h2, h3, uN_sk r (by omega), hr, Nat.div_div_eq_div_mul, ← Nat.pow_add]
  congr 2
  rw [Nat.add_mul]
  omega
theorem bg_lt {z : Int64} {bt mo i : Nat} (hb : bt = 3 ∧ mo = 22 ∨ bt = 4 ∧ mo = 16) (h : uN z / 2 ^ (i * bt) ≠ 0) : i < mo := by
  rcases Nat.lt_or_ge i mo with h1 | h1
  · exact h1
  · exfalso
    apply h
    apply Nat.div_eq_of_lt
    have h3 := uN_lt z
    have h5 : 2 ^ 64 ≤ 2 ^ (i * bt) := Nat.pow_le_pow_right (by decide) (by rcases hb with ⟨rfl, rfl⟩ | ⟨rfl, rfl⟩ <;> omega)
    omega
theorem bg_trim {z : Int64} {bt mo lb i : Nat} (hb : bt = 3 ∨ bt = 4) (h : uN z / 2 ^ ((i + 1) * bt) = 0) (hi : i < mo) (hn : i = 0 ∨ uN z / 2 ^ (i * bt) ≠ 0) : tBits z mo bt lb = dgF (bDig z bt) (bCh lb) (i + 1) true := by
  apply dgF_trim
  · rcases hn with h1 | h1
    · exact Or.inr h1
    · refine Or.inl ?_
      unfold bDig
      rw [Nat.add_mul, Nat.pow_add, ← Nat.div_div_eq_div_mul] at h
      rcases hb with rfl | rfl <;> omega
  · exact hi
  · intro e h1 h2
    unfold bDig
    have h3 : uN z < 2 ^ ((i + 1) * bt) := by
      rcases Nat.lt_or_ge (uN z) (2 ^ ((i + 1) * bt)) with q | q
      · exact q
      · have := Nat.div_pos q (Nat.pow_pos (by decide))
        omega
    have h4 : 2 ^ ((i + 1) * bt) ≤ 2 ^ (e * bt) := Nat.pow_le_pow_right (by decide) (Nat.mul_le_mul_right bt (by omega))
    rw [Nat.div_eq_of_lt (by omega)]
    rfl
def hexF (x : Int32) : Int32 := if 48 ≤ x ∧ x ≤ 57 then x - 48 else if 97 ≤ x ∧ x ≤ 102 then x - 97 + 10 else if 65 ≤ x ∧ x ≤ 70 then x - 65 + 10 else -1
theorem hexF_sB : ∀ b, b < 256 → hexF (sB b) = hxI b := by decide +kernel
def hxG (b : Nat) : Bool := (hxD b).isSome
theorem hxG_some {b : Nat} (h : hxG b = true) : ∃ d, hxD b = some d := Option.isSome_iff_exists.mp h
theorem hxG_none {b : Nat} (h : hxG b = false) : hxD b = none := by
  unfold hxG at h
  cases h9 : hxD b with
  | none => rfl
  | some d => rw [h9] at h; cases h
theorem hxG_t {b : Nat} (h : ¬ hxI b = -1) : hxG b = true := by
  cases h9 : hxG b with
  | true => rfl
  | false => exact absurd (hxI_f (hxG_none h9)) h
theorem hxG_f {b : Nat} (h : hxI b = -1) : hxG b = false := by
  cases h9 : hxG b with
  | false => rfl
  | true =>
    obtain ⟨d, hd⟩ := hxG_some h9
    rw [hxI_t hd] at h
    exact absurd h (nI_ne_m1 (by have := hxD_lt hd; omega))

def dcG (v : Int64) (d : Int32) : Bool := decide (0 ≤ d ∧ d ≤ 9 ∧ -922337203685477580 ≤ v ∧ -9223372036854775808 + d.toInt64 ≤ 10 * v)
theorem dc_dig : ∀ b, b < 256 → ((0 ≤ sB b - 48 ∧ sB b - 48 ≤ 9) ↔ isDg b = true) := by decide +kernel
theorem dc_val {b : Nat} (h : isDg b = true) : sB b - 48 = nI (b - 48) := by
  have := isDg_le h
  rw [sB_lo b (by omega)]
  exact pk_sub (b := 48) this.1
theorem dc_step {b : Nat} {s : List Nat} {v : Int64} {d : Int32} (hb : b < 256) (hd : d = sB b - 48) : gRd (b :: s) v = if dcG v d = true then gRd s (10 * v - d.toInt64) else none := by
  show (if isDg b = true then _ else _) = _
  by_cases h : isDg b = true
  · rw [if_pos h]
    have hd2 := (dc_dig b hb).mpr h
    rw [← hd] at hd2
    rw [← dc_val h, ← hd]
    unfold gTake
    by_cases h2 : v < -922337203685477580 ∨ v * 10 < -9223372036854775808 + d.toInt64
    · rw [if_pos h2, if_neg]
      intro q
      have q := of_decide_eq_true q
      rcases h2 with h2 | h2
      · exact absurd q.2.2.1 (Int64.not_le.mpr h2)
      · rw [Int64.mul_comm] at h2
        exact absurd q.2.2.2 (Int64.not_le.mpr h2)
    · rw [if_neg h2, if_pos]
      · show gRd s (v * 10 - d.toInt64) = _
        rw [Int64.mul_comm]
      · apply decide_eq_true
        refine ⟨hd2.1, hd2.2, Int64.not_lt.mp (fun q => h2 (Or.inl q)), Int64.not_lt.mp (fun q => h2 (Or.inr ?_))⟩
        rw [Int64.mul_comm]
        exact q
  · rw [if_neg h, if_neg]
    intro q
    have q := of_decide_eq_true q
    rw [hd] at q
    exact h ((dc_dig b hb).mp ⟨q.1, q.2.1⟩)
theorem tAt_sB {t : List Nat} {i k : Nat} (hb : ∀ x ∈ t, x < 256) (hi : i < t.length) (hk : k < 128) : tAt t i = nI k ↔ sB (t.getD i 0) = nI k := by
  have e : tAt t i = nI (t.getD i 0) := if_pos hi
  have hb8 := hb _ (gD_mem hi)
  rw [e, sB_iff hb8 hk]
  exact nI_eq (by omega) (by omega)
theorem fr_le {t : List Nat} : (if tAt t 0 = 45 ∨ tAt t 0 = 43 then 1 else 0) ≤ t.length ∧ (if tAt t 0 = 45 ∨ tAt t 0 = 43 then 1 else 0) ≤ 1 := by
  split
  · next h =>
    refine ⟨?_, Nat.le_refl _⟩
    rcases Nat.lt_or_ge 0 t.length with h1 | h1
    · exact h1
    · rw [show tAt t 0 = -1 from if_neg (by omega)] at h
      exact absurd h (by decide)
  · exact ⟨Nat.zero_le _, Nat.zero_le _⟩
/-- the words: 40 bytes a place, and their sizes -/
def tWd (ca : Nat → ClassId) (c : Nat → va_E) (ar : Nat → List Nat) (ac : Nat) : Prop :=
  ∃ (f g : Nat → Int32), c 55 = .inl (ca 2, 800, .inl f) ∧ c 57 = .inl (ca 0, 20, .inl g) ∧ ∀ i, i < ac → g i = nI (ar i).length ∧ (ar i).length ≤ 40 ∧ (∀ x ∈ ar i, x < 256) ∧ ∀ j, j < (ar i).length → f (40 * i + j) = sB ((ar i).getD j 0)
theorem tWd.keep {ca : Nat → ClassId} {c c' : Nat → va_E} {ar : Nat → List Nat} {ac : Nat} (h : tWd ca c ar ac) (h1 : c' 55 = c 55) (h2 : c' 57 = c 57) : tWd ca c' ar ac := by
  obtain ⟨f, g, a, b, d⟩ := h
  exact ⟨f, g, h1.trans a, h2.trans b, d⟩

/-! places, as the reference reads them -/
def tAs (t : List Nat) (i : Nat) : Int32 := if i < t.length then sB (t.getD i 0) else -1
def tAz (t : List Nat) (i : Nat) : Int32 := if i < t.length then sB (t.getD i 0) else 0
theorem fl_fin {ad : Nat → Nat} {x0 x1 x2 x3 x4 x5 x6 x7 x12 y : Int32} {v : Int64} {f : fl4} {t : List Nat} {i : Nat} {e : va_E} (hb : ∀ x ∈ t, x < 256) (_hi : i ≤ t.length) (hy : tAs t i = y) (he : e = rO ad x0 x1 x2 x3 x4 x5 x6 x7 (bI (f.1 || decide (y = 45))) (bI (f.2.1 || decide (y = 48))) (bI (f.2.2.1 || decide (y = 43))) (bI (f.2.2.2 || decide (y = 32))) x12 v) :
    (i < t.length ∧ ∃ f', pFlag (t.getD i 0) f = some f' ∧ bI (decide (y = 45 ∨ y = 48 ∨ y = 43 ∨ y = 32)) = 1 ∧ e = rO ad x0 x1 x2 x3 x4 x5 x6 x7 (bI f'.1) (bI f'.2.1) (bI f'.2.2.1) (bI f'.2.2.2) x12 v) ∨ (¬ (i < t.length ∧ ∃ f', pFlag (t.getD i 0) f = some f') ∧ bI (decide (y = 45 ∨ y = 48 ∨ y = 43 ∨ y = 32)) = 0 ∧ e = rO ad x0 x1 x2 x3 x4 x5 x6 x7 (bI f.1) (bI f.2.1) (bI f.2.2.1) (bI f.2.2.2) x12 v) := by
  by_cases hlt : i < t.length
  · have hb8 := hb _ (gD_mem hlt)
    have hys : y = sB (t.getD i 0) := by rw [← hy]; exact if_pos hlt
    have key : ∀ k : Nat, k < 128 → (y = nI k ↔ t.getD i 0 = k) := fun k hk => by rw [hys]; exact sB_iff hb8 hk
    have k45 : y = 45 ↔ t.getD i 0 = 45 := key 45 (by decide)
    have k48 : y = 48 ↔ t.getD i 0 = 48 := key 48 (by decide)
    have k43 : y = 43 ↔ t.getD i 0 = 43 := key 43 (by decide)
    have k32 : y = 32 ↔ t.getD i 0 = 32 := key 32 (by decide)
    simp only [k45, k48, k43, k32] at he ⊢
    generalize t.getD i 0 = b at he ⊢
    by_cases h45 : b = 45
    · subst h45
      refine Or.inl ⟨hlt, (true, f.2.1, f.2.2.1, f.2.2.2), rfl, by decide, ?_⟩
      rw [he]
      simp
    · by_cases h48 : b = 48
      · subst h48
        refine Or.inl ⟨hlt, (f.1, true, f.2.2.1, f.2.2.2), rfl, by decide, ?_⟩
        rw [he]
        simp
      · by_cases h43 : b = 43
        · subst h43
          refine Or.inl ⟨hlt, (f.1, f.2.1, true, f.2.2.2), rfl, by decide, ?_⟩
          rw [he]
          simp
        · by_cases h32 : b = 32
          · subst h32
            refine Or.inl ⟨hlt, (f.1, f.2.1, f.2.2.1, true), rfl, by decide, ?_⟩
            rw [he]
            simp
          · refine Or.inr ⟨?_, by simp [h45, h48, h43, h32, bI], ?_⟩
            · rintro ⟨-, f', hf⟩
              unfold pFlag at hf
              rw [if_neg h45, if_neg h48, if_neg h43, if_neg h32] at hf
              cases hf
            · rw [he]
              simp [h45, h48, h43, h32]
  · have hys : y = -1 := by rw [← hy]; exact if_neg hlt
    subst hys
    refine Or.inr ⟨fun h => hlt h.1, by decide, ?_⟩
    rw [he]
    simp only [show decide ((-1 : Int32) = 45) = false from by decide, show decide ((-1 : Int32) = 48) = false from by decide, show decide ((-1 : Int32) = 43) = false from by decide, show decide ((-1 : Int32) = 32) = false from by decide, Bool.or_false]
theorem sd_t {b : Nat} (hb : b < 256) (h1 : (48 : Int32) ≤ sB b) (h2 : sB b ≤ 57) : isDg b = true := by
  by_cases h : b < 128
  · rw [sB_lo b h] at h1 h2
    exact isDg_t hb h1 h2
  · exact absurd (sB_neg hb (by omega)) (Int32.not_lt.mpr (Int32.le_trans (by decide) h1))
theorem sd_f {b : Nat} (hb : b < 256) (h : ¬ ((48 : Int32) ≤ sB b ∧ sB b ≤ 57)) : isDg b = false := by
  by_cases h2 : b < 128
  · rw [sB_lo b h2] at h
    exact isDg_f hb h
  · simp only [isDg, Bool.and_eq_false_iff, decide_eq_false_iff_not]
    omega
def kdB (x : Int32) : Bool := decide (x = 100 ∨ x = 120 ∨ x = 88 ∨ x = 111 ∨ x = 99 ∨ x = 115 ∨ x = 37)
theorem kdB_sB : ∀ b, b < 256 → kdB (sB b) = isKd b := by decide +kernel
theorem kz_cases {t : List Nat} {i : Nat} (hb : ∀ x ∈ t, x < 256) : kdB (tAz t i) = true ↔ (i < t.length ∧ isKd (t.getD i 0) = true) := by
  by_cases h : i < t.length
  · rw [show tAz t i = sB (t.getD i 0) from if_pos h, kdB_sB _ (hb _ (gD_mem h))]
    exact ⟨fun q => ⟨h, q⟩, fun q => q.2⟩
  · rw [show tAz t i = 0 from if_neg h]
    exact ⟨fun q => absurd q (by decide), fun q => absurd q.1 h⟩

theorem kd_rest {kb : Nat} (hk : kb < 128) (h : isKd kb = true) (h1 : ¬ nI kb = 37) (h2 : ¬ nI kb = 115) (h3 : ¬ nI kb = 100) (h4 : ¬ nI kb = 99) : nI kb = 120 ∨ nI kb = 88 ∨ nI kb = 111 := by
  have e : ∀ k : Nat, ¬ nI kb = nI k → ¬ kb = k := fun k h q => h (by rw [q])
  have e1 := e 37 h1
  have e2 := e 115 h2
  have e3 := e 100 h3
  have e4 := e 99 h4
  have h9 : kb = 37 ∨ kb = 88 ∨ kb = 99 ∨ kb = 100 ∨ kb = 111 ∨ kb = 115 ∨ kb = 120 := by simpa [isKd, or_assoc] using h
  rcases h9 with q | q | q | q | q | q | q
  · exact absurd q e1
  · exact Or.inr (Or.inl (by rw [q]; rfl))
  · exact absurd q e4
  · exact absurd q e3
  · exact Or.inr (Or.inr (by rw [q]; rfl))
  · exact absurd q e2
  · exact Or.inl (by rw [q]; rfl)

/-! the reference's state -/
def tRF (ca : Nat → ClassId) (ad : Nat → Nat) (c : Nat → va_E) (tp pt md : List Nat) (ar : Nat → List Nat) (ac : Nat) (x4 x5 x6 x7 : Int32) (f : fl4) (x12 : Int32) (v : Int64) : Prop :=
  c 52 = rO ad (nI tp.length) (nI pt.length) (nI ac) (nI md.length) x4 x5 x6 x7 (bI f.1) (bI f.2.1) (bI f.2.2.1) (bI f.2.2.2) x12 v ∧ tB ca c 53 400 0 tp ∧ tB ca c 54 400 0 pt ∧ tWd ca c ar ac ∧ tB ca c 56 1024 0 md ∧ (∃ f1, c 58 = .inl (ca 2, 72, .inl f1)) ∧ ac ≤ 20
def tRS (ca : Nat → ClassId) (ad : Nat → Nat) (c : Nat → va_E) (tp pt md : List Nat) (ar : Nat → List Nat) (ac : Nat) : Prop := ∃ x4 x5 x6 x7 f x12 v, tRF ca ad c tp pt md ar ac x4 x5 x6 x7 f x12 v
theorem tRF.rs {ca : Nat → ClassId} {ad : Nat → Nat} {c : Nat → va_E} {tp pt md : List Nat} {ar : Nat → List Nat} {ac : Nat} {x4 x5 x6 x7 : Int32} {f : fl4} {x12 : Int32} {v : Int64} (h : tRF ca ad c tp pt md ar ac x4 x5 x6 x7 f x12 v) : tRS ca ad c tp pt md ar ac := ⟨x4, x5, x6, x7, f, x12, v, h⟩
theorem by8_int (z : Int32) : (by8 z : Int) = z.toInt % 256 := by
  unfold by8
  have h : z.toInt = if 2 * z.toBitVec.toNat < 2 ^ 32 then (z.toBitVec.toNat : Int) else (z.toBitVec.toNat : Int) - ((2 ^ 32 : Nat) : Int) := BitVec.toInt_eq_toNat_cond _
  have h2 := z.toBitVec.isLt
  rw [h]
  split <;> omega
theorem ly_shr (y s : Int32) (k : Nat) (hk : k = 24 ∨ k = 16 ∨ k = 8) (hs : (s.toBitVec.smod 32).toNat = k) (t : Int32) (ht : ((t.toUInt32 &&& Int32.toUInt32 31).toBitVec % 32).toNat = k) : by8 (y >>> s) = by8 (y.toUInt32 >>> (t.toUInt32 &&& Int32.toUInt32 31)).toInt32 := by
  have h1 := by8_int (y >>> s)
  rw [pk_shr y s k hs] at h1
  have h2 := pk_ushr y t k ht
  have h3 : by8 (y.toUInt32 >>> (t.toUInt32 &&& Int32.toUInt32 31)).toInt32 = y.toBitVec.toNat / 2 ^ k % 256 := by unfold by8; rw [h2]
  rw [h3]
  have h : y.toInt = if 2 * y.toBitVec.toNat < 2 ^ 32 then (y.toBitVec.toNat : Int) else (y.toBitVec.toNat : Int) - ((2 ^ 32 : Nat) : Int) := BitVec.toInt_eq_toNat_cond _
  have h5 := y.toBitVec.isLt
  rw [Int.shiftRight_eq_div_pow, h] at h1
  rcases hk with rfl | rfl | rfl
  · split at h1 <;> omega
  · split at h1 <;> omega
  · split at h1 <;> omega
theorem ly_0 (y : Int32) : y >>> ((0 : Int32) &&& 31) = y := sb_shr0 y
theorem tWd.put {ca : Nat → ClassId} {c c' : Nat → va_E} {ar : Nat → List Nat} {ac : Nat} {t : List Nat} {f f' g : Nat → Int32} (h : tWd ca c ar ac) (hf : c 55 = .inl (ca 2, 800, .inl f)) (hg : c 57 = .inl (ca 0, 20, .inl g)) (h1 : c' 55 = .inl (ca 2, 800, .inl f')) (h2 : c' 57 = .inl (ca 0, 20, .inl (upd g ac (nI t.length)))) (hl : t.length ≤ 40) (hb : ∀ x ∈ t, x < 256) (hn : ∀ j, j < t.length → f' (40 * ac + j) = sB (t.getD j 0)) (ho : ∀ j, j < 40 * ac → f' j = f j) : tWd ca c' (va_up ar ac t) (ac + 1) := by
  obtain ⟨f1, g1, a, b, d⟩ := h
  have e1 : f1 = f := by
    have := a.symm.trans hf
    simp at this
    exact this
  have e2 : g1 = g := by
    have := b.symm.trans hg
    simp at this
    exact this
  subst e1
  subst e2
  refine ⟨f', _, h1, h2, fun i hi => ?_⟩
  by_cases hia : i = ac
  · subst hia
    rw [va_up_self, pk_us]
    exact ⟨rfl, hl, hb, hn⟩
  · rw [va_up_ne _ _ hia, pk_un hia]
    obtain ⟨q1, q2, q3, q4⟩ := d i (by omega)
    exact ⟨q1, q2, q3, fun j hj => by rw [ho _ (by omega)]; exact q4 j hj⟩

theorem isKd_lt {b : Nat} (h : isKd b = true) : b < 128 := by
  have h9 : b = 37 ∨ b = 88 ∨ b = 99 ∨ b = 100 ∨ b = 111 ∨ b = 115 ∨ b = 120 := by simpa [isKd, or_assoc] using h
  omega
theorem pcs_tk {ar : Nat → List Nat} {ac tk wd kb : Nat} {f : fl4} (hk : kb ≠ 37) (h : (pcs ar ac tk f wd (nI kb)).1 = 0) (hb : kb < 128 := by omega) : (pcs ar ac tk f wd (nI kb)).2.2 = tk + 1 := by
  have hn : ¬ nI kb = 37 := fun q => hk ((nI_eq (b := 37) (by omega) (by omega)).mp q)
  unfold pcs at h ⊢
  rw [if_neg hn] at h ⊢
  by_cases h1 : ac ≤ tk
  · rw [if_pos h1] at h
    exact absurd h (by show ¬ (-3 : Int32) = 0; decide)
  · rw [if_neg h1] at h ⊢
    split
    · rfl
    · split <;> rfl

theorem tNum_len (x : Int64) : (tNum x).length ≤ 20 := by
  have h : (tDec x).length ≤ 19 := dgF_len (dig := dDig x) (ch := dCh) 19 false
  unfold tNum
  split
  · simp only [List.length_append, List.length_cons, List.length_nil]; omega
  · simp only [List.length_append, List.length_nil]; omega
theorem ln_1 {t : List Nat} {b : Nat} : nI t.length + 1 = nI (t ++ [b]).length := by
  rw [List.length_append]
  exact nI_1 _
