set_option maxHeartbeats 4000000 in
set_option maxRecDepth 100000 in
/-- Numeral.hexadecimalDigit(x) -/
theorem c_hexDig (l : Launch) (D : va_G) (ca : Nat → ClassId) (n : Nat) (ad : Nat → Nat) (c : Nat → va_E) (x : Int32) (b : Nat) (hb8 : b < 256) (hxb : x = nI b) : mInt l yX0_hexadecimalDigit wsX0_hexadecimalDigit ({ frames := 1, cells := 0, slots := 0, locals := 20 }) [.int x] D (tTY ca) n ad c (fun r c' => c' = c ∧ r = hxI b) := by
  intro sz
  refine Met.ofW (cc := cX0_hexadecimalDigit) (maxL := 1) (ret := (some .int)) (by decide) rfl ?_
  intro pg9 ev9 s m args below meth cd s₁ B hml hv
  obtain ⟨rfl, hsz, hP, hK, hD0, hN⟩ := hv
  have hx := B.exec
  have hb := B.bytes
  have hr := B.returns
  have hts := fun (w : Cond) (h : w ∈ WSa) => atoms_spec (ws := wsX0_hexadecimalDigit) B.pre w (List.mem_cons_of_mem _ h)
  have hown : s.vm.findClass RX0 = some m.cls := findClass_of_methodNamed B.named
  have hlocks := B.notSynchronized
  subst hsz
  have hD : ∀ c, va_D (fun _ => True) (mw n ad c) := fun c' => mw_D hD0 c'
  have hS : va_S (mA n ad s.heap.size) s.heap s.heap [] := va_S.rf
  have hl := lv_entry ([.int x]) (n := 1) (Nat.le_of_ble_eq_true rfl)
  rw [lg_entry_eq]
  generalize (lg_sl ([.int x]) ++ List.replicate (1 - (lg_sl ([.int x])).length) Slot.unset).toArray = ls at hl ⊢
  have hl : lv_has ls 1 [(0, .int x)] := hl
  refine lv_iload_n hx hb dX0_hexadecimalDigit_0 rfl (lv_at hl 0 rfl) ?_
  refine mx_ci (va_runSN (As := [.int x]) (rest := []) ⟨hx, hb, hml, hown, hts⟩ (c_isDig l D ca n ad c x _) ⟨va_cnB 1 hts (gW wm_199) rfl rfl rfl (hN.1 _ nn_10) (hts _ wm_1) (by decide +kernel) ⟨Nat.le_of_ble_eq_true rfl, Nat.le_of_ble_eq_true rfl⟩, hts _ wm_198, trivial⟩ (mx_ps hK hP hD hN) rfl rfl hl.1 rfl (lv_room (Nat.le_of_ble_eq_true rfl)) dX0_hexadecimalDigit_1 ⟨Nat.zero_le _, Nat.zero_le _⟩) (Nat.le_refl _) hS (fun r c1 H locs hw hP hS => ?_)
  obtain ⟨hcE, hw⟩ := hw
  rw [hcE] at hP
  rw [hxb] at hw
  refine lv_if_eq (tgt := 12) hx hb dX0_hexadecimalDigit_4 (by decide) (fun hc => ?_) (fun hc => ?_)
  · skip
    have hnd : isDg b = false := by rcases hw with h | h; exact absurd (h.2.2.symm.trans hc) (by decide); exact isDg_f hb8 h.1
    refine lv_iload_n hx hb dX0_hexadecimalDigit_12 rfl (lv_at hl 0 rfl) ?_
    refine lv_bipush (v := 97) hx hb dX0_hexadecimalDigit_13 (by decide) ?_
    refine lv_icmp_lt (tgt := 32) hx hb dX0_hexadecimalDigit_15 (by decide) (fun hc2 => ?_) (fun hc2 => ?_)
    · skip
      have hnf : ¬ (97 ≤ b ∧ b ≤ 102) := fun h => absurd h.1 (by have := (nI_ltI (a := b) (b := 97) (by omega) (by omega)).mp (by rw [← hxb]; exact hc2); omega)
      refine lv_iload_n hx hb dX0_hexadecimalDigit_32 rfl (lv_at hl 0 rfl) ?_
      refine lv_bipush (v := 65) hx hb dX0_hexadecimalDigit_33 (by decide) ?_
      refine lv_icmp_lt (tgt := 52) hx hb dX0_hexadecimalDigit_35 (by decide) (fun hc4 => ?_) (fun hc4 => ?_)
      · skip
        refine lv_iconst (v := (-1)) hx hb dX0_hexadecimalDigit_52 (by decide) ?_
        exact mx_iret hx hb hr hlocks hP hS (⟨rfl, by unfold hxI hxD; rw [hnd, if_neg (by decide), if_neg hnf, if_neg (fun h => absurd h.1 (by have := (nI_ltI (a := b) (b := 65) (by omega) (by omega)).mp (by rw [← hxb]; exact hc4); omega))]⟩) dX0_hexadecimalDigit_53
      · skip
        refine lv_iload_n hx hb dX0_hexadecimalDigit_38 rfl (lv_at hl 0 rfl) ?_
        refine lv_bipush (v := 70) hx hb dX0_hexadecimalDigit_39 (by decide) ?_
        refine lv_icmp_gt (tgt := 52) hx hb dX0_hexadecimalDigit_41 (by decide) (fun hc5 => ?_) (fun hc5 => ?_)
        · skip
          refine lv_iconst (v := (-1)) hx hb dX0_hexadecimalDigit_52 (by decide) ?_
          exact mx_iret hx hb hr hlocks hP hS (⟨rfl, by unfold hxI hxD; rw [hnd, if_neg (by decide), if_neg hnf, if_neg (fun h => absurd h.2 (by have := (nI_ltI (a := 70) (b := b) (by omega) (by omega)).mp (by rw [← hxb]; exact hc5); omega))]⟩) dX0_hexadecimalDigit_53
        · skip
          have h65 : 65 ≤ b := by have := (not_congr (nI_ltI (b := 65) (by omega : b < 2 ^ 31) (by omega))).mp (by rw [← hxb]; exact hc4); omega
          have h70 : b ≤ 70 := by have := (not_congr (nI_ltI (a := 70) (by omega) (by omega : b < 2 ^ 31))).mp (by rw [← hxb]; exact hc5); omega
          refine lv_iload_n hx hb dX0_hexadecimalDigit_44 rfl (lv_at hl 0 rfl) ?_
          refine lv_bipush (v := 65) hx hb dX0_hexadecimalDigit_45 (by decide) ?_
          refine lv_isub hx hb dX0_hexadecimalDigit_47 ?_
          refine lv_bipush (v := 10) hx hb dX0_hexadecimalDigit_48 (by decide) ?_
          refine lv_iadd hx hb dX0_hexadecimalDigit_50 ?_
          refine mx_i (hxI b) (by unfold hxI hxD; rw [hnd, if_neg (by decide), if_neg hnf, if_pos ⟨h65, h70⟩, hxb]; exact hx_eq (a := 65) h65 (by decide)) ?_
          exact mx_iret hx hb hr hlocks hP hS (⟨rfl, rfl⟩) dX0_hexadecimalDigit_51
    · skip
      refine lv_iload_n hx hb dX0_hexadecimalDigit_18 rfl (lv_at hl 0 rfl) ?_
      refine lv_bipush (v := 102) hx hb dX0_hexadecimalDigit_19 (by decide) ?_
      refine lv_icmp_gt (tgt := 32) hx hb dX0_hexadecimalDigit_21 (by decide) (fun hc3 => ?_) (fun hc3 => ?_)
      · skip
        have hnf : ¬ (97 ≤ b ∧ b ≤ 102) := fun h => absurd h.2 (by have := (nI_ltI (a := 102) (b := b) (by omega) (by omega)).mp (by rw [← hxb]; exact hc3); omega)
        refine lv_iload_n hx hb dX0_hexadecimalDigit_32 rfl (lv_at hl 0 rfl) ?_
        refine lv_bipush (v := 65) hx hb dX0_hexadecimalDigit_33 (by decide) ?_
        refine lv_icmp_lt (tgt := 52) hx hb dX0_hexadecimalDigit_35 (by decide) (fun hc4 => ?_) (fun hc4 => ?_)
        · skip
          refine lv_iconst (v := (-1)) hx hb dX0_hexadecimalDigit_52 (by decide) ?_
          exact mx_iret hx hb hr hlocks hP hS (⟨rfl, by unfold hxI hxD; rw [hnd, if_neg (by decide), if_neg hnf, if_neg (fun h => absurd h.1 (by have := (nI_ltI (a := b) (b := 65) (by omega) (by omega)).mp (by rw [← hxb]; exact hc4); omega))]⟩) dX0_hexadecimalDigit_53
        · skip
          refine lv_iload_n hx hb dX0_hexadecimalDigit_38 rfl (lv_at hl 0 rfl) ?_
          refine lv_bipush (v := 70) hx hb dX0_hexadecimalDigit_39 (by decide) ?_
          refine lv_icmp_gt (tgt := 52) hx hb dX0_hexadecimalDigit_41 (by decide) (fun hc5 => ?_) (fun hc5 => ?_)
          · skip
            refine lv_iconst (v := (-1)) hx hb dX0_hexadecimalDigit_52 (by decide) ?_
            exact mx_iret hx hb hr hlocks hP hS (⟨rfl, by unfold hxI hxD; rw [hnd, if_neg (by decide), if_neg hnf, if_neg (fun h => absurd h.2 (by have := (nI_ltI (a := 70) (b := b) (by omega) (by omega)).mp (by rw [← hxb]; exact hc5); omega))]⟩) dX0_hexadecimalDigit_53
          · skip
            have h65 : 65 ≤ b := by have := (not_congr (nI_ltI (b := 65) (by omega : b < 2 ^ 31) (by omega))).mp (by rw [← hxb]; exact hc4); omega
            have h70 : b ≤ 70 := by have := (not_congr (nI_ltI (a := 70) (by omega) (by omega : b < 2 ^ 31))).mp (by rw [← hxb]; exact hc5); omega
            refine lv_iload_n hx hb dX0_hexadecimalDigit_44 rfl (lv_at hl 0 rfl) ?_
            refine lv_bipush (v := 65) hx hb dX0_hexadecimalDigit_45 (by decide) ?_
            refine lv_isub hx hb dX0_hexadecimalDigit_47 ?_
            refine lv_bipush (v := 10) hx hb dX0_hexadecimalDigit_48 (by decide) ?_
            refine lv_iadd hx hb dX0_hexadecimalDigit_50 ?_
            refine mx_i (hxI b) (by unfold hxI hxD; rw [hnd, if_neg (by decide), if_neg hnf, if_pos ⟨h65, h70⟩, hxb]; exact hx_eq (a := 65) h65 (by decide)) ?_
            exact mx_iret hx hb hr hlocks hP hS (⟨rfl, rfl⟩) dX0_hexadecimalDigit_51
      · skip
        have h97 : 97 ≤ b := by have := (not_congr (nI_ltI (b := 97) (by omega : b < 2 ^ 31) (by omega))).mp (by rw [← hxb]; exact hc2); omega
        have h102 : b ≤ 102 := by have := (not_congr (nI_ltI (a := 102) (by omega) (by omega : b < 2 ^ 31))).mp (by rw [← hxb]; exact hc3); omega
        refine lv_iload_n hx hb dX0_hexadecimalDigit_24 rfl (lv_at hl 0 rfl) ?_
        refine lv_bipush (v := 97) hx hb dX0_hexadecimalDigit_25 (by decide) ?_
        refine lv_isub hx hb dX0_hexadecimalDigit_27 ?_
        refine lv_bipush (v := 10) hx hb dX0_hexadecimalDigit_28 (by decide) ?_
        refine lv_iadd hx hb dX0_hexadecimalDigit_30 ?_
        refine mx_i (hxI b) (by unfold hxI hxD; rw [hnd, if_neg (by decide), if_pos ⟨h97, h102⟩, hxb]; exact hx_eq (a := 97) h97 (by decide)) ?_
        exact mx_iret hx hb hr hlocks hP hS (⟨rfl, rfl⟩) dX0_hexadecimalDigit_31
  · skip
    have hdg : isDg b = true := by rcases hw with h | h; exact isDg_t hb8 h.1 h.2.1; exact absurd h.2 hc
    refine lv_iload_n hx hb dX0_hexadecimalDigit_7 rfl (lv_at hl 0 rfl) ?_
    refine lv_bipush (v := 48) hx hb dX0_hexadecimalDigit_8 (by decide) ?_
    refine lv_isub hx hb dX0_hexadecimalDigit_10 ?_
    refine mx_i (hxI b) (by unfold hxI hxD; rw [if_pos hdg, hxb]; exact pk_sub (b := 48) (isDg_le hdg).1) ?_
    exact mx_iret hx hb hr hlocks hP hS (⟨rfl, rfl⟩) dX0_hexadecimalDigit_11
set_option maxHeartbeats 4000000 in
set_option maxRecDepth 100000 in
/-- Numeral.takeDigitBelowZero(x) -/
theorem c_Num_take (l : Launch) (D : va_G) (ca : Nat → ClassId) (n : Nat) (ad : Nat → Nat) (c : Nat → va_E) {k : Nat} {v0 : Int64} (hk : k < n) (hV : tNm c k v0) (x : Int32) : mInt l yX0_takeDigitBelowZero wsX0_takeDigitBelowZero ({ frames := 0, cells := 0, slots := 0, locals := 0 }) [.ref (ad k), .int x] D (tTY ca) n ad c (fun r c' => (∃ v', gTake v0 x = some v' ∧ r = 1 ∧ tNm c' k v' ∧ ∀ j, j ≠ k → c' j = c j) ∨ (gTake v0 x = none ∧ r = 0 ∧ c' = c)) := by
  intro sz
  refine Met.ofW (cc := cX0_takeDigitBelowZero) (maxL := 2) (ret := (some .boolean)) (by decide) rfl ?_
  intro pg9 ev9 s m args below meth cd s₁ B hml hv
  obtain ⟨rfl, hsz, hP, hK, hD0, hN⟩ := hv
  have hx := B.exec
  have hb := B.bytes
  have hr := B.returns
  have hts := fun (w : Cond) (h : w ∈ WSa) => atoms_spec (ws := wsX0_takeDigitBelowZero) B.pre w (List.mem_cons_of_mem _ h)
  have hown : s.vm.findClass RX0 = some m.cls := findClass_of_methodNamed B.named
  have hlocks := B.notSynchronized
  subst hsz
  have hD : ∀ c, va_D (fun _ => True) (mw n ad c) := fun c' => mw_D hD0 c'
  have hS : va_S (mA n ad s.heap.size) s.heap s.heap [] := va_S.rf
  have hl := lv_entry ([.ref (ad k), .int x]) (n := 2) (Nat.le_of_ble_eq_true rfl)
  rw [lg_entry_eq]
  generalize (lg_sl ([.ref (ad k), .int x]) ++ List.replicate (2 - (lg_sl ([.ref (ad k), .int x])).length) Slot.unset).toArray = ls at hl ⊢
  have hl : lv_has ls 2 [(0, .ref (ad k)), (1, .int x)] := hl
  refine lv_aload_n hx hb dX0_takeDigitBelowZero_0 rfl (lv_at hl 0 rfl) ?_
  refine mx_get (ci := 0) (v := .long v0) (C := RX0) (T := TX0) (N := 1) hx hb hts inX0 hown hK hP hk hV rfl 0 (by decide) (hts _ wm_72) (fun _ h9 => h9) rfl dX0_takeDigitBelowZero_1 ?_
  refine lv_ldc2 (v := (-922337203685477580)) hx hb hown (hts _ wm_243) dX0_takeDigitBelowZero_4 ?_
  refine W.lcmp hx hb dX0_takeDigitBelowZero_7 ?_
  refine lv_if_lt (tgt := 29) hx hb dX0_takeDigitBelowZero_8 (by decide) (fun hc => ?_) (fun hc => ?_)
  · skip
    refine lv_iconst (v := 0) hx hb dX0_takeDigitBelowZero_29 (by decide) ?_
    exact mx_zret hx hb hr hlocks rfl hP hS (Or.inr ⟨if_pos (Or.inl ((lg_cmp_lt _ _).mp hc)), rfl, rfl⟩) dX0_takeDigitBelowZero_30
  · skip
    refine lv_aload_n hx hb dX0_takeDigitBelowZero_11 rfl (lv_at hl 0 rfl) ?_
    refine mx_get (ci := 0) (v := .long v0) (C := RX0) (T := TX0) (N := 1) hx hb hts inX0 hown hK hP hk hV rfl 0 (by decide) (hts _ wm_72) (fun _ h9 => h9) rfl dX0_takeDigitBelowZero_12 ?_
    refine lv_ldc2 (v := 10) hx hb hown (hts _ wm_244) dX0_takeDigitBelowZero_15 ?_
    refine lv_lmul hx hb dX0_takeDigitBelowZero_18 ?_
    refine lv_ldc2 (v := (-9223372036854775808)) hx hb hown (hts _ wm_245) dX0_takeDigitBelowZero_19 ?_
    refine lv_iload_n hx hb dX0_takeDigitBelowZero_22 rfl (lv_at hl 1 rfl) ?_
    refine lv_i2l (v := x.toInt64) hx hb dX0_takeDigitBelowZero_23 rfl ?_
    refine lv_ladd hx hb dX0_takeDigitBelowZero_24 ?_
    refine W.lcmp hx hb dX0_takeDigitBelowZero_25 ?_
    refine lv_if_ge (tgt := 31) hx hb dX0_takeDigitBelowZero_26 (by decide) (fun hc2 => ?_) (fun hc2 => ?_)
    · skip
      refine lv_aload_n hx hb dX0_takeDigitBelowZero_31 rfl (lv_at hl 0 rfl) ?_
      refine lv_aload_n hx hb dX0_takeDigitBelowZero_32 rfl (lv_at hl 0 rfl) ?_
      refine mx_get (ci := 0) (v := .long v0) (C := RX0) (T := TX0) (N := 1) hx hb hts inX0 hown hK hP hk hV rfl 0 (by decide) (hts _ wm_72) (fun _ h9 => h9) rfl dX0_takeDigitBelowZero_33 ?_
      refine lv_ldc2 (v := 10) hx hb hown (hts _ wm_244) dX0_takeDigitBelowZero_36 ?_
      refine lv_lmul hx hb dX0_takeDigitBelowZero_39 ?_
      refine lv_iload_n hx hb dX0_takeDigitBelowZero_40 rfl (lv_at hl 1 rfl) ?_
      refine lv_i2l (v := x.toInt64) hx hb dX0_takeDigitBelowZero_41 rfl ?_
      refine lv_lsub hx hb dX0_takeDigitBelowZero_42 ?_
      refine mx_put (ci := 0) (v := .long ((v0 * 10) - x.toInt64)) (ty := .long) (C := RX0) (T := TX0) (N := 1) hx hb hts inX0 tyX0 tyX0_ok nmX0 hown hK hP hD hS hk hV rfl 0 (by decide) (hts _ wm_72) (fun _ h9 => h9) rfl (by decide +kernel) rfl rfl (Nat.le_of_ble_eq_true rfl) dX0_takeDigitBelowZero_43 (fun H locs hP hS => ?_)
      obtain ⟨c1, ec1⟩ : ∃ z : Nat → va_E, z = va_up c k (.inr (0, [.long ((v0 * 10) - x.toInt64)])) := ⟨_, rfl⟩
      have hP : va_P D vwCl (mw n ad c1) H := by rw [ec1]; exact hP
      have hsc1 : ∀ j, j ≠ k → c1 j = c j := fun j h => by rw [ec1]; exact va_up_ne _ _ h
      have hcc1 : c1 k = .inr (0, [.long ((v0 * 10) - x.toInt64)]) := by rw [ec1]; exact va_up_self _ _ _
      refine lv_iconst (v := 1) hx hb dX0_takeDigitBelowZero_46 (by decide) ?_
      exact mx_zret hx hb hr hlocks rfl hP hS (Or.inl ⟨_, if_neg (fun h => h.elim (fun q => hc ((lg_cmp_lt _ _).mpr q)) (fun q => absurd ((lg_cmp_ge _ _).mp hc2) (Int64.not_le.mpr q))), rfl, hcc1, hsc1⟩) dX0_takeDigitBelowZero_47
    · skip
      refine lv_iconst (v := 0) hx hb dX0_takeDigitBelowZero_29 (by decide) ?_
      exact mx_zret hx hb hr hlocks rfl hP hS (Or.inr ⟨if_pos (Or.inr (Int64.not_le.mp (fun h => hc2 ((lg_cmp_ge _ _).mpr h)))), rfl, rfl⟩) dX0_takeDigitBelowZero_30
set_option maxHeartbeats 4000000 in
set_option maxRecDepth 100000 in
/-- Numeral.readHexadecimal -/
theorem c_Num_hex (l : Launch) (D : va_G) (ca : Nat → ClassId) (n : Nat) (ad : Nat → Nat) (c : Nat → va_E) {k : Nat} {v0 : Int64} (hk : k < n) (hV : tNm c k v0) {k2 cap : Nat} {t : List Nat} (hk2 : k2 + 1 < n) (hT : tTx ca ad c k2 cap t) (hd : k2 ≠ k ∧ k2 + 1 ≠ k) (x : Int32) (i0 : Nat) (hx0 : x = nI i0) (hi0 : i0 ≤ t.length) (mi : Bool) : mInt l yX0_readHexadecimal wsX0_readHexadecimal ({ frames := 2, cells := 0, slots := 0, locals := 40 }) [.ref (ad k), .ref (ad k2), .int x, .int (bI mi)] D (tTY ca) n ad c (fun r c' => (∃ v, pHex (t.drop i0) mi = some v ∧ r = 1 ∧ tNm c' k v ∧ ∀ j, j ≠ k → c' j = c j) ∨ (pHex (t.drop i0) mi = none ∧ r = 0 ∧ (∃ v, tNm c' k v) ∧ ∀ j, j ≠ k → c' j = c j)) := by
  intro sz
  refine Met.ofW (cc := cX0_readHexadecimal) (maxL := 7) (ret := (some .boolean)) (by decide) rfl ?_
  intro pg9 ev9 s m args below meth cd s₁ B hml hv
  obtain ⟨rfl, hsz, hP, hK, hD0, hN⟩ := hv
  have hx := B.exec
  have hb := B.bytes
  have hr := B.returns
  have hts := fun (w : Cond) (h : w ∈ WSa) => atoms_spec (ws := wsX0_readHexadecimal) B.pre w (List.mem_cons_of_mem _ h)
  have hown : s.vm.findClass RX0 = some m.cls := findClass_of_methodNamed B.named
  have hlocks := B.notSynchronized
  subst hsz
  have hD : ∀ c, va_D (fun _ => True) (mw n ad c) := fun c' => mw_D hD0 c'
  have hS : va_S (mA n ad s.heap.size) s.heap s.heap [] := va_S.rf
  have hl := lv_entry ([.ref (ad k), .ref (ad k2), .int x, .int (bI mi)]) (n := 7) (Nat.le_of_ble_eq_true rfl)
  rw [lg_entry_eq]
  generalize (lg_sl ([.ref (ad k), .ref (ad k2), .int x, .int (bI mi)]) ++ List.replicate (7 - (lg_sl ([.ref (ad k), .ref (ad k2), .int x, .int (bI mi)])).length) Slot.unset).toArray = ls at hl ⊢
  have hl : lv_has ls 7 [(0, .ref (ad k)), (1, .ref (ad k2)), (2, .int x), (3, .int (bI mi))] := hl
  have hcp := hT.cap
  have hle := hT.le
  refine lv_aload_n hx hb dX0_readHexadecimal_0 rfl (lv_at hl 1 rfl) ?_
  refine mx_getN (ci := 2) (v := .int (nI t.length)) (C := RX2) (T := TX2) (N := 2) hx hb hts inX2 hown hK hP (by omega : k2 < n) hT.cell rfl 1 (by decide) (hN.1 _ nn_0) (fun _ h9 => h9) rfl dX0_readHexadecimal_1 ?_
  refine lv_iload_n hx hb dX0_readHexadecimal_4 rfl (lv_at hl 2 rfl) ?_
  refine lv_isub hx hb dX0_readHexadecimal_5 ?_
  refine mx_i (nI (t.length - i0)) (by rw [hx0]; exact pk_sub hi0) ?_
  refine lv_istore (lv' := [(4, .int (nI (t.length - i0))), (0, .ref (ad k)), (1, .ref (ad k2)), (2, .int x), (3, .int (bI mi))]) hx hb dX0_readHexadecimal_6 hl (by decide) rfl (fun ls hl => ?_)
  refine lv_iload hx hb dX0_readHexadecimal_8 (lv_at hl 0 rfl) ?_
  refine lv_iconst (v := 1) hx hb dX0_readHexadecimal_10 (by decide) ?_
  refine lv_icmp_lt (tgt := 21) hx hb dX0_readHexadecimal_11 (by decide) (fun hc => ?_) (fun hc => ?_)
  · skip
    refine lv_iconst (v := 0) hx hb dX0_readHexadecimal_21 (by decide) ?_
    exact mx_zret hx hb hr hlocks rfl hP hS (Or.inr ⟨if_neg (fun h => absurd h.1 (by rw [List.length_drop]; have := (nI_ltI (b := 1) (by omega) (by omega)).mp hc; omega)), rfl, ⟨v0, hV⟩, fun j h => rfl⟩) dX0_readHexadecimal_22
  · skip
    refine lv_iload hx hb dX0_readHexadecimal_14 (lv_at hl 0 rfl) ?_
    refine lv_bipush (v := 16) hx hb dX0_readHexadecimal_16 (by decide) ?_
    refine lv_icmp_le (tgt := 23) hx hb dX0_readHexadecimal_18 (by decide) (fun hc2 => ?_) (fun hc2 => ?_)
    · skip
      have hct : 1 ≤ (t.drop i0).length ∧ (t.drop i0).length ≤ 16 := by rw [List.length_drop]; exact ⟨by have := (not_congr (nI_ltI (b := 1) (by omega : t.length - i0 < 2 ^ 31) (by omega))).mp hc; omega, (nI_leI (b := 16) (by omega) (by omega)).mp hc2⟩
      have loop : ∀ (q1 : Nat) (i : Nat) (v1 : Int64) (c1 : Nat → va_E) (H : Heap) (locs : List Loc) (ls : Array Slot), (i ≤ t.length) → (t.length < i + q1) → (hxRd (t.drop i0) 0 = hxRd (t.drop i) v1) → (tNm c1 k v1) → (∀ j, j ≠ k → c1 j = c j) → va_P D vwCl (mw n ad c1) H → va_S (mA n ad s.heap.size) s.heap H locs → lv_has ls 7 [(5, .int (nI i)), (0, .ref (ad k)), (1, .ref (ad k2)), (3, .int (bI mi))] → W pg9 l ev9 (headSpec wsX0_readHexadecimal ({ frames := 2, cells := 0, slots := 0, locals := 40 })).room s m ([.ref (ad k), .ref (ad k2), .int x, .int (bI mi)] : List Value).toArray below meth cd H locs 0 0 (MQ below (va_Qi (fun r c' => (∃ v, pHex (t.drop i0) mi = some v ∧ r = 1 ∧ tNm c' k v ∧ ∀ j, j ≠ k → c' j = c j) ∨ (pHex (t.drop i0) mi = none ∧ r = 0 ∧ (∃ v, tNm c' k v) ∧ ∀ j, j ≠ k → c' j = c j)) (mW D n ad) (mA n ad s.heap.size)) ([.ref (ad k), .ref (ad k2), .int x, .int (bI mi)] : List Value).toArray s 0 0 (mA n ad s.heap.size)) (F0 m 31 ls []) := by
        intro q1
        induction q1 with
        | zero => intro i v1 c1 H locs ls hi hq heq hV1 hs1 hP hS hl; omega
        | succ q1 ih =>
          intro i v1 c1 H locs ls hi hq heq hV1 hs1 hP hS hl
          have hT1 : tTx ca ad c1 k2 cap t := hT.keep (hs1 _ hd.1) (hs1 _ hd.2)
          refine lv_iload hx hb dX0_readHexadecimal_31 (lv_at hl 0 rfl) ?_
          refine lv_aload_n hx hb dX0_readHexadecimal_33 rfl (lv_at hl 2 rfl) ?_
          refine mx_getN (ci := 2) (v := .int (nI t.length)) (C := RX2) (T := TX2) (N := 2) hx hb hts inX2 hown hK hP (by omega : k2 < n) hT1.cell rfl 1 (by decide) (hN.1 _ nn_0) (fun _ h9 => h9) rfl dX0_readHexadecimal_34 ?_
          refine lv_icmp_ge (tgt := 79) hx hb dX0_readHexadecimal_37 (by decide) (fun hc => ?_) (fun hc => ?_)
          · skip
            have hge : t.length ≤ i := (nI_leI (by omega) (by omega)).mp hc
            have hsm : hxRd (t.drop i0) 0 = some v1 := by rw [heq, dr_nil hge]; rfl
            refine lv_iload_n hx hb dX0_readHexadecimal_79 rfl (lv_at hl 3 rfl) ?_
            refine lv_if_eq (tgt := 92) hx hb dX0_readHexadecimal_80 (by decide) (fun hc2 => ?_) (fun hc2 => ?_)
            · skip
              refine lv_iconst (v := 1) hx hb dX0_readHexadecimal_92 (by decide) ?_
              exact mx_zret hx hb hr hlocks rfl hP hS (Or.inl ⟨v1, by unfold pHex; rw [if_pos hct, hsm]; show some (if mi = true then -v1 else v1) = _; rw [if_neg (by rw [bI_eq hc2]; decide)], rfl, hV1, hs1⟩) dX0_readHexadecimal_93
            · skip
              refine lv_aload_n hx hb dX0_readHexadecimal_83 rfl (lv_at hl 1 rfl) ?_
              refine lv_aload_n hx hb dX0_readHexadecimal_84 rfl (lv_at hl 1 rfl) ?_
              refine mx_get (ci := 0) (v := .long v1) (C := RX0) (T := TX0) (N := 1) hx hb hts inX0 hown hK hP hk hV1 rfl 0 (by decide) (hts _ wm_72) (fun _ h9 => h9) rfl dX0_readHexadecimal_85 ?_
              refine lv_lneg hx hb dX0_readHexadecimal_88 ?_
              refine mx_put (ci := 0) (v := .long (-v1)) (ty := .long) (C := RX0) (T := TX0) (N := 1) hx hb hts inX0 tyX0 tyX0_ok nmX0 hown hK hP hD hS hk hV1 rfl 0 (by decide) (hts _ wm_72) (fun _ h9 => h9) rfl (by decide +kernel) rfl rfl (Nat.le_of_ble_eq_true rfl) dX0_readHexadecimal_89 (fun H locs hP hS => ?_)
              obtain ⟨c2, ec2⟩ : ∃ z : Nat → va_E, z = va_up c1 k (.inr (0, [.long (-v1)])) := ⟨_, rfl⟩
              have hP : va_P D vwCl (mw n ad c2) H := by rw [ec2]; exact hP
              have hsc2 : ∀ j, j ≠ k → c2 j = c1 j := fun j h => by rw [ec2]; exact va_up_ne _ _ h
              have hcc2 : c2 k = .inr (0, [.long (-v1)]) := by rw [ec2]; exact va_up_self _ _ _
              refine lv_iconst (v := 1) hx hb dX0_readHexadecimal_92 (by decide) ?_
              exact mx_zret hx hb hr hlocks rfl hP hS (Or.inl ⟨-v1, by unfold pHex; rw [if_pos hct, hsm]; show some (if mi = true then -v1 else v1) = _; rw [if_pos (bI_ne hc2)], rfl, hcc2, fun j h => (hsc2 j h).trans (hs1 j h)⟩) dX0_readHexadecimal_93
          · skip
            have hlt : i < t.length := by rcases Nat.lt_or_ge i t.length with h | h; exact h; exact absurd (nI_le h (by omega)) hc
            have hb8 : t.getD i 0 < 256 := hT.b8 _ (gD_mem hlt)
            refine lv_aload_n hx hb dX0_readHexadecimal_40 rfl (lv_at hl 2 rfl) ?_
            refine lv_iload hx hb dX0_readHexadecimal_41 (lv_at hl 0 rfl) ?_
            refine mx_ci (va_runV (As := [.int (nI i)]) (rest := []) ⟨hx, hb, hml, hown, hts⟩ (c_Text_at l D ca n ad c1 hk2 hT1 (nI i) _) (cwV 1 hts (gV wm_226 wm_142 wm_143 wm_2 wm_144) rfl rfl rfl (by decide +kernel) ⟨Nat.le_of_ble_eq_true rfl, Nat.le_of_ble_eq_true rfl⟩) (mx_pv (C := RX2) (T := TX2) (N := 2) (ci := 2) hK hP hD hN (by omega : k2 < n) hT1.cell rfl) rfl rfl hl.1 rfl (lv_room (Nat.le_of_ble_eq_true rfl)) dX0_readHexadecimal_43 ⟨Nat.zero_le _, Nat.zero_le _⟩) (Nat.le_refl _) hS (fun r1 c2 H locs hw hP hS => ?_)
            obtain ⟨hr1, hcE⟩ := hw
            rw [hcE] at hP
            refine mx_i (nI (t.getD i 0)) (by rw [hr1, tAtI_nI (by omega)]; exact if_pos hlt) ?_
            refine mx_ci (va_runS (As := [.int (nI (t.getD i 0))]) (rest := []) ⟨hx, hb, hml, hown, hts⟩ (c_hexDig l D ca n ad c1 (nI (t.getD i 0)) (t.getD i 0) hb8 rfl _) (cwS 1 hts (gS wm_231 wm_232 wm_4 wm_233) rfl rfl rfl (by decide +kernel) ⟨Nat.le_of_ble_eq_true rfl, Nat.le_of_ble_eq_true rfl⟩) (mx_ps hK hP hD hN) rfl rfl hl.1 rfl (lv_room (Nat.le_of_ble_eq_true rfl)) dX0_readHexadecimal_46 ⟨Nat.zero_le _, Nat.zero_le _⟩) (Nat.le_refl _) hS (fun r2 c2 H locs hw hP hS => ?_)
            obtain ⟨hcE, hr2⟩ := hw
            rw [hcE] at hP
            refine lv_istore (lv' := [(6, .int r2), (5, .int (nI i)), (0, .ref (ad k)), (1, .ref (ad k2)), (3, .int (bI mi))]) hx hb dX0_readHexadecimal_49 hl (by decide) rfl (fun ls hl => ?_)
            refine lv_iload hx hb dX0_readHexadecimal_51 (lv_at hl 0 rfl) ?_
            refine lv_iconst (v := (-1)) hx hb dX0_readHexadecimal_53 (by decide) ?_
            refine lv_icmp_ne (tgt := 59) hx hb dX0_readHexadecimal_54 (by decide) (fun hc2 => ?_) (fun hc2 => ?_)
            · skip
              obtain ⟨d, hdd⟩ : ∃ d, hxD (t.getD i 0) = some d := by
                cases h9 : hxD (t.getD i 0) with
                | some d => exact ⟨d, rfl⟩
                | none => exact absurd (by rw [hr2]; exact hxI_f h9) hc2
              refine lv_aload_n hx hb dX0_readHexadecimal_59 rfl (lv_at hl 2 rfl) ?_
              refine lv_aload_n hx hb dX0_readHexadecimal_60 rfl (lv_at hl 2 rfl) ?_
              refine mx_get (ci := 0) (v := .long v1) (C := RX0) (T := TX0) (N := 1) hx hb hts inX0 hown hK hP hk hV1 rfl 0 (by decide) (hts _ wm_72) (fun _ h9 => h9) rfl dX0_readHexadecimal_61 ?_
              refine lv_iconst (v := 4) hx hb dX0_readHexadecimal_64 (by decide) ?_
              refine lv_lshl (v := v1 <<< ((4 : Int32).toInt64 &&& 63)) hx hb dX0_readHexadecimal_65 rfl ?_
              refine lv_iload hx hb dX0_readHexadecimal_66 (lv_at hl 0 rfl) ?_
              refine lv_i2l (v := r2.toInt64) hx hb dX0_readHexadecimal_68 rfl ?_
              refine lv_lor hx hb dX0_readHexadecimal_69 ?_
              refine mx_l (v1 <<< ((4 : Int32).toInt64 &&& 63) ||| (nI d).toInt64) (by rw [hr2, hxI_t hdd]) ?_
              refine mx_put (ci := 0) (v := .long (v1 <<< ((4 : Int32).toInt64 &&& 63) ||| (nI d).toInt64)) (ty := .long) (C := RX0) (T := TX0) (N := 1) hx hb hts inX0 tyX0 tyX0_ok nmX0 hown hK hP hD hS hk hV1 rfl 0 (by decide) (hts _ wm_72) (fun _ h9 => h9) rfl (by decide +kernel) rfl rfl (Nat.le_of_ble_eq_true rfl) dX0_readHexadecimal_70 (fun H locs hP hS => ?_)
              obtain ⟨c2, ec2⟩ : ∃ z : Nat → va_E, z = va_up c1 k (.inr (0, [.long (v1 <<< ((4 : Int32).toInt64 &&& 63) ||| (nI d).toInt64)])) := ⟨_, rfl⟩
              have hP : va_P D vwCl (mw n ad c2) H := by rw [ec2]; exact hP
              have hsc2 : ∀ j, j ≠ k → c2 j = c1 j := fun j h => by rw [ec2]; exact va_up_ne _ _ h
              have hcc2 : c2 k = .inr (0, [.long (v1 <<< ((4 : Int32).toInt64 &&& 63) ||| (nI d).toInt64)]) := by rw [ec2]; exact va_up_self _ _ _
              refine lv_iinc (v := nI (i + 1)) (lv' := [(5, .int (nI (i + 1))), (6, .int r2), (0, .ref (ad k)), (1, .ref (ad k2)), (3, .int (bI mi))]) hx hb dX0_readHexadecimal_73 hl (k := 1) rfl (nI_1 i) (by decide) rfl (fun ls hl => ?_)
              refine lv_goto (tgt := 31) hx hb dX0_readHexadecimal_76 (by decide) ?_
              exact ih (i + 1) _ c2 H locs ls (by omega) (by omega) (by rw [heq, dr_cons hlt]; show (match hxD _ with | some d => hxRd _ _ | none => none : Option Int64) = _; rw [hdd]) hcc2 (fun j h => (hsc2 j h).trans (hs1 j h)) hP hS (lv_sub hl [0, 2, 3, 4] rfl)
            · skip
              have hdd : hxD (t.getD i 0) = none := by
                cases h9 : hxD (t.getD i 0) with
                | some d => exact absurd (by rw [← hxI_t h9, ← hr2]; exact hc2) (nI_ne_m1 (d := d) (by have := hxD_lt h9; omega))
                | none => rfl
              refine lv_iconst (v := 0) hx hb dX0_readHexadecimal_57 (by decide) ?_
              exact mx_zret hx hb hr hlocks rfl hP hS (Or.inr ⟨by unfold pHex; rw [if_pos hct, heq, dr_cons hlt]; show (match (match hxD _ with | some d => hxRd _ _ | none => none : Option Int64) with | some v => some (if mi = true then -v else v) | none => none : Option Int64) = _; rw [hdd], rfl, ⟨v1, hV1⟩, hs1⟩) dX0_readHexadecimal_58
      refine lv_aload_n hx hb dX0_readHexadecimal_23 rfl (lv_at hl 1 rfl) ?_
      refine lv_lconst (v := 0) hx hb dX0_readHexadecimal_24 (by decide) ?_
      refine mx_put (ci := 0) (v := .long 0) (ty := .long) (C := RX0) (T := TX0) (N := 1) hx hb hts inX0 tyX0 tyX0_ok nmX0 hown hK hP hD hS hk hV rfl 0 (by decide) (hts _ wm_72) (fun _ h9 => h9) rfl (by decide +kernel) rfl rfl (Nat.le_of_ble_eq_true rfl) dX0_readHexadecimal_25 (fun H locs hP hS => ?_)
      obtain ⟨a1, ea1⟩ : ∃ z : Nat → va_E, z = va_up c k (.inr (0, [.long 0])) := ⟨_, rfl⟩
      have hP : va_P D vwCl (mw n ad a1) H := by rw [ea1]; exact hP
      have hsa1 : ∀ j, j ≠ k → a1 j = c j := fun j h => by rw [ea1]; exact va_up_ne _ _ h
      have hca1 : a1 k = .inr (0, [.long 0]) := by rw [ea1]; exact va_up_self _ _ _
      refine lv_iload_n hx hb dX0_readHexadecimal_28 rfl (lv_at hl 3 rfl) ?_
      refine lv_istore (lv' := [(5, .int x), (4, .int (nI (t.length - i0))), (0, .ref (ad k)), (1, .ref (ad k2)), (2, .int x), (3, .int (bI mi))]) hx hb dX0_readHexadecimal_29 hl (by decide) rfl (fun ls hl => ?_)
      exact loop (t.length + 1 - i0 + 1) i0 0 a1 _ _ ls hi0 (by omega) rfl hca1 hsa1 hP hS (by have h9 := (lv_sub hl [0, 2, 3, 5] rfl); rw [← hx0]; exact h9)
    · skip
      refine lv_iconst (v := 0) hx hb dX0_readHexadecimal_21 (by decide) ?_
      exact mx_zret hx hb hr hlocks rfl hP hS (Or.inr ⟨if_neg (fun h => absurd h.2 (by rw [List.length_drop]; have := (not_congr (nI_leI (b := 16) (by omega : t.length - i0 < 2 ^ 31) (by omega))).mp hc2; omega)), rfl, ⟨v0, hV⟩, fun j h => rfl⟩) dX0_readHexadecimal_22
set_option maxHeartbeats 4000000 in
set_option maxRecDepth 100000 in
/-- Numeral.readDecimal -/
theorem c_Num_dec (l : Launch) (D : va_G) (ca : Nat → ClassId) (n : Nat) (ad : Nat → Nat) (c : Nat → va_E) {k : Nat} {v0 : Int64} (hk : k < n) (hV : tNm c k v0) {k2 cap : Nat} {t : List Nat} (hk2 : k2 + 1 < n) (hT : tTx ca ad c k2 cap t) (hd : k2 ≠ k ∧ k2 + 1 ≠ k) (x : Int32) (i0 : Nat) (hx0 : x = nI i0) (hi0 : i0 < 2 ^ 20) (mi : Bool) : mInt l yX0_readDecimal wsX0_readDecimal ({ frames := 1, cells := 0, slots := 0, locals := 21 }) [.ref (ad k), .ref (ad k2), .int x, .int (bI mi)] D (tTY ca) n ad c (fun r c' => (∃ v, pDec (t.drop i0) mi = some v ∧ r = 1 ∧ tNm c' k v ∧ ∀ j, j ≠ k → c' j = c j) ∨ (pDec (t.drop i0) mi = none ∧ r = 0 ∧ (∃ v, tNm c' k v) ∧ ∀ j, j ≠ k → c' j = c j)) := by
  intro sz
  refine Met.ofW (cc := cX0_readDecimal) (maxL := 6) (ret := (some .boolean)) (by decide) rfl ?_
  intro pg9 ev9 s m args below meth cd s₁ B hml hv
  obtain ⟨rfl, hsz, hP, hK, hD0, hN⟩ := hv
  have hx := B.exec
  have hb := B.bytes
  have hr := B.returns
  have hts := fun (w : Cond) (h : w ∈ WSa) => atoms_spec (ws := wsX0_readDecimal) B.pre w (List.mem_cons_of_mem _ h)
  have hown : s.vm.findClass RX0 = some m.cls := findClass_of_methodNamed B.named
  have hlocks := B.notSynchronized
  subst hsz
  have hD : ∀ c, va_D (fun _ => True) (mw n ad c) := fun c' => mw_D hD0 c'
  have hS : va_S (mA n ad s.heap.size) s.heap s.heap [] := va_S.rf
  have hl := lv_entry ([.ref (ad k), .ref (ad k2), .int x, .int (bI mi)]) (n := 6) (Nat.le_of_ble_eq_true rfl)
  rw [lg_entry_eq]
  generalize (lg_sl ([.ref (ad k), .ref (ad k2), .int x, .int (bI mi)]) ++ List.replicate (6 - (lg_sl ([.ref (ad k), .ref (ad k2), .int x, .int (bI mi)])).length) Slot.unset).toArray = ls at hl ⊢
  have hl : lv_has ls 6 [(0, .ref (ad k)), (1, .ref (ad k2)), (2, .int x), (3, .int (bI mi))] := hl
  have hcp := hT.cap
  have hle := hT.le
  refine lv_iload_n hx hb dX0_readDecimal_0 rfl (lv_at hl 2 rfl) ?_
  refine lv_aload_n hx hb dX0_readDecimal_1 rfl (lv_at hl 1 rfl) ?_
  refine mx_getN (ci := 2) (v := .int (nI t.length)) (C := RX2) (T := TX2) (N := 2) hx hb hts inX2 hown hK hP (by omega : k2 < n) hT.cell rfl 1 (by decide) (hN.1 _ nn_0) (fun _ h9 => h9) rfl dX0_readDecimal_2 ?_
  refine lv_icmp_lt (tgt := 10) hx hb dX0_readDecimal_5 (by decide) (fun hc => ?_) (fun hc => ?_)
  · skip
    have hlt0 : i0 < t.length := (nI_ltI (by omega) (by omega)).mp (by rw [← hx0]; exact hc)
    have loop : ∀ (q1 : Nat) (i : Nat) (v1 : Int64) (c1 : Nat → va_E) (H : Heap) (locs : List Loc) (ls : Array Slot), (i ≤ t.length) → (t.length < i + q1) → (gRd (t.drop i0) 0 = gRd (t.drop i) v1) → (tNm c1 k v1) → (∀ j, j ≠ k → c1 j = c j) → va_P D vwCl (mw n ad c1) H → va_S (mA n ad s.heap.size) s.heap H locs → lv_has ls 6 [(4, .int (nI i)), (0, .ref (ad k)), (1, .ref (ad k2)), (3, .int (bI mi))] → W pg9 l ev9 (headSpec wsX0_readDecimal ({ frames := 1, cells := 0, slots := 0, locals := 21 })).room s m ([.ref (ad k), .ref (ad k2), .int x, .int (bI mi)] : List Value).toArray below meth cd H locs 0 0 (MQ below (va_Qi (fun r c' => (∃ v, pDec (t.drop i0) mi = some v ∧ r = 1 ∧ tNm c' k v ∧ ∀ j, j ≠ k → c' j = c j) ∨ (pDec (t.drop i0) mi = none ∧ r = 0 ∧ (∃ v, tNm c' k v) ∧ ∀ j, j ≠ k → c' j = c j)) (mW D n ad) (mA n ad s.heap.size)) ([.ref (ad k), .ref (ad k2), .int x, .int (bI mi)] : List Value).toArray s 0 0 (mA n ad s.heap.size)) (F0 m 18 ls []) := by
      intro q1
      induction q1 with
      | zero => intro i v1 c1 H locs ls hi hq heq hV1 hs1 hP hS hl; omega
      | succ q1 ih =>
        intro i v1 c1 H locs ls hi hq heq hV1 hs1 hP hS hl
        have hT1 : tTx ca ad c1 k2 cap t := hT.keep (hs1 _ hd.1) (hs1 _ hd.2)
        refine lv_iload hx hb dX0_readDecimal_18 (lv_at hl 0 rfl) ?_
        refine lv_aload_n hx hb dX0_readDecimal_20 rfl (lv_at hl 2 rfl) ?_
        refine mx_getN (ci := 2) (v := .int (nI t.length)) (C := RX2) (T := TX2) (N := 2) hx hb hts inX2 hown hK hP (by omega : k2 < n) hT1.cell rfl 1 (by decide) (hN.1 _ nn_0) (fun _ h9 => h9) rfl dX0_readDecimal_21 ?_
        refine lv_icmp_ge (tgt := 63) hx hb dX0_readDecimal_24 (by decide) (fun hc => ?_) (fun hc => ?_)
        · skip
          have hge : t.length ≤ i := (nI_leI (by omega) (by omega)).mp hc
          have hsm : gRd (t.drop i0) 0 = some v1 := by rw [heq, dr_nil hge]; rfl
          refine lv_iload_n hx hb dX0_readDecimal_63 rfl (lv_at hl 3 rfl) ?_
          refine lv_if_eq (tgt := 69) hx hb dX0_readDecimal_64 (by decide) (fun hc2 => ?_) (fun hc2 => ?_)
          · skip
            refine lv_aload_n hx hb dX0_readDecimal_69 rfl (lv_at hl 1 rfl) ?_
            refine mx_get (ci := 0) (v := .long v1) (C := RX0) (T := TX0) (N := 1) hx hb hts inX0 hown hK hP hk hV1 rfl 0 (by decide) (hts _ wm_72) (fun _ h9 => h9) rfl dX0_readDecimal_70 ?_
            refine lv_ldc2 (v := (-9223372036854775808)) hx hb hown (hts _ wm_245) dX0_readDecimal_73 ?_
            refine W.lcmp hx hb dX0_readDecimal_76 ?_
            refine lv_if_ne (tgt := 82) hx hb dX0_readDecimal_77 (by decide) (fun hc3 => ?_) (fun hc3 => ?_)
            · skip
              have hlow : ¬ v1 = -9223372036854775808 := fun h => hc3 ((lg_cmp_eq _ _).mpr h)
              refine lv_aload_n hx hb dX0_readDecimal_82 rfl (lv_at hl 1 rfl) ?_
              refine lv_aload_n hx hb dX0_readDecimal_83 rfl (lv_at hl 1 rfl) ?_
              refine mx_get (ci := 0) (v := .long v1) (C := RX0) (T := TX0) (N := 1) hx hb hts inX0 hown hK hP hk hV1 rfl 0 (by decide) (hts _ wm_72) (fun _ h9 => h9) rfl dX0_readDecimal_84 ?_
              refine lv_lneg hx hb dX0_readDecimal_87 ?_
              refine mx_put (ci := 0) (v := .long (-v1)) (ty := .long) (C := RX0) (T := TX0) (N := 1) hx hb hts inX0 tyX0 tyX0_ok nmX0 hown hK hP hD hS hk hV1 rfl 0 (by decide) (hts _ wm_72) (fun _ h9 => h9) rfl (by decide +kernel) rfl rfl (Nat.le_of_ble_eq_true rfl) dX0_readDecimal_88 (fun H locs hP hS => ?_)
              obtain ⟨c2, ec2⟩ : ∃ z : Nat → va_E, z = va_up c1 k (.inr (0, [.long (-v1)])) := ⟨_, rfl⟩
              have hP : va_P D vwCl (mw n ad c2) H := by rw [ec2]; exact hP
              have hsc2 : ∀ j, j ≠ k → c2 j = c1 j := fun j h => by rw [ec2]; exact va_up_ne _ _ h
              have hcc2 : c2 k = .inr (0, [.long (-v1)]) := by rw [ec2]; exact va_up_self _ _ _
              refine lv_iconst (v := 1) hx hb dX0_readDecimal_91 (by decide) ?_
              exact mx_zret hx hb hr hlocks rfl hP hS (Or.inl ⟨-v1, by rw [pDec_s hlt0 hsm, if_neg (by rw [bI_eq hc2]; decide), if_neg hlow], rfl, hcc2, fun j h => (hsc2 j h).trans (hs1 j h)⟩) dX0_readDecimal_92
            · skip
              refine lv_iconst (v := 0) hx hb dX0_readDecimal_80 (by decide) ?_
              exact mx_zret hx hb hr hlocks rfl hP hS (Or.inr ⟨by rw [pDec_s hlt0 hsm, if_neg (by rw [bI_eq hc2]; decide), if_pos ((lg_cmp_eq _ _).mp hc3)], rfl, ⟨v1, hV1⟩, hs1⟩) dX0_readDecimal_81
          · skip
            refine lv_iconst (v := 1) hx hb dX0_readDecimal_67 (by decide) ?_
            exact mx_zret hx hb hr hlocks rfl hP hS (Or.inl ⟨v1, by rw [pDec_s hlt0 hsm, if_pos (bI_ne hc2)], rfl, hV1, hs1⟩) dX0_readDecimal_68
        · skip
          have hlt : i < t.length := by rcases Nat.lt_or_ge i t.length with h | h; exact h; exact absurd (nI_le h (by omega)) hc
          have hb8 : t.getD i 0 < 256 := hT.b8 _ (gD_mem hlt)
          refine lv_aload_n hx hb dX0_readDecimal_27 rfl (lv_at hl 2 rfl) ?_
          refine lv_iload hx hb dX0_readDecimal_28 (lv_at hl 0 rfl) ?_
          refine mx_ci (va_runV (As := [.int (nI i)]) (rest := []) ⟨hx, hb, hml, hown, hts⟩ (c_Text_at l D ca n ad c1 hk2 hT1 (nI i) _) (cwV 1 hts (gV wm_226 wm_142 wm_143 wm_2 wm_144) rfl rfl rfl (by decide +kernel) ⟨Nat.le_of_ble_eq_true rfl, Nat.le_of_ble_eq_true rfl⟩) (mx_pv (C := RX2) (T := TX2) (N := 2) (ci := 2) hK hP hD hN (by omega : k2 < n) hT1.cell rfl) rfl rfl hl.1 rfl (lv_room (Nat.le_of_ble_eq_true rfl)) dX0_readDecimal_30 ⟨Nat.zero_le _, Nat.zero_le _⟩) (Nat.le_refl _) hS (fun r1 c2 H locs hw hP hS => ?_)
          obtain ⟨hr1, hcE⟩ := hw
          rw [hcE] at hP
          refine mx_i (nI (t.getD i 0)) (by rw [hr1, tAtI_nI (by omega)]; exact if_pos hlt) ?_
          refine lv_istore (lv' := [(5, .int (nI (t.getD i 0))), (4, .int (nI i)), (0, .ref (ad k)), (1, .ref (ad k2)), (3, .int (bI mi))]) hx hb dX0_readDecimal_33 hl (by decide) rfl (fun ls hl => ?_)
          refine lv_iload hx hb dX0_readDecimal_35 (lv_at hl 0 rfl) ?_
          refine mx_ci (va_runSN (As := [.int (nI (t.getD i 0))]) (rest := []) ⟨hx, hb, hml, hown, hts⟩ (c_isDig l D ca n ad c1 (nI (t.getD i 0)) _) ⟨va_cnB 1 hts (gW wm_199) rfl rfl rfl (hN.1 _ nn_10) (hts _ wm_1) (by decide +kernel) ⟨Nat.le_of_ble_eq_true rfl, Nat.le_of_ble_eq_true rfl⟩, hts _ wm_198, trivial⟩ (mx_ps hK hP hD hN) rfl rfl hl.1 rfl (lv_room (Nat.le_of_ble_eq_true rfl)) dX0_readDecimal_37 ⟨Nat.zero_le _, Nat.zero_le _⟩) (Nat.le_refl _) hS (fun r2 c2 H locs hw hP hS => ?_)
          obtain ⟨hcE, hw⟩ := hw
          rw [hcE] at hP
          refine lv_if_eq (tgt := 55) hx hb dX0_readDecimal_40 (by decide) (fun hc2 => ?_) (fun hc2 => ?_)
          · skip
            have hnd : isDg (t.getD i 0) = false := by rcases hw with h | h; exact absurd (h.2.2.symm.trans hc2) (by decide); exact isDg_f hb8 h.1
            refine lv_iconst (v := 0) hx hb dX0_readDecimal_55 (by decide) ?_
            exact mx_zret hx hb hr hlocks rfl hP hS (Or.inr ⟨pDec_n hlt0 (by rw [heq, dr_cons hlt]; exact if_neg (by rw [hnd]; decide)), rfl, ⟨v1, hV1⟩, hs1⟩) dX0_readDecimal_56
          · skip
            have hdg : isDg (t.getD i 0) = true := by rcases hw with h | h; exact isDg_t hb8 h.1 h.2.1; exact absurd h.2 hc2
            refine lv_aload_n hx hb dX0_readDecimal_43 rfl (lv_at hl 2 rfl) ?_
            refine lv_iload hx hb dX0_readDecimal_44 (lv_at hl 0 rfl) ?_
            refine lv_bipush (v := 48) hx hb dX0_readDecimal_46 (by decide) ?_
            refine lv_isub hx hb dX0_readDecimal_48 ?_
            refine mx_i (nI (t.getD i 0 - 48)) (pk_sub (b := 48) (isDg_le hdg).1) ?_
            refine mx_ci (va_runV (As := [.int (nI (t.getD i 0 - 48))]) (rest := []) ⟨hx, hb, hml, hown, hts⟩ (c_Num_take l D ca n ad c1 hk hV1 (nI (t.getD i 0 - 48)) _) (cwV 1 hts (gV wm_239 wm_241 ws_9 wm_4 wm_242) rfl rfl rfl (by decide +kernel) ⟨Nat.le_of_ble_eq_true rfl, Nat.le_of_ble_eq_true rfl⟩) (mx_pv (C := RX0) (T := TX0) (N := 1) (ci := 0) hK hP hD hN hk hV1 rfl) rfl rfl hl.1 rfl (lv_room (Nat.le_of_ble_eq_true rfl)) dX0_readDecimal_49 ⟨Nat.zero_le _, Nat.zero_le _⟩) (Nat.le_refl _) hS (fun r3 c2 H locs hw2 hP hS => ?_)
            refine lv_if_ne (tgt := 57) hx hb dX0_readDecimal_52 (by decide) (fun hc3 => ?_) (fun hc3 => ?_)
            · skip
              obtain ⟨v2, hv2, -, hV2, hs2⟩ := hw2.resolve_right (fun h => hc3 h.2.1)
              refine lv_iinc (v := nI (i + 1)) (lv' := [(4, .int (nI (i + 1))), (5, .int (nI (t.getD i 0))), (0, .ref (ad k)), (1, .ref (ad k2)), (3, .int (bI mi))]) hx hb dX0_readDecimal_57 hl (k := 1) rfl (nI_1 i) (by decide) rfl (fun ls hl => ?_)
              refine lv_goto (tgt := 18) hx hb dX0_readDecimal_60 (by decide) ?_
              exact ih (i + 1) v2 c2 H locs ls (by omega) (by omega) (by rw [heq, dr_cons hlt]; show (if _ then _ else _) = _; rw [if_pos hdg, hv2]) hV2 (fun j h => (hs2 j h).trans (hs1 j h)) hP hS (lv_sub hl [0, 2, 3, 4] rfl)
            · skip
              obtain ⟨hv2, -, hcE⟩ := hw2.resolve_left (fun h => by obtain ⟨v9, h1, h2, -⟩ := h; rw [h2] at hc3; exact absurd hc3 (by decide))
              rw [hcE] at hP
              refine lv_iconst (v := 0) hx hb dX0_readDecimal_55 (by decide) ?_
              exact mx_zret hx hb hr hlocks rfl hP hS (Or.inr ⟨pDec_n hlt0 (by rw [heq, dr_cons hlt]; show (if _ then _ else _) = _; rw [if_pos hdg, hv2]), rfl, ⟨v1, hV1⟩, hs1⟩) dX0_readDecimal_56
    refine lv_aload_n hx hb dX0_readDecimal_10 rfl (lv_at hl 0 rfl) ?_
    refine lv_lconst (v := 0) hx hb dX0_readDecimal_11 (by decide) ?_
    refine mx_put (ci := 0) (v := .long 0) (ty := .long) (C := RX0) (T := TX0) (N := 1) hx hb hts inX0 tyX0 tyX0_ok nmX0 hown hK hP hD hS hk hV rfl 0 (by decide) (hts _ wm_72) (fun _ h9 => h9) rfl (by decide +kernel) rfl rfl (Nat.le_of_ble_eq_true rfl) dX0_readDecimal_12 (fun H locs hP hS => ?_)
    obtain ⟨a1, ea1⟩ : ∃ z : Nat → va_E, z = va_up c k (.inr (0, [.long 0])) := ⟨_, rfl⟩
    have hP : va_P D vwCl (mw n ad a1) H := by rw [ea1]; exact hP
    have hsa1 : ∀ j, j ≠ k → a1 j = c j := fun j h => by rw [ea1]; exact va_up_ne _ _ h
    have hca1 : a1 k = .inr (0, [.long 0]) := by rw [ea1]; exact va_up_self _ _ _
    refine lv_iload_n hx hb dX0_readDecimal_15 rfl (lv_at hl 2 rfl) ?_
    refine lv_istore (lv' := [(4, .int x), (0, .ref (ad k)), (1, .ref (ad k2)), (2, .int x), (3, .int (bI mi))]) hx hb dX0_readDecimal_16 hl (by decide) rfl (fun ls hl => ?_)
    exact loop (t.length + 1 - i0 + 1) i0 0 a1 _ _ ls (by omega) (by omega) rfl hca1 hsa1 hP hS (by have h9 := (lv_sub hl [0, 1, 2, 4] rfl); rw [← hx0]; exact h9)
  · skip
    refine lv_iconst (v := 0) hx hb dX0_readDecimal_8 (by decide) ?_
    exact mx_zret hx hb hr hlocks rfl hP hS (Or.inr ⟨by rw [dr_nil (by have := (not_congr (nI_ltI (a := i0) (b := t.length) (by omega) (by omega))).mp (by rw [← hx0]; exact hc); omega)]; rfl, rfl, ⟨v0, hV⟩, fun j h => rfl⟩) dX0_readDecimal_9
set_option maxHeartbeats 4000000 in
set_option maxRecDepth 100000 in
/-- Numeral.read(word) -/
theorem c_Num_read (l : Launch) (D : va_G) (ca : Nat → ClassId) (n : Nat) (ad : Nat → Nat) (c : Nat → va_E) {k : Nat} {v0 : Int64} (hk : k < n) (hV : tNm c k v0) {k2 cap : Nat} {t : List Nat} (hk2 : k2 + 1 < n) (hT : tTx ca ad c k2 cap t) (hd : k2 ≠ k ∧ k2 + 1 ≠ k) : mInt l yX0_read wsX0_read ({ frames := 3, cells := 0, slots := 0, locals := 66 }) [.ref (ad k), .ref (ad k2)] D (tTY ca) n ad c (fun r c' => (∃ v, pNum t = some v ∧ r = 1 ∧ tNm c' k v ∧ ∀ j, j ≠ k → c' j = c j) ∨ (pNum t = none ∧ r = 0 ∧ (∃ v, tNm c' k v) ∧ ∀ j, j ≠ k → c' j = c j)) := by
  intro sz
  refine Met.ofW (cc := cX0_read) (maxL := 4) (ret := (some .boolean)) (by decide) rfl ?_
  intro pg9 ev9 s m args below meth cd s₁ B hml hv
  obtain ⟨rfl, hsz, hP, hK, hD0, hN⟩ := hv
  have hx := B.exec
  have hb := B.bytes
  have hr := B.returns
  have hts := fun (w : Cond) (h : w ∈ WSa) => atoms_spec (ws := wsX0_read) B.pre w (List.mem_cons_of_mem _ h)
  have hown : s.vm.findClass RX0 = some m.cls := findClass_of_methodNamed B.named
  have hlocks := B.notSynchronized
  subst hsz
  have hD : ∀ c, va_D (fun _ => True) (mw n ad c) := fun c' => mw_D hD0 c'
  have hS : va_S (mA n ad s.heap.size) s.heap s.heap [] := va_S.rf
  have hl := lv_entry ([.ref (ad k), .ref (ad k2)]) (n := 4) (Nat.le_of_ble_eq_true rfl)
  rw [lg_entry_eq]
  generalize (lg_sl ([.ref (ad k), .ref (ad k2)]) ++ List.replicate (4 - (lg_sl ([.ref (ad k), .ref (ad k2)])).length) Slot.unset).toArray = ls at hl ⊢
  have hl : lv_has ls 4 [(0, .ref (ad k)), (1, .ref (ad k2))] := hl
  have hcp := hT.cap
  have hle := hT.le
  refine lv_aload_n hx hb dX0_read_0 rfl (lv_at hl 1 rfl) ?_
  refine lv_iconst (v := 0) hx hb dX0_read_1 (by decide) ?_
  refine mx_ci (va_runV (As := [.int 0]) (rest := []) ⟨hx, hb, hml, hown, hts⟩ (c_Text_at l D ca n ad c hk2 hT 0 _) (cwV 1 hts (gV wm_226 wm_142 wm_143 wm_2 wm_144) rfl rfl rfl (by decide +kernel) ⟨Nat.le_of_ble_eq_true rfl, Nat.le_of_ble_eq_true rfl⟩) (mx_pv (C := RX2) (T := TX2) (N := 2) (ci := 2) hK hP hD hN (by omega : k2 < n) hT.cell rfl) rfl rfl hl.1 rfl (lv_room (Nat.le_of_ble_eq_true rfl)) dX0_read_2 ⟨Nat.zero_le _, Nat.zero_le _⟩) (Nat.le_refl _) hS (fun r1 c9 H locs hw hP hS => ?_)
  obtain ⟨hr1, hcE⟩ := hw
  rw [hcE] at hP
  refine mx_i (tAt t 0) (hr1.trans (tAtI_nI (i := 0) (by decide))) ?_
  refine lv_bipush (v := 45) hx hb dX0_read_5 (by decide) ?_
  refine lv_icmp_ne (tgt := 14) hx hb dX0_read_7 (by decide) (fun hc => ?_) (fun hc => ?_)
  · skip
    refine lv_iconst (v := 0) hx hb dX0_read_14 (by decide) ?_
    refine lv_istore_n (lv' := [(2, .int 0), (0, .ref (ad k)), (1, .ref (ad k2))]) hx hb dX0_read_15 rfl hl (by decide) rfl (fun ls hl => ?_)
    refine lv_iload_n hx hb dX0_read_16 rfl (lv_at hl 0 rfl) ?_
    refine lv_if_ne (tgt := 30) hx hb dX0_read_17 (by decide) (fun hc9 => ?_) (fun hc9 => ?_)
    · skip
      exact absurd rfl hc9
    · skip
      refine lv_aload_n hx hb dX0_read_20 rfl (lv_at hl 2 rfl) ?_
      refine lv_iconst (v := 0) hx hb dX0_read_21 (by decide) ?_
      refine mx_ci (va_runV (As := [.int 0]) (rest := []) ⟨hx, hb, hml, hown, hts⟩ (c_Text_at l D ca n ad c hk2 hT 0 _) (cwV 1 hts (gV wm_226 wm_142 wm_143 wm_2 wm_144) rfl rfl rfl (by decide +kernel) ⟨Nat.le_of_ble_eq_true rfl, Nat.le_of_ble_eq_true rfl⟩) (mx_pv (C := RX2) (T := TX2) (N := 2) (ci := 2) hK hP hD hN (by omega : k2 < n) hT.cell rfl) rfl rfl hl.1 rfl (lv_room (Nat.le_of_ble_eq_true rfl)) dX0_read_22 ⟨Nat.zero_le _, Nat.zero_le _⟩) (Nat.le_refl _) hS (fun r2 c9 H locs hw hP hS => ?_)
      obtain ⟨hr2, hcE⟩ := hw
      rw [hcE] at hP
      refine mx_i (tAt t 0) (hr2.trans (tAtI_nI (i := 0) (by decide))) ?_
      refine lv_bipush (v := 43) hx hb dX0_read_25 (by decide) ?_
      refine lv_icmp_ne (tgt := 34) hx hb dX0_read_27 (by decide) (fun hc2 => ?_) (fun hc2 => ?_)
      · skip
        have hfr : (if tAt t 0 = 45 ∨ tAt t 0 = 43 then 1 else 0) = 0 := if_neg (fun h => h.elim hc hc2)
        have hmi : decide (tAt t 0 = 45) = false := decide_eq_false hc
        refine lv_iconst (v := 0) hx hb dX0_read_34 (by decide) ?_
        refine lv_istore_n (lv' := [(3, .int 0), (2, .int 0), (0, .ref (ad k)), (1, .ref (ad k2))]) hx hb dX0_read_35 rfl hl (by decide) rfl (fun ls hl => ?_)
        refine lv_aload_n hx hb dX0_read_36 rfl (lv_at hl 3 rfl) ?_
        refine lv_iload_n hx hb dX0_read_37 rfl (lv_at hl 0 rfl) ?_
        refine mx_ci (va_runV (As := [.int 0]) (rest := []) ⟨hx, hb, hml, hown, hts⟩ (c_Text_at l D ca n ad c hk2 hT 0 _) (cwV 1 hts (gV wm_226 wm_142 wm_143 wm_2 wm_144) rfl rfl rfl (by decide +kernel) ⟨Nat.le_of_ble_eq_true rfl, Nat.le_of_ble_eq_true rfl⟩) (mx_pv (C := RX2) (T := TX2) (N := 2) (ci := 2) hK hP hD hN (by omega : k2 < n) hT.cell rfl) rfl rfl hl.1 rfl (lv_room (Nat.le_of_ble_eq_true rfl)) dX0_read_38 ⟨Nat.zero_le _, Nat.zero_le _⟩) (Nat.le_refl _) hS (fun r3 c9 H locs hw hP hS => ?_)
        obtain ⟨hr3, hcE⟩ := hw
        rw [hcE] at hP
        refine mx_i (tAt t 0) (hr3.trans (tAtI_nI (i := 0) (by decide))) ?_
        refine lv_bipush (v := 48) hx hb dX0_read_41 (by decide) ?_
        refine lv_icmp_ne (tgt := 68) hx hb dX0_read_43 (by decide) (fun hc3 => ?_) (fun hc3 => ?_)
        · skip
          refine lv_aload_n hx hb dX0_read_68 rfl (lv_at hl 2 rfl) ?_
          refine lv_aload_n hx hb dX0_read_69 rfl (lv_at hl 3 rfl) ?_
          refine lv_iload_n hx hb dX0_read_70 rfl (lv_at hl 0 rfl) ?_
          refine lv_iload_n hx hb dX0_read_71 rfl (lv_at hl 1 rfl) ?_
          refine mx_ci (va_runV (As := [.ref (ad k2), .int 0, .int 0]) (rest := []) ⟨hx, hb, hml, hown, hts⟩ (c_Num_dec l D ca n ad c hk hV hk2 hT hd 0 0 rfl (by decide) false _) (cwV 3 hts (gV wm_235 wm_237 ws_8 wm_4 wm_238) rfl rfl rfl (by decide +kernel) ⟨Nat.le_of_ble_eq_true rfl, Nat.le_of_ble_eq_true rfl⟩) (mx_pv (C := RX0) (T := TX0) (N := 1) (ci := 0) hK hP hD hN hk hV rfl) rfl rfl hl.1 rfl (lv_room (Nat.le_of_ble_eq_true rfl)) dX0_read_72 ⟨Nat.zero_le _, Nat.zero_le _⟩) (Nat.le_refl _) hS (fun r5 c2 H locs hw hP hS => ?_)
          have hpn : pNum t = pDec (t.drop 0) false := by unfold pNum; rw [hfr, hmi, if_neg (by rw [tAt_drop, tAt_drop]; exact fun h => hc3 h.1)]
          rw [← hpn] at hw
          obtain rfl | rfl : r5 = 1 ∨ r5 = 0 := by rcases hw with ⟨v, h1, h2, h3⟩ | ⟨h1, h2, h3⟩; exact Or.inl h2; exact Or.inr h2
          · skip
            exact mx_zret hx hb hr hlocks rfl hP hS (hw) dX0_read_75
          · skip
            exact mx_zret hx hb hr hlocks rfl hP hS (hw) dX0_read_75
        · skip
          refine lv_aload_n hx hb dX0_read_46 rfl (lv_at hl 3 rfl) ?_
          refine lv_iload_n hx hb dX0_read_47 rfl (lv_at hl 0 rfl) ?_
          refine lv_iconst (v := 1) hx hb dX0_read_48 (by decide) ?_
          refine lv_iadd hx hb dX0_read_49 ?_
          refine mx_i (1) (rfl) ?_
          refine mx_ci (va_runV (As := [.int 1]) (rest := []) ⟨hx, hb, hml, hown, hts⟩ (c_Text_at l D ca n ad c hk2 hT 1 _) (cwV 1 hts (gV wm_226 wm_142 wm_143 wm_2 wm_144) rfl rfl rfl (by decide +kernel) ⟨Nat.le_of_ble_eq_true rfl, Nat.le_of_ble_eq_true rfl⟩) (mx_pv (C := RX2) (T := TX2) (N := 2) (ci := 2) hK hP hD hN (by omega : k2 < n) hT.cell rfl) rfl rfl hl.1 rfl (lv_room (Nat.le_of_ble_eq_true rfl)) dX0_read_50 ⟨Nat.zero_le _, Nat.zero_le _⟩) (Nat.le_refl _) hS (fun r4 c9 H locs hw hP hS => ?_)
          obtain ⟨hr4, hcE⟩ := hw
          rw [hcE] at hP
          refine mx_i (tAt t 1) (hr4.trans (tAtI_nI (i := 1) (by decide))) ?_
          refine lv_bipush (v := 120) hx hb dX0_read_53 (by decide) ?_
          refine lv_icmp_ne (tgt := 68) hx hb dX0_read_55 (by decide) (fun hc4 => ?_) (fun hc4 => ?_)
          · skip
            refine lv_aload_n hx hb dX0_read_68 rfl (lv_at hl 2 rfl) ?_
            refine lv_aload_n hx hb dX0_read_69 rfl (lv_at hl 3 rfl) ?_
            refine lv_iload_n hx hb dX0_read_70 rfl (lv_at hl 0 rfl) ?_
            refine lv_iload_n hx hb dX0_read_71 rfl (lv_at hl 1 rfl) ?_
            refine mx_ci (va_runV (As := [.ref (ad k2), .int 0, .int 0]) (rest := []) ⟨hx, hb, hml, hown, hts⟩ (c_Num_dec l D ca n ad c hk hV hk2 hT hd 0 0 rfl (by decide) false _) (cwV 3 hts (gV wm_235 wm_237 ws_8 wm_4 wm_238) rfl rfl rfl (by decide +kernel) ⟨Nat.le_of_ble_eq_true rfl, Nat.le_of_ble_eq_true rfl⟩) (mx_pv (C := RX0) (T := TX0) (N := 1) (ci := 0) hK hP hD hN hk hV rfl) rfl rfl hl.1 rfl (lv_room (Nat.le_of_ble_eq_true rfl)) dX0_read_72 ⟨Nat.zero_le _, Nat.zero_le _⟩) (Nat.le_refl _) hS (fun r5 c2 H locs hw hP hS => ?_)
            have hpn : pNum t = pDec (t.drop 0) false := by unfold pNum; rw [hfr, hmi, if_neg (by rw [tAt_drop, tAt_drop]; exact fun h => hc4 h.2)]
            rw [← hpn] at hw
            obtain rfl | rfl : r5 = 1 ∨ r5 = 0 := by rcases hw with ⟨v, h1, h2, h3⟩ | ⟨h1, h2, h3⟩; exact Or.inl h2; exact Or.inr h2
            · skip
              exact mx_zret hx hb hr hlocks rfl hP hS (hw) dX0_read_75
            · skip
              exact mx_zret hx hb hr hlocks rfl hP hS (hw) dX0_read_75
          · skip
            refine lv_aload_n hx hb dX0_read_58 rfl (lv_at hl 2 rfl) ?_
            refine lv_aload_n hx hb dX0_read_59 rfl (lv_at hl 3 rfl) ?_
            refine lv_iload_n hx hb dX0_read_60 rfl (lv_at hl 0 rfl) ?_
            refine lv_iconst (v := 2) hx hb dX0_read_61 (by decide) ?_
            refine lv_iadd hx hb dX0_read_62 ?_
            refine mx_i (2) (rfl) ?_
            refine lv_iload_n hx hb dX0_read_63 rfl (lv_at hl 1 rfl) ?_
            have hlen : 1 < t.length := by rcases Nat.lt_or_ge 1 t.length with h | h; exact h; exact absurd hc4 (by rw [show tAt t 1 = -1 from if_neg (by omega)]; decide)
            refine mx_ci (va_runV (As := [.ref (ad k2), .int 2, .int 0]) (rest := []) ⟨hx, hb, hml, hown, hts⟩ (c_Num_hex l D ca n ad c hk hV hk2 hT hd 2 2 rfl (by omega) false _) (cwV 3 hts (gV wm_227 wm_229 ws_7 wm_4 wm_230) rfl rfl rfl (by decide +kernel) ⟨Nat.le_of_ble_eq_true rfl, Nat.le_of_ble_eq_true rfl⟩) (mx_pv (C := RX0) (T := TX0) (N := 1) (ci := 0) hK hP hD hN hk hV rfl) rfl rfl hl.1 rfl (lv_room (Nat.le_of_ble_eq_true rfl)) dX0_read_64 ⟨Nat.zero_le _, Nat.zero_le _⟩) (Nat.le_refl _) hS (fun r5 c2 H locs hw hP hS => ?_)
            have hpn : pNum t = pHex (t.drop 2) false := by unfold pNum; rw [hfr, hmi, if_pos (by rw [tAt_drop, tAt_drop]; exact ⟨hc3, hc4⟩)]
            rw [← hpn] at hw
            obtain rfl | rfl : r5 = 1 ∨ r5 = 0 := by rcases hw with ⟨v, h1, h2, h3⟩ | ⟨h1, h2, h3⟩; exact Or.inl h2; exact Or.inr h2
            · skip
              exact mx_zret hx hb hr hlocks rfl hP hS (hw) dX0_read_67
            · skip
              exact mx_zret hx hb hr hlocks rfl hP hS (hw) dX0_read_67
      · skip
        have hfr : (if tAt t 0 = 45 ∨ tAt t 0 = 43 then 1 else 0) = 1 := if_pos (Or.inr hc2)
        have hmi : decide (tAt t 0 = 45) = false := decide_eq_false hc
        refine lv_iconst (v := 1) hx hb dX0_read_30 (by decide) ?_
        refine lv_goto (tgt := 35) hx hb dX0_read_31 (by decide) ?_
        refine lv_istore_n (lv' := [(3, .int 1), (2, .int 0), (0, .ref (ad k)), (1, .ref (ad k2))]) hx hb dX0_read_35 rfl hl (by decide) rfl (fun ls hl => ?_)
        refine lv_aload_n hx hb dX0_read_36 rfl (lv_at hl 3 rfl) ?_
        refine lv_iload_n hx hb dX0_read_37 rfl (lv_at hl 0 rfl) ?_
        refine mx_ci (va_runV (As := [.int 1]) (rest := []) ⟨hx, hb, hml, hown, hts⟩ (c_Text_at l D ca n ad c hk2 hT 1 _) (cwV 1 hts (gV wm_226 wm_142 wm_143 wm_2 wm_144) rfl rfl rfl (by decide +kernel) ⟨Nat.le_of_ble_eq_true rfl, Nat.le_of_ble_eq_true rfl⟩) (mx_pv (C := RX2) (T := TX2) (N := 2) (ci := 2) hK hP hD hN (by omega : k2 < n) hT.cell rfl) rfl rfl hl.1 rfl (lv_room (Nat.le_of_ble_eq_true rfl)) dX0_read_38 ⟨Nat.zero_le _, Nat.zero_le _⟩) (Nat.le_refl _) hS (fun r3 c9 H locs hw hP hS => ?_)
        obtain ⟨hr3, hcE⟩ := hw
        rw [hcE] at hP
        refine mx_i (tAt t 1) (hr3.trans (tAtI_nI (i := 1) (by decide))) ?_
        refine lv_bipush (v := 48) hx hb dX0_read_41 (by decide) ?_
        refine lv_icmp_ne (tgt := 68) hx hb dX0_read_43 (by decide) (fun hc3 => ?_) (fun hc3 => ?_)
        · skip
          refine lv_aload_n hx hb dX0_read_68 rfl (lv_at hl 2 rfl) ?_
          refine lv_aload_n hx hb dX0_read_69 rfl (lv_at hl 3 rfl) ?_
          refine lv_iload_n hx hb dX0_read_70 rfl (lv_at hl 0 rfl) ?_
          refine lv_iload_n hx hb dX0_read_71 rfl (lv_at hl 1 rfl) ?_
          refine mx_ci (va_runV (As := [.ref (ad k2), .int 1, .int 0]) (rest := []) ⟨hx, hb, hml, hown, hts⟩ (c_Num_dec l D ca n ad c hk hV hk2 hT hd 1 1 rfl (by decide) false _) (cwV 3 hts (gV wm_235 wm_237 ws_8 wm_4 wm_238) rfl rfl rfl (by decide +kernel) ⟨Nat.le_of_ble_eq_true rfl, Nat.le_of_ble_eq_true rfl⟩) (mx_pv (C := RX0) (T := TX0) (N := 1) (ci := 0) hK hP hD hN hk hV rfl) rfl rfl hl.1 rfl (lv_room (Nat.le_of_ble_eq_true rfl)) dX0_read_72 ⟨Nat.zero_le _, Nat.zero_le _⟩) (Nat.le_refl _) hS (fun r5 c2 H locs hw hP hS => ?_)
          have hpn : pNum t = pDec (t.drop 1) false := by unfold pNum; rw [hfr, hmi, if_neg (by rw [tAt_drop, tAt_drop]; exact fun h => hc3 h.1)]
          rw [← hpn] at hw
          obtain rfl | rfl : r5 = 1 ∨ r5 = 0 := by rcases hw with ⟨v, h1, h2, h3⟩ | ⟨h1, h2, h3⟩; exact Or.inl h2; exact Or.inr h2
          · skip
            exact mx_zret hx hb hr hlocks rfl hP hS (hw) dX0_read_75
          · skip
            exact mx_zret hx hb hr hlocks rfl hP hS (hw) dX0_read_75
        · skip
          refine lv_aload_n hx hb dX0_read_46 rfl (lv_at hl 3 rfl) ?_
          refine lv_iload_n hx hb dX0_read_47 rfl (lv_at hl 0 rfl) ?_
          refine lv_iconst (v := 1) hx hb dX0_read_48 (by decide) ?_
          refine lv_iadd hx hb dX0_read_49 ?_
          refine mx_i (2) (rfl) ?_
          refine mx_ci (va_runV (As := [.int 2]) (rest := []) ⟨hx, hb, hml, hown, hts⟩ (c_Text_at l D ca n ad c hk2 hT 2 _) (cwV 1 hts (gV wm_226 wm_142 wm_143 wm_2 wm_144) rfl rfl rfl (by decide +kernel) ⟨Nat.le_of_ble_eq_true rfl, Nat.le_of_ble_eq_true rfl⟩) (mx_pv (C := RX2) (T := TX2) (N := 2) (ci := 2) hK hP hD hN (by omega : k2 < n) hT.cell rfl) rfl rfl hl.1 rfl (lv_room (Nat.le_of_ble_eq_true rfl)) dX0_read_50 ⟨Nat.zero_le _, Nat.zero_le _⟩) (Nat.le_refl _) hS (fun r4 c9 H locs hw hP hS => ?_)
          obtain ⟨hr4, hcE⟩ := hw
          rw [hcE] at hP
          refine mx_i (tAt t 2) (hr4.trans (tAtI_nI (i := 2) (by decide))) ?_
          refine lv_bipush (v := 120) hx hb dX0_read_53 (by decide) ?_
          refine lv_icmp_ne (tgt := 68) hx hb dX0_read_55 (by decide) (fun hc4 => ?_) (fun hc4 => ?_)
          · skip
            refine lv_aload_n hx hb dX0_read_68 rfl (lv_at hl 2 rfl) ?_
            refine lv_aload_n hx hb dX0_read_69 rfl (lv_at hl 3 rfl) ?_
            refine lv_iload_n hx hb dX0_read_70 rfl (lv_at hl 0 rfl) ?_
            refine lv_iload_n hx hb dX0_read_71 rfl (lv_at hl 1 rfl) ?_
            refine mx_ci (va_runV (As := [.ref (ad k2), .int 1, .int 0]) (rest := []) ⟨hx, hb, hml, hown, hts⟩ (c_Num_dec l D ca n ad c hk hV hk2 hT hd 1 1 rfl (by decide) false _) (cwV 3 hts (gV wm_235 wm_237 ws_8 wm_4 wm_238) rfl rfl rfl (by decide +kernel) ⟨Nat.le_of_ble_eq_true rfl, Nat.le_of_ble_eq_true rfl⟩) (mx_pv (C := RX0) (T := TX0) (N := 1) (ci := 0) hK hP hD hN hk hV rfl) rfl rfl hl.1 rfl (lv_room (Nat.le_of_ble_eq_true rfl)) dX0_read_72 ⟨Nat.zero_le _, Nat.zero_le _⟩) (Nat.le_refl _) hS (fun r5 c2 H locs hw hP hS => ?_)
            have hpn : pNum t = pDec (t.drop 1) false := by unfold pNum; rw [hfr, hmi, if_neg (by rw [tAt_drop, tAt_drop]; exact fun h => hc4 h.2)]
            rw [← hpn] at hw
            obtain rfl | rfl : r5 = 1 ∨ r5 = 0 := by rcases hw with ⟨v, h1, h2, h3⟩ | ⟨h1, h2, h3⟩; exact Or.inl h2; exact Or.inr h2
            · skip
              exact mx_zret hx hb hr hlocks rfl hP hS (hw) dX0_read_75
            · skip
              exact mx_zret hx hb hr hlocks rfl hP hS (hw) dX0_read_75
          · skip
            refine lv_aload_n hx hb dX0_read_58 rfl (lv_at hl 2 rfl) ?_
            refine lv_aload_n hx hb dX0_read_59 rfl (lv_at hl 3 rfl) ?_
            refine lv_iload_n hx hb dX0_read_60 rfl (lv_at hl 0 rfl) ?_
            refine lv_iconst (v := 2) hx hb dX0_read_61 (by decide) ?_
            refine lv_iadd hx hb dX0_read_62 ?_
            refine mx_i (3) (rfl) ?_
            refine lv_iload_n hx hb dX0_read_63 rfl (lv_at hl 1 rfl) ?_
            have hlen : 2 < t.length := by rcases Nat.lt_or_ge 2 t.length with h | h; exact h; exact absurd hc4 (by rw [show tAt t 2 = -1 from if_neg (by omega)]; decide)
            refine mx_ci (va_runV (As := [.ref (ad k2), .int 3, .int 0]) (rest := []) ⟨hx, hb, hml, hown, hts⟩ (c_Num_hex l D ca n ad c hk hV hk2 hT hd 3 3 rfl (by omega) false _) (cwV 3 hts (gV wm_227 wm_229 ws_7 wm_4 wm_230) rfl rfl rfl (by decide +kernel) ⟨Nat.le_of_ble_eq_true rfl, Nat.le_of_ble_eq_true rfl⟩) (mx_pv (C := RX0) (T := TX0) (N := 1) (ci := 0) hK hP hD hN hk hV rfl) rfl rfl hl.1 rfl (lv_room (Nat.le_of_ble_eq_true rfl)) dX0_read_64 ⟨Nat.zero_le _, Nat.zero_le _⟩) (Nat.le_refl _) hS (fun r5 c2 H locs hw hP hS => ?_)
            have hpn : pNum t = pHex (t.drop 3) false := by unfold pNum; rw [hfr, hmi, if_pos (by rw [tAt_drop, tAt_drop]; exact ⟨hc3, hc4⟩)]
            rw [← hpn] at hw
            obtain rfl | rfl : r5 = 1 ∨ r5 = 0 := by rcases hw with ⟨v, h1, h2, h3⟩ | ⟨h1, h2, h3⟩; exact Or.inl h2; exact Or.inr h2
            · skip
              exact mx_zret hx hb hr hlocks rfl hP hS (hw) dX0_read_67
            · skip
              exact mx_zret hx hb hr hlocks rfl hP hS (hw) dX0_read_67
  · skip
    refine lv_iconst (v := 1) hx hb dX0_read_10 (by decide) ?_
    refine lv_goto (tgt := 15) hx hb dX0_read_11 (by decide) ?_
    refine lv_istore_n (lv' := [(2, .int 1), (0, .ref (ad k)), (1, .ref (ad k2))]) hx hb dX0_read_15 rfl hl (by decide) rfl (fun ls hl => ?_)
    refine lv_iload_n hx hb dX0_read_16 rfl (lv_at hl 0 rfl) ?_
    refine lv_if_ne (tgt := 30) hx hb dX0_read_17 (by decide) (fun hc9 => ?_) (fun hc9 => ?_)
    · skip
      have hfr : (if tAt t 0 = 45 ∨ tAt t 0 = 43 then 1 else 0) = 1 := if_pos (Or.inl hc)
      have hmi : decide (tAt t 0 = 45) = true := decide_eq_true hc
      refine lv_iconst (v := 1) hx hb dX0_read_30 (by decide) ?_
      refine lv_goto (tgt := 35) hx hb dX0_read_31 (by decide) ?_
      refine lv_istore_n (lv' := [(3, .int 1), (2, .int 1), (0, .ref (ad k)), (1, .ref (ad k2))]) hx hb dX0_read_35 rfl hl (by decide) rfl (fun ls hl => ?_)
      refine lv_aload_n hx hb dX0_read_36 rfl (lv_at hl 3 rfl) ?_
      refine lv_iload_n hx hb dX0_read_37 rfl (lv_at hl 0 rfl) ?_
      refine mx_ci (va_runV (As := [.int 1]) (rest := []) ⟨hx, hb, hml, hown, hts⟩ (c_Text_at l D ca n ad c hk2 hT 1 _) (cwV 1 hts (gV wm_226 wm_142 wm_143 wm_2 wm_144) rfl rfl rfl (by decide +kernel) ⟨Nat.le_of_ble_eq_true rfl, Nat.le_of_ble_eq_true rfl⟩) (mx_pv (C := RX2) (T := TX2) (N := 2) (ci := 2) hK hP hD hN (by omega : k2 < n) hT.cell rfl) rfl rfl hl.1 rfl (lv_room (Nat.le_of_ble_eq_true rfl)) dX0_read_38 ⟨Nat.zero_le _, Nat.zero_le _⟩) (Nat.le_refl _) hS (fun r3 c9 H locs hw hP hS => ?_)
      obtain ⟨hr3, hcE⟩ := hw
      rw [hcE] at hP
      refine mx_i (tAt t 1) (hr3.trans (tAtI_nI (i := 1) (by decide))) ?_
      refine lv_bipush (v := 48) hx hb dX0_read_41 (by decide) ?_
      refine lv_icmp_ne (tgt := 68) hx hb dX0_read_43 (by decide) (fun hc3 => ?_) (fun hc3 => ?_)
      · skip
        refine lv_aload_n hx hb dX0_read_68 rfl (lv_at hl 2 rfl) ?_
        refine lv_aload_n hx hb dX0_read_69 rfl (lv_at hl 3 rfl) ?_
        refine lv_iload_n hx hb dX0_read_70 rfl (lv_at hl 0 rfl) ?_
        refine lv_iload_n hx hb dX0_read_71 rfl (lv_at hl 1 rfl) ?_
        refine mx_ci (va_runV (As := [.ref (ad k2), .int 1, .int 1]) (rest := []) ⟨hx, hb, hml, hown, hts⟩ (c_Num_dec l D ca n ad c hk hV hk2 hT hd 1 1 rfl (by decide) true _) (cwV 3 hts (gV wm_235 wm_237 ws_8 wm_4 wm_238) rfl rfl rfl (by decide +kernel) ⟨Nat.le_of_ble_eq_true rfl, Nat.le_of_ble_eq_true rfl⟩) (mx_pv (C := RX0) (T := TX0) (N := 1) (ci := 0) hK hP hD hN hk hV rfl) rfl rfl hl.1 rfl (lv_room (Nat.le_of_ble_eq_true rfl)) dX0_read_72 ⟨Nat.zero_le _, Nat.zero_le _⟩) (Nat.le_refl _) hS (fun r5 c2 H locs hw hP hS => ?_)
        have hpn : pNum t = pDec (t.drop 1) true := by unfold pNum; rw [hfr, hmi, if_neg (by rw [tAt_drop, tAt_drop]; exact fun h => hc3 h.1)]
        rw [← hpn] at hw
        obtain rfl | rfl : r5 = 1 ∨ r5 = 0 := by rcases hw with ⟨v, h1, h2, h3⟩ | ⟨h1, h2, h3⟩; exact Or.inl h2; exact Or.inr h2
        · skip
          exact mx_zret hx hb hr hlocks rfl hP hS (hw) dX0_read_75
        · skip
          exact mx_zret hx hb hr hlocks rfl hP hS (hw) dX0_read_75
      · skip
        refine lv_aload_n hx hb dX0_read_46 rfl (lv_at hl 3 rfl) ?_
        refine lv_iload_n hx hb dX0_read_47 rfl (lv_at hl 0 rfl) ?_
        refine lv_iconst (v := 1) hx hb dX0_read_48 (by decide) ?_
        refine lv_iadd hx hb dX0_read_49 ?_
        refine mx_i (2) (rfl) ?_
        refine mx_ci (va_runV (As := [.int 2]) (rest := []) ⟨hx, hb, hml, hown, hts⟩ (c_Text_at l D ca n ad c hk2 hT 2 _) (cwV 1 hts (gV wm_226 wm_142 wm_143 wm_2 wm_144) rfl rfl rfl (by decide +kernel) ⟨Nat.le_of_ble_eq_true rfl, Nat.le_of_ble_eq_true rfl⟩) (mx_pv (C := RX2) (T := TX2) (N := 2) (ci := 2) hK hP hD hN (by omega : k2 < n) hT.cell rfl) rfl rfl hl.1 rfl (lv_room (Nat.le_of_ble_eq_true rfl)) dX0_read_50 ⟨Nat.zero_le _, Nat.zero_le _⟩) (Nat.le_refl _) hS (fun r4 c9 H locs hw hP hS => ?_)
        obtain ⟨hr4, hcE⟩ := hw
        rw [hcE] at hP
        refine mx_i (tAt t 2) (hr4.trans (tAtI_nI (i := 2) (by decide))) ?_
        refine lv_bipush (v := 120) hx hb dX0_read_53 (by decide) ?_
        refine lv_icmp_ne (tgt := 68) hx hb dX0_read_55 (by decide) (fun hc4 => ?_) (fun hc4 => ?_)
        · skip
          refine lv_aload_n hx hb dX0_read_68 rfl (lv_at hl 2 rfl) ?_
          refine lv_aload_n hx hb dX0_read_69 rfl (lv_at hl 3 rfl) ?_
          refine lv_iload_n hx hb dX0_read_70 rfl (lv_at hl 0 rfl) ?_
          refine lv_iload_n hx hb dX0_read_71 rfl (lv_at hl 1 rfl) ?_
          refine mx_ci (va_runV (As := [.ref (ad k2), .int 1, .int 1]) (rest := []) ⟨hx, hb, hml, hown, hts⟩ (c_Num_dec l D ca n ad c hk hV hk2 hT hd 1 1 rfl (by decide) true _) (cwV 3 hts (gV wm_235 wm_237 ws_8 wm_4 wm_238) rfl rfl rfl (by decide +kernel) ⟨Nat.le_of_ble_eq_true rfl, Nat.le_of_ble_eq_true rfl⟩) (mx_pv (C := RX0) (T := TX0) (N := 1) (ci := 0) hK hP hD hN hk hV rfl) rfl rfl hl.1 rfl (lv_room (Nat.le_of_ble_eq_true rfl)) dX0_read_72 ⟨Nat.zero_le _, Nat.zero_le _⟩) (Nat.le_refl _) hS (fun r5 c2 H locs hw hP hS => ?_)
          have hpn : pNum t = pDec (t.drop 1) true := by unfold pNum; rw [hfr, hmi, if_neg (by rw [tAt_drop, tAt_drop]; exact fun h => hc4 h.2)]
          rw [← hpn] at hw
          obtain rfl | rfl : r5 = 1 ∨ r5 = 0 := by rcases hw with ⟨v, h1, h2, h3⟩ | ⟨h1, h2, h3⟩; exact Or.inl h2; exact Or.inr h2
          · skip
            exact mx_zret hx hb hr hlocks rfl hP hS (hw) dX0_read_75
          · skip
            exact mx_zret hx hb hr hlocks rfl hP hS (hw) dX0_read_75
        · skip
          refine lv_aload_n hx hb dX0_read_58 rfl (lv_at hl 2 rfl) ?_
          refine lv_aload_n hx hb dX0_read_59 rfl (lv_at hl 3 rfl) ?_
          refine lv_iload_n hx hb dX0_read_60 rfl (lv_at hl 0 rfl) ?_
          refine lv_iconst (v := 2) hx hb dX0_read_61 (by decide) ?_
          refine lv_iadd hx hb dX0_read_62 ?_
          refine mx_i (3) (rfl) ?_
          refine lv_iload_n hx hb dX0_read_63 rfl (lv_at hl 1 rfl) ?_
          have hlen : 2 < t.length := by rcases Nat.lt_or_ge 2 t.length with h | h; exact h; exact absurd hc4 (by rw [show tAt t 2 = -1 from if_neg (by omega)]; decide)
          refine mx_ci (va_runV (As := [.ref (ad k2), .int 3, .int 1]) (rest := []) ⟨hx, hb, hml, hown, hts⟩ (c_Num_hex l D ca n ad c hk hV hk2 hT hd 3 3 rfl (by omega) true _) (cwV 3 hts (gV wm_227 wm_229 ws_7 wm_4 wm_230) rfl rfl rfl (by decide +kernel) ⟨Nat.le_of_ble_eq_true rfl, Nat.le_of_ble_eq_true rfl⟩) (mx_pv (C := RX0) (T := TX0) (N := 1) (ci := 0) hK hP hD hN hk hV rfl) rfl rfl hl.1 rfl (lv_room (Nat.le_of_ble_eq_true rfl)) dX0_read_64 ⟨Nat.zero_le _, Nat.zero_le _⟩) (Nat.le_refl _) hS (fun r5 c2 H locs hw hP hS => ?_)
          have hpn : pNum t = pHex (t.drop 3) true := by unfold pNum; rw [hfr, hmi, if_pos (by rw [tAt_drop, tAt_drop]; exact ⟨hc3, hc4⟩)]
          rw [← hpn] at hw
          obtain rfl | rfl : r5 = 1 ∨ r5 = 0 := by rcases hw with ⟨v, h1, h2, h3⟩ | ⟨h1, h2, h3⟩; exact Or.inl h2; exact Or.inr h2
          · skip
            exact mx_zret hx hb hr hlocks rfl hP hS (hw) dX0_read_67
          · skip
            exact mx_zret hx hb hr hlocks rfl hP hS (hw) dX0_read_67
    · skip
      exact absurd hc9 (by decide)
