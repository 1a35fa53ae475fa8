set_option maxHeartbeats 4000000 in
set_option maxRecDepth 100000 in
/-- ahead(y) -/
theorem c_ahead (l : Launch) (D : va_G) (ca : Nat → ClassId) (n : Nat) (ad : Nat → Nat) (c : Nat → va_E) {x0 x1 x2 x3 x4 x5 x6 x7 x8 x9 x10 x11 x12 : Int32} {v : Int64} (hn : 59 ≤ n) (hO : c 52 = rO ad x0 x1 x2 x3 x4 x5 x6 x7 x8 x9 x10 x11 x12 v) (y : Int32) (p : Nat) {t : List Nat} (hx12 : x12 = nI (p + 1)) (hB : tB ca c 58 72 (p + 1) t) : mVoid l yX4_ahead wsX4_ahead ({ frames := 0, cells := 0, slots := 0, locals := 0 }) [.ref (ad 52), .int y] D (tTY ca) n ad c (fun c' => c' 52 = rO ad x0 x1 x2 x3 x4 x5 x6 x7 x8 x9 x10 x11 (nI p) v ∧ tB ca c' 58 72 p (by8 y :: t) ∧ ∀ j, j ≠ 52 → j ≠ 58 → c' j = c j) := by
  intro sz
  refine Met.ofW (cc := cX4_ahead) (maxL := 2) (ret := none) (by decide) rfl ?_
  intro pg9 ev9 s m args below meth cd s₁ B hml hv
  obtain ⟨rfl, hsz, hP, hK, hD0, hN⟩ := hv
  have hx := B.exec
  have hb := B.bytes
  have hr := B.returns
  have hts := fun (w : Cond) (h : w ∈ WSa) => atoms_spec (ws := wsX4_ahead) B.pre w (List.mem_cons_of_mem _ h)
  have hown : s.vm.findClass RX4 = some m.cls := findClass_of_methodNamed B.named
  have hlocks := B.notSynchronized
  subst hsz
  have hD : ∀ c, va_D (fun _ => True) (mw n ad c) := fun c' => mw_D hD0 c'
  have hS : va_S (mA n ad s.heap.size) s.heap s.heap [] := va_S.rf
  have hl := lv_entry ([.ref (ad 52), .int y]) (n := 2) (Nat.le_of_ble_eq_true rfl)
  rw [lg_entry_eq]
  generalize (lg_sl ([.ref (ad 52), .int y]) ++ List.replicate (2 - (lg_sl ([.ref (ad 52), .int y])).length) Slot.unset).toArray = ls at hl ⊢
  have hl : lv_has ls 2 [(0, .ref (ad 52)), (1, .int y)] := hl
  obtain ⟨hle, hcp, hby, f, h58, hf⟩ := id hB
  refine lv_aload_n hx hb dX4_ahead_0 rfl (lv_at hl 0 rfl) ?_
  refine lv_dup hx hb dX4_ahead_1 rfl ?_
  refine mx_get (ci := 4) (v := .int x12) (C := RX4) (T := TX4) (N := 20) hx hb hts inX4 hown hK hP (by omega : 52 < n) hO rfl 18 (by decide) (hts _ wm_286) (fun _ h9 => h9) rfl dX4_ahead_2 ?_
  refine lv_iconst (v := 1) hx hb dX4_ahead_5 (by decide) ?_
  refine lv_isub hx hb dX4_ahead_6 ?_
  refine mx_i (nI p) (by rw [hx12]; exact nI_pred p) ?_
  refine mx_put (ci := 4) (v := .int (nI p)) (ty := .int) (C := RX4) (T := TX4) (N := 20) hx hb hts inX4 tyX4 tyX4_ok nmX4 hown hK hP hD hS (by omega : 52 < n) hO rfl 18 (by decide) (hts _ wm_286) (fun _ h9 => h9) rfl (by decide +kernel) rfl rfl (Nat.le_of_ble_eq_true rfl) dX4_ahead_7 (fun H locs hP hS => ?_)
  obtain ⟨c1, ec1⟩ : ∃ z : Nat → va_E, z = va_up c 52 (.inr (4, [.ref (ad 53), .ref (ad 54), .ref (ad 55), .ref (ad 56), .int x0, .int x1, .int x2, .int x3, .int x4, .ref (ad 57), .int x5, .int x6, .int x7, .int x8, .int x9, .int x10, .int x11, .ref (ad 58), .int (nI p), .long v])) := ⟨_, rfl⟩
  have hP : va_P D vwCl (mw n ad c1) H := by rw [ec1]; exact hP
  have hsc1 : ∀ j, j ≠ 52 → c1 j = c j := fun j h => by rw [ec1]; exact va_up_ne _ _ h
  have hcc1 : c1 52 = .inr (4, [.ref (ad 53), .ref (ad 54), .ref (ad 55), .ref (ad 56), .int x0, .int x1, .int x2, .int x3, .int x4, .ref (ad 57), .int x5, .int x6, .int x7, .int x8, .int x9, .int x10, .int x11, .ref (ad 58), .int (nI p), .long v]) := by rw [ec1]; exact va_up_self _ _ _
  have h58 := (hsc1 58 (by omega)).trans h58
  refine lv_aload_n hx hb dX4_ahead_10 rfl (lv_at hl 0 rfl) ?_
  refine mx_get (ci := 4) (v := .ref (ad 58)) (C := RX4) (T := TX4) (N := 20) hx hb hts inX4 hown hK hP (by omega : 52 < n) hcc1 rfl 17 (by decide) (hts _ wm_285) (fun _ h9 => h9) rfl dX4_ahead_11 ?_
  refine lv_aload_n hx hb dX4_ahead_14 rfl (lv_at hl 0 rfl) ?_
  refine mx_get (ci := 4) (v := .int (nI p)) (C := RX4) (T := TX4) (N := 20) hx hb hts inX4 hown hK hP (by omega : 52 < n) hcc1 rfl 18 (by decide) (hts _ wm_286) (fun _ h9 => h9) rfl dX4_ahead_15 ?_
  refine lv_iload_n hx hb dX4_ahead_18 rfl (lv_at hl 1 rfl) ?_
  refine lv_i2b (v := y.toInt8.toInt32) hx hb dX4_ahead_19 rfl ?_
  refine mx_i (sB (by8 y)) (i8_by8 y) ?_
  refine mx_bast (y := sB (by8 y)) hx hb hK hP hD hS (by omega : 58 < n) 2 h58 rfl (vp_in_nI (by omega) (by omega)) (nar_sB _) dX4_ahead_20 (fun H locs hP hS => ?_)
  obtain ⟨c2, ec2⟩ : ∃ z : Nat → va_E, z = va_up c1 58 (.inl (ca 2, 72, .inl (upd f (nI p).toNatClampNeg (sB (by8 y))))) := ⟨_, rfl⟩
  have hP : va_P D vwCl (mw n ad c2) H := by rw [ec2]; exact hP
  have hsc2 : ∀ j, j ≠ 58 → c2 j = c1 j := fun j h => by rw [ec2]; exact va_up_ne _ _ h
  have hcc2 : c2 58 = .inl (ca 2, 72, .inl (upd f (nI p).toNatClampNeg (sB (by8 y)))) := by rw [ec2]; exact va_up_self _ _ _
  rw [nI_clamp (by omega)] at hcc2
  exact mx_vret hx hb hr hlocks hP hS (⟨(hsc2 52 (by omega)).trans hcc1, (hB.keep (hsc1 58 (by omega))).pre h58 (by8_lt y) hcc2, fun j h1 h2 => (hsc2 j h2).trans (hsc1 j h1)⟩) dX4_ahead_21
set_option maxHeartbeats 4000000 in
set_option maxRecDepth 100000 in
/-- digits(z) -/
theorem c_digits (l : Launch) (D : va_G) (ca : Nat → ClassId) (n : Nat) (ad : Nat → Nat) (c : Nat → va_E) {x0 x1 x2 x3 x4 x5 x6 x7 x8 x9 x10 x11 x12 : Int32} {v : Int64} (hn : 59 ≤ n) (hO : c 52 = rO ad x0 x1 x2 x3 x4 x5 x6 x7 x8 x9 x10 x11 x12 v) (z : Int64) {f0 : Nat → Int32} (h58 : c 58 = .inl (ca 2, 72, .inl f0)) : mVoid l yX4_digits wsX4_digits ({ frames := 1, cells := 0, slots := 0, locals := 21 }) [.ref (ad 52), .long z] D (tTY ca) n ad c (fun c' => ∃ p, p + (tDec z).length = 72 ∧ c' 52 = rO ad x0 x1 x2 x3 x4 x5 x6 x7 x8 x9 x10 x11 (nI p) v ∧ tB ca c' 58 72 p (tDec z) ∧ ∀ j, j ≠ 52 → j ≠ 58 → c' j = c j) := by
  intro sz
  refine Met.ofW (cc := cX4_digits) (maxL := 7) (ret := none) (by decide) rfl ?_
  intro pg9 ev9 s m args below meth cd s₁ B hml hv
  obtain ⟨rfl, hsz, hP, hK, hD0, hN⟩ := hv
  have hx := B.exec
  have hb := B.bytes
  have hr := B.returns
  have hts := fun (w : Cond) (h : w ∈ WSa) => atoms_spec (ws := wsX4_digits) B.pre w (List.mem_cons_of_mem _ h)
  have hown : s.vm.findClass RX4 = some m.cls := findClass_of_methodNamed B.named
  have hlocks := B.notSynchronized
  subst hsz
  have hD : ∀ c, va_D (fun _ => True) (mw n ad c) := fun c' => mw_D hD0 c'
  have hS : va_S (mA n ad s.heap.size) s.heap s.heap [] := va_S.rf
  have hl := lv_entry ([.ref (ad 52), .long z]) (n := 7) (Nat.le_of_ble_eq_true rfl)
  rw [lg_entry_eq]
  generalize (lg_sl ([.ref (ad 52), .long z]) ++ List.replicate (7 - (lg_sl ([.ref (ad 52), .long z])).length) Slot.unset).toArray = ls at hl ⊢
  have hl : lv_has ls 7 [(0, .ref (ad 52)), (1, .long z)] := hl
  have loop : ∀ (q1 : Nat) (i : Nat) (p : Nat) (r : Int64) (c1 : Nat → va_E) (H : Heap) (locs : List Loc) (ls : Array Slot), (i ≤ 18) → (18 < i + q1) → (p + 1 + i = 72) → (r.toInt.natAbs = z.toInt.natAbs / 10 ^ i) → (i = 0 ∨ z.toInt.natAbs / 10 ^ i ≠ 0) → (c1 52 = rO ad x0 x1 x2 x3 x4 x5 x6 x7 x8 x9 x10 x11 (nI (p + 1)) v) → (tB ca c1 58 72 (p + 1) (dgF (dDig z) dCh i true)) → (∀ j, j ≠ 52 → j ≠ 58 → c1 j = c j) → va_P D vwCl (mw n ad c1) H → va_S (mA n ad s.heap.size) s.heap H locs → lv_has ls 7 [(3, .long r), (0, .ref (ad 52))] → W pg9 l ev9 (headSpec wsX4_digits ({ frames := 1, cells := 0, slots := 0, locals := 21 })).room s m ([.ref (ad 52), .long z] : List Value).toArray below meth cd H locs 0 0 (MQ below (va_Qv (fun c' => ∃ p, p + (tDec z).length = 72 ∧ c' 52 = rO ad x0 x1 x2 x3 x4 x5 x6 x7 x8 x9 x10 x11 (nI p) v ∧ tB ca c' 58 72 p (tDec z) ∧ ∀ j, j ≠ 52 → j ≠ 58 → c' j = c j) (mW D n ad) (mA n ad s.heap.size)) ([.ref (ad 52), .long z] : List Value).toArray s 0 0 (mA n ad s.heap.size)) (F0 m 8 ls []) := by
    intro q1
    induction q1 with
    | zero => intro i p r c1 H locs ls hi hq hpi hrr hnz0 hO1 hB1 hs1 hP hS hl; omega
    | succ q1 ih =>
      intro i p r c1 H locs ls hi hq hpi hrr hnz0 hO1 hB1 hs1 hP hS hl
      refine lv_lload_n hx hb dX4_digits_8 rfl (lv_at hl 0 rfl) ?_
      refine lv_ldc2 (v := 10) hx hb hown (hts _ wm_362) dX4_digits_9 ?_
      refine lv_lrem hx hb dX4_digits_12 (by decide) ?_
      obtain ⟨d, hdd⟩ : ∃ d : Int64, d = r - r / 10 * 10 := ⟨_, rfl⟩
      refine mx_l d hdd.symm ?_
      obtain ⟨hd1, hd2⟩ := dg_rem hrr hdd
      refine lv_lstore (lv' := [(5, .long d), (3, .long r), (0, .ref (ad 52))]) hx hb dX4_digits_13 hl (by decide) rfl (fun ls hl => ?_)
      refine lv_aload_n hx hb dX4_digits_15 rfl (lv_at hl 2 rfl) ?_
      refine lv_bipush (v := 48) hx hb dX4_digits_16 (by decide) ?_
      suffices hj34 : W pg9 l ev9 (headSpec wsX4_digits ({ frames := 1, cells := 0, slots := 0, locals := 21 })).room s m ([.ref (ad 52), .long z] : List Value).toArray below meth cd H locs 0 0 (MQ below (va_Qv (fun c' => ∃ p, p + (tDec z).length = 72 ∧ c' 52 = rO ad x0 x1 x2 x3 x4 x5 x6 x7 x8 x9 x10 x11 (nI p) v ∧ tB ca c' 58 72 p (tDec z) ∧ ∀ j, j ≠ 52 → j ≠ 58 → c' j = c j) (mW D n ad) (mA n ad s.heap.size)) ([.ref (ad 52), .long z] : List Value).toArray s 0 0 (mA n ad s.heap.size)) (F0 m 34 ls [.int (nI (dDig z i)), .int 48, .ref (ad 52)]) by
        refine lv_lload hx hb dX4_digits_18 (lv_at hl 0 rfl) ?_
        refine lv_lconst (v := 0) hx hb dX4_digits_20 (by decide) ?_
        refine W.lcmp hx hb dX4_digits_21 ?_
        refine lv_if_ge (tgt := 31) hx hb dX4_digits_22 (by decide) (fun hc1 => ?_) (fun hc1 => ?_)
        · skip
          refine lv_lload hx hb dX4_digits_31 (lv_at hl 0 rfl) ?_
          refine lv_l2i (v := d.toInt32) hx hb dX4_digits_33 rfl ?_
          refine mx_i (nI (dDig z i)) (hd1 ((lg_cmp_ge _ _).mp hc1)) ?_
          exact hj34
        · skip
          refine lv_lload hx hb dX4_digits_25 (lv_at hl 0 rfl) ?_
          refine lv_lneg hx hb dX4_digits_27 ?_
          refine lv_goto (tgt := 33) hx hb dX4_digits_28 (by decide) ?_
          refine lv_l2i (v := (-d).toInt32) hx hb dX4_digits_33 rfl ?_
          refine mx_i (nI (dDig z i)) (hd2 (fun h => hc1 ((lg_cmp_ge _ _).mpr h))) ?_
          exact hj34
      refine lv_iadd hx hb dX4_digits_34 ?_
      refine mx_i (nI (48 + dDig z i)) (nI_add 48 _) ?_
      refine mx_cv (va_runV (As := [.int (nI (48 + dDig z i))]) (rest := []) ⟨hx, hb, hml, hown, hts⟩ (c_ahead l D ca n ad c1 hn hO1 (nI (48 + dDig z i)) p rfl hB1 _) (cwV 1 hts (gV wm_363 wm_365 ws_14 wm_5 wm_366) rfl rfl rfl (by decide +kernel) ⟨Nat.le_of_ble_eq_true rfl, Nat.le_of_ble_eq_true rfl⟩) (mx_pv (C := RX4) (T := TX4) (N := 20) (ci := 4) hK hP hD hN (by omega : 52 < n) hO1 rfl) rfl rfl hl.1 rfl (lv_room (Nat.le_of_ble_eq_true rfl)) dX4_digits_35 ⟨Nat.zero_le _, Nat.zero_le _⟩) (Nat.le_refl _) hS (fun c2 H locs hw hP hS => ?_)
      obtain ⟨hO2, hB2, hs2⟩ := hw
      rw [by8_nI (by have := dDig_lt z i; omega)] at hB2
      have hB3 : tB ca c2 58 72 p (dgF (dDig z) dCh (i + 1) true) := by rw [dgF_t (Or.inl rfl)]; exact hB2
      refine lv_lload_n hx hb dX4_digits_38 rfl (lv_at hl 1 rfl) ?_
      refine lv_ldc2 (v := 10) hx hb hown (hts _ wm_362) dX4_digits_39 ?_
      refine lv_ldiv hx hb dX4_digits_42 (by decide) ?_
      obtain ⟨r2, hr2⟩ : ∃ r2 : Int64, r2 = r / 10 := ⟨_, rfl⟩
      refine mx_l r2 hr2.symm ?_
      have hn2 := dg_div hrr hr2
      refine lv_lstore_n (lv' := [(3, .long r2), (5, .long d), (0, .ref (ad 52))]) hx hb dX4_digits_43 rfl hl (by decide) rfl (fun ls hl => ?_)
      refine lv_lload_n hx hb dX4_digits_44 rfl (lv_at hl 0 rfl) ?_
      refine lv_lconst (v := 0) hx hb dX4_digits_45 (by decide) ?_
      refine W.lcmp hx hb dX4_digits_46 ?_
      refine lv_if_ne (tgt := 8) hx hb dX4_digits_47 (by decide) (fun hc2 => ?_) (fun hc2 => ?_)
      · skip
        have hnz : z.toInt.natAbs / 10 ^ (i + 1) ≠ 0 := dg_nz hn2 (fun h => hc2 ((lg_cmp_eq _ _).mpr h))
        have hi18 := dg_lt hnz
        obtain ⟨p1, rfl⟩ : ∃ p1, p = p1 + 1 := ⟨p - 1, by omega⟩
        exact ih (i + 1) p1 r2 c2 H locs ls (by omega) (by omega) (by omega) hn2 (Or.inr hnz) hO2 hB3 (fun j h1 h2 => (hs2 j h1 h2).trans (hs1 j h1 h2)) hP hS (lv_sub hl [0, 2] rfl)
      · skip
        have hz : z.toInt.natAbs / 10 ^ (i + 1) = 0 := by rw [← hn2, (lg_cmp_eq _ _).mp hc2]; rfl
        have htd : tDec z = dgF (dDig z) dCh (i + 1) true := dg_trim hz (by omega) hnz0
        exact mx_vret hx hb hr hlocks hP hS (⟨p, by rw [htd, dgF_full]; omega, hO2, by rw [htd]; exact hB3, fun j h1 h2 => (hs2 j h1 h2).trans (hs1 j h1 h2)⟩) dX4_digits_50
  refine lv_aload_n hx hb dX4_digits_0 rfl (lv_at hl 0 rfl) ?_
  refine lv_bipush (v := 72) hx hb dX4_digits_1 (by decide) ?_
  refine mx_i (nI (71 + 1)) (rfl) ?_
  refine mx_put (ci := 4) (v := .int (nI (71 + 1))) (ty := .int) (C := RX4) (T := TX4) (N := 20) hx hb hts inX4 tyX4 tyX4_ok nmX4 hown hK hP hD hS (by omega : 52 < n) hO rfl 18 (by decide) (hts _ wm_286) (fun _ h9 => h9) rfl (by decide +kernel) rfl rfl (Nat.le_of_ble_eq_true rfl) dX4_digits_3 (fun H locs hP hS => ?_)
  obtain ⟨a1, ea1⟩ : ∃ z : Nat → va_E, z = va_up c 52 (.inr (4, [.ref (ad 53), .ref (ad 54), .ref (ad 55), .ref (ad 56), .int x0, .int x1, .int x2, .int x3, .int x4, .ref (ad 57), .int x5, .int x6, .int x7, .int x8, .int x9, .int x10, .int x11, .ref (ad 58), .int (nI (71 + 1)), .long v])) := ⟨_, rfl⟩
  have hP : va_P D vwCl (mw n ad a1) H := by rw [ea1]; exact hP
  have hsa1 : ∀ j, j ≠ 52 → a1 j = c j := fun j h => by rw [ea1]; exact va_up_ne _ _ h
  have hca1 : a1 52 = .inr (4, [.ref (ad 53), .ref (ad 54), .ref (ad 55), .ref (ad 56), .int x0, .int x1, .int x2, .int x3, .int x4, .ref (ad 57), .int x5, .int x6, .int x7, .int x8, .int x9, .int x10, .int x11, .ref (ad 58), .int (nI (71 + 1)), .long v]) := by rw [ea1]; exact va_up_self _ _ _
  refine lv_lload_n hx hb dX4_digits_6 rfl (lv_at hl 1 rfl) ?_
  refine lv_lstore_n (lv' := [(3, .long z), (0, .ref (ad 52)), (1, .long z)]) hx hb dX4_digits_7 rfl hl (by decide) rfl (fun ls hl => ?_)
  exact loop 19 0 71 z a1 _ _ ls (by omega) (by omega) (by omega) (by simp) (Or.inl rfl) hca1 (tB.nil ((hsa1 58 (by omega)).trans h58) (by omega) (by omega)) (fun j h1 h2 => hsa1 j h1) hP hS (lv_sub hl [0, 1] rfl)
set_option maxHeartbeats 4000000 in
set_option maxRecDepth 100000 in
/-- decimal(z) -/
theorem c_decimal (l : Launch) (D : va_G) (ca : Nat → ClassId) (n : Nat) (ad : Nat → Nat) (c : Nat → va_E) {x0 x1 x2 x3 x4 x5 x6 x7 x8 x9 x10 x11 x12 : Int32} {v : Int64} (hn : 59 ≤ n) (hO : c 52 = rO ad x0 x1 x2 x3 x4 x5 x6 x7 x8 x9 x10 x11 x12 v) (z : Int64) {f0 : Nat → Int32} (h58 : c 58 = .inl (ca 2, 72, .inl f0)) : mVoid l yX4_decimal wsX4_decimal ({ frames := 2, cells := 0, slots := 0, locals := 47 }) [.ref (ad 52), .long z] D (tTY ca) n ad c (fun c' => ∃ p, p + (tNum z).length = 72 ∧ c' 52 = rO ad x0 x1 x2 x3 x4 x5 x6 x7 x8 x9 x10 x11 (nI p) v ∧ tB ca c' 58 72 p (tNum z) ∧ ∀ j, j ≠ 52 → j ≠ 58 → c' j = c j) := by
  intro sz
  refine Met.ofW (cc := cX4_decimal) (maxL := 3) (ret := none) (by decide) rfl ?_
  intro pg9 ev9 s m args below meth cd s₁ B hml hv
  obtain ⟨rfl, hsz, hP, hK, hD0, hN⟩ := hv
  have hx := B.exec
  have hb := B.bytes
  have hr := B.returns
  have hts := fun (w : Cond) (h : w ∈ WSa) => atoms_spec (ws := wsX4_decimal) B.pre w (List.mem_cons_of_mem _ h)
  have hown : s.vm.findClass RX4 = some m.cls := findClass_of_methodNamed B.named
  have hlocks := B.notSynchronized
  subst hsz
  have hD : ∀ c, va_D (fun _ => True) (mw n ad c) := fun c' => mw_D hD0 c'
  have hS : va_S (mA n ad s.heap.size) s.heap s.heap [] := va_S.rf
  have hl := lv_entry ([.ref (ad 52), .long z]) (n := 3) (Nat.le_of_ble_eq_true rfl)
  rw [lg_entry_eq]
  generalize (lg_sl ([.ref (ad 52), .long z]) ++ List.replicate (3 - (lg_sl ([.ref (ad 52), .long z])).length) Slot.unset).toArray = ls at hl ⊢
  have hl : lv_has ls 3 [(0, .ref (ad 52)), (1, .long z)] := hl
  refine lv_aload_n hx hb dX4_decimal_0 rfl (lv_at hl 0 rfl) ?_
  refine lv_lload_n hx hb dX4_decimal_1 rfl (lv_at hl 1 rfl) ?_
  refine mx_cv (va_runV (As := [.long z]) (rest := []) ⟨hx, hb, hml, hown, hts⟩ (c_digits l D ca n ad c hn hO z h58 _) (cwV 1 hts (gV wm_358 wm_360 ws_13 wm_5 wm_361) rfl rfl rfl (by decide +kernel) ⟨Nat.le_of_ble_eq_true rfl, Nat.le_of_ble_eq_true rfl⟩) (mx_pv (C := RX4) (T := TX4) (N := 20) (ci := 4) hK hP hD hN (by omega : 52 < n) hO rfl) rfl rfl hl.1 rfl (lv_room (Nat.le_of_ble_eq_true rfl)) dX4_decimal_2 ⟨Nat.zero_le _, Nat.zero_le _⟩) (Nat.le_refl _) hS (fun c1 H locs hw hP hS => ?_)
  obtain ⟨p, hp, hO1, hB1, hs1⟩ := hw
  have hlen := dgF_len (dig := dDig z) (ch := dCh) 19 false
  have hlen2 : (tDec z).length ≤ 19 := hlen
  refine lv_lload_n hx hb dX4_decimal_5 rfl (lv_at hl 1 rfl) ?_
  refine lv_lconst (v := 0) hx hb dX4_decimal_6 (by decide) ?_
  refine W.lcmp hx hb dX4_decimal_7 ?_
  refine lv_if_ge (tgt := 17) hx hb dX4_decimal_8 (by decide) (fun hc => ?_) (fun hc => ?_)
  · skip
    have htn : tNum z = tDec z := by unfold tNum; rw [if_neg (Int64.not_lt.mpr ((lg_cmp_ge _ _).mp hc)), List.nil_append]
    exact mx_vret hx hb hr hlocks hP hS (⟨p, by rw [htn]; exact hp, hO1, by rw [htn]; exact hB1, hs1⟩) dX4_decimal_17
  · skip
    have htn : tNum z = by8 45 :: tDec z := by unfold tNum; rw [if_pos (Int64.not_le.mp (fun h => hc ((lg_cmp_ge _ _).mpr h)))]; rfl
    obtain ⟨p1, rfl⟩ : ∃ p1, p = p1 + 1 := ⟨p - 1, by omega⟩
    refine lv_aload_n hx hb dX4_decimal_11 rfl (lv_at hl 0 rfl) ?_
    refine lv_bipush (v := 45) hx hb dX4_decimal_12 (by decide) ?_
    refine mx_cv (va_runV (As := [.int 45]) (rest := []) ⟨hx, hb, hml, hown, hts⟩ (c_ahead l D ca n ad c1 hn hO1 45 p1 rfl hB1 _) (cwV 1 hts (gV wm_363 wm_365 ws_14 wm_5 wm_366) rfl rfl rfl (by decide +kernel) ⟨Nat.le_of_ble_eq_true rfl, Nat.le_of_ble_eq_true rfl⟩) (mx_pv (C := RX4) (T := TX4) (N := 20) (ci := 4) hK hP hD hN (by omega : 52 < n) hO1 rfl) rfl rfl hl.1 rfl (lv_room (Nat.le_of_ble_eq_true rfl)) dX4_decimal_14 ⟨Nat.zero_le _, Nat.zero_le _⟩) (Nat.le_refl _) hS (fun c2 H locs hw hP hS => ?_)
    obtain ⟨hO2, hB2, hs2⟩ := hw
    exact mx_vret hx hb hr hlocks hP hS (⟨p1, by rw [htn, List.length_cons]; omega, hO2, by rw [htn]; exact hB2, fun j h1 h2 => (hs2 j h1 h2).trans (hs1 j h1 h2)⟩) dX4_decimal_17
