set_option maxHeartbeats 4000000 in
set_option maxRecDepth 100000 in
/-- bits(z, each, letter) -/
theorem c_bits (l : Launch) (D : va_G) (ca : Nat → ClassId) (n : Nat) (ad : Nat → Nat) (c : Nat → va_E) {x0 x1 x2 x3 x4 x5 x6 x7 x8 x9 x10 x11 x12 : Int32} {v : Int64} (hn : 59 ≤ n) (hO : c 52 = rO ad x0 x1 x2 x3 x4 x5 x6 x7 x8 x9 x10 x11 x12 v) (z : Int64) (y3 y4 : Int32) (mo bt lb : Nat) (h3 : y3 = nI bt) (h4 : y4 = nI lb) (hbt : bt = 3 ∧ mo = 22 ∨ bt = 4 ∧ mo = 16) (hlb : 10 ≤ lb ∧ lb < 200) {f0 : Nat → Int32} (h58 : c 58 = .inl (ca 2, 72, .inl f0)) : mVoid l yX4_bits wsX4_bits ({ frames := 1, cells := 0, slots := 0, locals := 21 }) [.ref (ad 52), .long z, .int y3, .int y4] D (tTY ca) n ad c (fun c' => ∃ p, p + (tBits z mo bt lb).length = 72 ∧ c' 52 = rO ad x0 x1 x2 x3 x4 x5 x6 x7 x8 x9 x10 x11 (nI p) v ∧ tB ca c' 58 72 p (tBits z mo bt lb) ∧ ∀ j, j ≠ 52 → j ≠ 58 → c' j = c j) := by
  intro sz
  refine Met.ofW (cc := cX4_bits) (maxL := 8) (ret := none) (by decide) rfl ?_
  intro pg9 ev9 s m args below meth cd s₁ B hml hv
  obtain ⟨rfl, hsz, hP, hK, hD0, hN⟩ := hv
  have hx := B.exec
  have hb := B.bytes
  have hr := B.returns
  have hts := fun (w : Cond) (h : w ∈ WSa) => atoms_spec (ws := wsX4_bits) B.pre w (List.mem_cons_of_mem _ h)
  have hown : s.vm.findClass RX4 = some m.cls := findClass_of_methodNamed B.named
  have hlocks := B.notSynchronized
  subst hsz
  have hD : ∀ c, va_D (fun _ => True) (mw n ad c) := fun c' => mw_D hD0 c'
  have hS : va_S (mA n ad s.heap.size) s.heap s.heap [] := va_S.rf
  have hl := lv_entry ([.ref (ad 52), .long z, .int y3, .int y4]) (n := 8) (Nat.le_of_ble_eq_true rfl)
  rw [lg_entry_eq]
  generalize (lg_sl ([.ref (ad 52), .long z, .int y3, .int y4]) ++ List.replicate (8 - (lg_sl ([.ref (ad 52), .long z, .int y3, .int y4])).length) Slot.unset).toArray = ls at hl ⊢
  have hl : lv_has ls 8 [(0, .ref (ad 52)), (1, .long z), (3, .int y3), (4, .int y4)] := hl
  have hb34 : bt = 3 ∨ bt = 4 := by omega
  have loop : ∀ (q1 : Nat) (i : Nat) (p : Nat) (r : Int64) (c1 : Nat → va_E) (H : Heap) (locs : List Loc) (ls : Array Slot), (i < mo) → (21 < i + q1) → (p + 1 + i = 72) → (uN r = uN z / 2 ^ (i * bt)) → (i = 0 ∨ uN z / 2 ^ (i * bt) ≠ 0) → (c1 52 = rO ad x0 x1 x2 x3 x4 x5 x6 x7 x8 x9 x10 x11 (nI (p + 1)) v) → (tB ca c1 58 72 (p + 1) (dgF (bDig z bt) (bCh lb) i true)) → (∀ j, j ≠ 52 → j ≠ 58 → c1 j = c j) → va_P D vwCl (mw n ad c1) H → va_S (mA n ad s.heap.size) s.heap H locs → lv_has ls 8 [(5, .long r), (0, .ref (ad 52)), (3, .int y3), (4, .int y4)] → W pg9 l ev9 (headSpec wsX4_bits ({ frames := 1, cells := 0, slots := 0, locals := 21 })).room s m ([.ref (ad 52), .long z, .int y3, .int y4] : List Value).toArray below meth cd H locs 0 0 (MQ below (va_Qv (fun c' => ∃ p, p + (tBits z mo bt lb).length = 72 ∧ c' 52 = rO ad x0 x1 x2 x3 x4 x5 x6 x7 x8 x9 x10 x11 (nI p) v ∧ tB ca c' 58 72 p (tBits z mo bt lb) ∧ ∀ j, j ≠ 52 → j ≠ 58 → c' j = c j) (mW D n ad) (mA n ad s.heap.size)) ([.ref (ad 52), .long z, .int y3, .int y4] : List Value).toArray s 0 0 (mA n ad s.heap.size)) (F0 m 9 ls []) := by
    intro q1
    induction q1 with
    | zero => intro i p r c1 H locs ls hi hq hpi hrr hnz0 hO1 hB1 hs1 hP hS hl; omega
    | succ q1 ih =>
      intro i p r c1 H locs ls hi hq hpi hrr hnz0 hO1 hB1 hs1 hP hS hl
      have hd16 := bDig_lt z (bt := bt) (by omega) i
      refine lv_lload hx hb dX4_bits_9 (lv_at hl 0 rfl) ?_
      refine lv_lconst (v := 1) hx hb dX4_bits_11 (by decide) ?_
      refine lv_iload_n hx hb dX4_bits_12 rfl (lv_at hl 2 rfl) ?_
      refine lv_lshl (v := 1 <<< ((y3 : Int32).toInt64 &&& 63)) hx hb dX4_bits_13 rfl ?_
      refine lv_lconst (v := 1) hx hb dX4_bits_14 (by decide) ?_
      refine lv_lsub hx hb dX4_bits_15 ?_
      refine lv_land hx hb dX4_bits_16 ?_
      refine lv_l2i (v := (r &&& ((1 <<< ((y3 : Int32).toInt64 &&& 63)) - 1)).toInt32) hx hb dX4_bits_17 rfl ?_
      refine mx_i (nI (bDig z bt i)) (bg_rem hb34 hrr h3) ?_
      refine lv_istore (lv' := [(7, .int (nI (bDig z bt i))), (5, .long r), (0, .ref (ad 52)), (3, .int y3), (4, .int y4)]) hx hb dX4_bits_18 hl (by decide) rfl (fun ls hl => ?_)
      refine lv_aload_n hx hb dX4_bits_20 rfl (lv_at hl 2 rfl) ?_
      suffices hj44 : W pg9 l ev9 (headSpec wsX4_bits ({ frames := 1, cells := 0, slots := 0, locals := 21 })).room s m ([.ref (ad 52), .long z, .int y3, .int y4] : List Value).toArray below meth cd H locs 0 0 (MQ below (va_Qv (fun c' => ∃ p, p + (tBits z mo bt lb).length = 72 ∧ c' 52 = rO ad x0 x1 x2 x3 x4 x5 x6 x7 x8 x9 x10 x11 (nI p) v ∧ tB ca c' 58 72 p (tBits z mo bt lb) ∧ ∀ j, j ≠ 52 → j ≠ 58 → c' j = c j) (mW D n ad) (mA n ad s.heap.size)) ([.ref (ad 52), .long z, .int y3, .int y4] : List Value).toArray s 0 0 (mA n ad s.heap.size)) (F0 m 44 ls [.int (nI (bCh lb (bDig z bt i))), .ref (ad 52)]) by
        refine lv_iload hx hb dX4_bits_21 (lv_at hl 0 rfl) ?_
        refine lv_bipush (v := 10) hx hb dX4_bits_23 (by decide) ?_
        refine lv_icmp_ge (tgt := 36) hx hb dX4_bits_25 (by decide) (fun hc1 => ?_) (fun hc1 => ?_)
        · skip
          have hge : 10 ≤ bDig z bt i := (nI_leI (a := 10) (by omega) (by omega)).mp hc1
          refine lv_iload hx hb dX4_bits_36 (lv_at hl 4 rfl) ?_
          refine lv_iload hx hb dX4_bits_38 (lv_at hl 0 rfl) ?_
          refine lv_iadd hx hb dX4_bits_40 ?_
          refine lv_bipush (v := 10) hx hb dX4_bits_41 (by decide) ?_
          refine lv_isub hx hb dX4_bits_43 ?_
          refine mx_i (nI (bCh lb (bDig z bt i))) (by rw [h4]; exact bCh_hi hge) ?_
          exact hj44
        · skip
          have hlt : bDig z bt i < 10 := by have := (not_congr (nI_leI (a := 10) (by omega) (by omega : bDig z bt i < 2 ^ 31))).mp hc1; omega
          refine lv_bipush (v := 48) hx hb dX4_bits_28 (by decide) ?_
          refine lv_iload hx hb dX4_bits_30 (lv_at hl 0 rfl) ?_
          refine lv_iadd hx hb dX4_bits_32 ?_
          refine lv_goto (tgt := 44) hx hb dX4_bits_33 (by decide) ?_
          refine mx_i (nI (bCh lb (bDig z bt i))) (bCh_lo hlt) ?_
          exact hj44
      refine mx_cv (va_runV (As := [.int (nI (bCh lb (bDig z bt i)))]) (rest := []) ⟨hx, hb, hml, hown, hts⟩ (c_ahead l D ca n ad c1 hn hO1 (nI (bCh lb (bDig z bt i))) p rfl hB1 _) (cwV 1 hts (gV wm_363 wm_365 ws_14 wm_5 wm_366) rfl rfl rfl (by decide +kernel) ⟨Nat.le_of_ble_eq_true rfl, Nat.le_of_ble_eq_true rfl⟩) (mx_pv (C := RX4) (T := TX4) (N := 20) (ci := 4) hK hP hD hN (by omega : 52 < n) hO1 rfl) rfl rfl hl.1 rfl (lv_room (Nat.le_of_ble_eq_true rfl)) dX4_bits_44 ⟨Nat.zero_le _, Nat.zero_le _⟩) (Nat.le_refl _) hS (fun c2 H locs hw hP hS => ?_)
      obtain ⟨hO2, hB2, hs2⟩ := hw
      rw [by8_nI (bCh_lt hd16 hlb.2)] at hB2
      have hB3 : tB ca c2 58 72 p (dgF (bDig z bt) (bCh lb) (i + 1) true) := by rw [dgF_t (Or.inl rfl)]; exact hB2
      refine lv_lload hx hb dX4_bits_47 (lv_at hl 1 rfl) ?_
      refine lv_iload_n hx hb dX4_bits_49 rfl (lv_at hl 3 rfl) ?_
      refine lv_lushr (v := (r.toUInt64 >>> ((y3 : Int32).toInt64.toUInt64 &&& Int64.toUInt64 63)).toInt64) hx hb dX4_bits_50 rfl ?_
      obtain ⟨r2, hr2⟩ : ∃ r2 : Int64, r2 = (r.toUInt64 >>> ((y3 : Int32).toInt64.toUInt64 &&& Int64.toUInt64 63)).toInt64 := ⟨_, rfl⟩
      refine mx_l r2 hr2.symm ?_
      have hn2 := bg_div hb34 hrr h3 hr2
      refine lv_lstore (lv' := [(5, .long r2), (7, .int (nI (bDig z bt i))), (0, .ref (ad 52)), (3, .int y3), (4, .int y4)]) hx hb dX4_bits_51 hl (by decide) rfl (fun ls hl => ?_)
      refine lv_lload hx hb dX4_bits_53 (lv_at hl 0 rfl) ?_
      refine lv_lconst (v := 0) hx hb dX4_bits_55 (by decide) ?_
      refine W.lcmp hx hb dX4_bits_56 ?_
      refine lv_if_ne (tgt := 9) hx hb dX4_bits_57 (by decide) (fun hc2 => ?_) (fun hc2 => ?_)
      · skip
        have hnz : uN z / 2 ^ ((i + 1) * bt) ≠ 0 := by rw [← hn2]; exact fun q => hc2 ((lg_cmp_eq _ _).mpr (uN_inj (q.trans rfl)))
        have hi18 := bg_lt hbt hnz
        obtain ⟨p1, rfl⟩ : ∃ p1, p = p1 + 1 := ⟨p - 1, by omega⟩
        exact ih (i + 1) p1 r2 c2 H locs ls (by omega) (by omega) (by omega) hn2 (Or.inr hnz) hO2 hB3 (fun j h1 h2 => (hs2 j h1 h2).trans (hs1 j h1 h2)) hP hS (lv_sub hl [0, 2, 3, 4] rfl)
      · skip
        have hz : uN z / 2 ^ ((i + 1) * bt) = 0 := by rw [← hn2, (lg_cmp_eq _ _).mp hc2]; rfl
        have htd : tBits z mo bt lb = dgF (bDig z bt) (bCh lb) (i + 1) true := bg_trim hb34 hz hi hnz0
        exact mx_vret hx hb hr hlocks hP hS (⟨p, by rw [htd, dgF_full]; omega, hO2, by rw [htd]; exact hB3, fun j h1 h2 => (hs2 j h1 h2).trans (hs1 j h1 h2)⟩) dX4_bits_60
  refine lv_aload_n hx hb dX4_bits_0 rfl (lv_at hl 0 rfl) ?_
  refine lv_bipush (v := 72) hx hb dX4_bits_1 (by decide) ?_
  refine mx_i (nI (71 + 1)) (rfl) ?_
  refine mx_put (ci := 4) (v := .int (nI (71 + 1))) (ty := .int) (C := RX4) (T := TX4) (N := 20) hx hb hts inX4 tyX4 tyX4_ok nmX4 hown hK hP hD hS (by omega : 52 < n) hO rfl 18 (by decide) (hts _ wm_286) (fun _ h9 => h9) rfl (by decide +kernel) rfl rfl (Nat.le_of_ble_eq_true rfl) dX4_bits_3 (fun H locs hP hS => ?_)
  obtain ⟨a1, ea1⟩ : ∃ z : Nat → va_E, z = va_up c 52 (.inr (4, [.ref (ad 53), .ref (ad 54), .ref (ad 55), .ref (ad 56), .int x0, .int x1, .int x2, .int x3, .int x4, .ref (ad 57), .int x5, .int x6, .int x7, .int x8, .int x9, .int x10, .int x11, .ref (ad 58), .int (nI (71 + 1)), .long v])) := ⟨_, rfl⟩
  have hP : va_P D vwCl (mw n ad a1) H := by rw [ea1]; exact hP
  have hsa1 : ∀ j, j ≠ 52 → a1 j = c j := fun j h => by rw [ea1]; exact va_up_ne _ _ h
  have hca1 : a1 52 = .inr (4, [.ref (ad 53), .ref (ad 54), .ref (ad 55), .ref (ad 56), .int x0, .int x1, .int x2, .int x3, .int x4, .ref (ad 57), .int x5, .int x6, .int x7, .int x8, .int x9, .int x10, .int x11, .ref (ad 58), .int (nI (71 + 1)), .long v]) := by rw [ea1]; exact va_up_self _ _ _
  refine lv_lload_n hx hb dX4_bits_6 rfl (lv_at hl 1 rfl) ?_
  refine lv_lstore (lv' := [(5, .long z), (0, .ref (ad 52)), (1, .long z), (3, .int y3), (4, .int y4)]) hx hb dX4_bits_7 hl (by decide) rfl (fun ls hl => ?_)
  exact loop 22 0 71 z a1 _ _ ls (by omega) (by omega) (by omega) (by simp) (Or.inl rfl) hca1 (tB.nil ((hsa1 58 (by omega)).trans h58) (by omega) (by omega)) (fun j h1 h2 => hsa1 j h1) hP hS (lv_sub hl [0, 1, 3, 4] rfl)
set_option maxHeartbeats 4000000 in
set_option maxRecDepth 100000 in
/-- hex(x) -/
theorem c_hex (l : Launch) (D : va_G) (ca : Nat → ClassId) (n : Nat) (ad : Nat → Nat) (c : Nat → va_E) (x : Int32) : mInt l yX4_hex wsX4_hex ({ frames := 0, cells := 0, slots := 0, locals := 0 }) [.int x] D (tTY ca) n ad c (fun r c' => c' = c ∧ r = hexF x) := by
  intro sz
  refine Met.ofW (cc := cX4_hex) (maxL := 1) (ret := (some .int)) (by decide) rfl ?_
  intro pg9 ev9 s m args below meth cd s₁ B hml hv
  obtain ⟨rfl, hsz, hP, hK, hD0, hN⟩ := hv
  have hx := B.exec
  have hb := B.bytes
  have hr := B.returns
  have hts := fun (w : Cond) (h : w ∈ WSa) => atoms_spec (ws := wsX4_hex) B.pre w (List.mem_cons_of_mem _ h)
  have hown : s.vm.findClass RX4 = some m.cls := findClass_of_methodNamed B.named
  have hlocks := B.notSynchronized
  subst hsz
  have hD : ∀ c, va_D (fun _ => True) (mw n ad c) := fun c' => mw_D hD0 c'
  have hS : va_S (mA n ad s.heap.size) s.heap s.heap [] := va_S.rf
  have hl := lv_entry ([.int x]) (n := 1) (Nat.le_of_ble_eq_true rfl)
  rw [lg_entry_eq]
  generalize (lg_sl ([.int x]) ++ List.replicate (1 - (lg_sl ([.int x])).length) Slot.unset).toArray = ls at hl ⊢
  have hl : lv_has ls 1 [(0, .int x)] := hl
  refine lv_iload_n hx hb dX4_hex_0 rfl (lv_at hl 0 rfl) ?_
  refine lv_bipush (v := 48) hx hb dX4_hex_1 (by decide) ?_
  refine lv_icmp_lt (tgt := 17) hx hb dX4_hex_3 (by decide) (fun hc1 => ?_) (fun hc1 => ?_)
  · skip
    have h1 : ¬ (48 ≤ x ∧ x ≤ 57) := fun h => absurd h.1 (Int32.not_le.mpr hc1)
    refine lv_iload_n hx hb dX4_hex_17 rfl (lv_at hl 0 rfl) ?_
    refine lv_bipush (v := 97) hx hb dX4_hex_18 (by decide) ?_
    refine lv_icmp_lt (tgt := 37) hx hb dX4_hex_20 (by decide) (fun hc3 => ?_) (fun hc3 => ?_)
    · skip
      have h2 : ¬ (97 ≤ x ∧ x ≤ 102) := fun h => absurd h.1 (Int32.not_le.mpr hc3)
      refine lv_iload_n hx hb dX4_hex_37 rfl (lv_at hl 0 rfl) ?_
      refine lv_bipush (v := 65) hx hb dX4_hex_38 (by decide) ?_
      refine lv_icmp_lt (tgt := 59) hx hb dX4_hex_40 (by decide) (fun hc5 => ?_) (fun hc5 => ?_)
      · skip
        refine lv_iconst (v := (-1)) hx hb dX4_hex_59 (by decide) ?_
        exact mx_iret hx hb hr hlocks hP hS (⟨rfl, by unfold hexF; rw [if_neg h1, if_neg h2, if_neg (fun h => absurd h.1 (Int32.not_le.mpr hc5))]⟩) dX4_hex_60
      · skip
        refine lv_iload_n hx hb dX4_hex_43 rfl (lv_at hl 0 rfl) ?_
        refine lv_bipush (v := 70) hx hb dX4_hex_44 (by decide) ?_
        refine lv_icmp_gt (tgt := 59) hx hb dX4_hex_46 (by decide) (fun hc6 => ?_) (fun hc6 => ?_)
        · skip
          refine lv_iconst (v := (-1)) hx hb dX4_hex_59 (by decide) ?_
          exact mx_iret hx hb hr hlocks hP hS (⟨rfl, by unfold hexF; rw [if_neg h1, if_neg h2, if_neg (fun h => absurd h.2 (Int32.not_le.mpr hc6))]⟩) dX4_hex_60
        · skip
          refine lv_iload_n hx hb dX4_hex_49 rfl (lv_at hl 0 rfl) ?_
          refine lv_bipush (v := 65) hx hb dX4_hex_50 (by decide) ?_
          refine lv_isub hx hb dX4_hex_52 ?_
          refine lv_bipush (v := 10) hx hb dX4_hex_53 (by decide) ?_
          refine lv_iadd hx hb dX4_hex_55 ?_
          refine lv_goto (tgt := 60) hx hb dX4_hex_56 (by decide) ?_
          exact mx_iret hx hb hr hlocks hP hS (⟨rfl, by unfold hexF; rw [if_neg h1, if_neg h2, if_pos ⟨Int32.not_lt.mp hc5, Int32.not_lt.mp hc6⟩]⟩) dX4_hex_60
    · skip
      refine lv_iload_n hx hb dX4_hex_23 rfl (lv_at hl 0 rfl) ?_
      refine lv_bipush (v := 102) hx hb dX4_hex_24 (by decide) ?_
      refine lv_icmp_gt (tgt := 37) hx hb dX4_hex_26 (by decide) (fun hc4 => ?_) (fun hc4 => ?_)
      · skip
        have h2 : ¬ (97 ≤ x ∧ x ≤ 102) := fun h => absurd h.2 (Int32.not_le.mpr hc4)
        refine lv_iload_n hx hb dX4_hex_37 rfl (lv_at hl 0 rfl) ?_
        refine lv_bipush (v := 65) hx hb dX4_hex_38 (by decide) ?_
        refine lv_icmp_lt (tgt := 59) hx hb dX4_hex_40 (by decide) (fun hc5 => ?_) (fun hc5 => ?_)
        · skip
          refine lv_iconst (v := (-1)) hx hb dX4_hex_59 (by decide) ?_
          exact mx_iret hx hb hr hlocks hP hS (⟨rfl, by unfold hexF; rw [if_neg h1, if_neg h2, if_neg (fun h => absurd h.1 (Int32.not_le.mpr hc5))]⟩) dX4_hex_60
        · skip
          refine lv_iload_n hx hb dX4_hex_43 rfl (lv_at hl 0 rfl) ?_
          refine lv_bipush (v := 70) hx hb dX4_hex_44 (by decide) ?_
          refine lv_icmp_gt (tgt := 59) hx hb dX4_hex_46 (by decide) (fun hc6 => ?_) (fun hc6 => ?_)
          · skip
            refine lv_iconst (v := (-1)) hx hb dX4_hex_59 (by decide) ?_
            exact mx_iret hx hb hr hlocks hP hS (⟨rfl, by unfold hexF; rw [if_neg h1, if_neg h2, if_neg (fun h => absurd h.2 (Int32.not_le.mpr hc6))]⟩) dX4_hex_60
          · skip
            refine lv_iload_n hx hb dX4_hex_49 rfl (lv_at hl 0 rfl) ?_
            refine lv_bipush (v := 65) hx hb dX4_hex_50 (by decide) ?_
            refine lv_isub hx hb dX4_hex_52 ?_
            refine lv_bipush (v := 10) hx hb dX4_hex_53 (by decide) ?_
            refine lv_iadd hx hb dX4_hex_55 ?_
            refine lv_goto (tgt := 60) hx hb dX4_hex_56 (by decide) ?_
            exact mx_iret hx hb hr hlocks hP hS (⟨rfl, by unfold hexF; rw [if_neg h1, if_neg h2, if_pos ⟨Int32.not_lt.mp hc5, Int32.not_lt.mp hc6⟩]⟩) dX4_hex_60
      · skip
        refine lv_iload_n hx hb dX4_hex_29 rfl (lv_at hl 0 rfl) ?_
        refine lv_bipush (v := 97) hx hb dX4_hex_30 (by decide) ?_
        refine lv_isub hx hb dX4_hex_32 ?_
        refine lv_bipush (v := 10) hx hb dX4_hex_33 (by decide) ?_
        refine lv_iadd hx hb dX4_hex_35 ?_
        exact mx_iret hx hb hr hlocks hP hS (⟨rfl, by unfold hexF; rw [if_neg h1, if_pos ⟨Int32.not_lt.mp hc3, Int32.not_lt.mp hc4⟩]⟩) dX4_hex_36
  · skip
    refine lv_iload_n hx hb dX4_hex_6 rfl (lv_at hl 0 rfl) ?_
    refine lv_bipush (v := 57) hx hb dX4_hex_7 (by decide) ?_
    refine lv_icmp_gt (tgt := 17) hx hb dX4_hex_9 (by decide) (fun hc2 => ?_) (fun hc2 => ?_)
    · skip
      have h1 : ¬ (48 ≤ x ∧ x ≤ 57) := fun h => absurd h.2 (Int32.not_le.mpr hc2)
      refine lv_iload_n hx hb dX4_hex_17 rfl (lv_at hl 0 rfl) ?_
      refine lv_bipush (v := 97) hx hb dX4_hex_18 (by decide) ?_
      refine lv_icmp_lt (tgt := 37) hx hb dX4_hex_20 (by decide) (fun hc3 => ?_) (fun hc3 => ?_)
      · skip
        have h2 : ¬ (97 ≤ x ∧ x ≤ 102) := fun h => absurd h.1 (Int32.not_le.mpr hc3)
        refine lv_iload_n hx hb dX4_hex_37 rfl (lv_at hl 0 rfl) ?_
        refine lv_bipush (v := 65) hx hb dX4_hex_38 (by decide) ?_
        refine lv_icmp_lt (tgt := 59) hx hb dX4_hex_40 (by decide) (fun hc5 => ?_) (fun hc5 => ?_)
        · skip
          refine lv_iconst (v := (-1)) hx hb dX4_hex_59 (by decide) ?_
          exact mx_iret hx hb hr hlocks hP hS (⟨rfl, by unfold hexF; rw [if_neg h1, if_neg h2, if_neg (fun h => absurd h.1 (Int32.not_le.mpr hc5))]⟩) dX4_hex_60
        · skip
          refine lv_iload_n hx hb dX4_hex_43 rfl (lv_at hl 0 rfl) ?_
          refine lv_bipush (v := 70) hx hb dX4_hex_44 (by decide) ?_
          refine lv_icmp_gt (tgt := 59) hx hb dX4_hex_46 (by decide) (fun hc6 => ?_) (fun hc6 => ?_)
          · skip
            refine lv_iconst (v := (-1)) hx hb dX4_hex_59 (by decide) ?_
            exact mx_iret hx hb hr hlocks hP hS (⟨rfl, by unfold hexF; rw [if_neg h1, if_neg h2, if_neg (fun h => absurd h.2 (Int32.not_le.mpr hc6))]⟩) dX4_hex_60
          · skip
            refine lv_iload_n hx hb dX4_hex_49 rfl (lv_at hl 0 rfl) ?_
            refine lv_bipush (v := 65) hx hb dX4_hex_50 (by decide) ?_
            refine lv_isub hx hb dX4_hex_52 ?_
            refine lv_bipush (v := 10) hx hb dX4_hex_53 (by decide) ?_
            refine lv_iadd hx hb dX4_hex_55 ?_
            refine lv_goto (tgt := 60) hx hb dX4_hex_56 (by decide) ?_
            exact mx_iret hx hb hr hlocks hP hS (⟨rfl, by unfold hexF; rw [if_neg h1, if_neg h2, if_pos ⟨Int32.not_lt.mp hc5, Int32.not_lt.mp hc6⟩]⟩) dX4_hex_60
      · skip
        refine lv_iload_n hx hb dX4_hex_23 rfl (lv_at hl 0 rfl) ?_
        refine lv_bipush (v := 102) hx hb dX4_hex_24 (by decide) ?_
        refine lv_icmp_gt (tgt := 37) hx hb dX4_hex_26 (by decide) (fun hc4 => ?_) (fun hc4 => ?_)
        · skip
          have h2 : ¬ (97 ≤ x ∧ x ≤ 102) := fun h => absurd h.2 (Int32.not_le.mpr hc4)
          refine lv_iload_n hx hb dX4_hex_37 rfl (lv_at hl 0 rfl) ?_
          refine lv_bipush (v := 65) hx hb dX4_hex_38 (by decide) ?_
          refine lv_icmp_lt (tgt := 59) hx hb dX4_hex_40 (by decide) (fun hc5 => ?_) (fun hc5 => ?_)
          · skip
            refine lv_iconst (v := (-1)) hx hb dX4_hex_59 (by decide) ?_
            exact mx_iret hx hb hr hlocks hP hS (⟨rfl, by unfold hexF; rw [if_neg h1, if_neg h2, if_neg (fun h => absurd h.1 (Int32.not_le.mpr hc5))]⟩) dX4_hex_60
          · skip
            refine lv_iload_n hx hb dX4_hex_43 rfl (lv_at hl 0 rfl) ?_
            refine lv_bipush (v := 70) hx hb dX4_hex_44 (by decide) ?_
            refine lv_icmp_gt (tgt := 59) hx hb dX4_hex_46 (by decide) (fun hc6 => ?_) (fun hc6 => ?_)
            · skip
              refine lv_iconst (v := (-1)) hx hb dX4_hex_59 (by decide) ?_
              exact mx_iret hx hb hr hlocks hP hS (⟨rfl, by unfold hexF; rw [if_neg h1, if_neg h2, if_neg (fun h => absurd h.2 (Int32.not_le.mpr hc6))]⟩) dX4_hex_60
            · skip
              refine lv_iload_n hx hb dX4_hex_49 rfl (lv_at hl 0 rfl) ?_
              refine lv_bipush (v := 65) hx hb dX4_hex_50 (by decide) ?_
              refine lv_isub hx hb dX4_hex_52 ?_
              refine lv_bipush (v := 10) hx hb dX4_hex_53 (by decide) ?_
              refine lv_iadd hx hb dX4_hex_55 ?_
              refine lv_goto (tgt := 60) hx hb dX4_hex_56 (by decide) ?_
              exact mx_iret hx hb hr hlocks hP hS (⟨rfl, by unfold hexF; rw [if_neg h1, if_neg h2, if_pos ⟨Int32.not_lt.mp hc5, Int32.not_lt.mp hc6⟩]⟩) dX4_hex_60
        · skip
          refine lv_iload_n hx hb dX4_hex_29 rfl (lv_at hl 0 rfl) ?_
          refine lv_bipush (v := 97) hx hb dX4_hex_30 (by decide) ?_
          refine lv_isub hx hb dX4_hex_32 ?_
          refine lv_bipush (v := 10) hx hb dX4_hex_33 (by decide) ?_
          refine lv_iadd hx hb dX4_hex_35 ?_
          exact mx_iret hx hb hr hlocks hP hS (⟨rfl, by unfold hexF; rw [if_neg h1, if_pos ⟨Int32.not_lt.mp hc3, Int32.not_lt.mp hc4⟩]⟩) dX4_hex_36
    · skip
      refine lv_iload_n hx hb dX4_hex_12 rfl (lv_at hl 0 rfl) ?_
      refine lv_bipush (v := 48) hx hb dX4_hex_13 (by decide) ?_
      refine lv_isub hx hb dX4_hex_15 ?_
      exact mx_iret hx hb hr hlocks hP hS (⟨rfl, by unfold hexF; rw [if_pos ⟨Int32.not_lt.mp hc1, Int32.not_lt.mp hc2⟩]⟩) dX4_hex_16
set_option maxHeartbeats 4000000 in
set_option maxRecDepth 100000 in
/-- isHex -/
theorem c_isHex (l : Launch) (D : va_G) (ca : Nat → ClassId) (n : Nat) (ad : Nat → Nat) (c : Nat → va_E) {x0 x1 x2 x3 x4 x5 x6 x7 x8 x9 x10 x11 x12 : Int32} {v : Int64} (hn : 59 ≤ n) (hO : c 52 = rO ad x0 x1 x2 x3 x4 x5 x6 x7 x8 x9 x10 x11 x12 v) {off : Nat} {t : List Nat} (hB : tB ca c 55 800 off t) (y1 y2 : Int32) (i0 : Nat) (mi : Bool) (hy1 : y1 = nI (off + i0)) (hy2 : y2 = nI (off + t.length)) (hi0 : i0 ≤ t.length) : mInt l yX4_isHex wsX4_isHex ({ frames := 1, cells := 0, slots := 0, locals := 20 }) [.ref (ad 52), .int y1, .int y2, .int (bI mi)] D (tTY ca) n ad c (fun r c' => ((∃ vv, pHex (t.drop i0) mi = some vv ∧ r = 1 ∧ c' 52 = rO ad x0 x1 x2 x3 x4 x5 x6 x7 x8 x9 x10 x11 x12 vv) ∨ (pHex (t.drop i0) mi = none ∧ r = 0 ∧ ∃ vv, c' 52 = rO ad x0 x1 x2 x3 x4 x5 x6 x7 x8 x9 x10 x11 x12 vv)) ∧ ∀ j, j ≠ 52 → c' j = c j) := by
  intro sz
  refine Met.ofW (cc := cX4_isHex) (maxL := 9) (ret := (some .boolean)) (by decide) rfl ?_
  intro pg9 ev9 s m args below meth cd s₁ B hml hv
  obtain ⟨rfl, hsz, hP, hK, hD0, hN⟩ := hv
  have hx := B.exec
  have hb := B.bytes
  have hr := B.returns
  have hts := fun (w : Cond) (h : w ∈ WSa) => atoms_spec (ws := wsX4_isHex) B.pre w (List.mem_cons_of_mem _ h)
  have hown : s.vm.findClass RX4 = some m.cls := findClass_of_methodNamed B.named
  have hlocks := B.notSynchronized
  subst hsz
  have hD : ∀ c, va_D (fun _ => True) (mw n ad c) := fun c' => mw_D hD0 c'
  have hS : va_S (mA n ad s.heap.size) s.heap s.heap [] := va_S.rf
  have hl := lv_entry ([.ref (ad 52), .int y1, .int y2, .int (bI mi)]) (n := 9) (Nat.le_of_ble_eq_true rfl)
  rw [lg_entry_eq]
  generalize (lg_sl ([.ref (ad 52), .int y1, .int y2, .int (bI mi)]) ++ List.replicate (9 - (lg_sl ([.ref (ad 52), .int y1, .int y2, .int (bI mi)])).length) Slot.unset).toArray = ls at hl ⊢
  have hl : lv_has ls 9 [(0, .ref (ad 52)), (1, .int y1), (2, .int y2), (3, .int (bI mi))] := hl
  obtain ⟨hle, hcp, hby, f, h55, hf⟩ := id hB
  refine lv_lconst (v := 0) hx hb dX4_isHex_0 (by decide) ?_
  refine lv_lstore (lv' := [(4, .long 0), (0, .ref (ad 52)), (1, .int y1), (2, .int y2), (3, .int (bI mi))]) hx hb dX4_isHex_1 hl (by decide) rfl (fun ls hl => ?_)
  obtain ⟨g0, hg0⟩ : ∃ g0 : Bool, decide (1 ≤ t.length - i0 ∧ t.length - i0 ≤ 16) = g0 := ⟨_, rfl⟩
  suffices hj21 : W pg9 l ev9 (headSpec wsX4_isHex ({ frames := 1, cells := 0, slots := 0, locals := 20 })).room s m ([.ref (ad 52), .int y1, .int y2, .int (bI mi)] : List Value).toArray below meth cd s.heap [] 0 0 (MQ below (va_Qi (fun r c' => ((∃ vv, pHex (t.drop i0) mi = some vv ∧ r = 1 ∧ c' 52 = rO ad x0 x1 x2 x3 x4 x5 x6 x7 x8 x9 x10 x11 x12 vv) ∨ (pHex (t.drop i0) mi = none ∧ r = 0 ∧ ∃ vv, c' 52 = rO ad x0 x1 x2 x3 x4 x5 x6 x7 x8 x9 x10 x11 x12 vv)) ∧ ∀ j, j ≠ 52 → c' j = c j) (mW D n ad) (mA n ad s.heap.size)) ([.ref (ad 52), .int y1, .int y2, .int (bI mi)] : List Value).toArray s 0 0 (mA n ad s.heap.size)) (F0 m 21 ls [.int (bI g0)]) by
    subst hg0
    refine lv_iload_n hx hb dX4_isHex_3 rfl (lv_at hl 2 rfl) ?_
    refine lv_iload_n hx hb dX4_isHex_4 rfl (lv_at hl 3 rfl) ?_
    refine lv_icmp_ge (tgt := 20) hx hb dX4_isHex_5 (by decide) (fun hc1 => ?_) (fun hc1 => ?_)
    · skip
      refine lv_iconst (v := 0) hx hb dX4_isHex_20 (by decide) ?_
      refine mx_i (bI (decide (1 ≤ t.length - i0 ∧ t.length - i0 ≤ 16))) (by rw [decide_eq_false (by have := (nI_leI (a := off + t.length) (b := off + i0) (by omega) (by omega)).mp (by rw [← hy1, ← hy2]; exact hc1); omega)]; rfl) ?_
      exact hj21
    · skip
      have hlt : i0 < t.length := by have := (not_congr (nI_leI (a := off + t.length) (b := off + i0) (by omega) (by omega))).mp (by rw [← hy1, ← hy2]; exact hc1); omega
      refine lv_iload_n hx hb dX4_isHex_8 rfl (lv_at hl 3 rfl) ?_
      refine lv_iload_n hx hb dX4_isHex_9 rfl (lv_at hl 2 rfl) ?_
      refine lv_isub hx hb dX4_isHex_10 ?_
      refine mx_i (nI (t.length - i0)) (by rw [hy1, hy2, pk_sub (by omega)]; congr 1; omega) ?_
      refine lv_bipush (v := 16) hx hb dX4_isHex_11 (by decide) ?_
      refine lv_icmp_gt (tgt := 20) hx hb dX4_isHex_13 (by decide) (fun hc2 => ?_) (fun hc2 => ?_)
      · skip
        refine lv_iconst (v := 0) hx hb dX4_isHex_20 (by decide) ?_
        refine mx_i (bI (decide (1 ≤ t.length - i0 ∧ t.length - i0 ≤ 16))) (by rw [decide_eq_false (by have := (nI_ltI (a := 16) (by omega) (by omega)).mp hc2; omega)]; rfl) ?_
        exact hj21
      · skip
        refine lv_iconst (v := 1) hx hb dX4_isHex_16 (by decide) ?_
        refine lv_goto (tgt := 21) hx hb dX4_isHex_17 (by decide) ?_
        refine mx_i (bI (decide (1 ≤ t.length - i0 ∧ t.length - i0 ≤ 16))) (by rw [decide_eq_true (by have := (not_congr (nI_ltI (a := 16) (b := t.length - i0) (by omega) (by omega))).mp hc2; omega)]; rfl) ?_
        exact hj21
  have loop : ∀ (q1 : Nat) (i : Nat) (g : Bool) (v1 : Int64) (v0 : Int64) (c1 : Nat → va_E) (H : Heap) (locs : List Loc) (ls : Array Slot), (i ≤ t.length) → (t.length < i + q1) → (g = true → (1 ≤ (t.drop i0).length ∧ (t.drop i0).length ≤ 16) ∧ hxRd (t.drop i0) 0 = hxRd (t.drop i) v1) → (g = false → pHex (t.drop i0) mi = none) → (c1 52 = rO ad x0 x1 x2 x3 x4 x5 x6 x7 x8 x9 x10 x11 x12 v0) → (∀ j, j ≠ 52 → c1 j = c j) → va_P D vwCl (mw n ad c1) H → va_S (mA n ad s.heap.size) s.heap H locs → lv_has ls 9 [(7, .int (nI (off + i))), (6, .int (bI g)), (4, .long v1), (0, .ref (ad 52)), (2, .int y2), (3, .int (bI mi))] → W pg9 l ev9 (headSpec wsX4_isHex ({ frames := 1, cells := 0, slots := 0, locals := 20 })).room s m ([.ref (ad 52), .int y1, .int y2, .int (bI mi)] : List Value).toArray below meth cd H locs 0 0 (MQ below (va_Qi (fun r c' => ((∃ vv, pHex (t.drop i0) mi = some vv ∧ r = 1 ∧ c' 52 = rO ad x0 x1 x2 x3 x4 x5 x6 x7 x8 x9 x10 x11 x12 vv) ∨ (pHex (t.drop i0) mi = none ∧ r = 0 ∧ ∃ vv, c' 52 = rO ad x0 x1 x2 x3 x4 x5 x6 x7 x8 x9 x10 x11 x12 vv)) ∧ ∀ j, j ≠ 52 → c' j = c j) (mW D n ad) (mA n ad s.heap.size)) ([.ref (ad 52), .int y1, .int y2, .int (bI mi)] : List Value).toArray s 0 0 (mA n ad s.heap.size)) (F0 m 26 ls []) := by
    intro q1
    induction q1 with
    | zero => intro i g v1 v0 c1 H locs ls hi hq hgt hgf hO1 hs1 hP hS hl; omega
    | succ q1 ih =>
      intro i g v1 v0 c1 H locs ls hi hq hgt hgf hO1 hs1 hP hS hl
      have h55 := (hs1 55 (by omega)).trans h55
      refine lv_iload hx hb dX4_isHex_26 (lv_at hl 0 rfl) ?_
      refine lv_iload_n hx hb dX4_isHex_28 rfl (lv_at hl 4 rfl) ?_
      refine lv_icmp_ge (tgt := 78) hx hb dX4_isHex_29 (by decide) (fun hc3 => ?_) (fun hc3 => ?_)
      · skip
        have hex2 : g = true → t.length ≤ i := fun _ => by have := (nI_leI (a := off + t.length) (b := off + i) (by omega) (by omega)).mp (by rw [← hy2]; exact hc3); omega
        refine lv_aload_n hx hb dX4_isHex_78 rfl (lv_at hl 3 rfl) ?_
        suffices hj91 : W pg9 l ev9 (headSpec wsX4_isHex ({ frames := 1, cells := 0, slots := 0, locals := 20 })).room s m ([.ref (ad 52), .int y1, .int y2, .int (bI mi)] : List Value).toArray below meth cd H locs 0 0 (MQ below (va_Qi (fun r c' => ((∃ vv, pHex (t.drop i0) mi = some vv ∧ r = 1 ∧ c' 52 = rO ad x0 x1 x2 x3 x4 x5 x6 x7 x8 x9 x10 x11 x12 vv) ∨ (pHex (t.drop i0) mi = none ∧ r = 0 ∧ ∃ vv, c' 52 = rO ad x0 x1 x2 x3 x4 x5 x6 x7 x8 x9 x10 x11 x12 vv)) ∧ ∀ j, j ≠ 52 → c' j = c j) (mW D n ad) (mA n ad s.heap.size)) ([.ref (ad 52), .int y1, .int y2, .int (bI mi)] : List Value).toArray s 0 0 (mA n ad s.heap.size)) (F0 m 91 ls [.long (if mi = true then -v1 else v1), .ref (ad 52)]) by
          refine lv_iload_n hx hb dX4_isHex_79 rfl (lv_at hl 5 rfl) ?_
          refine lv_if_eq (tgt := 89) hx hb dX4_isHex_80 (by decide) (fun hc7 => ?_) (fun hc7 => ?_)
          · skip
            refine lv_lload hx hb dX4_isHex_89 (lv_at hl 2 rfl) ?_
            refine mx_l (if mi = true then -v1 else v1) (by rw [if_neg (by rw [bI_eq hc7]; decide)]) ?_
            exact hj91
          · skip
            refine lv_lload hx hb dX4_isHex_83 (lv_at hl 2 rfl) ?_
            refine lv_lneg hx hb dX4_isHex_85 ?_
            refine lv_goto (tgt := 91) hx hb dX4_isHex_86 (by decide) ?_
            refine mx_l (if mi = true then -v1 else v1) (by rw [if_pos (bI_ne hc7)]) ?_
            exact hj91
        refine mx_put (ci := 4) (v := .long (if mi = true then -v1 else v1)) (ty := .long) (C := RX4) (T := TX4) (N := 20) hx hb hts inX4 tyX4 tyX4_ok nmX4 hown hK hP hD hS (by omega : 52 < n) hO1 rfl 19 (by decide) (hts _ wm_287) (fun _ h9 => h9) rfl (by decide +kernel) rfl rfl (Nat.le_of_ble_eq_true rfl) dX4_isHex_91 (fun H locs hP hS => ?_)
        obtain ⟨c2, ec2⟩ : ∃ z : Nat → va_E, z = va_up c1 52 (.inr (4, [.ref (ad 53), .ref (ad 54), .ref (ad 55), .ref (ad 56), .int x0, .int x1, .int x2, .int x3, .int x4, .ref (ad 57), .int x5, .int x6, .int x7, .int x8, .int x9, .int x10, .int x11, .ref (ad 58), .int x12, .long (if mi = true then -v1 else v1)])) := ⟨_, rfl⟩
        have hP : va_P D vwCl (mw n ad c2) H := by rw [ec2]; exact hP
        have hsc2 : ∀ j, j ≠ 52 → c2 j = c1 j := fun j h => by rw [ec2]; exact va_up_ne _ _ h
        have hcc2 : c2 52 = .inr (4, [.ref (ad 53), .ref (ad 54), .ref (ad 55), .ref (ad 56), .int x0, .int x1, .int x2, .int x3, .int x4, .ref (ad 57), .int x5, .int x6, .int x7, .int x8, .int x9, .int x10, .int x11, .ref (ad 58), .int x12, .long (if mi = true then -v1 else v1)]) := by rw [ec2]; exact va_up_self _ _ _
        refine lv_iload hx hb dX4_isHex_94 (lv_at hl 1 rfl) ?_
        have hfin : ((∃ vv, pHex (t.drop i0) mi = some vv ∧ bI g = 1 ∧ c2 52 = rO ad x0 x1 x2 x3 x4 x5 x6 x7 x8 x9 x10 x11 x12 vv) ∨ (pHex (t.drop i0) mi = none ∧ bI g = 0 ∧ ∃ vv, c2 52 = rO ad x0 x1 x2 x3 x4 x5 x6 x7 x8 x9 x10 x11 x12 vv)) ∧ ∀ j, j ≠ 52 → c2 j = c j := by
          refine ⟨?_, fun j h => (hsc2 j h).trans (hs1 j h)⟩
          cases g
          · exact Or.inr ⟨hgf rfl, rfl, _, hcc2⟩
          · obtain ⟨hl1, hrd⟩ := hgt rfl
            have hge : t.length ≤ i := hex2 rfl
            refine Or.inl ⟨_, ?_, rfl, hcc2⟩
            unfold pHex
            rw [if_pos hl1, hrd, dr_nil hge]
            rfl
        cases g
        · skip
          exact mx_zret hx hb hr hlocks rfl hP hS (hfin) dX4_isHex_96
        · skip
          exact mx_zret hx hb hr hlocks rfl hP hS (hfin) dX4_isHex_96
      · skip
        have hlt : i < t.length := by have := (not_congr (nI_leI (a := off + t.length) (b := off + i) (by omega) (by omega))).mp (by rw [← hy2]; exact hc3); omega
        refine lv_iload hx hb dX4_isHex_32 (lv_at hl 1 rfl) ?_
        refine lv_if_eq (tgt := 78) hx hb dX4_isHex_34 (by decide) (fun hc4 => ?_) (fun hc4 => ?_)
        · skip
          have hex2 : g = true → t.length ≤ i := fun h => absurd (bI_eq hc4) (by rw [h]; decide)
          refine lv_aload_n hx hb dX4_isHex_78 rfl (lv_at hl 3 rfl) ?_
          suffices hj91 : W pg9 l ev9 (headSpec wsX4_isHex ({ frames := 1, cells := 0, slots := 0, locals := 20 })).room s m ([.ref (ad 52), .int y1, .int y2, .int (bI mi)] : List Value).toArray below meth cd H locs 0 0 (MQ below (va_Qi (fun r c' => ((∃ vv, pHex (t.drop i0) mi = some vv ∧ r = 1 ∧ c' 52 = rO ad x0 x1 x2 x3 x4 x5 x6 x7 x8 x9 x10 x11 x12 vv) ∨ (pHex (t.drop i0) mi = none ∧ r = 0 ∧ ∃ vv, c' 52 = rO ad x0 x1 x2 x3 x4 x5 x6 x7 x8 x9 x10 x11 x12 vv)) ∧ ∀ j, j ≠ 52 → c' j = c j) (mW D n ad) (mA n ad s.heap.size)) ([.ref (ad 52), .int y1, .int y2, .int (bI mi)] : List Value).toArray s 0 0 (mA n ad s.heap.size)) (F0 m 91 ls [.long (if mi = true then -v1 else v1), .ref (ad 52)]) by
            refine lv_iload_n hx hb dX4_isHex_79 rfl (lv_at hl 5 rfl) ?_
            refine lv_if_eq (tgt := 89) hx hb dX4_isHex_80 (by decide) (fun hc7 => ?_) (fun hc7 => ?_)
            · skip
              refine lv_lload hx hb dX4_isHex_89 (lv_at hl 2 rfl) ?_
              refine mx_l (if mi = true then -v1 else v1) (by rw [if_neg (by rw [bI_eq hc7]; decide)]) ?_
              exact hj91
            · skip
              refine lv_lload hx hb dX4_isHex_83 (lv_at hl 2 rfl) ?_
              refine lv_lneg hx hb dX4_isHex_85 ?_
              refine lv_goto (tgt := 91) hx hb dX4_isHex_86 (by decide) ?_
              refine mx_l (if mi = true then -v1 else v1) (by rw [if_pos (bI_ne hc7)]) ?_
              exact hj91
          refine mx_put (ci := 4) (v := .long (if mi = true then -v1 else v1)) (ty := .long) (C := RX4) (T := TX4) (N := 20) hx hb hts inX4 tyX4 tyX4_ok nmX4 hown hK hP hD hS (by omega : 52 < n) hO1 rfl 19 (by decide) (hts _ wm_287) (fun _ h9 => h9) rfl (by decide +kernel) rfl rfl (Nat.le_of_ble_eq_true rfl) dX4_isHex_91 (fun H locs hP hS => ?_)
          obtain ⟨c2, ec2⟩ : ∃ z : Nat → va_E, z = va_up c1 52 (.inr (4, [.ref (ad 53), .ref (ad 54), .ref (ad 55), .ref (ad 56), .int x0, .int x1, .int x2, .int x3, .int x4, .ref (ad 57), .int x5, .int x6, .int x7, .int x8, .int x9, .int x10, .int x11, .ref (ad 58), .int x12, .long (if mi = true then -v1 else v1)])) := ⟨_, rfl⟩
          have hP : va_P D vwCl (mw n ad c2) H := by rw [ec2]; exact hP
          have hsc2 : ∀ j, j ≠ 52 → c2 j = c1 j := fun j h => by rw [ec2]; exact va_up_ne _ _ h
          have hcc2 : c2 52 = .inr (4, [.ref (ad 53), .ref (ad 54), .ref (ad 55), .ref (ad 56), .int x0, .int x1, .int x2, .int x3, .int x4, .ref (ad 57), .int x5, .int x6, .int x7, .int x8, .int x9, .int x10, .int x11, .ref (ad 58), .int x12, .long (if mi = true then -v1 else v1)]) := by rw [ec2]; exact va_up_self _ _ _
          refine lv_iload hx hb dX4_isHex_94 (lv_at hl 1 rfl) ?_
          have hfin : ((∃ vv, pHex (t.drop i0) mi = some vv ∧ bI g = 1 ∧ c2 52 = rO ad x0 x1 x2 x3 x4 x5 x6 x7 x8 x9 x10 x11 x12 vv) ∨ (pHex (t.drop i0) mi = none ∧ bI g = 0 ∧ ∃ vv, c2 52 = rO ad x0 x1 x2 x3 x4 x5 x6 x7 x8 x9 x10 x11 x12 vv)) ∧ ∀ j, j ≠ 52 → c2 j = c j := by
            refine ⟨?_, fun j h => (hsc2 j h).trans (hs1 j h)⟩
            cases g
            · exact Or.inr ⟨hgf rfl, rfl, _, hcc2⟩
            · obtain ⟨hl1, hrd⟩ := hgt rfl
              have hge : t.length ≤ i := hex2 rfl
              refine Or.inl ⟨_, ?_, rfl, hcc2⟩
              unfold pHex
              rw [if_pos hl1, hrd, dr_nil hge]
              rfl
          cases g
          · skip
            exact mx_zret hx hb hr hlocks rfl hP hS (hfin) dX4_isHex_96
          · skip
            exact mx_zret hx hb hr hlocks rfl hP hS (hfin) dX4_isHex_96
        · skip
          have hgT : g = true := bI_ne hc4
          obtain ⟨hl1, hrd⟩ := hgt hgT
          have hb8 : t.getD i 0 < 256 := hby _ (gD_mem hlt)
          refine lv_aload_n hx hb dX4_isHex_37 rfl (lv_at hl 3 rfl) ?_
          refine mx_get (ci := 4) (v := .ref (ad 55)) (C := RX4) (T := TX4) (N := 20) hx hb hts inX4 hown hK hP (by omega : 52 < n) hO1 rfl 2 (by decide) (hts _ wm_270) (fun _ h9 => h9) rfl dX4_isHex_38 ?_
          refine lv_iload hx hb dX4_isHex_41 (lv_at hl 0 rfl) ?_
          refine mx_bald hx hb hK hP (by omega : 55 < n) 2 h55 rfl (vp_in_nI (by omega) (by omega)) dX4_isHex_43 ?_
          refine mx_i (sB (t.getD i 0)) (by rw [nI_clamp (by omega)]; exact hf i hlt) ?_
          refine mx_ci (va_runS (As := [.int (sB (t.getD i 0))]) (rest := []) ⟨hx, hb, hml, hown, hts⟩ (c_hex l D ca n ad c1 (sB (t.getD i 0)) _) (cwS 1 hts (gS wm_408 wm_409 wm_5 wm_410) rfl rfl rfl (by decide +kernel) ⟨Nat.le_of_ble_eq_true rfl, Nat.le_of_ble_eq_true rfl⟩) (mx_ps hK hP hD hN) rfl rfl hl.1 rfl (lv_room (Nat.le_of_ble_eq_true rfl)) dX4_isHex_44 ⟨Nat.zero_le _, Nat.zero_le _⟩) (Nat.le_refl _) hS (fun r c2 H locs hw hP hS => ?_)
          obtain ⟨hcE, hrx⟩ := hw
          rw [hcE] at hP
          rw [hexF_sB _ hb8] at hrx
          refine lv_istore (lv' := [(8, .int r), (7, .int (nI (off + i))), (6, .int (bI g)), (4, .long v1), (0, .ref (ad 52)), (2, .int y2), (3, .int (bI mi))]) hx hb dX4_isHex_47 hl (by decide) rfl (fun ls hl => ?_)
          suffices hj60 : W pg9 l ev9 (headSpec wsX4_isHex ({ frames := 1, cells := 0, slots := 0, locals := 20 })).room s m ([.ref (ad 52), .int y1, .int y2, .int (bI mi)] : List Value).toArray below meth cd H locs 0 0 (MQ below (va_Qi (fun r c' => ((∃ vv, pHex (t.drop i0) mi = some vv ∧ r = 1 ∧ c' 52 = rO ad x0 x1 x2 x3 x4 x5 x6 x7 x8 x9 x10 x11 x12 vv) ∨ (pHex (t.drop i0) mi = none ∧ r = 0 ∧ ∃ vv, c' 52 = rO ad x0 x1 x2 x3 x4 x5 x6 x7 x8 x9 x10 x11 x12 vv)) ∧ ∀ j, j ≠ 52 → c' j = c j) (mW D n ad) (mA n ad s.heap.size)) ([.ref (ad 52), .int y1, .int y2, .int (bI mi)] : List Value).toArray s 0 0 (mA n ad s.heap.size)) (F0 m 60 ls [.int (bI (hxG (t.getD i 0)))]) by
            refine lv_iload hx hb dX4_isHex_49 (lv_at hl 0 rfl) ?_
            refine lv_iconst (v := (-1)) hx hb dX4_isHex_51 (by decide) ?_
            refine lv_icmp_eq (tgt := 59) hx hb dX4_isHex_52 (by decide) (fun hc5 => ?_) (fun hc5 => ?_)
            · skip
              refine lv_iconst (v := 0) hx hb dX4_isHex_59 (by decide) ?_
              refine mx_i (bI (hxG (t.getD i 0))) (by rw [hrx] at hc5; rw [show hxG (t.getD i 0) = false from hxG_f hc5]; rfl) ?_
              exact hj60
            · skip
              refine lv_iconst (v := 1) hx hb dX4_isHex_55 (by decide) ?_
              refine lv_goto (tgt := 60) hx hb dX4_isHex_56 (by decide) ?_
              refine mx_i (bI (hxG (t.getD i 0))) (by rw [hrx] at hc5; rw [show hxG (t.getD i 0) = true from hxG_t hc5]; rfl) ?_
              exact hj60
          refine lv_istore (lv' := [(6, .int (bI (hxG (t.getD i 0)))), (8, .int r), (7, .int (nI (off + i))), (4, .long v1), (0, .ref (ad 52)), (2, .int y2), (3, .int (bI mi))]) hx hb dX4_isHex_60 hl (by decide) rfl (fun ls hl => ?_)
          refine lv_lload hx hb dX4_isHex_62 (lv_at hl 3 rfl) ?_
          refine lv_iconst (v := 4) hx hb dX4_isHex_64 (by decide) ?_
          refine lv_lshl (v := v1 <<< ((4 : Int32).toInt64 &&& 63)) hx hb dX4_isHex_65 rfl ?_
          refine lv_iload hx hb dX4_isHex_66 (lv_at hl 1 rfl) ?_
          refine lv_i2l (v := r.toInt64) hx hb dX4_isHex_68 rfl ?_
          refine lv_lor hx hb dX4_isHex_69 ?_
          refine lv_lstore (lv' := [(4, .long ((v1 <<< ((4 : Int32).toInt64 &&& 63)) ||| r.toInt64)), (6, .int (bI (hxG (t.getD i 0)))), (8, .int r), (7, .int (nI (off + i))), (0, .ref (ad 52)), (2, .int y2), (3, .int (bI mi))]) hx hb dX4_isHex_70 hl (by decide) rfl (fun ls hl => ?_)
          have hrd2 : hxG (t.getD i 0) = true → hxRd (t.drop i0) 0 = hxRd (t.drop (i + 1)) (v1 <<< ((4 : Int32).toInt64 &&& 63) ||| r.toInt64) := fun h => by
            obtain ⟨d, hd⟩ := hxG_some h
            rw [hrd, dr_cons hlt, hrx, hxI_t hd]
            show (match hxD _ with | some d => hxRd _ _ | none => none : Option Int64) = _
            rw [hd]
          have hgf2 : hxG (t.getD i 0) = false → pHex (t.drop i0) mi = none := fun h => by
            unfold pHex
            rw [if_pos hl1, hrd, dr_cons hlt]
            show (match (match hxD _ with | some d => hxRd _ _ | none => none : Option Int64) with | some v => some (if mi = true then -v else v) | none => none : Option Int64) = _
            rw [hxG_none h]
          refine lv_iinc (v := nI (off + (i + 1))) (lv' := [(7, .int (nI (off + (i + 1)))), (4, .long ((v1 <<< ((4 : Int32).toInt64 &&& 63)) ||| r.toInt64)), (6, .int (bI (hxG (t.getD i 0)))), (8, .int r), (0, .ref (ad 52)), (2, .int y2), (3, .int (bI mi))]) hx hb dX4_isHex_72 hl (k := 3) rfl (nI_1 (off + i)) (by decide) rfl (fun ls hl => ?_)
          refine lv_goto (tgt := 26) hx hb dX4_isHex_75 (by decide) ?_
          exact ih (i + 1) (hxG (t.getD i 0)) _ v0 c1 H locs ls (by omega) (by omega) (fun h => ⟨hl1, hrd2 h⟩) hgf2 hO1 hs1 hP hS (lv_sub hl [0, 2, 1, 4, 5, 6] rfl)
  refine lv_istore (lv' := [(6, .int (bI g0)), (4, .long 0), (0, .ref (ad 52)), (1, .int y1), (2, .int y2), (3, .int (bI mi))]) hx hb dX4_isHex_21 hl (by decide) rfl (fun ls hl => ?_)
  refine lv_iload_n hx hb dX4_isHex_23 rfl (lv_at hl 3 rfl) ?_
  refine lv_istore (lv' := [(7, .int y1), (6, .int (bI g0)), (4, .long 0), (0, .ref (ad 52)), (1, .int y1), (2, .int y2), (3, .int (bI mi))]) hx hb dX4_isHex_24 hl (by decide) rfl (fun ls hl => ?_)
  exact loop (t.length + 1 - i0) i0 g0 0 v c _ _ ls hi0 (by omega) (fun h => ⟨by rw [List.length_drop]; rw [h] at hg0; exact of_decide_eq_true hg0, rfl⟩) (fun h => by rw [h] at hg0; unfold pHex; rw [if_neg (by rw [List.length_drop]; exact of_decide_eq_false hg0)]) hO (fun j h => rfl) hP hS (by have h9 := (lv_sub hl [0, 1, 2, 3, 5, 6] rfl); rw [← hy1]; exact h9)
