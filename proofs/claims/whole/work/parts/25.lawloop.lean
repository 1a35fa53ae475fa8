set_option maxHeartbeats 4000000 in
set_option maxRecDepth 100000 in
/-- THE LAW'S LOOP: the class and the reference hold the same -/
theorem law_loop {p : Program} {l : Launch} {e : Env} {s : State} {m : MethodId} {below : List Frame} {meth : Method} {cd : Code} {D : va_G} {ca : Nat → ClassId} {ad : Nat → Nat} {b L : Nat} {xs : Nat → Int32} (hL : L ≤ 3072) (C0 : lw_At p s m meth cd b L xs) (hK : va_K D vwCl (tTY ca) s) :
    ∀ (q i : Nat) (c : Nat → va_E) (H : Heap) (locs : List Loc) (ls : Array Slot) (tp pt md : List Nat) (ar : Nat → List Nat) (ac : Nat), i ≤ L + 6 → L + 6 < i + q → tMS ca ad c tp pt md ar ac → tRS ca ad c tp pt md ar ac → va_P D vwCl (mw 59 ad c) H → va_D (fun q : Nat => s.heap.size ≤ q) (mw 59 ad c) → va_S (fun q : Nat => s.heap.size ≤ q) s.heap H locs → lv_has ls 4 [(0, .ref b), (1, .ref (ad 0)), (2, .ref (ad 52)), (3, .int (nI i))] → W p l e room_1 s m #[Value.ref b] below meth cd H locs 59 5485 (lw_Z below #[Value.ref b] s) (F0 m 18 ls []) := by
  obtain ⟨hx, hb, hr, hml, hown, hts0, hX, hbl, hlocks, hgv⟩ := C0
  have hts := fun (w : Cond) (h : w ∈ WSa) => hts0 w (WSa_tbl w h)
  have hN : nNS s := ⟨fun w hw => va_Nw.of (nNs_tab w hw) (hts0 w (nNs_tbl w hw)), va_AO.of (hts0 _ ao_tbl)⟩
  have hA : ∀ q : Nat, s.heap.size ≤ q → (fun q : Nat => s.heap.size ≤ q) q := fun _ h => h
  have hbA : ¬ (fun q : Nat => s.heap.size ≤ q) b := Nat.not_le.mpr hbl
  intro q
  induction q with
  | zero => intro i c H locs ls tp pt md ar ac hi hq hM hR hP hD hS hl; exact absurd hq (by omega)
  | succ q ih =>
    intro i c H locs ls tp pt md ar ac hi hq hM hR hP hD hS hl
    have hn : 52 ≤ 59 := by decide
    have hn9 : 59 ≤ 59 := by decide
    refine lv_iload_n hx hb dL_law_18 rfl (lv_at hl 3 rfl) ?_
    refine lv_aload_n hx hb dL_law_19 rfl (lv_at hl 0 rfl) ?_
    refine va_slen hx hb hX hbl hbA hS dL_law_20 ?_
    refine lv_bipush (v := 6) hx hb dL_law_21 (by decide) ?_
    refine lv_isub hx hb dL_law_23 ?_
    refine lv_icmp_gt (tgt := 298) hx hb dL_law_24 (by decide) (fun hc1 => ?_) (fun hc1 => ?_)
    · skip
      refine lv_iconst (v := 1) hx hb dL_law_298 (by decide) ?_
      refine va_forget (fun q hq => hS.2.2 q hq) ?_
      refine W.widen (k := 600000) (n := 7302250) (by decide) (by decide) ?_
      exact lw_ret hx hb hr hlocks dL_law_299
    · skip
      have hlt : i + 6 ≤ L := lw_lt hL hi hc1
      have nxt : ∀ (c1 : Nat → va_E) (H : Heap) (locs : List Loc) (ls : Array Slot) (tp pt md : List Nat) (ar : Nat → List Nat) (ac : Nat), tMS ca ad c1 tp pt md ar ac → tRS ca ad c1 tp pt md ar ac → va_P D vwCl (mw 59 ad c1) H → va_D (fun q : Nat => s.heap.size ≤ q) (mw 59 ad c1) → va_S (fun q : Nat => s.heap.size ≤ q) s.heap H locs → lv_has ls 4 [(0, .ref b), (1, .ref (ad 0)), (2, .ref (ad 52)), (3, .int (nI i))] → W p l e room_1 s m #[Value.ref b] below meth cd H locs 59 5485 (lw_Z below #[Value.ref b] s) (F0 m 292 ls []) := by
        intro c1 H locs ls tp pt md ar ac hM hR hP hD hS hl
        refine lv_iinc (v := nI (i + 6)) (lv' := [(3, .int (nI (i + 6))), (0, .ref b), (1, .ref (ad 0)), (2, .ref (ad 52))]) hx hb dL_law_292 hl (k := 3) rfl (nI_add i 6) (by decide) rfl (fun ls hl => ?_)
        refine lv_goto (tgt := 18) hx hb dL_law_295 (by decide) ?_
        exact ih (i + 6) c1 H locs ls tp pt md ar ac (by omega) (by omega) hM hR hP hD hS (lv_sub hl [1, 2, 3, 0] rfl)
      obtain ⟨tk, f, wd, kd, bh, v, dg, hM⟩ := hM
      obtain ⟨x4, x5, x6, x7, f1, x12, v1, hR⟩ := hR
      refine lv_aload_n hx hb dL_law_27 rfl (lv_at hl 0 rfl) ?_
      refine lv_iload_n hx hb dL_law_28 rfl (lv_at hl 3 rfl) ?_
      refine va_sld hx hb hX hbl hbA hS (vp_in_nI (by omega) (by omega) : vp_in (nI i) L) dL_law_29 ?_
      refine lv_bipush (v := 7) hx hb dL_law_30 (by decide) ?_
      refine lv_iand hx hb dL_law_32 ?_
      obtain ⟨op, hop, hopx⟩ : ∃ op : Nat, op < 8 ∧ xs (nI i).toNatClampNeg &&& 7 = nI op := pk_andE _ (m := 7) 3 (by decide)
      refine mx_i (nI op) hopx ?_
      match op, hop with
      | 0, _ =>
        refine lv_tableIn (off := 47) (tgt := 80) hx hb dL_law_33 (by decide) (by decide) rfl (by decide) ?_
        refine lv_aload_n hx hb dL_law_80 rfl (lv_at hl 1 rfl) ?_
        refine lv_aload_n hx hb dL_law_81 rfl (lv_at hl 0 rfl) ?_
        refine lv_iload_n hx hb dL_law_82 rfl (lv_at hl 3 rfl) ?_
        refine lv_iconst (v := 1) hx hb dL_law_83 (by decide) ?_
        refine lv_iadd hx hb dL_law_84 ?_
        refine mx_i (nI (i + 1)) (nI_add i 1) ?_
        refine va_sld hx hb hX hbl hbA hS (vp_in_nI (by omega) (by omega) : vp_in (nI (i + 1)) L) dL_law_85 ?_
        refine mx_i (xs (i + 1)) (by rw [nI_clamp (by omega)]) ?_
        refine lv_aload_n hx hb dL_law_86 rfl (lv_at hl 0 rfl) ?_
        refine lv_iload_n hx hb dL_law_87 rfl (lv_at hl 3 rfl) ?_
        refine lv_iconst (v := 2) hx hb dL_law_88 (by decide) ?_
        refine lv_iadd hx hb dL_law_89 ?_
        refine mx_i (nI (i + 2)) (nI_add i 2) ?_
        refine va_sld hx hb hX hbl hbA hS (vp_in_nI (by omega) (by omega) : vp_in (nI (i + 2)) L) dL_law_90 ?_
        refine mx_i (xs (i + 2)) (by rw [nI_clamp (by omega)]) ?_
        refine lv_aload_n hx hb dL_law_91 rfl (lv_at hl 0 rfl) ?_
        refine lv_iload_n hx hb dL_law_92 rfl (lv_at hl 3 rfl) ?_
        refine lv_iconst (v := 3) hx hb dL_law_93 (by decide) ?_
        refine lv_iadd hx hb dL_law_94 ?_
        refine mx_i (nI (i + 3)) (nI_add i 3) ?_
        refine va_sld hx hb hX hbl hbA hS (vp_in_nI (by omega) (by omega) : vp_in (nI (i + 3)) L) dL_law_95 ?_
        refine mx_i (xs (i + 3)) (by rw [nI_clamp (by omega)]) ?_
        refine lv_aload_n hx hb dL_law_96 rfl (lv_at hl 0 rfl) ?_
        refine lv_iload_n hx hb dL_law_97 rfl (lv_at hl 3 rfl) ?_
        refine lv_iconst (v := 4) hx hb dL_law_98 (by decide) ?_
        refine lv_iadd hx hb dL_law_99 ?_
        refine mx_i (nI (i + 4)) (nI_add i 4) ?_
        refine va_sld hx hb hX hbl hbA hS (vp_in_nI (by omega) (by omega) : vp_in (nI (i + 4)) L) dL_law_100 ?_
        refine mx_i (xs (i + 4)) (by rw [nI_clamp (by omega)]) ?_
        refine lv_aload_n hx hb dL_law_101 rfl (lv_at hl 0 rfl) ?_
        refine lv_iload_n hx hb dL_law_102 rfl (lv_at hl 3 rfl) ?_
        refine lv_iconst (v := 5) hx hb dL_law_103 (by decide) ?_
        refine lv_iadd hx hb dL_law_104 ?_
        refine mx_i (nI (i + 5)) (nI_add i 5) ?_
        refine va_sld hx hb hX hbl hbA hS (vp_in_nI (by omega) (by omega) : vp_in (nI (i + 5)) L) dL_law_105 ?_
        refine mx_i (xs (i + 5)) (by rw [nI_clamp (by omega)]) ?_
        refine mg_i0 (va_runV (As := [.int (xs (i + 1)), .int (xs (i + 2)), .int (xs (i + 3)), .int (xs (i + 4)), .int (xs (i + 5))]) (rest := []) ⟨hx, hb, hml, hown, hts⟩ (c_feed l D ca 59 ad c hn hM (xs (i + 1)) (xs (i + 2)) (xs (i + 3)) (xs (i + 4)) (xs (i + 5)) _) (cwV 5 hts (gV wm_105 wm_106 wm_107 wm_1 wm_108) rfl rfl rfl (by decide +kernel) ⟨Nat.le_of_ble_eq_true rfl, Nat.le_of_ble_eq_true rfl⟩) (mg_pv (C := RX3) (T := TX3) (N := 9) (ci := 3) hK hP hD hN (by omega : 0 < 59) hM.1 rfl) rfl rfl hl.1 rfl (lv_room (Nat.le_of_ble_eq_true rfl)) dL_law_106 ⟨Nat.le_of_ble_eq_true rfl, Nat.le_of_ble_eq_true rfl⟩) hS hA hD (fun r1 c1 H locs hw1 hP hD hS => ?_)
        have hfr : ∀ j, 52 ≤ j → c1 j = c j := fun j hj => by rcases hw1 with ⟨-, -, -, h⟩ | ⟨-, -, h⟩; exact h j (by omega) (by omega); rw [h]
        have hR1 := hR.keep hfr
        refine lv_aload_n hx hb dL_law_109 rfl (lv_at hl 2 rfl) ?_
        refine lv_aload_n hx hb dL_law_110 rfl (lv_at hl 0 rfl) ?_
        refine lv_iload_n hx hb dL_law_111 rfl (lv_at hl 3 rfl) ?_
        refine lv_iconst (v := 1) hx hb dL_law_112 (by decide) ?_
        refine lv_iadd hx hb dL_law_113 ?_
        refine mx_i (nI (i + 1)) (nI_add i 1) ?_
        refine va_sld hx hb hX hbl hbA hS (vp_in_nI (by omega) (by omega) : vp_in (nI (i + 1)) L) dL_law_114 ?_
        refine mx_i (xs (i + 1)) (by rw [nI_clamp (by omega)]) ?_
        refine lv_aload_n hx hb dL_law_115 rfl (lv_at hl 0 rfl) ?_
        refine lv_iload_n hx hb dL_law_116 rfl (lv_at hl 3 rfl) ?_
        refine lv_iconst (v := 2) hx hb dL_law_117 (by decide) ?_
        refine lv_iadd hx hb dL_law_118 ?_
        refine mx_i (nI (i + 2)) (nI_add i 2) ?_
        refine va_sld hx hb hX hbl hbA hS (vp_in_nI (by omega) (by omega) : vp_in (nI (i + 2)) L) dL_law_119 ?_
        refine mx_i (xs (i + 2)) (by rw [nI_clamp (by omega)]) ?_
        refine lv_aload_n hx hb dL_law_120 rfl (lv_at hl 0 rfl) ?_
        refine lv_iload_n hx hb dL_law_121 rfl (lv_at hl 3 rfl) ?_
        refine lv_iconst (v := 3) hx hb dL_law_122 (by decide) ?_
        refine lv_iadd hx hb dL_law_123 ?_
        refine mx_i (nI (i + 3)) (nI_add i 3) ?_
        refine va_sld hx hb hX hbl hbA hS (vp_in_nI (by omega) (by omega) : vp_in (nI (i + 3)) L) dL_law_124 ?_
        refine mx_i (xs (i + 3)) (by rw [nI_clamp (by omega)]) ?_
        refine lv_aload_n hx hb dL_law_125 rfl (lv_at hl 0 rfl) ?_
        refine lv_iload_n hx hb dL_law_126 rfl (lv_at hl 3 rfl) ?_
        refine lv_iconst (v := 4) hx hb dL_law_127 (by decide) ?_
        refine lv_iadd hx hb dL_law_128 ?_
        refine mx_i (nI (i + 4)) (nI_add i 4) ?_
        refine va_sld hx hb hX hbl hbA hS (vp_in_nI (by omega) (by omega) : vp_in (nI (i + 4)) L) dL_law_129 ?_
        refine mx_i (xs (i + 4)) (by rw [nI_clamp (by omega)]) ?_
        refine lv_aload_n hx hb dL_law_130 rfl (lv_at hl 0 rfl) ?_
        refine lv_iload_n hx hb dL_law_131 rfl (lv_at hl 3 rfl) ?_
        refine lv_iconst (v := 5) hx hb dL_law_132 (by decide) ?_
        refine lv_iadd hx hb dL_law_133 ?_
        refine mx_i (nI (i + 5)) (nI_add i 5) ?_
        refine va_sld hx hb hX hbl hbA hS (vp_in_nI (by omega) (by omega) : vp_in (nI (i + 5)) L) dL_law_134 ?_
        refine mx_i (xs (i + 5)) (by rw [nI_clamp (by omega)]) ?_
        refine mg_i0 (va_runV (As := [.int (xs (i + 1)), .int (xs (i + 2)), .int (xs (i + 3)), .int (xs (i + 4)), .int (xs (i + 5))]) (rest := [.int r1]) ⟨hx, hb, hml, hown, hts⟩ (c_feedR l D ca 59 ad c1 hn9 hR1 (xs (i + 1)) (xs (i + 2)) (xs (i + 3)) (xs (i + 4)) (xs (i + 5)) _) (cwV 5 hts (gV wm_330 wm_331 wm_332 wm_5 wm_333) rfl rfl rfl (by decide +kernel) ⟨Nat.le_of_ble_eq_true rfl, Nat.le_of_ble_eq_true rfl⟩) (mg_pv (C := RX4) (T := TX4) (N := 20) (ci := 4) hK hP hD hN (by omega : 52 < 59) hR1.1 rfl) rfl rfl hl.1 rfl (lv_room (Nat.le_of_ble_eq_true rfl)) dL_law_135 ⟨Nat.le_of_ble_eq_true rfl, Nat.le_of_ble_eq_true rfl⟩) hS hA hD (fun r2 c2 H locs hw2 hP hD hS => ?_)
        obtain ⟨hw2, hfr2⟩ := hw2
        have hall : r1 = r2 ∧ ∃ tp', tMS ca ad c2 tp' pt md ar ac ∧ tRS ca ad c2 tp' pt md ar ac := by
          rcases hw1 with ⟨q1, q2, q3, q4⟩ | ⟨q1, q2, q3⟩ <;> rcases hw2 with ⟨w1, w2, w3⟩ | ⟨w1, w2, w3⟩
          · exact ⟨by rw [q2, w2], _, (q3.keep hfr2).ms, w3.rs⟩
          · exact absurd q1 w1
          · exact absurd w1 q1
          · exact ⟨by rw [q2, w2], tp, ((hM.cng q3).keep hfr2).ms, (hR1.cng w3).rs⟩
        obtain ⟨hE, tp', hM2, hR2⟩ := hall
        refine lv_icmp_eq (tgt := 292) hx hb dL_law_138 (by decide) (fun hc9 => ?_) (fun hc9 => ?_)
        · skip
          exact nxt c2 H locs ls _ _ _ _ _ (hM2) (hR2) hP hD hS (lv_sub hl [0, 1, 2, 3] rfl)
        · skip
          exact absurd (hE) hc9
      | 1, _ =>
        refine lv_tableIn (off := 110) (tgt := 143) hx hb dL_law_33 (by decide) (by decide) rfl (by decide) ?_
        refine lv_aload_n hx hb dL_law_143 rfl (lv_at hl 1 rfl) ?_
        refine lv_aload_n hx hb dL_law_144 rfl (lv_at hl 0 rfl) ?_
        refine lv_iload_n hx hb dL_law_145 rfl (lv_at hl 3 rfl) ?_
        refine lv_iconst (v := 1) hx hb dL_law_146 (by decide) ?_
        refine lv_iadd hx hb dL_law_147 ?_
        refine mx_i (nI (i + 1)) (nI_add i 1) ?_
        refine va_sld hx hb hX hbl hbA hS (vp_in_nI (by omega) (by omega) : vp_in (nI (i + 1)) L) dL_law_148 ?_
        refine mx_i (xs (i + 1)) (by rw [nI_clamp (by omega)]) ?_
        refine mg_i0 (va_runV (As := [.int (xs (i + 1))]) (rest := []) ⟨hx, hb, hml, hown, hts⟩ (c_end l D ca 59 ad c hn hM (xs (i + 1)) _) (cwV 1 hts (gV wm_121 wm_122 wm_123 wm_1 wm_124) rfl rfl rfl (by decide +kernel) ⟨Nat.le_of_ble_eq_true rfl, Nat.le_of_ble_eq_true rfl⟩) (mg_pv (C := RX3) (T := TX3) (N := 9) (ci := 3) hK hP hD hN (by omega : 0 < 59) hM.1 rfl) rfl rfl hl.1 rfl (lv_room (Nat.le_of_ble_eq_true rfl)) dL_law_149 ⟨Nat.le_of_ble_eq_true rfl, Nat.le_of_ble_eq_true rfl⟩) hS hA hD (fun r1 c1 H locs hw1 hP hD hS => ?_)
        have hfr : ∀ j, 52 ≤ j → c1 j = c j := fun j hj => by rcases hw1 with ⟨-, -, h⟩ | ⟨j9, -, -, -, -, h⟩; rw [h]; exact h j (by omega) (by omega)
        have hR1 := hR.keep hfr
        refine lv_aload_n hx hb dL_law_152 rfl (lv_at hl 2 rfl) ?_
        refine lv_aload_n hx hb dL_law_153 rfl (lv_at hl 0 rfl) ?_
        refine lv_iload_n hx hb dL_law_154 rfl (lv_at hl 3 rfl) ?_
        refine lv_iconst (v := 1) hx hb dL_law_155 (by decide) ?_
        refine lv_iadd hx hb dL_law_156 ?_
        refine mx_i (nI (i + 1)) (nI_add i 1) ?_
        refine va_sld hx hb hX hbl hbA hS (vp_in_nI (by omega) (by omega) : vp_in (nI (i + 1)) L) dL_law_157 ?_
        refine mx_i (xs (i + 1)) (by rw [nI_clamp (by omega)]) ?_
        refine mg_i0 (va_runV (As := [.int (xs (i + 1))]) (rest := [.int r1]) ⟨hx, hb, hml, hown, hts⟩ (c_endR l D ca 59 ad c1 hn9 hR1 (xs (i + 1)) _) (cwV 1 hts (gV wm_338 wm_339 wm_340 wm_5 wm_341) rfl rfl rfl (by decide +kernel) ⟨Nat.le_of_ble_eq_true rfl, Nat.le_of_ble_eq_true rfl⟩) (mg_pv (C := RX4) (T := TX4) (N := 20) (ci := 4) hK hP hD hN (by omega : 52 < 59) hR1.1 rfl) rfl rfl hl.1 rfl (lv_room (Nat.le_of_ble_eq_true rfl)) dL_law_158 ⟨Nat.le_of_ble_eq_true rfl, Nat.le_of_ble_eq_true rfl⟩) hS hA hD (fun r2 c2 H locs hw2 hP hD hS => ?_)
        obtain ⟨hw2, hfr2⟩ := hw2
        have hl3 := hM.2.1.le
        have hall : r1 = r2 ∧ ∃ tp', tMS ca ad c2 tp' pt md ar ac ∧ tRS ca ad c2 tp' pt md ar ac := by
          rcases hw1 with ⟨q1, q2, q3⟩ | ⟨j, q1, q2, q3, q4, q5⟩ <;> rcases hw2 with ⟨w1, w2, w3⟩ | ⟨j2, w1, w2, w3, w4⟩
          · exact ⟨by rw [q2, w2], tp, ((hM.cng q3).keep hfr2).ms, (hR1.cng w3).rs⟩
          · exact absurd q1 (lw_end (by omega) w1 w2)
          · exact absurd w1 (lw_end (by omega) q1 q2)
          · have hjj : j = j2 := (nI_eq (by omega) (by omega)).mp (q2.symm.trans w2)
            subst hjj
            exact ⟨by rw [q3, w3], _, (q4.keep hfr2).ms, w4.rs⟩
        obtain ⟨hE, tp', hM2, hR2⟩ := hall
        refine lv_icmp_eq (tgt := 292) hx hb dL_law_161 (by decide) (fun hc9 => ?_) (fun hc9 => ?_)
        · skip
          exact nxt c2 H locs ls _ _ _ _ _ (hM2) (hR2) hP hD hS (lv_sub hl [0, 1, 2, 3] rfl)
        · skip
          exact absurd (hE) hc9
      | 2, _ =>
        refine lv_tableIn (off := 133) (tgt := 166) hx hb dL_law_33 (by decide) (by decide) rfl (by decide) ?_
        refine lv_aload_n hx hb dL_law_166 rfl (lv_at hl 1 rfl) ?_
        refine mg_i0 (va_runV (As := []) (rest := []) ⟨hx, hb, hml, hown, hts⟩ (c_format l D ca 59 ad c hn hM _) (cwV 0 hts (gV wm_129 wm_130 wm_131 wm_1 wm_132) rfl rfl rfl (by decide +kernel) ⟨Nat.le_of_ble_eq_true rfl, Nat.le_of_ble_eq_true rfl⟩) (mg_pv (C := RX3) (T := TX3) (N := 9) (ci := 3) hK hP hD hN (by omega : 0 < 59) hM.1 rfl) rfl rfl hl.1 rfl (lv_room (Nat.le_of_ble_eq_true rfl)) dL_law_167 ⟨Nat.le_of_ble_eq_true rfl, Nat.le_of_ble_eq_true rfl⟩) hS hA hD (fun r1 c1 H locs hw1 hP hD hS => ?_)
        obtain ⟨hr1, hM1, hfr⟩ := hw1
        have hR1 := hR.keep hfr
        refine lv_aload_n hx hb dL_law_170 rfl (lv_at hl 2 rfl) ?_
        refine mg_i0 (va_runV (As := []) (rest := [.int r1]) ⟨hx, hb, hml, hown, hts⟩ (c_formatR l D ca 59 ad c1 hn9 hR1 _) (cwV 0 hts (gV wm_342 wm_343 wm_344 wm_5 wm_345) rfl rfl rfl (by decide +kernel) ⟨Nat.le_of_ble_eq_true rfl, Nat.le_of_ble_eq_true rfl⟩) (mg_pv (C := RX4) (T := TX4) (N := 20) (ci := 4) hK hP hD hN (by omega : 52 < 59) hR1.1 rfl) rfl rfl hl.1 rfl (lv_room (Nat.le_of_ble_eq_true rfl)) dL_law_171 ⟨Nat.le_of_ble_eq_true rfl, Nat.le_of_ble_eq_true rfl⟩) hS hA hD (fun r2 c2 H locs hw2 hP hD hS => ?_)
        obtain ⟨hr2, hR2, hfr2⟩ := hw2
        refine lv_icmp_eq (tgt := 292) hx hb dL_law_174 (by decide) (fun hc9 => ?_) (fun hc9 => ?_)
        · skip
          exact nxt c2 H locs ls _ _ _ _ _ ((hM1.keep hfr2).ms) (hR2.rs) hP hD hS (lv_sub hl [0, 1, 2, 3] rfl)
        · skip
          exact absurd (by rw [hr1, hr2]) hc9
      | 3, _ =>
        refine lv_tableIn (off := 146) (tgt := 179) hx hb dL_law_33 (by decide) (by decide) rfl (by decide) ?_
        refine lv_aload_n hx hb dL_law_179 rfl (lv_at hl 1 rfl) ?_
        refine mg_i0 (va_runV (As := []) (rest := []) ⟨hx, hb, hml, hown, hts⟩ (c_argument l D ca 59 ad c hn hM _) (cwV 0 hts (gV wm_145 wm_146 wm_147 wm_1 wm_148) rfl rfl rfl (by decide +kernel) ⟨Nat.le_of_ble_eq_true rfl, Nat.le_of_ble_eq_true rfl⟩) (mg_pv (C := RX3) (T := TX3) (N := 9) (ci := 3) hK hP hD hN (by omega : 0 < 59) hM.1 rfl) rfl rfl hl.1 rfl (lv_room (Nat.le_of_ble_eq_true rfl)) dL_law_180 ⟨Nat.le_of_ble_eq_true rfl, Nat.le_of_ble_eq_true rfl⟩) hS hA hD (fun r1 c1 H locs hw1 hP hD hS => ?_)
        obtain ⟨hw1, hfr⟩ := hw1
        have hR1 := hR.keep hfr
        refine lv_aload_n hx hb dL_law_183 rfl (lv_at hl 2 rfl) ?_
        refine mg_i0 (va_runV (As := []) (rest := [.int r1]) ⟨hx, hb, hml, hown, hts⟩ (c_argumentR l D ca 59 ad c1 hn9 hR1 _) (cwV 0 hts (gV wm_346 wm_347 wm_348 wm_5 wm_349) rfl rfl rfl (by decide +kernel) ⟨Nat.le_of_ble_eq_true rfl, Nat.le_of_ble_eq_true rfl⟩) (mg_pv (C := RX4) (T := TX4) (N := 20) (ci := 4) hK hP hD hN (by omega : 52 < 59) hR1.1 rfl) rfl rfl hl.1 rfl (lv_room (Nat.le_of_ble_eq_true rfl)) dL_law_184 ⟨Nat.le_of_ble_eq_true rfl, Nat.le_of_ble_eq_true rfl⟩) hS hA hD (fun r2 c2 H locs hw2 hP hD hS => ?_)
        obtain ⟨hw2, hfr2⟩ := hw2
        have hall : r1 = r2 ∧ ∃ ar' ac', tMS ca ad c2 [] pt md ar' ac' ∧ tRS ca ad c2 [] pt md ar' ac' := by
          rcases hw1 with ⟨q1, q1b, q2, q3⟩ | ⟨q1, q2, q3⟩ <;> rcases hw2 with ⟨w1, w1b, w2, w3⟩ | ⟨w1, w2, w3⟩
          · exact ⟨by rw [q2, w2], _, _, (q3.keep hfr2).ms, w3.rs⟩
          · exact absurd ⟨q1, q1b⟩ w1
          · exact absurd ⟨w1, w1b⟩ q1
          · exact ⟨by rw [q2, w2], _, _, (q3.keep hfr2).ms, w3.rs⟩
        obtain ⟨hE, ar', ac', hM2, hR2⟩ := hall
        refine lv_icmp_eq (tgt := 292) hx hb dL_law_187 (by decide) (fun hc9 => ?_) (fun hc9 => ?_)
        · skip
          exact nxt c2 H locs ls _ _ _ _ _ (hM2) (hR2) hP hD hS (lv_sub hl [0, 1, 2, 3] rfl)
        · skip
          exact absurd (hE) hc9
      | 4, _ =>
        refine lv_tableIn (off := 159) (tgt := 192) hx hb dL_law_33 (by decide) (by decide) rfl (by decide) ?_
        refine lv_aload_n hx hb dL_law_192 rfl (lv_at hl 1 rfl) ?_
        refine lv_aload_n hx hb dL_law_193 rfl (lv_at hl 0 rfl) ?_
        refine lv_iload_n hx hb dL_law_194 rfl (lv_at hl 3 rfl) ?_
        refine lv_iconst (v := 1) hx hb dL_law_195 (by decide) ?_
        refine lv_iadd hx hb dL_law_196 ?_
        refine mx_i (nI (i + 1)) (nI_add i 1) ?_
        refine va_sld hx hb hX hbl hbA hS (vp_in_nI (by omega) (by omega) : vp_in (nI (i + 1)) L) dL_law_197 ?_
        refine mx_i (xs (i + 1)) (by rw [nI_clamp (by omega)]) ?_
        refine lv_i2l (v := (xs (i + 1)).toInt64) hx hb dL_law_198 rfl ?_
        refine lv_bipush (v := 32) hx hb dL_law_199 (by decide) ?_
        refine lv_lshl (v := ((xs (i + 1)).toInt64) <<< ((32 : Int32).toInt64 &&& 63)) hx hb dL_law_201 rfl ?_
        refine lv_aload_n hx hb dL_law_202 rfl (lv_at hl 0 rfl) ?_
        refine lv_iload_n hx hb dL_law_203 rfl (lv_at hl 3 rfl) ?_
        refine lv_iconst (v := 2) hx hb dL_law_204 (by decide) ?_
        refine lv_iadd hx hb dL_law_205 ?_
        refine mx_i (nI (i + 2)) (nI_add i 2) ?_
        refine va_sld hx hb hX hbl hbA hS (vp_in_nI (by omega) (by omega) : vp_in (nI (i + 2)) L) dL_law_206 ?_
        refine mx_i (xs (i + 2)) (by rw [nI_clamp (by omega)]) ?_
        refine lv_i2l (v := (xs (i + 2)).toInt64) hx hb dL_law_207 rfl ?_
        refine lv_ldc2 (v := 4294967295) hx hb hown (hts _ wm_425) dL_law_208 ?_
        refine lv_land hx hb dL_law_211 ?_
        refine lv_lor hx hb dL_law_212 ?_
        obtain ⟨z9, hz9⟩ : ∃ z : Int64, z = (((xs (i + 1)).toInt64) <<< ((32 : Int32).toInt64 &&& 63)) ||| (((xs (i + 2)).toInt64) &&& 4294967295) := ⟨_, rfl⟩
        refine mx_l z9 hz9.symm ?_
        refine mg_i0 (va_runV (As := [.long z9]) (rest := []) ⟨hx, hb, hml, hown, hts⟩ (c_number l D ca 59 ad c hn hM z9 _) (cwV 1 hts (gV wm_157 wm_158 wm_159 wm_1 wm_160) rfl rfl rfl (by decide +kernel) ⟨Nat.le_of_ble_eq_true rfl, Nat.le_of_ble_eq_true rfl⟩) (mg_pv (C := RX3) (T := TX3) (N := 9) (ci := 3) hK hP hD hN (by omega : 0 < 59) hM.1 rfl) rfl rfl hl.1 rfl (lv_room (Nat.le_of_ble_eq_true rfl)) dL_law_213 ⟨Nat.le_of_ble_eq_true rfl, Nat.le_of_ble_eq_true rfl⟩) hS hA hD (fun r1 c1 H locs hw1 hP hD hS => ?_)
        obtain ⟨hw1, hfr⟩ := hw1
        have hR1 := hR.keep hfr
        refine lv_aload_n hx hb dL_law_216 rfl (lv_at hl 2 rfl) ?_
        refine lv_aload_n hx hb dL_law_217 rfl (lv_at hl 0 rfl) ?_
        refine lv_iload_n hx hb dL_law_218 rfl (lv_at hl 3 rfl) ?_
        refine lv_iconst (v := 1) hx hb dL_law_219 (by decide) ?_
        refine lv_iadd hx hb dL_law_220 ?_
        refine mx_i (nI (i + 1)) (nI_add i 1) ?_
        refine va_sld hx hb hX hbl hbA hS (vp_in_nI (by omega) (by omega) : vp_in (nI (i + 1)) L) dL_law_221 ?_
        refine mx_i (xs (i + 1)) (by rw [nI_clamp (by omega)]) ?_
        refine lv_i2l (v := (xs (i + 1)).toInt64) hx hb dL_law_222 rfl ?_
        refine lv_bipush (v := 32) hx hb dL_law_223 (by decide) ?_
        refine lv_lshl (v := ((xs (i + 1)).toInt64) <<< ((32 : Int32).toInt64 &&& 63)) hx hb dL_law_225 rfl ?_
        refine lv_aload_n hx hb dL_law_226 rfl (lv_at hl 0 rfl) ?_
        refine lv_iload_n hx hb dL_law_227 rfl (lv_at hl 3 rfl) ?_
        refine lv_iconst (v := 2) hx hb dL_law_228 (by decide) ?_
        refine lv_iadd hx hb dL_law_229 ?_
        refine mx_i (nI (i + 2)) (nI_add i 2) ?_
        refine va_sld hx hb hX hbl hbA hS (vp_in_nI (by omega) (by omega) : vp_in (nI (i + 2)) L) dL_law_230 ?_
        refine mx_i (xs (i + 2)) (by rw [nI_clamp (by omega)]) ?_
        refine lv_i2l (v := (xs (i + 2)).toInt64) hx hb dL_law_231 rfl ?_
        refine lv_ldc2 (v := 4294967295) hx hb hown (hts _ wm_425) dL_law_232 ?_
        refine lv_land hx hb dL_law_235 ?_
        refine lv_lor hx hb dL_law_236 ?_
        refine mx_l z9 hz9.symm ?_
        refine mg_i0 (va_runV (As := [.long z9]) (rest := [.int r1]) ⟨hx, hb, hml, hown, hts⟩ (c_numberR l D ca 59 ad c1 hn9 hR1 z9 _) (cwV 1 hts (gV wm_350 wm_351 wm_352 wm_5 wm_353) rfl rfl rfl (by decide +kernel) ⟨Nat.le_of_ble_eq_true rfl, Nat.le_of_ble_eq_true rfl⟩) (mg_pv (C := RX4) (T := TX4) (N := 20) (ci := 4) hK hP hD hN (by omega : 52 < 59) hR1.1 rfl) rfl rfl hl.1 rfl (lv_room (Nat.le_of_ble_eq_true rfl)) dL_law_237 ⟨Nat.le_of_ble_eq_true rfl, Nat.le_of_ble_eq_true rfl⟩) hS hA hD (fun r2 c2 H locs hw2 hP hD hS => ?_)
        obtain ⟨hw2, hfr2⟩ := hw2
        have hall : r1 = r2 ∧ ∃ ar' ac', tMS ca ad c2 tp pt md ar' ac' ∧ tRS ca ad c2 tp pt md ar' ac' := by
          rcases hw1 with ⟨q1, q2, q3⟩ | ⟨q1, q2, q3⟩ <;> rcases hw2 with ⟨w1, w2, y12, w3⟩ | ⟨w1, w2, w3⟩
          · exact ⟨by rw [q2, w2], _, _, (q3.keep hfr2).ms, w3.rs⟩
          · omega
          · omega
          · exact ⟨by rw [q2, w2], _, _, ((hM.cng q3).keep hfr2).ms, (hR1.cng w3).rs⟩
        obtain ⟨hE, ar', ac', hM2, hR2⟩ := hall
        refine lv_icmp_eq (tgt := 292) hx hb dL_law_240 (by decide) (fun hc9 => ?_) (fun hc9 => ?_)
        · skip
          exact nxt c2 H locs ls _ _ _ _ _ (hM2) (hR2) hP hD hS (lv_sub hl [0, 1, 2, 3] rfl)
        · skip
          exact absurd (hE) hc9
      | 5, _ =>
        refine lv_tableIn (off := 212) (tgt := 245) hx hb dL_law_33 (by decide) (by decide) rfl (by decide) ?_
        refine lv_aload_n hx hb dL_law_245 rfl (lv_at hl 1 rfl) ?_
        refine mg_c0 (va_runV (As := []) (rest := []) ⟨hx, hb, hml, hown, hts⟩ (c_clear l D ca 59 ad c hn hM _) (cwV 0 hts (gV wm_171 wm_172 wm_173 wm_1 wm_174) rfl rfl rfl (by decide +kernel) ⟨Nat.le_of_ble_eq_true rfl, Nat.le_of_ble_eq_true rfl⟩) (mg_pv (C := RX3) (T := TX3) (N := 9) (ci := 3) hK hP hD hN (by omega : 0 < 59) hM.1 rfl) rfl rfl hl.1 rfl (lv_room (Nat.le_of_ble_eq_true rfl)) dL_law_246 ⟨Nat.le_of_ble_eq_true rfl, Nat.le_of_ble_eq_true rfl⟩) hS hA hD (fun c1 H locs hw1 hP hD hS => ?_)
        obtain ⟨hM1, hfr⟩ := hw1
        have hR1 := hR.keep hfr
        refine lv_aload_n hx hb dL_law_249 rfl (lv_at hl 2 rfl) ?_
        refine mg_c0 (va_runV (As := []) (rest := []) ⟨hx, hb, hml, hown, hts⟩ (c_clearR l D ca 59 ad c1 hn9 hR1 _) (cwV 0 hts (gV wm_367 wm_368 wm_369 wm_5 wm_370) rfl rfl rfl (by decide +kernel) ⟨Nat.le_of_ble_eq_true rfl, Nat.le_of_ble_eq_true rfl⟩) (mg_pv (C := RX4) (T := TX4) (N := 20) (ci := 4) hK hP hD hN (by omega : 52 < 59) hR1.1 rfl) rfl rfl hl.1 rfl (lv_room (Nat.le_of_ble_eq_true rfl)) dL_law_250 ⟨Nat.le_of_ble_eq_true rfl, Nat.le_of_ble_eq_true rfl⟩) hS hA hD (fun c2 H locs hw2 hP hD hS => ?_)
        obtain ⟨hR2, hfr2⟩ := hw2
        refine lv_goto (tgt := 292) hx hb dL_law_253 (by decide) ?_
        exact nxt c2 H locs ls _ _ _ _ _ (hM1.keep hfr2).ms hR2.rs hP hD hS (lv_sub hl [0, 1, 2, 3] rfl)
      | 6, _ =>
        refine lv_tableIn (off := 223) (tgt := 256) hx hb dL_law_33 (by decide) (by decide) rfl (by decide) ?_
        refine lv_aload_n hx hb dL_law_256 rfl (lv_at hl 1 rfl) ?_
        refine mg_i0 (va_runV (As := []) (rest := []) ⟨hx, hb, hml, hown, hts⟩ (c_make l D ca 59 ad c hn hM _) (cwV 0 hts (gV wm_175 wm_176 wm_177 wm_1 wm_178) rfl rfl rfl (by decide +kernel) ⟨Nat.le_of_ble_eq_true rfl, Nat.le_of_ble_eq_true rfl⟩) (mg_pv (C := RX3) (T := TX3) (N := 9) (ci := 3) hK hP hD hN (by omega : 0 < 59) hM.1 rfl) rfl rfl hl.1 rfl (lv_room (Nat.le_of_ble_eq_true rfl)) dL_law_257 ⟨Nat.le_of_ble_eq_true rfl, Nat.le_of_ble_eq_true rfl⟩) hS hA hD (fun r1 c1 H locs hw1 hP hD hS => ?_)
        obtain ⟨hr1, hM1, hfr⟩ := hw1
        obtain ⟨tk9, f9, wd9, kd9, bh9, v9, dg9, hM1⟩ := hM1
        have hR1 := hR.keep hfr
        refine lv_aload_n hx hb dL_law_260 rfl (lv_at hl 2 rfl) ?_
        refine mg_i0 (va_runV (As := []) (rest := [.int r1]) ⟨hx, hb, hml, hown, hts⟩ (c_makeR l D ca 59 ad c1 hn9 hR1 _) (cwV 0 hts (gV wm_371 wm_372 wm_373 wm_5 wm_374) rfl rfl rfl (by decide +kernel) ⟨Nat.le_of_ble_eq_true rfl, Nat.le_of_ble_eq_true rfl⟩) (mg_pv (C := RX4) (T := TX4) (N := 20) (ci := 4) hK hP hD hN (by omega : 52 < 59) hR1.1 rfl) rfl rfl hl.1 rfl (lv_room (Nat.le_of_ble_eq_true rfl)) dL_law_261 ⟨Nat.le_of_ble_eq_true rfl, Nat.le_of_ble_eq_true rfl⟩) hS hA hD (fun r2 c2 H locs hw2 hP hD hS => ?_)
        obtain ⟨hr2, hR2, hfr2⟩ := hw2
        refine lv_icmp_eq (tgt := 292) hx hb dL_law_264 (by decide) (fun hc9 => ?_) (fun hc9 => ?_)
        · skip
          exact nxt c2 H locs ls _ _ _ _ _ ((hM1.keep hfr2).ms) (hR2) hP hD hS (lv_sub hl [0, 1, 2, 3] rfl)
        · skip
          exact absurd (by rw [hr1, hr2]) hc9
      | 7, _ =>
        refine lv_tableIn (off := 236) (tgt := 269) hx hb dL_law_33 (by decide) (by decide) rfl (by decide) ?_
        refine lv_aload_n hx hb dL_law_269 rfl (lv_at hl 1 rfl) ?_
        refine lv_aload_n hx hb dL_law_270 rfl (lv_at hl 0 rfl) ?_
        refine lv_iload_n hx hb dL_law_271 rfl (lv_at hl 3 rfl) ?_
        refine lv_iconst (v := 1) hx hb dL_law_272 (by decide) ?_
        refine lv_iadd hx hb dL_law_273 ?_
        refine mx_i (nI (i + 1)) (nI_add i 1) ?_
        refine va_sld hx hb hX hbl hbA hS (vp_in_nI (by omega) (by omega) : vp_in (nI (i + 1)) L) dL_law_274 ?_
        refine mx_i (xs (i + 1)) (by rw [nI_clamp (by omega)]) ?_
        refine mg_i0 (va_runV (As := [.int (xs (i + 1))]) (rest := []) ⟨hx, hb, hml, hown, hts⟩ (c_madeAt l D ca 59 ad c hn hM (xs (i + 1)) _) (cwV 1 hts (gV wm_258 wm_259 wm_260 wm_1 wm_261) rfl rfl rfl (by decide +kernel) ⟨Nat.le_of_ble_eq_true rfl, Nat.le_of_ble_eq_true rfl⟩) (mg_pv (C := RX3) (T := TX3) (N := 9) (ci := 3) hK hP hD hN (by omega : 0 < 59) hM.1 rfl) rfl rfl hl.1 rfl (lv_room (Nat.le_of_ble_eq_true rfl)) dL_law_275 ⟨Nat.le_of_ble_eq_true rfl, Nat.le_of_ble_eq_true rfl⟩) hS hA hD (fun r1 c1 H locs hw1 hP hD hS => ?_)
        obtain ⟨hr1, hcE⟩ := hw1
        rw [hcE] at hP hD
        refine lv_aload_n hx hb dL_law_278 rfl (lv_at hl 2 rfl) ?_
        refine lv_aload_n hx hb dL_law_279 rfl (lv_at hl 0 rfl) ?_
        refine lv_iload_n hx hb dL_law_280 rfl (lv_at hl 3 rfl) ?_
        refine lv_iconst (v := 1) hx hb dL_law_281 (by decide) ?_
        refine lv_iadd hx hb dL_law_282 ?_
        refine mx_i (nI (i + 1)) (nI_add i 1) ?_
        refine va_sld hx hb hX hbl hbA hS (vp_in_nI (by omega) (by omega) : vp_in (nI (i + 1)) L) dL_law_283 ?_
        refine mx_i (xs (i + 1)) (by rw [nI_clamp (by omega)]) ?_
        refine mg_i0 (va_runV (As := [.int (xs (i + 1))]) (rest := [.int r1]) ⟨hx, hb, hml, hown, hts⟩ (c_madeAtR l D ca 59 ad c hn9 hR (xs (i + 1)) _) (cwV 1 hts (gV wm_421 wm_422 wm_423 wm_5 wm_424) rfl rfl rfl (by decide +kernel) ⟨Nat.le_of_ble_eq_true rfl, Nat.le_of_ble_eq_true rfl⟩) (mg_pv (C := RX4) (T := TX4) (N := 20) (ci := 4) hK hP hD hN (by omega : 52 < 59) hR.1 rfl) rfl rfl hl.1 rfl (lv_room (Nat.le_of_ble_eq_true rfl)) dL_law_284 ⟨Nat.le_of_ble_eq_true rfl, Nat.le_of_ble_eq_true rfl⟩) hS hA hD (fun r2 c2 H locs hw2 hP hD hS => ?_)
        obtain ⟨hr2, hcE2⟩ := hw2
        refine lv_icmp_eq (tgt := 292) hx hb dL_law_287 (by decide) (fun hc9 => ?_) (fun hc9 => ?_)
        · skip
          exact nxt c2 H locs ls _ _ _ _ _ ((hM.cng hcE2).ms) ((hR.cng hcE2).rs) hP hD hS (lv_sub hl [0, 1, 2, 3] rfl)
        · skip
          exact absurd (by rw [hr1, hr2]) hc9
