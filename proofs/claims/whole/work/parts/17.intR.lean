set_option maxHeartbeats 4000000 in
set_option maxRecDepth 100000 in
/-- isDecimal -/
theorem c_isDec (l : Launch) (D : va_G) (ca : Nat → ClassId) (n : Nat) (ad : Nat → Nat) (c : Nat → va_E) {x0 x1 x2 x3 x4 x5 x6 x7 x8 x9 x10 x11 x12 : Int32} {v : Int64} (hn : 59 ≤ n) (hO : c 52 = rO ad x0 x1 x2 x3 x4 x5 x6 x7 x8 x9 x10 x11 x12 v) {off : Nat} {t : List Nat} (hB : tB ca c 55 800 off t) (y1 y2 : Int32) (i0 : Nat) (mi : Bool) (hy1 : y1 = nI (off + i0)) (hy2 : y2 = nI (off + t.length)) (hi0 : i0 ≤ t.length) : mInt l yX4_isDecimal wsX4_isDecimal ({ frames := 0, cells := 0, slots := 0, locals := 0 }) [.ref (ad 52), .int y1, .int y2, .int (bI mi)] D (tTY ca) n ad c (fun r c' => ((∃ vv, pDec (t.drop i0) mi = some vv ∧ r = 1 ∧ c' 52 = rO ad x0 x1 x2 x3 x4 x5 x6 x7 x8 x9 x10 x11 x12 vv) ∨ (pDec (t.drop i0) mi = none ∧ r = 0 ∧ ∃ vv, c' 52 = rO ad x0 x1 x2 x3 x4 x5 x6 x7 x8 x9 x10 x11 x12 vv)) ∧ ∀ j, j ≠ 52 → c' j = c j) := by
  intro sz
  refine Met.ofW (cc := cX4_isDecimal) (maxL := 9) (ret := (some .boolean)) (by decide) rfl ?_
  intro pg9 ev9 s m args below meth cd s₁ B hml hv
  obtain ⟨rfl, hsz, hP, hK, hD0, hN⟩ := hv
  have hx := B.exec
  have hb := B.bytes
  have hr := B.returns
  have hts := fun (w : Cond) (h : w ∈ WSa) => atoms_spec (ws := wsX4_isDecimal) B.pre w (List.mem_cons_of_mem _ h)
  have hown : s.vm.findClass RX4 = some m.cls := findClass_of_methodNamed B.named
  have hlocks := B.notSynchronized
  subst hsz
  have hD : ∀ c, va_D (fun _ => True) (mw n ad c) := fun c' => mw_D hD0 c'
  have hS : va_S (mA n ad s.heap.size) s.heap s.heap [] := va_S.rf
  have hl := lv_entry ([.ref (ad 52), .int y1, .int y2, .int (bI mi)]) (n := 9) (Nat.le_of_ble_eq_true rfl)
  rw [lg_entry_eq]
  generalize (lg_sl ([.ref (ad 52), .int y1, .int y2, .int (bI mi)]) ++ List.replicate (9 - (lg_sl ([.ref (ad 52), .int y1, .int y2, .int (bI mi)])).length) Slot.unset).toArray = ls at hl ⊢
  have hl : lv_has ls 9 [(0, .ref (ad 52)), (1, .int y1), (2, .int y2), (3, .int (bI mi))] := hl
  obtain ⟨hle, hcp, hby, f, h55, hf⟩ := id hB
  refine lv_lconst (v := 0) hx hb dX4_isDecimal_0 (by decide) ?_
  refine lv_lstore (lv' := [(4, .long 0), (0, .ref (ad 52)), (1, .int y1), (2, .int y2), (3, .int (bI mi))]) hx hb dX4_isDecimal_1 hl (by decide) rfl (fun ls hl => ?_)
  suffices hj13 : W pg9 l ev9 (headSpec wsX4_isDecimal ({ frames := 0, cells := 0, slots := 0, locals := 0 })).room s m ([.ref (ad 52), .int y1, .int y2, .int (bI mi)] : List Value).toArray below meth cd s.heap [] 0 0 (MQ below (va_Qi (fun r c' => ((∃ vv, pDec (t.drop i0) mi = some vv ∧ r = 1 ∧ c' 52 = rO ad x0 x1 x2 x3 x4 x5 x6 x7 x8 x9 x10 x11 x12 vv) ∨ (pDec (t.drop i0) mi = none ∧ r = 0 ∧ ∃ vv, c' 52 = rO ad x0 x1 x2 x3 x4 x5 x6 x7 x8 x9 x10 x11 x12 vv)) ∧ ∀ j, j ≠ 52 → c' j = c j) (mW D n ad) (mA n ad s.heap.size)) ([.ref (ad 52), .int y1, .int y2, .int (bI mi)] : List Value).toArray s 0 0 (mA n ad s.heap.size)) (F0 m 13 ls [.int (bI (decide (i0 < t.length)))]) by
    refine lv_iload_n hx hb dX4_isDecimal_3 rfl (lv_at hl 2 rfl) ?_
    refine lv_iload_n hx hb dX4_isDecimal_4 rfl (lv_at hl 3 rfl) ?_
    refine lv_icmp_ge (tgt := 12) hx hb dX4_isDecimal_5 (by decide) (fun hc1 => ?_) (fun hc1 => ?_)
    · skip
      refine lv_iconst (v := 0) hx hb dX4_isDecimal_12 (by decide) ?_
      refine mx_i (bI (decide (i0 < t.length))) (by rw [decide_eq_false (by have := (nI_leI (a := off + t.length) (b := off + i0) (by omega) (by omega)).mp (by rw [← hy1, ← hy2]; exact hc1); omega)]; rfl) ?_
      exact hj13
    · skip
      refine lv_iconst (v := 1) hx hb dX4_isDecimal_8 (by decide) ?_
      refine lv_goto (tgt := 13) hx hb dX4_isDecimal_9 (by decide) ?_
      refine mx_i (bI (decide (i0 < t.length))) (by rw [decide_eq_true (by have := (not_congr (nI_leI (a := off + t.length) (b := off + i0) (by omega) (by omega))).mp (by rw [← hy1, ← hy2]; exact hc1); omega)]; rfl) ?_
      exact hj13
  have loop : ∀ (q1 : Nat) (i : Nat) (g : Bool) (v1 : Int64) (v0 : Int64) (c1 : Nat → va_E) (H : Heap) (locs : List Loc) (ls : Array Slot), (i ≤ t.length) → (t.length < i + q1) → (g = true → i0 < t.length ∧ gRd (t.drop i0) 0 = gRd (t.drop i) v1) → (g = false → pDec (t.drop i0) mi = none) → (c1 52 = rO ad x0 x1 x2 x3 x4 x5 x6 x7 x8 x9 x10 x11 x12 v0) → (∀ j, j ≠ 52 → c1 j = c j) → va_P D vwCl (mw n ad c1) H → va_S (mA n ad s.heap.size) s.heap H locs → lv_has ls 9 [(7, .int (nI (off + i))), (6, .int (bI g)), (4, .long v1), (0, .ref (ad 52)), (2, .int y2), (3, .int (bI mi))] → W pg9 l ev9 (headSpec wsX4_isDecimal ({ frames := 0, cells := 0, slots := 0, locals := 0 })).room s m ([.ref (ad 52), .int y1, .int y2, .int (bI mi)] : List Value).toArray below meth cd H locs 0 0 (MQ below (va_Qi (fun r c' => ((∃ vv, pDec (t.drop i0) mi = some vv ∧ r = 1 ∧ c' 52 = rO ad x0 x1 x2 x3 x4 x5 x6 x7 x8 x9 x10 x11 x12 vv) ∨ (pDec (t.drop i0) mi = none ∧ r = 0 ∧ ∃ vv, c' 52 = rO ad x0 x1 x2 x3 x4 x5 x6 x7 x8 x9 x10 x11 x12 vv)) ∧ ∀ j, j ≠ 52 → c' j = c j) (mW D n ad) (mA n ad s.heap.size)) ([.ref (ad 52), .int y1, .int y2, .int (bI mi)] : List Value).toArray s 0 0 (mA n ad s.heap.size)) (F0 m 18 ls []) := by
    intro q1
    induction q1 with
    | zero => intro i g v1 v0 c1 H locs ls hi hq hgt hgf hO1 hs1 hP hS hl; omega
    | succ q1 ih =>
      intro i g v1 v0 c1 H locs ls hi hq hgt hgf hO1 hs1 hP hS hl
      have h55 := (hs1 55 (by omega)).trans h55
      refine lv_iload hx hb dX4_isDecimal_18 (lv_at hl 0 rfl) ?_
      refine lv_iload_n hx hb dX4_isDecimal_20 rfl (lv_at hl 4 rfl) ?_
      refine lv_icmp_ge (tgt := 113) hx hb dX4_isDecimal_21 (by decide) (fun hc3 => ?_) (fun hc3 => ?_)
      · skip
        have hex2 : g = true → t.length ≤ i := fun _ => by have := (nI_leI (a := off + t.length) (b := off + i) (by omega) (by omega)).mp (by rw [← hy2]; exact hc3); omega
        suffices hj136 : W pg9 l ev9 (headSpec wsX4_isDecimal ({ frames := 0, cells := 0, slots := 0, locals := 0 })).room s m ([.ref (ad 52), .int y1, .int y2, .int (bI mi)] : List Value).toArray below meth cd H locs 0 0 (MQ below (va_Qi (fun r c' => ((∃ vv, pDec (t.drop i0) mi = some vv ∧ r = 1 ∧ c' 52 = rO ad x0 x1 x2 x3 x4 x5 x6 x7 x8 x9 x10 x11 x12 vv) ∨ (pDec (t.drop i0) mi = none ∧ r = 0 ∧ ∃ vv, c' 52 = rO ad x0 x1 x2 x3 x4 x5 x6 x7 x8 x9 x10 x11 x12 vv)) ∧ ∀ j, j ≠ 52 → c' j = c j) (mW D n ad) (mA n ad s.heap.size)) ([.ref (ad 52), .int y1, .int y2, .int (bI mi)] : List Value).toArray s 0 0 (mA n ad s.heap.size)) (F0 m 136 ls [.int (bI (g && (mi || decide (¬ v1 = -9223372036854775808))))]) by
          refine lv_iload hx hb dX4_isDecimal_113 (lv_at hl 1 rfl) ?_
          refine lv_if_eq (tgt := 135) hx hb dX4_isDecimal_115 (by decide) (fun hc7 => ?_) (fun hc7 => ?_)
          · skip
            refine lv_iconst (v := 0) hx hb dX4_isDecimal_135 (by decide) ?_
            refine mx_i (bI (g && (mi || decide (¬ v1 = -9223372036854775808)))) (by rw [bI_eq hc7]; rfl) ?_
            exact hj136
          · skip
            refine lv_iload_n hx hb dX4_isDecimal_118 rfl (lv_at hl 5 rfl) ?_
            refine lv_if_ne (tgt := 131) hx hb dX4_isDecimal_119 (by decide) (fun hc8 => ?_) (fun hc8 => ?_)
            · skip
              refine lv_iconst (v := 1) hx hb dX4_isDecimal_131 (by decide) ?_
              refine lv_goto (tgt := 136) hx hb dX4_isDecimal_132 (by decide) ?_
              refine mx_i (bI (g && (mi || decide (¬ v1 = -9223372036854775808)))) (by rw [bI_ne hc7, bI_ne hc8]; rfl) ?_
              exact hj136
            · skip
              refine lv_lload hx hb dX4_isDecimal_122 (lv_at hl 2 rfl) ?_
              refine lv_ldc2 (v := (-9223372036854775808)) hx hb hown (hts _ wm_416) dX4_isDecimal_124 ?_
              refine W.lcmp hx hb dX4_isDecimal_127 ?_
              refine lv_if_eq (tgt := 135) hx hb dX4_isDecimal_128 (by decide) (fun hc9 => ?_) (fun hc9 => ?_)
              · skip
                refine lv_iconst (v := 0) hx hb dX4_isDecimal_135 (by decide) ?_
                refine mx_i (bI (g && (mi || decide (¬ v1 = -9223372036854775808)))) (by rw [bI_ne hc7, bI_eq hc8, decide_eq_false (fun h => h ((lg_cmp_eq _ _).mp hc9))]; rfl) ?_
                exact hj136
              · skip
                refine lv_iconst (v := 1) hx hb dX4_isDecimal_131 (by decide) ?_
                refine lv_goto (tgt := 136) hx hb dX4_isDecimal_132 (by decide) ?_
                refine mx_i (bI (g && (mi || decide (¬ v1 = -9223372036854775808)))) (by rw [bI_ne hc7, bI_eq hc8, decide_eq_true (p := ¬ v1 = -9223372036854775808) (fun h => hc9 ((lg_cmp_eq _ _).mpr h))]; rfl) ?_
                exact hj136
        refine lv_istore (lv' := [(6, .int (bI (g && (mi || decide (¬ v1 = -9223372036854775808))))), (7, .int (nI (off + i))), (4, .long v1), (0, .ref (ad 52)), (2, .int y2), (3, .int (bI mi))]) hx hb dX4_isDecimal_136 hl (by decide) rfl (fun ls hl => ?_)
        refine lv_aload_n hx hb dX4_isDecimal_138 rfl (lv_at hl 3 rfl) ?_
        suffices hj151 : W pg9 l ev9 (headSpec wsX4_isDecimal ({ frames := 0, cells := 0, slots := 0, locals := 0 })).room s m ([.ref (ad 52), .int y1, .int y2, .int (bI mi)] : List Value).toArray below meth cd H locs 0 0 (MQ below (va_Qi (fun r c' => ((∃ vv, pDec (t.drop i0) mi = some vv ∧ r = 1 ∧ c' 52 = rO ad x0 x1 x2 x3 x4 x5 x6 x7 x8 x9 x10 x11 x12 vv) ∨ (pDec (t.drop i0) mi = none ∧ r = 0 ∧ ∃ vv, c' 52 = rO ad x0 x1 x2 x3 x4 x5 x6 x7 x8 x9 x10 x11 x12 vv)) ∧ ∀ j, j ≠ 52 → c' j = c j) (mW D n ad) (mA n ad s.heap.size)) ([.ref (ad 52), .int y1, .int y2, .int (bI mi)] : List Value).toArray s 0 0 (mA n ad s.heap.size)) (F0 m 151 ls [.long (if mi = true then v1 else -v1), .ref (ad 52)]) by
          refine lv_iload_n hx hb dX4_isDecimal_139 rfl (lv_at hl 5 rfl) ?_
          refine lv_if_eq (tgt := 148) hx hb dX4_isDecimal_140 (by decide) (fun hc7 => ?_) (fun hc7 => ?_)
          · skip
            refine lv_lload hx hb dX4_isDecimal_148 (lv_at hl 2 rfl) ?_
            refine lv_lneg hx hb dX4_isDecimal_150 ?_
            refine mx_l (if mi = true then v1 else -v1) (by rw [if_neg (by rw [bI_eq hc7]; decide)]) ?_
            exact hj151
          · skip
            refine lv_lload hx hb dX4_isDecimal_143 (lv_at hl 2 rfl) ?_
            refine lv_goto (tgt := 151) hx hb dX4_isDecimal_145 (by decide) ?_
            refine mx_l (if mi = true then v1 else -v1) (by rw [if_pos (bI_ne hc7)]) ?_
            exact hj151
        refine mx_put (ci := 4) (v := .long (if mi = true then v1 else -v1)) (ty := .long) (C := RX4) (T := TX4) (N := 20) hx hb hts inX4 tyX4 tyX4_ok nmX4 hown hK hP hD hS (by omega : 52 < n) hO1 rfl 19 (by decide) (hts _ wm_287) (fun _ h9 => h9) rfl (by decide +kernel) rfl rfl (Nat.le_of_ble_eq_true rfl) dX4_isDecimal_151 (fun H locs hP hS => ?_)
        obtain ⟨c2, ec2⟩ : ∃ z : Nat → va_E, z = va_up c1 52 (.inr (4, [.ref (ad 53), .ref (ad 54), .ref (ad 55), .ref (ad 56), .int x0, .int x1, .int x2, .int x3, .int x4, .ref (ad 57), .int x5, .int x6, .int x7, .int x8, .int x9, .int x10, .int x11, .ref (ad 58), .int x12, .long (if mi = true then v1 else -v1)])) := ⟨_, rfl⟩
        have hP : va_P D vwCl (mw n ad c2) H := by rw [ec2]; exact hP
        have hsc2 : ∀ j, j ≠ 52 → c2 j = c1 j := fun j h => by rw [ec2]; exact va_up_ne _ _ h
        have hcc2 : c2 52 = .inr (4, [.ref (ad 53), .ref (ad 54), .ref (ad 55), .ref (ad 56), .int x0, .int x1, .int x2, .int x3, .int x4, .ref (ad 57), .int x5, .int x6, .int x7, .int x8, .int x9, .int x10, .int x11, .ref (ad 58), .int x12, .long (if mi = true then v1 else -v1)]) := by rw [ec2]; exact va_up_self _ _ _
        refine lv_iload hx hb dX4_isDecimal_154 (lv_at hl 0 rfl) ?_
        have hfin : ((∃ vv, pDec (t.drop i0) mi = some vv ∧ bI (g && (mi || decide (¬ v1 = -9223372036854775808))) = 1 ∧ c2 52 = rO ad x0 x1 x2 x3 x4 x5 x6 x7 x8 x9 x10 x11 x12 vv) ∨ (pDec (t.drop i0) mi = none ∧ bI (g && (mi || decide (¬ v1 = -9223372036854775808))) = 0 ∧ ∃ vv, c2 52 = rO ad x0 x1 x2 x3 x4 x5 x6 x7 x8 x9 x10 x11 x12 vv)) ∧ ∀ j, j ≠ 52 → c2 j = c j := by
          refine ⟨?_, fun j h => (hsc2 j h).trans (hs1 j h)⟩
          cases g
          · exact Or.inr ⟨hgf rfl, rfl, _, hcc2⟩
          · obtain ⟨hl1, hrd⟩ := hgt rfl
            have hge : t.length ≤ i := hex2 rfl
            rw [dr_nil hge] at hrd
            rw [pDec_s hl1 (hrd.trans rfl)]
            cases mi
            · by_cases hlow : v1 = -9223372036854775808
              · refine Or.inr ⟨by rw [if_neg (by decide), if_pos hlow], by rw [decide_eq_false (fun h => h hlow)]; rfl, _, hcc2⟩
              · refine Or.inl ⟨-v1, by rw [if_neg (by decide), if_neg hlow], by rw [decide_eq_true hlow]; rfl, hcc2⟩
            · exact Or.inl ⟨v1, if_pos rfl, rfl, hcc2⟩
        generalize (g && (mi || decide (¬ v1 = -9223372036854775808))) = gg at hfin ⊢
        cases gg
        · skip
          exact mx_zret hx hb hr hlocks rfl hP hS (hfin) dX4_isDecimal_156
        · skip
          exact mx_zret hx hb hr hlocks rfl hP hS (hfin) dX4_isDecimal_156
      · skip
        have hlt : i < t.length := by have := (not_congr (nI_leI (a := off + t.length) (b := off + i) (by omega) (by omega))).mp (by rw [← hy2]; exact hc3); omega
        refine lv_iload hx hb dX4_isDecimal_24 (lv_at hl 1 rfl) ?_
        refine lv_if_eq (tgt := 113) hx hb dX4_isDecimal_26 (by decide) (fun hc4 => ?_) (fun hc4 => ?_)
        · skip
          have hex2 : g = true → t.length ≤ i := fun h => absurd (bI_eq hc4) (by rw [h]; decide)
          suffices hj136 : W pg9 l ev9 (headSpec wsX4_isDecimal ({ frames := 0, cells := 0, slots := 0, locals := 0 })).room s m ([.ref (ad 52), .int y1, .int y2, .int (bI mi)] : List Value).toArray below meth cd H locs 0 0 (MQ below (va_Qi (fun r c' => ((∃ vv, pDec (t.drop i0) mi = some vv ∧ r = 1 ∧ c' 52 = rO ad x0 x1 x2 x3 x4 x5 x6 x7 x8 x9 x10 x11 x12 vv) ∨ (pDec (t.drop i0) mi = none ∧ r = 0 ∧ ∃ vv, c' 52 = rO ad x0 x1 x2 x3 x4 x5 x6 x7 x8 x9 x10 x11 x12 vv)) ∧ ∀ j, j ≠ 52 → c' j = c j) (mW D n ad) (mA n ad s.heap.size)) ([.ref (ad 52), .int y1, .int y2, .int (bI mi)] : List Value).toArray s 0 0 (mA n ad s.heap.size)) (F0 m 136 ls [.int (bI (g && (mi || decide (¬ v1 = -9223372036854775808))))]) by
            refine lv_iload hx hb dX4_isDecimal_113 (lv_at hl 1 rfl) ?_
            refine lv_if_eq (tgt := 135) hx hb dX4_isDecimal_115 (by decide) (fun hc7 => ?_) (fun hc7 => ?_)
            · skip
              refine lv_iconst (v := 0) hx hb dX4_isDecimal_135 (by decide) ?_
              refine mx_i (bI (g && (mi || decide (¬ v1 = -9223372036854775808)))) (by rw [bI_eq hc7]; rfl) ?_
              exact hj136
            · skip
              refine lv_iload_n hx hb dX4_isDecimal_118 rfl (lv_at hl 5 rfl) ?_
              refine lv_if_ne (tgt := 131) hx hb dX4_isDecimal_119 (by decide) (fun hc8 => ?_) (fun hc8 => ?_)
              · skip
                refine lv_iconst (v := 1) hx hb dX4_isDecimal_131 (by decide) ?_
                refine lv_goto (tgt := 136) hx hb dX4_isDecimal_132 (by decide) ?_
                refine mx_i (bI (g && (mi || decide (¬ v1 = -9223372036854775808)))) (by rw [bI_ne hc7, bI_ne hc8]; rfl) ?_
                exact hj136
              · skip
                refine lv_lload hx hb dX4_isDecimal_122 (lv_at hl 2 rfl) ?_
                refine lv_ldc2 (v := (-9223372036854775808)) hx hb hown (hts _ wm_416) dX4_isDecimal_124 ?_
                refine W.lcmp hx hb dX4_isDecimal_127 ?_
                refine lv_if_eq (tgt := 135) hx hb dX4_isDecimal_128 (by decide) (fun hc9 => ?_) (fun hc9 => ?_)
                · skip
                  refine lv_iconst (v := 0) hx hb dX4_isDecimal_135 (by decide) ?_
                  refine mx_i (bI (g && (mi || decide (¬ v1 = -9223372036854775808)))) (by rw [bI_ne hc7, bI_eq hc8, decide_eq_false (fun h => h ((lg_cmp_eq _ _).mp hc9))]; rfl) ?_
                  exact hj136
                · skip
                  refine lv_iconst (v := 1) hx hb dX4_isDecimal_131 (by decide) ?_
                  refine lv_goto (tgt := 136) hx hb dX4_isDecimal_132 (by decide) ?_
                  refine mx_i (bI (g && (mi || decide (¬ v1 = -9223372036854775808)))) (by rw [bI_ne hc7, bI_eq hc8, decide_eq_true (p := ¬ v1 = -9223372036854775808) (fun h => hc9 ((lg_cmp_eq _ _).mpr h))]; rfl) ?_
                  exact hj136
          refine lv_istore (lv' := [(6, .int (bI (g && (mi || decide (¬ v1 = -9223372036854775808))))), (7, .int (nI (off + i))), (4, .long v1), (0, .ref (ad 52)), (2, .int y2), (3, .int (bI mi))]) hx hb dX4_isDecimal_136 hl (by decide) rfl (fun ls hl => ?_)
          refine lv_aload_n hx hb dX4_isDecimal_138 rfl (lv_at hl 3 rfl) ?_
          suffices hj151 : W pg9 l ev9 (headSpec wsX4_isDecimal ({ frames := 0, cells := 0, slots := 0, locals := 0 })).room s m ([.ref (ad 52), .int y1, .int y2, .int (bI mi)] : List Value).toArray below meth cd H locs 0 0 (MQ below (va_Qi (fun r c' => ((∃ vv, pDec (t.drop i0) mi = some vv ∧ r = 1 ∧ c' 52 = rO ad x0 x1 x2 x3 x4 x5 x6 x7 x8 x9 x10 x11 x12 vv) ∨ (pDec (t.drop i0) mi = none ∧ r = 0 ∧ ∃ vv, c' 52 = rO ad x0 x1 x2 x3 x4 x5 x6 x7 x8 x9 x10 x11 x12 vv)) ∧ ∀ j, j ≠ 52 → c' j = c j) (mW D n ad) (mA n ad s.heap.size)) ([.ref (ad 52), .int y1, .int y2, .int (bI mi)] : List Value).toArray s 0 0 (mA n ad s.heap.size)) (F0 m 151 ls [.long (if mi = true then v1 else -v1), .ref (ad 52)]) by
            refine lv_iload_n hx hb dX4_isDecimal_139 rfl (lv_at hl 5 rfl) ?_
            refine lv_if_eq (tgt := 148) hx hb dX4_isDecimal_140 (by decide) (fun hc7 => ?_) (fun hc7 => ?_)
            · skip
              refine lv_lload hx hb dX4_isDecimal_148 (lv_at hl 2 rfl) ?_
              refine lv_lneg hx hb dX4_isDecimal_150 ?_
              refine mx_l (if mi = true then v1 else -v1) (by rw [if_neg (by rw [bI_eq hc7]; decide)]) ?_
              exact hj151
            · skip
              refine lv_lload hx hb dX4_isDecimal_143 (lv_at hl 2 rfl) ?_
              refine lv_goto (tgt := 151) hx hb dX4_isDecimal_145 (by decide) ?_
              refine mx_l (if mi = true then v1 else -v1) (by rw [if_pos (bI_ne hc7)]) ?_
              exact hj151
          refine mx_put (ci := 4) (v := .long (if mi = true then v1 else -v1)) (ty := .long) (C := RX4) (T := TX4) (N := 20) hx hb hts inX4 tyX4 tyX4_ok nmX4 hown hK hP hD hS (by omega : 52 < n) hO1 rfl 19 (by decide) (hts _ wm_287) (fun _ h9 => h9) rfl (by decide +kernel) rfl rfl (Nat.le_of_ble_eq_true rfl) dX4_isDecimal_151 (fun H locs hP hS => ?_)
          obtain ⟨c2, ec2⟩ : ∃ z : Nat → va_E, z = va_up c1 52 (.inr (4, [.ref (ad 53), .ref (ad 54), .ref (ad 55), .ref (ad 56), .int x0, .int x1, .int x2, .int x3, .int x4, .ref (ad 57), .int x5, .int x6, .int x7, .int x8, .int x9, .int x10, .int x11, .ref (ad 58), .int x12, .long (if mi = true then v1 else -v1)])) := ⟨_, rfl⟩
          have hP : va_P D vwCl (mw n ad c2) H := by rw [ec2]; exact hP
          have hsc2 : ∀ j, j ≠ 52 → c2 j = c1 j := fun j h => by rw [ec2]; exact va_up_ne _ _ h
          have hcc2 : c2 52 = .inr (4, [.ref (ad 53), .ref (ad 54), .ref (ad 55), .ref (ad 56), .int x0, .int x1, .int x2, .int x3, .int x4, .ref (ad 57), .int x5, .int x6, .int x7, .int x8, .int x9, .int x10, .int x11, .ref (ad 58), .int x12, .long (if mi = true then v1 else -v1)]) := by rw [ec2]; exact va_up_self _ _ _
          refine lv_iload hx hb dX4_isDecimal_154 (lv_at hl 0 rfl) ?_
          have hfin : ((∃ vv, pDec (t.drop i0) mi = some vv ∧ bI (g && (mi || decide (¬ v1 = -9223372036854775808))) = 1 ∧ c2 52 = rO ad x0 x1 x2 x3 x4 x5 x6 x7 x8 x9 x10 x11 x12 vv) ∨ (pDec (t.drop i0) mi = none ∧ bI (g && (mi || decide (¬ v1 = -9223372036854775808))) = 0 ∧ ∃ vv, c2 52 = rO ad x0 x1 x2 x3 x4 x5 x6 x7 x8 x9 x10 x11 x12 vv)) ∧ ∀ j, j ≠ 52 → c2 j = c j := by
            refine ⟨?_, fun j h => (hsc2 j h).trans (hs1 j h)⟩
            cases g
            · exact Or.inr ⟨hgf rfl, rfl, _, hcc2⟩
            · obtain ⟨hl1, hrd⟩ := hgt rfl
              have hge : t.length ≤ i := hex2 rfl
              rw [dr_nil hge] at hrd
              rw [pDec_s hl1 (hrd.trans rfl)]
              cases mi
              · by_cases hlow : v1 = -9223372036854775808
                · refine Or.inr ⟨by rw [if_neg (by decide), if_pos hlow], by rw [decide_eq_false (fun h => h hlow)]; rfl, _, hcc2⟩
                · refine Or.inl ⟨-v1, by rw [if_neg (by decide), if_neg hlow], by rw [decide_eq_true hlow]; rfl, hcc2⟩
              · exact Or.inl ⟨v1, if_pos rfl, rfl, hcc2⟩
          generalize (g && (mi || decide (¬ v1 = -9223372036854775808))) = gg at hfin ⊢
          cases gg
          · skip
            exact mx_zret hx hb hr hlocks rfl hP hS (hfin) dX4_isDecimal_156
          · skip
            exact mx_zret hx hb hr hlocks rfl hP hS (hfin) dX4_isDecimal_156
        · skip
          have hgT : g = true := bI_ne hc4
          obtain ⟨hl1, hrd⟩ := hgt hgT
          have hb8 : t.getD i 0 < 256 := hby _ (gD_mem hlt)
          refine lv_aload_n hx hb dX4_isDecimal_29 rfl (lv_at hl 3 rfl) ?_
          refine mx_get (ci := 4) (v := .ref (ad 55)) (C := RX4) (T := TX4) (N := 20) hx hb hts inX4 hown hK hP (by omega : 52 < n) hO1 rfl 2 (by decide) (hts _ wm_270) (fun _ h9 => h9) rfl dX4_isDecimal_30 ?_
          refine lv_iload hx hb dX4_isDecimal_33 (lv_at hl 0 rfl) ?_
          refine mx_bald hx hb hK hP (by omega : 55 < n) 2 h55 rfl (vp_in_nI (by omega) (by omega)) dX4_isDecimal_35 ?_
          refine mx_i (sB (t.getD i 0)) (by rw [nI_clamp (by omega)]; exact hf i hlt) ?_
          refine lv_bipush (v := 48) hx hb dX4_isDecimal_36 (by decide) ?_
          refine lv_isub hx hb dX4_isDecimal_38 ?_
          obtain ⟨d, hd⟩ : ∃ d : Int32, d = sB (t.getD i 0) - 48 := ⟨_, rfl⟩
          refine mx_i d hd.symm ?_
          refine lv_istore (lv' := [(8, .int d), (7, .int (nI (off + i))), (6, .int (bI g)), (4, .long v1), (0, .ref (ad 52)), (2, .int y2), (3, .int (bI mi))]) hx hb dX4_isDecimal_39 hl (by decide) rfl (fun ls hl => ?_)
          suffices hj84 : W pg9 l ev9 (headSpec wsX4_isDecimal ({ frames := 0, cells := 0, slots := 0, locals := 0 })).room s m ([.ref (ad 52), .int y1, .int y2, .int (bI mi)] : List Value).toArray below meth cd H locs 0 0 (MQ below (va_Qi (fun r c' => ((∃ vv, pDec (t.drop i0) mi = some vv ∧ r = 1 ∧ c' 52 = rO ad x0 x1 x2 x3 x4 x5 x6 x7 x8 x9 x10 x11 x12 vv) ∨ (pDec (t.drop i0) mi = none ∧ r = 0 ∧ ∃ vv, c' 52 = rO ad x0 x1 x2 x3 x4 x5 x6 x7 x8 x9 x10 x11 x12 vv)) ∧ ∀ j, j ≠ 52 → c' j = c j) (mW D n ad) (mA n ad s.heap.size)) ([.ref (ad 52), .int y1, .int y2, .int (bI mi)] : List Value).toArray s 0 0 (mA n ad s.heap.size)) (F0 m 84 ls [.int (bI (dcG v1 d))]) by
            refine lv_iload hx hb dX4_isDecimal_41 (lv_at hl 0 rfl) ?_
            refine lv_if_lt (tgt := 83) hx hb dX4_isDecimal_43 (by decide) (fun hc5 => ?_) (fun hc5 => ?_)
            · skip
              refine lv_iconst (v := 0) hx hb dX4_isDecimal_83 (by decide) ?_
              refine mx_i (bI (dcG v1 d)) (by rw [show dcG v1 d = false from decide_eq_false (fun h => absurd h.1 (Int32.not_le.mpr hc5))]; rfl) ?_
              exact hj84
            · skip
              refine lv_iload hx hb dX4_isDecimal_46 (lv_at hl 0 rfl) ?_
              refine lv_bipush (v := 9) hx hb dX4_isDecimal_48 (by decide) ?_
              refine lv_icmp_gt (tgt := 83) hx hb dX4_isDecimal_50 (by decide) (fun hc6 => ?_) (fun hc6 => ?_)
              · skip
                refine lv_iconst (v := 0) hx hb dX4_isDecimal_83 (by decide) ?_
                refine mx_i (bI (dcG v1 d)) (by rw [show dcG v1 d = false from decide_eq_false (fun h => absurd h.2.1 (Int32.not_le.mpr hc6))]; rfl) ?_
                exact hj84
              · skip
                refine lv_lload hx hb dX4_isDecimal_53 (lv_at hl 3 rfl) ?_
                refine lv_ldc2 (v := (-922337203685477580)) hx hb hown (hts _ wm_415) dX4_isDecimal_55 ?_
                refine W.lcmp hx hb dX4_isDecimal_58 ?_
                refine lv_if_lt (tgt := 83) hx hb dX4_isDecimal_59 (by decide) (fun hc7 => ?_) (fun hc7 => ?_)
                · skip
                  refine lv_iconst (v := 0) hx hb dX4_isDecimal_83 (by decide) ?_
                  refine mx_i (bI (dcG v1 d)) (by rw [show dcG v1 d = false from decide_eq_false (fun h => absurd h.2.2.1 (Int64.not_le.mpr ((lg_cmp_lt _ _).mp hc7)))]; rfl) ?_
                  exact hj84
                · skip
                  refine lv_ldc2 (v := 10) hx hb hown (hts _ wm_362) dX4_isDecimal_62 ?_
                  refine lv_lload hx hb dX4_isDecimal_65 (lv_at hl 3 rfl) ?_
                  refine lv_lmul hx hb dX4_isDecimal_67 ?_
                  refine lv_ldc2 (v := (-9223372036854775808)) hx hb hown (hts _ wm_416) dX4_isDecimal_68 ?_
                  refine lv_iload hx hb dX4_isDecimal_71 (lv_at hl 0 rfl) ?_
                  refine lv_i2l (v := d.toInt64) hx hb dX4_isDecimal_73 rfl ?_
                  refine lv_ladd hx hb dX4_isDecimal_74 ?_
                  refine W.lcmp hx hb dX4_isDecimal_75 ?_
                  refine lv_if_lt (tgt := 83) hx hb dX4_isDecimal_76 (by decide) (fun hc8 => ?_) (fun hc8 => ?_)
                  · skip
                    refine lv_iconst (v := 0) hx hb dX4_isDecimal_83 (by decide) ?_
                    refine mx_i (bI (dcG v1 d)) (by rw [show dcG v1 d = false from decide_eq_false (fun h => absurd h.2.2.2 (Int64.not_le.mpr ((lg_cmp_lt _ _).mp hc8)))]; rfl) ?_
                    exact hj84
                  · skip
                    refine lv_iconst (v := 1) hx hb dX4_isDecimal_79 (by decide) ?_
                    refine lv_goto (tgt := 84) hx hb dX4_isDecimal_80 (by decide) ?_
                    refine mx_i (bI (dcG v1 d)) (by rw [show dcG v1 d = true from decide_eq_true ⟨Int32.not_lt.mp hc5, Int32.not_lt.mp hc6, Int64.not_lt.mp (fun h => hc7 ((lg_cmp_lt _ _).mpr h)), Int64.not_lt.mp (fun h => hc8 ((lg_cmp_lt _ _).mpr h))⟩]; rfl) ?_
                    exact hj84
          refine lv_istore (lv' := [(6, .int (bI (dcG v1 d))), (8, .int d), (7, .int (nI (off + i))), (4, .long v1), (0, .ref (ad 52)), (2, .int y2), (3, .int (bI mi))]) hx hb dX4_isDecimal_84 hl (by decide) rfl (fun ls hl => ?_)
          suffices hj105 : W pg9 l ev9 (headSpec wsX4_isDecimal ({ frames := 0, cells := 0, slots := 0, locals := 0 })).room s m ([.ref (ad 52), .int y1, .int y2, .int (bI mi)] : List Value).toArray below meth cd H locs 0 0 (MQ below (va_Qi (fun r c' => ((∃ vv, pDec (t.drop i0) mi = some vv ∧ r = 1 ∧ c' 52 = rO ad x0 x1 x2 x3 x4 x5 x6 x7 x8 x9 x10 x11 x12 vv) ∨ (pDec (t.drop i0) mi = none ∧ r = 0 ∧ ∃ vv, c' 52 = rO ad x0 x1 x2 x3 x4 x5 x6 x7 x8 x9 x10 x11 x12 vv)) ∧ ∀ j, j ≠ 52 → c' j = c j) (mW D n ad) (mA n ad s.heap.size)) ([.ref (ad 52), .int y1, .int y2, .int (bI mi)] : List Value).toArray s 0 0 (mA n ad s.heap.size)) (F0 m 105 ls [.long (if dcG v1 d = true then 10 * v1 - d.toInt64 else 0)]) by
            refine lv_iload hx hb dX4_isDecimal_86 (lv_at hl 0 rfl) ?_
            refine lv_if_eq (tgt := 104) hx hb dX4_isDecimal_88 (by decide) (fun hc5 => ?_) (fun hc5 => ?_)
            · skip
              refine lv_lconst (v := 0) hx hb dX4_isDecimal_104 (by decide) ?_
              refine mx_l (if dcG v1 d = true then 10 * v1 - d.toInt64 else 0) (by rw [if_neg (by rw [bI_eq hc5]; decide)]) ?_
              exact hj105
            · skip
              refine lv_ldc2 (v := 10) hx hb hown (hts _ wm_362) dX4_isDecimal_91 ?_
              refine lv_lload hx hb dX4_isDecimal_94 (lv_at hl 3 rfl) ?_
              refine lv_lmul hx hb dX4_isDecimal_96 ?_
              refine lv_iload hx hb dX4_isDecimal_97 (lv_at hl 1 rfl) ?_
              refine lv_i2l (v := d.toInt64) hx hb dX4_isDecimal_99 rfl ?_
              refine lv_lsub hx hb dX4_isDecimal_100 ?_
              refine lv_goto (tgt := 105) hx hb dX4_isDecimal_101 (by decide) ?_
              refine mx_l (if dcG v1 d = true then 10 * v1 - d.toInt64 else 0) (by rw [if_pos (bI_ne hc5)]) ?_
              exact hj105
          refine lv_lstore (lv' := [(4, .long (if dcG v1 d = true then 10 * v1 - d.toInt64 else 0)), (6, .int (bI (dcG v1 d))), (8, .int d), (7, .int (nI (off + i))), (0, .ref (ad 52)), (2, .int y2), (3, .int (bI mi))]) hx hb dX4_isDecimal_105 hl (by decide) rfl (fun ls hl => ?_)
          have hst : gRd (t.drop i) v1 = if dcG v1 d = true then gRd (t.drop (i + 1)) (10 * v1 - d.toInt64) else none := by
            rw [dr_cons hlt]
            exact dc_step hb8 hd
          have hrd2 : dcG v1 d = true → gRd (t.drop i0) 0 = gRd (t.drop (i + 1)) (if dcG v1 d = true then 10 * v1 - d.toInt64 else 0) := fun h => by rw [hrd, hst, if_pos h, if_pos h]
          have hgf2 : dcG v1 d = false → pDec (t.drop i0) mi = none := fun h => pDec_n hl1 (by rw [hrd, hst, if_neg (by rw [h]; decide)])
          refine lv_iinc (v := nI (off + (i + 1))) (lv' := [(7, .int (nI (off + (i + 1)))), (4, .long (if dcG v1 d = true then 10 * v1 - d.toInt64 else 0)), (6, .int (bI (dcG v1 d))), (8, .int d), (0, .ref (ad 52)), (2, .int y2), (3, .int (bI mi))]) hx hb dX4_isDecimal_107 hl (k := 3) rfl (nI_1 (off + i)) (by decide) rfl (fun ls hl => ?_)
          refine lv_goto (tgt := 18) hx hb dX4_isDecimal_110 (by decide) ?_
          exact ih (i + 1) (dcG v1 d) _ v0 c1 H locs ls (by omega) (by omega) (fun h => ⟨hl1, hrd2 h⟩) hgf2 hO1 hs1 hP hS (lv_sub hl [0, 2, 1, 4, 5, 6] rfl)
  refine lv_istore (lv' := [(6, .int (bI (decide (i0 < t.length)))), (4, .long 0), (0, .ref (ad 52)), (1, .int y1), (2, .int y2), (3, .int (bI mi))]) hx hb dX4_isDecimal_13 hl (by decide) rfl (fun ls hl => ?_)
  refine lv_iload_n hx hb dX4_isDecimal_15 rfl (lv_at hl 3 rfl) ?_
  refine lv_istore (lv' := [(7, .int y1), (6, .int (bI (decide (i0 < t.length)))), (4, .long 0), (0, .ref (ad 52)), (1, .int y1), (2, .int y2), (3, .int (bI mi))]) hx hb dX4_isDecimal_16 hl (by decide) rfl (fun ls hl => ?_)
  exact loop (t.length + 1 - i0) i0 (decide (i0 < t.length)) 0 v c _ _ ls hi0 (by omega) (fun h => ⟨of_decide_eq_true h, rfl⟩) (fun h => by rw [dr_nil (by have := of_decide_eq_false h; omega)]; rfl) hO (fun j h => rfl) hP hS (by have h9 := (lv_sub hl [0, 1, 2, 3, 5, 6] rfl); rw [← hy1]; exact h9)
set_option maxHeartbeats 4000000 in
set_option maxRecDepth 100000 in
/-- isInteger(a) -/
theorem c_isInt (l : Launch) (D : va_G) (ca : Nat → ClassId) (n : Nat) (ad : Nat → Nat) (c : Nat → va_E) {x0 x1 x2 x3 x4 x5 x6 x7 x8 x9 x10 x11 x12 : Int32} {v : Int64} (hn : 59 ≤ n) (hO : c 52 = rO ad x0 x1 x2 x3 x4 x5 x6 x7 x8 x9 x10 x11 x12 v) {ar : Nat → List Nat} {ac : Nat} (hW : tWd ca c ar ac) (a : Nat) (ha : a < ac) (hac : ac ≤ 20) : mInt l yX4_isInteger wsX4_isInteger ({ frames := 2, cells := 0, slots := 0, locals := 48 }) [.ref (ad 52), .int (nI a)] D (tTY ca) n ad c (fun r c' => ((∃ vv, pNum (ar a) = some vv ∧ r = 1 ∧ c' 52 = rO ad x0 x1 x2 x3 x4 x5 x6 x7 x8 x9 x10 x11 x12 vv) ∨ (pNum (ar a) = none ∧ r = 0 ∧ ∃ vv, c' 52 = rO ad x0 x1 x2 x3 x4 x5 x6 x7 x8 x9 x10 x11 x12 vv)) ∧ ∀ j, j ≠ 52 → c' j = c j) := by
  intro sz
  refine Met.ofW (cc := cX4_isInteger) (maxL := 7) (ret := (some .boolean)) (by decide) rfl ?_
  intro pg9 ev9 s m args below meth cd s₁ B hml hv
  obtain ⟨rfl, hsz, hP, hK, hD0, hN⟩ := hv
  have hx := B.exec
  have hb := B.bytes
  have hr := B.returns
  have hts := fun (w : Cond) (h : w ∈ WSa) => atoms_spec (ws := wsX4_isInteger) B.pre w (List.mem_cons_of_mem _ h)
  have hown : s.vm.findClass RX4 = some m.cls := findClass_of_methodNamed B.named
  have hlocks := B.notSynchronized
  subst hsz
  have hD : ∀ c, va_D (fun _ => True) (mw n ad c) := fun c' => mw_D hD0 c'
  have hS : va_S (mA n ad s.heap.size) s.heap s.heap [] := va_S.rf
  have hl := lv_entry ([.ref (ad 52), .int (nI a)]) (n := 7) (Nat.le_of_ble_eq_true rfl)
  rw [lg_entry_eq]
  generalize (lg_sl ([.ref (ad 52), .int (nI a)]) ++ List.replicate (7 - (lg_sl ([.ref (ad 52), .int (nI a)])).length) Slot.unset).toArray = ls at hl ⊢
  have hl : lv_has ls 7 [(0, .ref (ad 52)), (1, .int (nI a))] := hl
  obtain ⟨f, g57, h55, h57, hW1⟩ := id hW
  obtain ⟨hsz, hl40, hb8, hff⟩ := hW1 a ha
  generalize htt : ar a = t at hsz hl40 hb8 hff ⊢
  have hB : tB ca c 55 800 (40 * a) t := ⟨by omega, by omega, hb8, f, h55, hff⟩
  refine lv_bipush (v := 40) hx hb dX4_isInteger_0 (by decide) ?_
  refine lv_iload_n hx hb dX4_isInteger_2 rfl (lv_at hl 1 rfl) ?_
  refine lv_imul hx hb dX4_isInteger_3 ?_
  refine mx_i (nI (40 * a)) (pk_mul 40 a) ?_
  refine lv_istore_n (lv' := [(2, .int (nI (40 * a))), (0, .ref (ad 52)), (1, .int (nI a))]) hx hb dX4_isInteger_4 rfl hl (by decide) rfl (fun ls hl => ?_)
  refine lv_iload_n hx hb dX4_isInteger_5 rfl (lv_at hl 0 rfl) ?_
  refine lv_aload_n hx hb dX4_isInteger_6 rfl (lv_at hl 1 rfl) ?_
  refine mx_get (ci := 4) (v := .ref (ad 57)) (C := RX4) (T := TX4) (N := 20) hx hb hts inX4 hown hK hP (by omega : 52 < n) hO rfl 9 (by decide) (hts _ wm_277) (fun _ h9 => h9) rfl dX4_isInteger_7 ?_
  refine lv_iload_n hx hb dX4_isInteger_10 rfl (lv_at hl 2 rfl) ?_
  refine mx_iald hx hb hK hP (by omega : 57 < n) 0 h57 rfl (vp_in_nI (by omega) (by omega)) dX4_isInteger_11 ?_
  refine mx_i (nI t.length) (by rw [nI_clamp (by omega)]; exact hsz) ?_
  refine lv_iadd hx hb dX4_isInteger_12 ?_
  refine mx_i (nI (40 * a + t.length)) (nI_add _ _) ?_
  refine lv_istore_n (lv' := [(3, .int (nI (40 * a + t.length))), (2, .int (nI (40 * a))), (0, .ref (ad 52)), (1, .int (nI a))]) hx hb dX4_isInteger_13 rfl hl (by decide) rfl (fun ls hl => ?_)
  suffices hj35 : W pg9 l ev9 (headSpec wsX4_isInteger ({ frames := 2, cells := 0, slots := 0, locals := 48 })).room s m ([.ref (ad 52), .int (nI a)] : List Value).toArray below meth cd s.heap [] 0 0 (MQ below (va_Qi (fun r c' => ((∃ vv, pNum t = some vv ∧ r = 1 ∧ c' 52 = rO ad x0 x1 x2 x3 x4 x5 x6 x7 x8 x9 x10 x11 x12 vv) ∨ (pNum t = none ∧ r = 0 ∧ ∃ vv, c' 52 = rO ad x0 x1 x2 x3 x4 x5 x6 x7 x8 x9 x10 x11 x12 vv)) ∧ ∀ j, j ≠ 52 → c' j = c j) (mW D n ad) (mA n ad s.heap.size)) ([.ref (ad 52), .int (nI a)] : List Value).toArray s 0 0 (mA n ad s.heap.size)) (F0 m 35 ls [.int (bI (decide (tAt t 0 = 45)))]) by
    refine lv_iload_n hx hb dX4_isInteger_14 rfl (lv_at hl 1 rfl) ?_
    refine lv_iload_n hx hb dX4_isInteger_15 rfl (lv_at hl 0 rfl) ?_
    refine lv_icmp_ge (tgt := 34) hx hb dX4_isInteger_16 (by decide) (fun hc1 => ?_) (fun hc1 => ?_)
    · skip
      refine lv_iconst (v := 0) hx hb dX4_isInteger_34 (by decide) ?_
      refine mx_i (bI (decide (tAt t 0 = 45))) (by rw [show tAt t 0 = -1 from if_neg (by have := (nI_leI (by omega) (by omega)).mp hc1; omega)]; rfl) ?_
      exact hj35
    · skip
      have hl0 : 0 < t.length := by have := (not_congr (nI_leI (a := 40 * a + t.length) (b := 40 * a) (by omega) (by omega))).mp hc1; omega
      refine lv_aload_n hx hb dX4_isInteger_19 rfl (lv_at hl 2 rfl) ?_
      refine mx_get (ci := 4) (v := .ref (ad 55)) (C := RX4) (T := TX4) (N := 20) hx hb hts inX4 hown hK hP (by omega : 52 < n) hO rfl 2 (by decide) (hts _ wm_270) (fun _ h9 => h9) rfl dX4_isInteger_20 ?_
      refine lv_iload_n hx hb dX4_isInteger_23 rfl (lv_at hl 1 rfl) ?_
      refine mx_bald hx hb hK hP (by omega : 55 < n) 2 h55 rfl (vp_in_nI (by omega) (by omega)) dX4_isInteger_24 ?_
      refine mx_i (sB (t.getD 0 0)) (by rw [nI_clamp (by omega)]; exact hff 0 (by omega)) ?_
      refine lv_bipush (v := 45) hx hb dX4_isInteger_25 (by decide) ?_
      refine lv_icmp_ne (tgt := 34) hx hb dX4_isInteger_27 (by decide) (fun hc2 => ?_) (fun hc2 => ?_)
      · skip
        refine lv_iconst (v := 0) hx hb dX4_isInteger_34 (by decide) ?_
        refine mx_i (bI (decide (tAt t 0 = 45))) (by rw [decide_eq_false (p := tAt t 0 = 45) (fun h => hc2 ((tAt_sB hb8 hl0 (k := 45) (by decide)).mp h))]; rfl) ?_
        exact hj35
      · skip
        refine lv_iconst (v := 1) hx hb dX4_isInteger_30 (by decide) ?_
        refine lv_goto (tgt := 35) hx hb dX4_isInteger_31 (by decide) ?_
        refine mx_i (bI (decide (tAt t 0 = 45))) (by rw [decide_eq_true (p := tAt t 0 = 45) ((tAt_sB hb8 hl0 (k := 45) (by decide)).mpr hc2)]; rfl) ?_
        exact hj35
  refine lv_istore (lv' := [(4, .int (bI (decide (tAt t 0 = 45)))), (3, .int (nI (40 * a + t.length))), (2, .int (nI (40 * a))), (0, .ref (ad 52)), (1, .int (nI a))]) hx hb dX4_isInteger_35 hl (by decide) rfl (fun ls hl => ?_)
  suffices hj65 : W pg9 l ev9 (headSpec wsX4_isInteger ({ frames := 2, cells := 0, slots := 0, locals := 48 })).room s m ([.ref (ad 52), .int (nI a)] : List Value).toArray below meth cd s.heap [] 0 0 (MQ below (va_Qi (fun r c' => ((∃ vv, pNum t = some vv ∧ r = 1 ∧ c' 52 = rO ad x0 x1 x2 x3 x4 x5 x6 x7 x8 x9 x10 x11 x12 vv) ∨ (pNum t = none ∧ r = 0 ∧ ∃ vv, c' 52 = rO ad x0 x1 x2 x3 x4 x5 x6 x7 x8 x9 x10 x11 x12 vv)) ∧ ∀ j, j ≠ 52 → c' j = c j) (mW D n ad) (mA n ad s.heap.size)) ([.ref (ad 52), .int (nI a)] : List Value).toArray s 0 0 (mA n ad s.heap.size)) (F0 m 65 ls [.int (nI (40 * a + (if tAt t 0 = 45 ∨ tAt t 0 = 43 then 1 else 0)))]) by
    refine lv_iload_n hx hb dX4_isInteger_37 rfl (lv_at hl 2 rfl) ?_
    refine lv_iload_n hx hb dX4_isInteger_38 rfl (lv_at hl 1 rfl) ?_
    refine lv_icmp_ge (tgt := 64) hx hb dX4_isInteger_39 (by decide) (fun hc1 => ?_) (fun hc1 => ?_)
    · skip
      refine lv_iload_n hx hb dX4_isInteger_64 rfl (lv_at hl 2 rfl) ?_
      refine mx_i (nI (40 * a + (if tAt t 0 = 45 ∨ tAt t 0 = 43 then 1 else 0))) (by rw [if_neg (by rw [show tAt t 0 = -1 from if_neg (by have := (nI_leI (by omega) (by omega)).mp hc1; omega)]; decide)]; rfl) ?_
      exact hj65
    · skip
      have hl0 : 0 < t.length := by have := (not_congr (nI_leI (a := 40 * a + t.length) (b := 40 * a) (by omega) (by omega))).mp hc1; omega
      refine lv_iload hx hb dX4_isInteger_42 (lv_at hl 0 rfl) ?_
      refine lv_if_ne (tgt := 58) hx hb dX4_isInteger_44 (by decide) (fun hc2 => ?_) (fun hc2 => ?_)
      · skip
        refine lv_iload_n hx hb dX4_isInteger_58 rfl (lv_at hl 2 rfl) ?_
        refine lv_iconst (v := 1) hx hb dX4_isInteger_59 (by decide) ?_
        refine lv_iadd hx hb dX4_isInteger_60 ?_
        refine lv_goto (tgt := 65) hx hb dX4_isInteger_61 (by decide) ?_
        refine mx_i (nI (40 * a + (if tAt t 0 = 45 ∨ tAt t 0 = 43 then 1 else 0))) (by rw [if_pos (Or.inl (of_decide_eq_true (bI_ne hc2)))]; exact nI_1 _) ?_
        exact hj65
      · skip
        refine lv_aload_n hx hb dX4_isInteger_47 rfl (lv_at hl 3 rfl) ?_
        refine mx_get (ci := 4) (v := .ref (ad 55)) (C := RX4) (T := TX4) (N := 20) hx hb hts inX4 hown hK hP (by omega : 52 < n) hO rfl 2 (by decide) (hts _ wm_270) (fun _ h9 => h9) rfl dX4_isInteger_48 ?_
        refine lv_iload_n hx hb dX4_isInteger_51 rfl (lv_at hl 2 rfl) ?_
        refine mx_bald hx hb hK hP (by omega : 55 < n) 2 h55 rfl (vp_in_nI (by omega) (by omega)) dX4_isInteger_52 ?_
        refine mx_i (sB (t.getD 0 0)) (by rw [nI_clamp (by omega)]; exact hff 0 (by omega)) ?_
        refine lv_bipush (v := 43) hx hb dX4_isInteger_53 (by decide) ?_
        refine lv_icmp_ne (tgt := 64) hx hb dX4_isInteger_55 (by decide) (fun hc3 => ?_) (fun hc3 => ?_)
        · skip
          refine lv_iload_n hx hb dX4_isInteger_64 rfl (lv_at hl 2 rfl) ?_
          refine mx_i (nI (40 * a + (if tAt t 0 = 45 ∨ tAt t 0 = 43 then 1 else 0))) (by rw [if_neg (fun h => h.elim (of_decide_eq_false (bI_eq hc2)) (fun q => hc3 ((tAt_sB hb8 hl0 (k := 43) (by decide)).mp q)))]; rfl) ?_
          exact hj65
        · skip
          refine lv_iload_n hx hb dX4_isInteger_58 rfl (lv_at hl 2 rfl) ?_
          refine lv_iconst (v := 1) hx hb dX4_isInteger_59 (by decide) ?_
          refine lv_iadd hx hb dX4_isInteger_60 ?_
          refine lv_goto (tgt := 65) hx hb dX4_isInteger_61 (by decide) ?_
          refine mx_i (nI (40 * a + (if tAt t 0 = 45 ∨ tAt t 0 = 43 then 1 else 0))) (by rw [if_pos (c := tAt t 0 = 45 ∨ tAt t 0 = 43) (Or.inr ((tAt_sB hb8 hl0 (k := 43) (by decide)).mpr hc3))]; exact nI_1 _) ?_
          exact hj65
  obtain ⟨fr, hfr⟩ : ∃ fr, (if tAt t 0 = 45 ∨ tAt t 0 = 43 then 1 else 0) = fr := ⟨_, rfl⟩
  have hfl : fr ≤ t.length ∧ fr ≤ 1 := by rw [← hfr]; exact fr_le
  refine mx_i (nI (40 * a + fr)) (by rw [hfr]) ?_
  refine lv_istore (lv' := [(5, .int (nI (40 * a + fr))), (4, .int (bI (decide (tAt t 0 = 45)))), (3, .int (nI (40 * a + t.length))), (2, .int (nI (40 * a))), (0, .ref (ad 52)), (1, .int (nI a))]) hx hb dX4_isInteger_65 hl (by decide) rfl (fun ls hl => ?_)
  suffices hj106 : W pg9 l ev9 (headSpec wsX4_isInteger ({ frames := 2, cells := 0, slots := 0, locals := 48 })).room s m ([.ref (ad 52), .int (nI a)] : List Value).toArray below meth cd s.heap [] 0 0 (MQ below (va_Qi (fun r c' => ((∃ vv, pNum t = some vv ∧ r = 1 ∧ c' 52 = rO ad x0 x1 x2 x3 x4 x5 x6 x7 x8 x9 x10 x11 x12 vv) ∨ (pNum t = none ∧ r = 0 ∧ ∃ vv, c' 52 = rO ad x0 x1 x2 x3 x4 x5 x6 x7 x8 x9 x10 x11 x12 vv)) ∧ ∀ j, j ≠ 52 → c' j = c j) (mW D n ad) (mA n ad s.heap.size)) ([.ref (ad 52), .int (nI a)] : List Value).toArray s 0 0 (mA n ad s.heap.size)) (F0 m 106 ls [.int (bI (decide (tAt (t.drop fr) 0 = 48 ∧ tAt (t.drop fr) 1 = 120)))]) by
    refine lv_iload hx hb dX4_isInteger_67 (lv_at hl 0 rfl) ?_
    refine lv_iconst (v := 1) hx hb dX4_isInteger_69 (by decide) ?_
    refine lv_iadd hx hb dX4_isInteger_70 ?_
    refine mx_i (nI (40 * a + (fr + 1))) (nI_1 _) ?_
    refine lv_iload_n hx hb dX4_isInteger_71 rfl (lv_at hl 2 rfl) ?_
    refine lv_icmp_ge (tgt := 105) hx hb dX4_isInteger_72 (by decide) (fun hc1 => ?_) (fun hc1 => ?_)
    · skip
      refine lv_iconst (v := 0) hx hb dX4_isInteger_105 (by decide) ?_
      refine mx_i (bI (decide (tAt (t.drop fr) 0 = 48 ∧ tAt (t.drop fr) 1 = 120))) (by rw [decide_eq_false (fun h => absurd h.2 (by rw [tAt_drop, show tAt t (fr + 1) = -1 from if_neg (by have := (nI_leI (by omega) (by omega)).mp hc1; omega)]; decide))]; rfl) ?_
      exact hj106
    · skip
      have hl1 : fr + 1 < t.length := by have := (not_congr (nI_leI (a := 40 * a + t.length) (b := 40 * a + (fr + 1)) (by omega) (by omega))).mp hc1; omega
      refine lv_aload_n hx hb dX4_isInteger_75 rfl (lv_at hl 4 rfl) ?_
      refine mx_get (ci := 4) (v := .ref (ad 55)) (C := RX4) (T := TX4) (N := 20) hx hb hts inX4 hown hK hP (by omega : 52 < n) hO rfl 2 (by decide) (hts _ wm_270) (fun _ h9 => h9) rfl dX4_isInteger_76 ?_
      refine lv_iload hx hb dX4_isInteger_79 (lv_at hl 0 rfl) ?_
      refine mx_bald hx hb hK hP (by omega : 55 < n) 2 h55 rfl (vp_in_nI (by omega) (by omega)) dX4_isInteger_81 ?_
      refine mx_i (sB (t.getD fr 0)) (by rw [nI_clamp (by omega)]; exact hff fr (by omega)) ?_
      refine lv_bipush (v := 48) hx hb dX4_isInteger_82 (by decide) ?_
      refine lv_icmp_ne (tgt := 105) hx hb dX4_isInteger_84 (by decide) (fun hc2 => ?_) (fun hc2 => ?_)
      · skip
        refine lv_iconst (v := 0) hx hb dX4_isInteger_105 (by decide) ?_
        refine mx_i (bI (decide (tAt (t.drop fr) 0 = 48 ∧ tAt (t.drop fr) 1 = 120))) (by rw [decide_eq_false (fun h => hc2 ((tAt_sB hb8 (by omega : fr < t.length) (k := 48) (by decide)).mp (by have := h.1; rw [tAt_drop] at this; exact this)))]; rfl) ?_
        exact hj106
      · skip
        refine lv_aload_n hx hb dX4_isInteger_87 rfl (lv_at hl 4 rfl) ?_
        refine mx_get (ci := 4) (v := .ref (ad 55)) (C := RX4) (T := TX4) (N := 20) hx hb hts inX4 hown hK hP (by omega : 52 < n) hO rfl 2 (by decide) (hts _ wm_270) (fun _ h9 => h9) rfl dX4_isInteger_88 ?_
        refine lv_iload hx hb dX4_isInteger_91 (lv_at hl 0 rfl) ?_
        refine lv_iconst (v := 1) hx hb dX4_isInteger_93 (by decide) ?_
        refine lv_iadd hx hb dX4_isInteger_94 ?_
        refine mx_i (nI (40 * a + (fr + 1))) (nI_1 _) ?_
        refine mx_bald hx hb hK hP (by omega : 55 < n) 2 h55 rfl (vp_in_nI (by omega) (by omega)) dX4_isInteger_95 ?_
        refine mx_i (sB (t.getD (fr + 1) 0)) (by rw [nI_clamp (by omega)]; exact hff (fr + 1) (by omega)) ?_
        refine lv_bipush (v := 120) hx hb dX4_isInteger_96 (by decide) ?_
        refine lv_icmp_ne (tgt := 105) hx hb dX4_isInteger_98 (by decide) (fun hc3 => ?_) (fun hc3 => ?_)
        · skip
          refine lv_iconst (v := 0) hx hb dX4_isInteger_105 (by decide) ?_
          refine mx_i (bI (decide (tAt (t.drop fr) 0 = 48 ∧ tAt (t.drop fr) 1 = 120))) (by rw [decide_eq_false (fun h => hc3 ((tAt_sB hb8 hl1 (k := 120) (by decide)).mp (by have := h.2; rw [tAt_drop] at this; exact this)))]; rfl) ?_
          exact hj106
        · skip
          refine lv_iconst (v := 1) hx hb dX4_isInteger_101 (by decide) ?_
          refine lv_goto (tgt := 106) hx hb dX4_isInteger_102 (by decide) ?_
          refine mx_i (bI (decide (tAt (t.drop fr) 0 = 48 ∧ tAt (t.drop fr) 1 = 120))) (by rw [decide_eq_true ⟨by rw [tAt_drop]; exact (tAt_sB hb8 (by omega : fr < t.length) (k := 48) (by decide)).mpr hc2, by rw [tAt_drop]; exact (tAt_sB hb8 hl1 (k := 120) (by decide)).mpr hc3⟩]; rfl) ?_
          exact hj106
  refine lv_istore (lv' := [(6, .int (bI (decide (tAt (t.drop fr) 0 = 48 ∧ tAt (t.drop fr) 1 = 120)))), (5, .int (nI (40 * a + fr))), (4, .int (bI (decide (tAt t 0 = 45)))), (3, .int (nI (40 * a + t.length))), (2, .int (nI (40 * a))), (0, .ref (ad 52)), (1, .int (nI a))]) hx hb dX4_isInteger_106 hl (by decide) rfl (fun ls hl => ?_)
  refine lv_iload hx hb dX4_isInteger_108 (lv_at hl 0 rfl) ?_
  refine lv_if_eq (tgt := 127) hx hb dX4_isInteger_110 (by decide) (fun hc1 => ?_) (fun hc1 => ?_)
  · skip
    have hh := of_decide_eq_false (bI_eq hc1)
    refine lv_aload_n hx hb dX4_isInteger_127 rfl (lv_at hl 5 rfl) ?_
    refine lv_iload hx hb dX4_isInteger_128 (lv_at hl 1 rfl) ?_
    refine lv_iload_n hx hb dX4_isInteger_130 rfl (lv_at hl 3 rfl) ?_
    refine lv_iload hx hb dX4_isInteger_131 (lv_at hl 2 rfl) ?_
    refine mx_ci (va_runV (As := [.int (nI (40 * a + fr)), .int (nI (40 * a + t.length)), .int (bI (decide (tAt t 0 = 45)))]) (rest := []) ⟨hx, hb, hml, hown, hts⟩ (c_isDec l D ca n ad c hn hO hB (nI (40 * a + fr)) (nI (40 * a + t.length)) fr (decide (tAt t 0 = 45)) rfl rfl hfl.1 _) (cwV 3 hts (gV wm_411 wm_413 ws_23 wm_5 wm_414) rfl rfl rfl (by decide +kernel) ⟨Nat.le_of_ble_eq_true rfl, Nat.le_of_ble_eq_true rfl⟩) (mx_pv (C := RX4) (T := TX4) (N := 20) (ci := 4) hK hP hD hN (by omega : 52 < n) hO rfl) rfl rfl hl.1 rfl (lv_room (Nat.le_of_ble_eq_true rfl)) dX4_isInteger_133 ⟨Nat.zero_le _, Nat.zero_le _⟩) (Nat.le_refl _) hS (fun r c2 H locs hw hP hS => ?_)
    have hpn : pNum t = pDec (t.drop fr) (decide (tAt t 0 = 45)) := by unfold pNum; rw [hfr, if_neg hh]
    rw [← hpn] at hw
    obtain rfl | rfl : r = 1 ∨ r = 0 := by rcases hw.1 with ⟨vv, h1, h2, h3⟩ | ⟨h1, h2, h3⟩; exact Or.inl h2; exact Or.inr h2
    · skip
      exact mx_zret hx hb hr hlocks rfl hP hS (hw) dX4_isInteger_136
    · skip
      exact mx_zret hx hb hr hlocks rfl hP hS (hw) dX4_isInteger_136
  · skip
    have hh := of_decide_eq_true (bI_ne hc1)
    have hl1 : fr + 1 < t.length := by rcases Nat.lt_or_ge (fr + 1) t.length with h | h; exact h; have h9 := hh.2; rw [tAt_drop, show tAt t (fr + 1) = -1 from if_neg (by omega)] at h9; exact absurd h9 (by decide)
    refine lv_aload_n hx hb dX4_isInteger_113 rfl (lv_at hl 5 rfl) ?_
    refine lv_iload hx hb dX4_isInteger_114 (lv_at hl 1 rfl) ?_
    refine lv_iconst (v := 2) hx hb dX4_isInteger_116 (by decide) ?_
    refine lv_iadd hx hb dX4_isInteger_117 ?_
    refine mx_i (nI (40 * a + (fr + 2))) (nI_add _ 2) ?_
    refine lv_iload_n hx hb dX4_isInteger_118 rfl (lv_at hl 3 rfl) ?_
    refine lv_iload hx hb dX4_isInteger_119 (lv_at hl 2 rfl) ?_
    refine mx_ci (va_runV (As := [.int (nI (40 * a + (fr + 2))), .int (nI (40 * a + t.length)), .int (bI (decide (tAt t 0 = 45)))]) (rest := []) ⟨hx, hb, hml, hown, hts⟩ (c_isHex l D ca n ad c hn hO hB (nI (40 * a + (fr + 2))) (nI (40 * a + t.length)) (fr + 2) (decide (tAt t 0 = 45)) rfl rfl (by omega) _) (cwV 3 hts (gV wm_404 wm_406 ws_22 wm_5 wm_407) rfl rfl rfl (by decide +kernel) ⟨Nat.le_of_ble_eq_true rfl, Nat.le_of_ble_eq_true rfl⟩) (mx_pv (C := RX4) (T := TX4) (N := 20) (ci := 4) hK hP hD hN (by omega : 52 < n) hO rfl) rfl rfl hl.1 rfl (lv_room (Nat.le_of_ble_eq_true rfl)) dX4_isInteger_121 ⟨Nat.zero_le _, Nat.zero_le _⟩) (Nat.le_refl _) hS (fun r c2 H locs hw hP hS => ?_)
    have hpn : pNum t = pHex (t.drop (fr + 2)) (decide (tAt t 0 = 45)) := by unfold pNum; rw [hfr, if_pos hh]
    rw [← hpn] at hw
    refine lv_goto (tgt := 136) hx hb dX4_isInteger_124 (by decide) ?_
    obtain rfl | rfl : r = 1 ∨ r = 0 := by rcases hw.1 with ⟨vv, h1, h2, h3⟩ | ⟨h1, h2, h3⟩; exact Or.inl h2; exact Or.inr h2
    · skip
      exact mx_zret hx hb hr hlocks rfl hP hS (hw) dX4_isInteger_136
    · skip
      exact mx_zret hx hb hr hlocks rfl hP hS (hw) dX4_isInteger_136
