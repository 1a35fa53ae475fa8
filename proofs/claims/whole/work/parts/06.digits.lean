set_option maxHeartbeats 4000000 in
set_option maxRecDepth 100000 in
/-- Text.addDecimalDigits(v) -/
theorem c_Text_dec (l : Launch) (D : va_G) (ca : Nat → ClassId) (n : Nat) (ad : Nat → Nat) (c : Nat → va_E) {k cap : Nat} {t : List Nat} (hk : k + 1 < n) (hT : tTx ca ad c k cap t) (v : Int64) (hroom : t.length + 19 ≤ cap) : mVoid l yX2_addDecimalDigits wsX2_addDecimalDigits ({ frames := 1, cells := 0, slots := 0, locals := 21 }) [.ref (ad k), .long v] D (tTY ca) n ad c (fun c' => tSm c c' k ∧ tTx ca ad c' k cap (t ++ tDec v)) := by
  intro sz
  refine Met.ofW (cc := cX2_addDecimalDigits) (maxL := 7) (ret := none) (by decide) rfl ?_
  intro pg9 ev9 s m args below meth cd s₁ B hml hv
  obtain ⟨rfl, hsz, hP, hK, hD0, hN⟩ := hv
  have hx := B.exec
  have hb := B.bytes
  have hr := B.returns
  have hts := fun (w : Cond) (h : w ∈ WSa) => atoms_spec (ws := wsX2_addDecimalDigits) B.pre w (List.mem_cons_of_mem _ h)
  have hown : s.vm.findClass RX2 = some m.cls := findClass_of_methodNamed B.named
  have hlocks := B.notSynchronized
  subst hsz
  have hD : ∀ c, va_D (fun _ => True) (mw n ad c) := fun c' => mw_D hD0 c'
  have hS : va_S (mA n ad s.heap.size) s.heap s.heap [] := va_S.rf
  have hl := lv_entry ([.ref (ad k), .long v]) (n := 7) (Nat.le_of_ble_eq_true rfl)
  rw [lg_entry_eq]
  generalize (lg_sl ([.ref (ad k), .long v]) ++ List.replicate (7 - (lg_sl ([.ref (ad k), .long v])).length) Slot.unset).toArray = ls at hl ⊢
  have hl : lv_has ls 7 [(0, .ref (ad k)), (1, .long v)] := hl
  have hcp := hT.cap
  have loop : ∀ (q1 : Nat) (e : Nat) (b : Bool) (t1 : List Nat) (c1 : Nat → va_E) (H : Heap) (locs : List Loc) (ls : Array Slot), (e ≤ 19) → (e < q1) → (t1.length + e ≤ cap) → (tSm c c1 k) → (tTx ca ad c1 k cap t1) → (t ++ dgF (dDig v) dCh 19 false = t1 ++ dgF (dDig v) dCh e b) → va_P D vwCl (mw n ad c1) H → va_S (mA n ad s.heap.size) s.heap H locs → lv_has ls 7 [(3, .int (bI b)), (4, .long (tU e)), (0, .ref (ad k)), (1, .long v)] → W pg9 l ev9 (headSpec wsX2_addDecimalDigits ({ frames := 1, cells := 0, slots := 0, locals := 21 })).room s m ([.ref (ad k), .long v] : List Value).toArray below meth cd H locs 0 0 (MQ below (va_Qv (fun c' => tSm c c' k ∧ tTx ca ad c' k cap (t ++ tDec v)) (mW D n ad) (mA n ad s.heap.size)) ([.ref (ad k), .long v] : List Value).toArray s 0 0 (mA n ad s.heap.size)) (F0 m 7 ls []) := by
    intro q1
    induction q1 with
    | zero => intro e b t1 c1 H locs ls he hq hrm hs1 hT1 heq hP hS hl; omega
    | succ q1 ih =>
      intro e b t1 c1 H locs ls he hq hrm hs1 hT1 heq hP hS hl
      refine lv_lload hx hb dX2_addDecimalDigits_7 (lv_at hl 1 rfl) ?_
      refine lv_lconst (v := 0) hx hb dX2_addDecimalDigits_9 (by decide) ?_
      refine W.lcmp hx hb dX2_addDecimalDigits_10 ?_
      refine lv_if_le (tgt := 75) hx hb dX2_addDecimalDigits_11 (by decide) (fun hc => ?_) (fun hc => ?_)
      · skip
        have he0 : e = 0 := by
          rcases e with _ | e
          · rfl
          · exact absurd ((lg_cmp_le _ _).mp hc) (tU_pos e (by omega))
        exact mx_vret hx hb hr hlocks hP hS (⟨hs1, by have h9 := heq; rw [he0] at h9; unfold tDec; rw [h9]; show tTx ca ad c1 k cap (t1 ++ []); rw [List.append_nil]; exact hT1⟩) dX2_addDecimalDigits_75
      · skip
        obtain ⟨e1, he1⟩ : ∃ e1, e = e1 + 1 := by
          rcases e with _ | e
          · exact absurd ((lg_cmp_le _ _).mpr (by decide)) hc
          · exact ⟨e, rfl⟩
        refine lv_lload_n hx hb dX2_addDecimalDigits_14 rfl (lv_at hl 3 rfl) ?_
        refine lv_lload hx hb dX2_addDecimalDigits_15 (lv_at hl 1 rfl) ?_
        refine lv_ldiv hx hb dX2_addDecimalDigits_17 (by rw [he1]; exact tU_ne e1 (by omega)) ?_
        refine lv_ldc2 (v := 10) hx hb hown (hts _ wm_167) dX2_addDecimalDigits_18 ?_
        refine lv_lrem hx hb dX2_addDecimalDigits_21 (by decide) ?_
        refine lv_l2i (v := ((v / (tU e)) - (v / (tU e)) / 10 * 10).toInt32) hx hb dX2_addDecimalDigits_22 rfl ?_
        refine va_mabs hx hb (by rw [hml]; exact hl.1.symm) hown (hts _ wm_168) (hts _ wm_169) (hts _ wm_6) (hts _ wm_170) (Nat.le_of_ble_eq_true rfl) (Nat.le_of_ble_eq_true rfl) (Nat.zero_le _) (Nat.zero_le _) dX2_addDecimalDigits_23 ?_
        refine mx_i (nI (dDig v e1)) (by rw [he1]; exact dDig_eq v (by omega)) ?_
        refine lv_istore (lv' := [(6, .int (nI (dDig v e1))), (3, .int (bI b)), (4, .long (tU e)), (0, .ref (ad k)), (1, .long v)]) hx hb dX2_addDecimalDigits_26 hl (by decide) rfl (fun ls hl => ?_)
        refine lv_iload_n hx hb dX2_addDecimalDigits_28 rfl (lv_at hl 1 rfl) ?_
        refine lv_if_ne (tgt := 44) hx hb dX2_addDecimalDigits_29 (by decide) (fun hc1 => ?_) (fun hc1 => ?_)
        · skip
          refine lv_iconst (v := 1) hx hb dX2_addDecimalDigits_44 (by decide) ?_
          refine lv_goto (tgt := 49) hx hb dX2_addDecimalDigits_45 (by decide) ?_
          refine lv_istore_n (lv' := [(3, .int 1), (6, .int (nI (dDig v e1))), (4, .long (tU e)), (0, .ref (ad k)), (1, .long v)]) hx hb dX2_addDecimalDigits_49 rfl hl (by decide) rfl (fun ls hl => ?_)
          refine lv_iload_n hx hb dX2_addDecimalDigits_50 rfl (lv_at hl 0 rfl) ?_
          refine lv_if_eq (tgt := 64) hx hb dX2_addDecimalDigits_51 (by decide) (fun hc9 => ?_) (fun hc9 => ?_)
          · skip
            exact absurd hc9 (by decide)
          · skip
            refine lv_aload_n hx hb dX2_addDecimalDigits_54 rfl (lv_at hl 3 rfl) ?_
            refine lv_bipush (v := 48) hx hb dX2_addDecimalDigits_55 (by decide) ?_
            refine lv_iload hx hb dX2_addDecimalDigits_57 (lv_at hl 1 rfl) ?_
            refine lv_iadd hx hb dX2_addDecimalDigits_59 ?_
            refine mx_i (nI (48 + dDig v e1)) (by exact (nI_add 48 (dDig v e1))) ?_
            refine mx_ci (va_runV (As := [.int (nI (48 + dDig v e1))]) (rest := []) ⟨hx, hb, hml, hown, hts⟩ (c_Text_add l D ca n ad c1 hk hT1 (nI (48 + dDig v e1)) _) (cwV 1 hts (gV wm_117 wm_118 wm_119 wm_2 wm_120) rfl rfl rfl (by decide +kernel) ⟨Nat.le_of_ble_eq_true rfl, Nat.le_of_ble_eq_true rfl⟩) (mx_pv (C := RX2) (T := TX2) (N := 2) (ci := 2) hK hP hD hN (by omega : k < n) hT1.cell rfl) rfl rfl hl.1 rfl (lv_room (Nat.le_of_ble_eq_true rfl)) dX2_addDecimalDigits_60 ⟨Nat.zero_le _, Nat.zero_le _⟩) (Nat.le_refl _) hS (fun r c2 H locs hw hP hS => ?_)
            obtain ⟨-, -, hs2, hT2⟩ := hw.resolve_right (fun h => by have h9 := h.1; omega)
            refine lv_pop hx hb dX2_addDecimalDigits_63 rfl ?_
            refine lv_lload hx hb dX2_addDecimalDigits_64 (lv_at hl 2 rfl) ?_
            refine lv_ldc2 (v := 10) hx hb hown (hts _ wm_167) dX2_addDecimalDigits_66 ?_
            refine lv_ldiv hx hb dX2_addDecimalDigits_69 (by decide) ?_
            refine mx_l (tU e1) (by rw [he1]; exact tU_step e1 (by omega)) ?_
            refine lv_lstore (lv' := [(4, .long (tU e1)), (3, .int 1), (6, .int (nI (dDig v e1))), (0, .ref (ad k)), (1, .long v)]) hx hb dX2_addDecimalDigits_70 hl (by decide) rfl (fun ls hl => ?_)
            refine lv_goto (tgt := 7) hx hb dX2_addDecimalDigits_72 (by decide) ?_
            exact ih e1 true (t1 ++ [48 + dDig v e1]) c2 H locs ls (by omega) (by omega) (by rw [List.length_append]; simp only [List.length_cons, List.length_nil]; omega) (hs1.tr hs2) (by rw [by8_nI (by have := dDig_lt v e1; omega)] at hT2; exact hT2) (by rw [heq, he1, dgF_t (Or.inl (bI_ne hc1)), List.append_assoc]; rfl) hP hS (lv_sub hl [1, 0, 3, 4] rfl)
        · skip
          refine lv_iload hx hb dX2_addDecimalDigits_32 (lv_at hl 0 rfl) ?_
          refine lv_if_ne (tgt := 44) hx hb dX2_addDecimalDigits_34 (by decide) (fun hc2 => ?_) (fun hc2 => ?_)
          · skip
            refine lv_iconst (v := 1) hx hb dX2_addDecimalDigits_44 (by decide) ?_
            refine lv_goto (tgt := 49) hx hb dX2_addDecimalDigits_45 (by decide) ?_
            refine lv_istore_n (lv' := [(3, .int 1), (6, .int (nI (dDig v e1))), (4, .long (tU e)), (0, .ref (ad k)), (1, .long v)]) hx hb dX2_addDecimalDigits_49 rfl hl (by decide) rfl (fun ls hl => ?_)
            refine lv_iload_n hx hb dX2_addDecimalDigits_50 rfl (lv_at hl 0 rfl) ?_
            refine lv_if_eq (tgt := 64) hx hb dX2_addDecimalDigits_51 (by decide) (fun hc9 => ?_) (fun hc9 => ?_)
            · skip
              exact absurd hc9 (by decide)
            · skip
              refine lv_aload_n hx hb dX2_addDecimalDigits_54 rfl (lv_at hl 3 rfl) ?_
              refine lv_bipush (v := 48) hx hb dX2_addDecimalDigits_55 (by decide) ?_
              refine lv_iload hx hb dX2_addDecimalDigits_57 (lv_at hl 1 rfl) ?_
              refine lv_iadd hx hb dX2_addDecimalDigits_59 ?_
              refine mx_i (nI (48 + dDig v e1)) (by exact (nI_add 48 (dDig v e1))) ?_
              refine mx_ci (va_runV (As := [.int (nI (48 + dDig v e1))]) (rest := []) ⟨hx, hb, hml, hown, hts⟩ (c_Text_add l D ca n ad c1 hk hT1 (nI (48 + dDig v e1)) _) (cwV 1 hts (gV wm_117 wm_118 wm_119 wm_2 wm_120) rfl rfl rfl (by decide +kernel) ⟨Nat.le_of_ble_eq_true rfl, Nat.le_of_ble_eq_true rfl⟩) (mx_pv (C := RX2) (T := TX2) (N := 2) (ci := 2) hK hP hD hN (by omega : k < n) hT1.cell rfl) rfl rfl hl.1 rfl (lv_room (Nat.le_of_ble_eq_true rfl)) dX2_addDecimalDigits_60 ⟨Nat.zero_le _, Nat.zero_le _⟩) (Nat.le_refl _) hS (fun r c2 H locs hw hP hS => ?_)
              obtain ⟨-, -, hs2, hT2⟩ := hw.resolve_right (fun h => by have h9 := h.1; omega)
              refine lv_pop hx hb dX2_addDecimalDigits_63 rfl ?_
              refine lv_lload hx hb dX2_addDecimalDigits_64 (lv_at hl 2 rfl) ?_
              refine lv_ldc2 (v := 10) hx hb hown (hts _ wm_167) dX2_addDecimalDigits_66 ?_
              refine lv_ldiv hx hb dX2_addDecimalDigits_69 (by decide) ?_
              refine mx_l (tU e1) (by rw [he1]; exact tU_step e1 (by omega)) ?_
              refine lv_lstore (lv' := [(4, .long (tU e1)), (3, .int 1), (6, .int (nI (dDig v e1))), (0, .ref (ad k)), (1, .long v)]) hx hb dX2_addDecimalDigits_70 hl (by decide) rfl (fun ls hl => ?_)
              refine lv_goto (tgt := 7) hx hb dX2_addDecimalDigits_72 (by decide) ?_
              exact ih e1 true (t1 ++ [48 + dDig v e1]) c2 H locs ls (by omega) (by omega) (by rw [List.length_append]; simp only [List.length_cons, List.length_nil]; omega) (hs1.tr hs2) (by rw [by8_nI (by have := dDig_lt v e1; omega)] at hT2; exact hT2) (by rw [heq, he1, dgF_t (Or.inr (Or.inl (fun h => hc2 (by rw [h]; exact nI_0)))), List.append_assoc]; rfl) hP hS (lv_sub hl [1, 0, 3, 4] rfl)
          · skip
            have hd0 : dDig v e1 = 0 := (nI_eq (by have := dDig_lt v e1; omega) (by omega)).mp (by rw [hc2]; exact nI_0.symm)
            refine lv_lload hx hb dX2_addDecimalDigits_37 (lv_at hl 2 rfl) ?_
            refine lv_lconst (v := 1) hx hb dX2_addDecimalDigits_39 (by decide) ?_
            refine W.lcmp hx hb dX2_addDecimalDigits_40 ?_
            refine lv_if_ne (tgt := 48) hx hb dX2_addDecimalDigits_41 (by decide) (fun hc3 => ?_) (fun hc3 => ?_)
            · skip
              refine lv_iconst (v := 0) hx hb dX2_addDecimalDigits_48 (by decide) ?_
              refine lv_istore_n (lv' := [(3, .int 0), (6, .int (nI (dDig v e1))), (4, .long (tU e)), (0, .ref (ad k)), (1, .long v)]) hx hb dX2_addDecimalDigits_49 rfl hl (by decide) rfl (fun ls hl => ?_)
              refine lv_iload_n hx hb dX2_addDecimalDigits_50 rfl (lv_at hl 0 rfl) ?_
              refine lv_if_eq (tgt := 64) hx hb dX2_addDecimalDigits_51 (by decide) (fun hc9 => ?_) (fun hc9 => ?_)
              · skip
                refine lv_lload hx hb dX2_addDecimalDigits_64 (lv_at hl 2 rfl) ?_
                refine lv_ldc2 (v := 10) hx hb hown (hts _ wm_167) dX2_addDecimalDigits_66 ?_
                refine lv_ldiv hx hb dX2_addDecimalDigits_69 (by decide) ?_
                refine mx_l (tU e1) (by rw [he1]; exact tU_step e1 (by omega)) ?_
                refine lv_lstore (lv' := [(4, .long (tU e1)), (3, .int 0), (6, .int (nI (dDig v e1))), (0, .ref (ad k)), (1, .long v)]) hx hb dX2_addDecimalDigits_70 hl (by decide) rfl (fun ls hl => ?_)
                refine lv_goto (tgt := 7) hx hb dX2_addDecimalDigits_72 (by decide) ?_
                exact ih e1 false t1 c1 H locs ls (by omega) (by omega) (by omega) hs1 hT1 (by rw [heq, he1, dgF_f (bI_eq hc1) hd0 (fun h => hc3 ((lg_cmp_eq _ _).mpr (by rw [he1, h]; decide)))]) hP hS (lv_sub hl [1, 0, 3, 4] rfl)
              · skip
                exact absurd rfl hc9
            · skip
              refine lv_iconst (v := 1) hx hb dX2_addDecimalDigits_44 (by decide) ?_
              refine lv_goto (tgt := 49) hx hb dX2_addDecimalDigits_45 (by decide) ?_
              refine lv_istore_n (lv' := [(3, .int 1), (6, .int (nI (dDig v e1))), (4, .long (tU e)), (0, .ref (ad k)), (1, .long v)]) hx hb dX2_addDecimalDigits_49 rfl hl (by decide) rfl (fun ls hl => ?_)
              refine lv_iload_n hx hb dX2_addDecimalDigits_50 rfl (lv_at hl 0 rfl) ?_
              refine lv_if_eq (tgt := 64) hx hb dX2_addDecimalDigits_51 (by decide) (fun hc9 => ?_) (fun hc9 => ?_)
              · skip
                exact absurd hc9 (by decide)
              · skip
                refine lv_aload_n hx hb dX2_addDecimalDigits_54 rfl (lv_at hl 3 rfl) ?_
                refine lv_bipush (v := 48) hx hb dX2_addDecimalDigits_55 (by decide) ?_
                refine lv_iload hx hb dX2_addDecimalDigits_57 (lv_at hl 1 rfl) ?_
                refine lv_iadd hx hb dX2_addDecimalDigits_59 ?_
                refine mx_i (nI (48 + dDig v e1)) (by exact (nI_add 48 (dDig v e1))) ?_
                refine mx_ci (va_runV (As := [.int (nI (48 + dDig v e1))]) (rest := []) ⟨hx, hb, hml, hown, hts⟩ (c_Text_add l D ca n ad c1 hk hT1 (nI (48 + dDig v e1)) _) (cwV 1 hts (gV wm_117 wm_118 wm_119 wm_2 wm_120) rfl rfl rfl (by decide +kernel) ⟨Nat.le_of_ble_eq_true rfl, Nat.le_of_ble_eq_true rfl⟩) (mx_pv (C := RX2) (T := TX2) (N := 2) (ci := 2) hK hP hD hN (by omega : k < n) hT1.cell rfl) rfl rfl hl.1 rfl (lv_room (Nat.le_of_ble_eq_true rfl)) dX2_addDecimalDigits_60 ⟨Nat.zero_le _, Nat.zero_le _⟩) (Nat.le_refl _) hS (fun r c2 H locs hw hP hS => ?_)
                obtain ⟨-, -, hs2, hT2⟩ := hw.resolve_right (fun h => by have h9 := h.1; omega)
                refine lv_pop hx hb dX2_addDecimalDigits_63 rfl ?_
                refine lv_lload hx hb dX2_addDecimalDigits_64 (lv_at hl 2 rfl) ?_
                refine lv_ldc2 (v := 10) hx hb hown (hts _ wm_167) dX2_addDecimalDigits_66 ?_
                refine lv_ldiv hx hb dX2_addDecimalDigits_69 (by decide) ?_
                refine mx_l (tU e1) (by rw [he1]; exact tU_step e1 (by omega)) ?_
                refine lv_lstore (lv' := [(4, .long (tU e1)), (3, .int 1), (6, .int (nI (dDig v e1))), (0, .ref (ad k)), (1, .long v)]) hx hb dX2_addDecimalDigits_70 hl (by decide) rfl (fun ls hl => ?_)
                refine lv_goto (tgt := 7) hx hb dX2_addDecimalDigits_72 (by decide) ?_
                exact ih e1 true (t1 ++ [48 + dDig v e1]) c2 H locs ls (by omega) (by omega) (by rw [List.length_append]; simp only [List.length_cons, List.length_nil]; omega) (hs1.tr hs2) (by rw [by8_nI (by have := dDig_lt v e1; omega)] at hT2; exact hT2) (by rw [heq, he1, dgF_t (Or.inr (Or.inr ((tU_one e1 (by omega)).mp (by rw [← he1]; exact (lg_cmp_eq _ _).mp hc3)))), List.append_assoc]; rfl) hP hS (lv_sub hl [1, 0, 3, 4] rfl)
  refine lv_iconst (v := 0) hx hb dX2_addDecimalDigits_0 (by decide) ?_
  refine lv_istore_n (lv' := [(3, .int 0), (0, .ref (ad k)), (1, .long v)]) hx hb dX2_addDecimalDigits_1 rfl hl (by decide) rfl (fun ls hl => ?_)
  refine lv_ldc2 (v := 1000000000000000000) hx hb hown (hts _ wm_166) dX2_addDecimalDigits_2 ?_
  refine lv_lstore (lv' := [(4, .long 1000000000000000000), (3, .int 0), (0, .ref (ad k)), (1, .long v)]) hx hb dX2_addDecimalDigits_5 hl (by decide) rfl (fun ls hl => ?_)
  exact loop 20 19 false t c _ _ ls (by omega) (by omega) hroom tSm.rf hT rfl hP hS (by have h9 := (lv_sub hl [1, 0, 2, 3] rfl); exact h9)
set_option maxHeartbeats 4000000 in
set_option maxRecDepth 100000 in
/-- Text.addBits -/
theorem c_Text_bits (l : Launch) (D : va_G) (ca : Nat → ClassId) (n : Nat) (ad : Nat → Nat) (c : Nat → va_E) {k cap : Nat} {t : List Nat} (hk : k + 1 < n) (hT : tTx ca ad c k cap t) (v : Int64) (x3 x4 x5 : Int32) (mo bt lb : Nat) (h3 : x3 = nI mo) (h4 : x4 = nI bt) (h5 : x5 = nI lb) (hbt : bt = 3 ∨ bt = 4) (hmo : mo * bt ≤ 66) (hmo2 : mo ≤ 22) (hlb : 10 ≤ lb ∧ lb < 200) (hroom : t.length + mo ≤ cap) : mVoid l yX2_addBits wsX2_addBits ({ frames := 1, cells := 0, slots := 0, locals := 21 }) [.ref (ad k), .long v, .int x3, .int x4, .int x5] D (tTY ca) n ad c (fun c' => tSm c c' k ∧ tTx ca ad c' k cap (t ++ tBits v mo bt lb)) := by
  intro sz
  refine Met.ofW (cc := cX2_addBits) (maxL := 10) (ret := none) (by decide) rfl ?_
  intro pg9 ev9 s m args below meth cd s₁ B hml hv
  obtain ⟨rfl, hsz, hP, hK, hD0, hN⟩ := hv
  have hx := B.exec
  have hb := B.bytes
  have hr := B.returns
  have hts := fun (w : Cond) (h : w ∈ WSa) => atoms_spec (ws := wsX2_addBits) B.pre w (List.mem_cons_of_mem _ h)
  have hown : s.vm.findClass RX2 = some m.cls := findClass_of_methodNamed B.named
  have hlocks := B.notSynchronized
  subst hsz
  have hD : ∀ c, va_D (fun _ => True) (mw n ad c) := fun c' => mw_D hD0 c'
  have hS : va_S (mA n ad s.heap.size) s.heap s.heap [] := va_S.rf
  have hl := lv_entry ([.ref (ad k), .long v, .int x3, .int x4, .int x5]) (n := 10) (Nat.le_of_ble_eq_true rfl)
  rw [lg_entry_eq]
  generalize (lg_sl ([.ref (ad k), .long v, .int x3, .int x4, .int x5]) ++ List.replicate (10 - (lg_sl ([.ref (ad k), .long v, .int x3, .int x4, .int x5])).length) Slot.unset).toArray = ls at hl ⊢
  have hl : lv_has ls 10 [(0, .ref (ad k)), (1, .long v), (3, .int x3), (4, .int x4), (5, .int x5)] := hl
  have hcp := hT.cap
  have hbt4 : bt ≤ 4 := by omega
  have loop : ∀ (q1 : Nat) (e : Nat) (b : Bool) (t1 : List Nat) (c1 : Nat → va_E) (H : Heap) (locs : List Loc) (ls : Array Slot), (e ≤ mo) → (e < q1) → (t1.length + e ≤ cap) → (tSm c c1 k) → (tTx ca ad c1 k cap t1) → (t ++ dgF (bDig v bt) (bCh lb) mo false = t1 ++ dgF (bDig v bt) (bCh lb) e b) → va_P D vwCl (mw n ad c1) H → va_S (mA n ad s.heap.size) s.heap H locs → lv_has ls 10 [(8, .int (tI e)), (7, .int (bI b)), (6, .int ((1 <<< (x4 &&& 31)) - 1)), (0, .ref (ad k)), (1, .long v), (4, .int x4), (5, .int x5)] → W pg9 l ev9 (headSpec wsX2_addBits ({ frames := 1, cells := 0, slots := 0, locals := 21 })).room s m ([.ref (ad k), .long v, .int x3, .int x4, .int x5] : List Value).toArray below meth cd H locs 0 0 (MQ below (va_Qv (fun c' => tSm c c' k ∧ tTx ca ad c' k cap (t ++ tBits v mo bt lb)) (mW D n ad) (mA n ad s.heap.size)) ([.ref (ad k), .long v, .int x3, .int x4, .int x5] : List Value).toArray s 0 0 (mA n ad s.heap.size)) (F0 m 16 ls []) := by
    intro q1
    induction q1 with
    | zero => intro e b t1 c1 H locs ls he hq hrm hs1 hT1 heq hP hS hl; omega
    | succ q1 ih =>
      intro e b t1 c1 H locs ls he hq hrm hs1 hT1 heq hP hS hl
      refine lv_iload hx hb dX2_addBits_16 (lv_at hl 0 rfl) ?_
      refine lv_if_lt (tgt := 95) hx hb dX2_addBits_18 (by decide) (fun hc => ?_) (fun hc => ?_)
      · skip
        have he0 : e = 0 := by
          rcases e with _ | e
          · rfl
          · exact absurd hc (nI_pos (by omega))
        exact mx_vret hx hb hr hlocks hP hS (⟨hs1, by have h9 := heq; rw [he0] at h9; unfold tBits; rw [h9]; show tTx ca ad c1 k cap (t1 ++ []); rw [List.append_nil]; exact hT1⟩) dX2_addBits_95
      · skip
        obtain ⟨e1, he1⟩ : ∃ e1, e = e1 + 1 := by
          rcases e with _ | e
          · exact absurd (by decide) hc
          · exact ⟨e, rfl⟩
        have heb : e1 * bt < 64 := by
          rcases hbt with rfl | rfl <;> omega
        have hd16 := bDig_lt v hbt4 e1
        refine lv_lload_n hx hb dX2_addBits_21 rfl (lv_at hl 4 rfl) ?_
        refine lv_iload hx hb dX2_addBits_22 (lv_at hl 0 rfl) ?_
        refine lv_iload hx hb dX2_addBits_24 (lv_at hl 5 rfl) ?_
        refine lv_imul hx hb dX2_addBits_26 ?_
        refine mx_i (nI (e1 * bt)) (by rw [he1, h4]; exact pk_mul e1 bt) ?_
        refine lv_lushr (v := (v.toUInt64 >>> ((nI (e1 * bt) : Int32).toInt64.toUInt64 &&& Int64.toUInt64 63)).toInt64) hx hb dX2_addBits_27 rfl ?_
        refine lv_l2i (v := ((v.toUInt64 >>> ((nI (e1 * bt) : Int32).toInt64.toUInt64 &&& Int64.toUInt64 63)).toInt64).toInt32) hx hb dX2_addBits_28 rfl ?_
        refine lv_iload hx hb dX2_addBits_29 (lv_at hl 2 rfl) ?_
        refine lv_iand hx hb dX2_addBits_31 ?_
        refine mx_i (nI (bDig v bt e1)) (bDig_eq v hbt heb h4 rfl) ?_
        refine lv_istore (lv' := [(9, .int (nI (bDig v bt e1))), (8, .int (tI e)), (7, .int (bI b)), (6, .int ((1 <<< (x4 &&& 31)) - 1)), (0, .ref (ad k)), (1, .long v), (4, .int x4), (5, .int x5)]) hx hb dX2_addBits_32 hl (by decide) rfl (fun ls hl => ?_)
        refine lv_iload hx hb dX2_addBits_34 (lv_at hl 2 rfl) ?_
        refine lv_if_ne (tgt := 49) hx hb dX2_addBits_36 (by decide) (fun hc1 => ?_) (fun hc1 => ?_)
        · skip
          refine lv_iconst (v := 1) hx hb dX2_addBits_49 (by decide) ?_
          refine lv_goto (tgt := 54) hx hb dX2_addBits_50 (by decide) ?_
          refine lv_istore (lv' := [(7, .int 1), (9, .int (nI (bDig v bt e1))), (8, .int (tI e)), (6, .int ((1 <<< (x4 &&& 31)) - 1)), (0, .ref (ad k)), (1, .long v), (4, .int x4), (5, .int x5)]) hx hb dX2_addBits_54 hl (by decide) rfl (fun ls hl => ?_)
          refine lv_iload hx hb dX2_addBits_56 (lv_at hl 0 rfl) ?_
          refine lv_if_eq (tgt := 89) hx hb dX2_addBits_58 (by decide) (fun hc9 => ?_) (fun hc9 => ?_)
          · skip
            exact absurd hc9 (by decide)
          · skip
            refine lv_aload_n hx hb dX2_addBits_61 rfl (lv_at hl 4 rfl) ?_
            refine lv_iload hx hb dX2_addBits_62 (lv_at hl 1 rfl) ?_
            refine lv_bipush (v := 10) hx hb dX2_addBits_64 (by decide) ?_
            refine lv_icmp_ge (tgt := 77) hx hb dX2_addBits_66 (by decide) (fun hc8 => ?_) (fun hc8 => ?_)
            · skip
              have hge : 10 ≤ bDig v bt e1 := (nI_leI (a := 10) (by omega) (by omega)).mp hc8
              refine lv_iload hx hb dX2_addBits_77 (lv_at hl 7 rfl) ?_
              refine lv_iload hx hb dX2_addBits_79 (lv_at hl 1 rfl) ?_
              refine lv_iadd hx hb dX2_addBits_81 ?_
              refine lv_bipush (v := 10) hx hb dX2_addBits_82 (by decide) ?_
              refine lv_isub hx hb dX2_addBits_84 ?_
              refine mx_i (nI (bCh lb (bDig v bt e1))) (by rw [h5]; exact bCh_hi hge) ?_
              refine mx_ci (va_runV (As := [.int (nI (bCh lb (bDig v bt e1)))]) (rest := []) ⟨hx, hb, hml, hown, hts⟩ (c_Text_add l D ca n ad c1 hk hT1 (nI (bCh lb (bDig v bt e1))) _) (cwV 1 hts (gV wm_117 wm_118 wm_119 wm_2 wm_120) rfl rfl rfl (by decide +kernel) ⟨Nat.le_of_ble_eq_true rfl, Nat.le_of_ble_eq_true rfl⟩) (mx_pv (C := RX2) (T := TX2) (N := 2) (ci := 2) hK hP hD hN (by omega : k < n) hT1.cell rfl) rfl rfl hl.1 rfl (lv_room (Nat.le_of_ble_eq_true rfl)) dX2_addBits_85 ⟨Nat.zero_le _, Nat.zero_le _⟩) (Nat.le_refl _) hS (fun r c2 H locs hw hP hS => ?_)
              obtain ⟨-, -, hs2, hT2⟩ := hw.resolve_right (fun h => by have h9 := h.1; omega)
              refine lv_pop hx hb dX2_addBits_88 rfl ?_
              refine lv_iinc (v := tI e1) (lv' := [(8, .int (tI e1)), (7, .int 1), (9, .int (nI (bDig v bt e1))), (6, .int ((1 <<< (x4 &&& 31)) - 1)), (0, .ref (ad k)), (1, .long v), (4, .int x4), (5, .int x5)]) hx hb dX2_addBits_89 hl (k := 2) rfl (by rw [he1]; exact tI_step e1) (by decide) rfl (fun ls hl => ?_)
              refine lv_goto (tgt := 16) hx hb dX2_addBits_92 (by decide) ?_
              exact ih e1 true (t1 ++ [bCh lb (bDig v bt e1)]) c2 H locs ls (by omega) (by omega) (by rw [List.length_append]; simp only [List.length_cons, List.length_nil]; omega) (hs1.tr hs2) (by rw [by8_nI (bCh_lt hd16 hlb.2)] at hT2; exact hT2) (by rw [heq, he1, dgF_t (Or.inl (bI_ne hc1)), List.append_assoc]; rfl) hP hS (lv_sub hl [0, 1, 3, 4, 5, 6, 7] rfl)
            · skip
              have hlt9 : bDig v bt e1 < 10 := by have := (not_congr (nI_leI (a := 10) (by omega) (by omega : bDig v bt e1 < 2 ^ 31))).mp hc8; omega
              refine lv_bipush (v := 48) hx hb dX2_addBits_69 (by decide) ?_
              refine lv_iload hx hb dX2_addBits_71 (lv_at hl 1 rfl) ?_
              refine lv_iadd hx hb dX2_addBits_73 ?_
              refine mx_i (nI (bCh lb (bDig v bt e1))) (bCh_lo hlt9) ?_
              refine lv_goto (tgt := 85) hx hb dX2_addBits_74 (by decide) ?_
              refine mx_ci (va_runV (As := [.int (nI (bCh lb (bDig v bt e1)))]) (rest := []) ⟨hx, hb, hml, hown, hts⟩ (c_Text_add l D ca n ad c1 hk hT1 (nI (bCh lb (bDig v bt e1))) _) (cwV 1 hts (gV wm_117 wm_118 wm_119 wm_2 wm_120) rfl rfl rfl (by decide +kernel) ⟨Nat.le_of_ble_eq_true rfl, Nat.le_of_ble_eq_true rfl⟩) (mx_pv (C := RX2) (T := TX2) (N := 2) (ci := 2) hK hP hD hN (by omega : k < n) hT1.cell rfl) rfl rfl hl.1 rfl (lv_room (Nat.le_of_ble_eq_true rfl)) dX2_addBits_85 ⟨Nat.zero_le _, Nat.zero_le _⟩) (Nat.le_refl _) hS (fun r c2 H locs hw hP hS => ?_)
              obtain ⟨-, -, hs2, hT2⟩ := hw.resolve_right (fun h => by have h9 := h.1; omega)
              refine lv_pop hx hb dX2_addBits_88 rfl ?_
              refine lv_iinc (v := tI e1) (lv' := [(8, .int (tI e1)), (7, .int 1), (9, .int (nI (bDig v bt e1))), (6, .int ((1 <<< (x4 &&& 31)) - 1)), (0, .ref (ad k)), (1, .long v), (4, .int x4), (5, .int x5)]) hx hb dX2_addBits_89 hl (k := 2) rfl (by rw [he1]; exact tI_step e1) (by decide) rfl (fun ls hl => ?_)
              refine lv_goto (tgt := 16) hx hb dX2_addBits_92 (by decide) ?_
              exact ih e1 true (t1 ++ [bCh lb (bDig v bt e1)]) c2 H locs ls (by omega) (by omega) (by rw [List.length_append]; simp only [List.length_cons, List.length_nil]; omega) (hs1.tr hs2) (by rw [by8_nI (bCh_lt hd16 hlb.2)] at hT2; exact hT2) (by rw [heq, he1, dgF_t (Or.inl (bI_ne hc1)), List.append_assoc]; rfl) hP hS (lv_sub hl [0, 1, 3, 4, 5, 6, 7] rfl)
        · skip
          refine lv_iload hx hb dX2_addBits_39 (lv_at hl 0 rfl) ?_
          refine lv_if_ne (tgt := 49) hx hb dX2_addBits_41 (by decide) (fun hc2 => ?_) (fun hc2 => ?_)
          · skip
            refine lv_iconst (v := 1) hx hb dX2_addBits_49 (by decide) ?_
            refine lv_goto (tgt := 54) hx hb dX2_addBits_50 (by decide) ?_
            refine lv_istore (lv' := [(7, .int 1), (9, .int (nI (bDig v bt e1))), (8, .int (tI e)), (6, .int ((1 <<< (x4 &&& 31)) - 1)), (0, .ref (ad k)), (1, .long v), (4, .int x4), (5, .int x5)]) hx hb dX2_addBits_54 hl (by decide) rfl (fun ls hl => ?_)
            refine lv_iload hx hb dX2_addBits_56 (lv_at hl 0 rfl) ?_
            refine lv_if_eq (tgt := 89) hx hb dX2_addBits_58 (by decide) (fun hc9 => ?_) (fun hc9 => ?_)
            · skip
              exact absurd hc9 (by decide)
            · skip
              refine lv_aload_n hx hb dX2_addBits_61 rfl (lv_at hl 4 rfl) ?_
              refine lv_iload hx hb dX2_addBits_62 (lv_at hl 1 rfl) ?_
              refine lv_bipush (v := 10) hx hb dX2_addBits_64 (by decide) ?_
              refine lv_icmp_ge (tgt := 77) hx hb dX2_addBits_66 (by decide) (fun hc8 => ?_) (fun hc8 => ?_)
              · skip
                have hge : 10 ≤ bDig v bt e1 := (nI_leI (a := 10) (by omega) (by omega)).mp hc8
                refine lv_iload hx hb dX2_addBits_77 (lv_at hl 7 rfl) ?_
                refine lv_iload hx hb dX2_addBits_79 (lv_at hl 1 rfl) ?_
                refine lv_iadd hx hb dX2_addBits_81 ?_
                refine lv_bipush (v := 10) hx hb dX2_addBits_82 (by decide) ?_
                refine lv_isub hx hb dX2_addBits_84 ?_
                refine mx_i (nI (bCh lb (bDig v bt e1))) (by rw [h5]; exact bCh_hi hge) ?_
                refine mx_ci (va_runV (As := [.int (nI (bCh lb (bDig v bt e1)))]) (rest := []) ⟨hx, hb, hml, hown, hts⟩ (c_Text_add l D ca n ad c1 hk hT1 (nI (bCh lb (bDig v bt e1))) _) (cwV 1 hts (gV wm_117 wm_118 wm_119 wm_2 wm_120) rfl rfl rfl (by decide +kernel) ⟨Nat.le_of_ble_eq_true rfl, Nat.le_of_ble_eq_true rfl⟩) (mx_pv (C := RX2) (T := TX2) (N := 2) (ci := 2) hK hP hD hN (by omega : k < n) hT1.cell rfl) rfl rfl hl.1 rfl (lv_room (Nat.le_of_ble_eq_true rfl)) dX2_addBits_85 ⟨Nat.zero_le _, Nat.zero_le _⟩) (Nat.le_refl _) hS (fun r c2 H locs hw hP hS => ?_)
                obtain ⟨-, -, hs2, hT2⟩ := hw.resolve_right (fun h => by have h9 := h.1; omega)
                refine lv_pop hx hb dX2_addBits_88 rfl ?_
                refine lv_iinc (v := tI e1) (lv' := [(8, .int (tI e1)), (7, .int 1), (9, .int (nI (bDig v bt e1))), (6, .int ((1 <<< (x4 &&& 31)) - 1)), (0, .ref (ad k)), (1, .long v), (4, .int x4), (5, .int x5)]) hx hb dX2_addBits_89 hl (k := 2) rfl (by rw [he1]; exact tI_step e1) (by decide) rfl (fun ls hl => ?_)
                refine lv_goto (tgt := 16) hx hb dX2_addBits_92 (by decide) ?_
                exact ih e1 true (t1 ++ [bCh lb (bDig v bt e1)]) c2 H locs ls (by omega) (by omega) (by rw [List.length_append]; simp only [List.length_cons, List.length_nil]; omega) (hs1.tr hs2) (by rw [by8_nI (bCh_lt hd16 hlb.2)] at hT2; exact hT2) (by rw [heq, he1, dgF_t (Or.inr (Or.inl (fun h => hc2 (by rw [h]; exact nI_0)))), List.append_assoc]; rfl) hP hS (lv_sub hl [0, 1, 3, 4, 5, 6, 7] rfl)
              · skip
                have hlt9 : bDig v bt e1 < 10 := by have := (not_congr (nI_leI (a := 10) (by omega) (by omega : bDig v bt e1 < 2 ^ 31))).mp hc8; omega
                refine lv_bipush (v := 48) hx hb dX2_addBits_69 (by decide) ?_
                refine lv_iload hx hb dX2_addBits_71 (lv_at hl 1 rfl) ?_
                refine lv_iadd hx hb dX2_addBits_73 ?_
                refine mx_i (nI (bCh lb (bDig v bt e1))) (bCh_lo hlt9) ?_
                refine lv_goto (tgt := 85) hx hb dX2_addBits_74 (by decide) ?_
                refine mx_ci (va_runV (As := [.int (nI (bCh lb (bDig v bt e1)))]) (rest := []) ⟨hx, hb, hml, hown, hts⟩ (c_Text_add l D ca n ad c1 hk hT1 (nI (bCh lb (bDig v bt e1))) _) (cwV 1 hts (gV wm_117 wm_118 wm_119 wm_2 wm_120) rfl rfl rfl (by decide +kernel) ⟨Nat.le_of_ble_eq_true rfl, Nat.le_of_ble_eq_true rfl⟩) (mx_pv (C := RX2) (T := TX2) (N := 2) (ci := 2) hK hP hD hN (by omega : k < n) hT1.cell rfl) rfl rfl hl.1 rfl (lv_room (Nat.le_of_ble_eq_true rfl)) dX2_addBits_85 ⟨Nat.zero_le _, Nat.zero_le _⟩) (Nat.le_refl _) hS (fun r c2 H locs hw hP hS => ?_)
                obtain ⟨-, -, hs2, hT2⟩ := hw.resolve_right (fun h => by have h9 := h.1; omega)
                refine lv_pop hx hb dX2_addBits_88 rfl ?_
                refine lv_iinc (v := tI e1) (lv' := [(8, .int (tI e1)), (7, .int 1), (9, .int (nI (bDig v bt e1))), (6, .int ((1 <<< (x4 &&& 31)) - 1)), (0, .ref (ad k)), (1, .long v), (4, .int x4), (5, .int x5)]) hx hb dX2_addBits_89 hl (k := 2) rfl (by rw [he1]; exact tI_step e1) (by decide) rfl (fun ls hl => ?_)
                refine lv_goto (tgt := 16) hx hb dX2_addBits_92 (by decide) ?_
                exact ih e1 true (t1 ++ [bCh lb (bDig v bt e1)]) c2 H locs ls (by omega) (by omega) (by rw [List.length_append]; simp only [List.length_cons, List.length_nil]; omega) (hs1.tr hs2) (by rw [by8_nI (bCh_lt hd16 hlb.2)] at hT2; exact hT2) (by rw [heq, he1, dgF_t (Or.inr (Or.inl (fun h => hc2 (by rw [h]; exact nI_0)))), List.append_assoc]; rfl) hP hS (lv_sub hl [0, 1, 3, 4, 5, 6, 7] rfl)
          · skip
            have hd0 : bDig v bt e1 = 0 := (nI_eq (by omega) (by omega)).mp (by rw [hc2]; exact nI_0.symm)
            refine lv_iload hx hb dX2_addBits_44 (lv_at hl 1 rfl) ?_
            refine lv_if_ne (tgt := 53) hx hb dX2_addBits_46 (by decide) (fun hc3 => ?_) (fun hc3 => ?_)
            · skip
              refine lv_iconst (v := 0) hx hb dX2_addBits_53 (by decide) ?_
              refine lv_istore (lv' := [(7, .int 0), (9, .int (nI (bDig v bt e1))), (8, .int (tI e)), (6, .int ((1 <<< (x4 &&& 31)) - 1)), (0, .ref (ad k)), (1, .long v), (4, .int x4), (5, .int x5)]) hx hb dX2_addBits_54 hl (by decide) rfl (fun ls hl => ?_)
              refine lv_iload hx hb dX2_addBits_56 (lv_at hl 0 rfl) ?_
              refine lv_if_eq (tgt := 89) hx hb dX2_addBits_58 (by decide) (fun hc9 => ?_) (fun hc9 => ?_)
              · skip
                refine lv_iinc (v := tI e1) (lv' := [(8, .int (tI e1)), (7, .int 0), (9, .int (nI (bDig v bt e1))), (6, .int ((1 <<< (x4 &&& 31)) - 1)), (0, .ref (ad k)), (1, .long v), (4, .int x4), (5, .int x5)]) hx hb dX2_addBits_89 hl (k := 2) rfl (by rw [he1]; exact tI_step e1) (by decide) rfl (fun ls hl => ?_)
                refine lv_goto (tgt := 16) hx hb dX2_addBits_92 (by decide) ?_
                exact ih e1 false t1 c1 H locs ls (by omega) (by omega) (by omega) (hs1) (hT1) (by rw [heq, he1, dgF_f (bI_eq hc1) hd0 (fun h => hc3 (by rw [he1, h]; decide))]) hP hS (lv_sub hl [0, 1, 3, 4, 5, 6, 7] rfl)
              · skip
                exact absurd rfl hc9
            · skip
              refine lv_iconst (v := 1) hx hb dX2_addBits_49 (by decide) ?_
              refine lv_goto (tgt := 54) hx hb dX2_addBits_50 (by decide) ?_
              refine lv_istore (lv' := [(7, .int 1), (9, .int (nI (bDig v bt e1))), (8, .int (tI e)), (6, .int ((1 <<< (x4 &&& 31)) - 1)), (0, .ref (ad k)), (1, .long v), (4, .int x4), (5, .int x5)]) hx hb dX2_addBits_54 hl (by decide) rfl (fun ls hl => ?_)
              refine lv_iload hx hb dX2_addBits_56 (lv_at hl 0 rfl) ?_
              refine lv_if_eq (tgt := 89) hx hb dX2_addBits_58 (by decide) (fun hc9 => ?_) (fun hc9 => ?_)
              · skip
                exact absurd hc9 (by decide)
              · skip
                refine lv_aload_n hx hb dX2_addBits_61 rfl (lv_at hl 4 rfl) ?_
                refine lv_iload hx hb dX2_addBits_62 (lv_at hl 1 rfl) ?_
                refine lv_bipush (v := 10) hx hb dX2_addBits_64 (by decide) ?_
                refine lv_icmp_ge (tgt := 77) hx hb dX2_addBits_66 (by decide) (fun hc8 => ?_) (fun hc8 => ?_)
                · skip
                  have hge : 10 ≤ bDig v bt e1 := (nI_leI (a := 10) (by omega) (by omega)).mp hc8
                  refine lv_iload hx hb dX2_addBits_77 (lv_at hl 7 rfl) ?_
                  refine lv_iload hx hb dX2_addBits_79 (lv_at hl 1 rfl) ?_
                  refine lv_iadd hx hb dX2_addBits_81 ?_
                  refine lv_bipush (v := 10) hx hb dX2_addBits_82 (by decide) ?_
                  refine lv_isub hx hb dX2_addBits_84 ?_
                  refine mx_i (nI (bCh lb (bDig v bt e1))) (by rw [h5]; exact bCh_hi hge) ?_
                  refine mx_ci (va_runV (As := [.int (nI (bCh lb (bDig v bt e1)))]) (rest := []) ⟨hx, hb, hml, hown, hts⟩ (c_Text_add l D ca n ad c1 hk hT1 (nI (bCh lb (bDig v bt e1))) _) (cwV 1 hts (gV wm_117 wm_118 wm_119 wm_2 wm_120) rfl rfl rfl (by decide +kernel) ⟨Nat.le_of_ble_eq_true rfl, Nat.le_of_ble_eq_true rfl⟩) (mx_pv (C := RX2) (T := TX2) (N := 2) (ci := 2) hK hP hD hN (by omega : k < n) hT1.cell rfl) rfl rfl hl.1 rfl (lv_room (Nat.le_of_ble_eq_true rfl)) dX2_addBits_85 ⟨Nat.zero_le _, Nat.zero_le _⟩) (Nat.le_refl _) hS (fun r c2 H locs hw hP hS => ?_)
                  obtain ⟨-, -, hs2, hT2⟩ := hw.resolve_right (fun h => by have h9 := h.1; omega)
                  refine lv_pop hx hb dX2_addBits_88 rfl ?_
                  refine lv_iinc (v := tI e1) (lv' := [(8, .int (tI e1)), (7, .int 1), (9, .int (nI (bDig v bt e1))), (6, .int ((1 <<< (x4 &&& 31)) - 1)), (0, .ref (ad k)), (1, .long v), (4, .int x4), (5, .int x5)]) hx hb dX2_addBits_89 hl (k := 2) rfl (by rw [he1]; exact tI_step e1) (by decide) rfl (fun ls hl => ?_)
                  refine lv_goto (tgt := 16) hx hb dX2_addBits_92 (by decide) ?_
                  exact ih e1 true (t1 ++ [bCh lb (bDig v bt e1)]) c2 H locs ls (by omega) (by omega) (by rw [List.length_append]; simp only [List.length_cons, List.length_nil]; omega) (hs1.tr hs2) (by rw [by8_nI (bCh_lt hd16 hlb.2)] at hT2; exact hT2) (by rw [heq, he1, dgF_t (Or.inr (Or.inr ((nI_eq (by omega) (by omega)).mp (by rw [nI_0]; have h9 := hc3; rw [he1] at h9; exact h9)))), List.append_assoc]; rfl) hP hS (lv_sub hl [0, 1, 3, 4, 5, 6, 7] rfl)
                · skip
                  have hlt9 : bDig v bt e1 < 10 := by have := (not_congr (nI_leI (a := 10) (by omega) (by omega : bDig v bt e1 < 2 ^ 31))).mp hc8; omega
                  refine lv_bipush (v := 48) hx hb dX2_addBits_69 (by decide) ?_
                  refine lv_iload hx hb dX2_addBits_71 (lv_at hl 1 rfl) ?_
                  refine lv_iadd hx hb dX2_addBits_73 ?_
                  refine mx_i (nI (bCh lb (bDig v bt e1))) (bCh_lo hlt9) ?_
                  refine lv_goto (tgt := 85) hx hb dX2_addBits_74 (by decide) ?_
                  refine mx_ci (va_runV (As := [.int (nI (bCh lb (bDig v bt e1)))]) (rest := []) ⟨hx, hb, hml, hown, hts⟩ (c_Text_add l D ca n ad c1 hk hT1 (nI (bCh lb (bDig v bt e1))) _) (cwV 1 hts (gV wm_117 wm_118 wm_119 wm_2 wm_120) rfl rfl rfl (by decide +kernel) ⟨Nat.le_of_ble_eq_true rfl, Nat.le_of_ble_eq_true rfl⟩) (mx_pv (C := RX2) (T := TX2) (N := 2) (ci := 2) hK hP hD hN (by omega : k < n) hT1.cell rfl) rfl rfl hl.1 rfl (lv_room (Nat.le_of_ble_eq_true rfl)) dX2_addBits_85 ⟨Nat.zero_le _, Nat.zero_le _⟩) (Nat.le_refl _) hS (fun r c2 H locs hw hP hS => ?_)
                  obtain ⟨-, -, hs2, hT2⟩ := hw.resolve_right (fun h => by have h9 := h.1; omega)
                  refine lv_pop hx hb dX2_addBits_88 rfl ?_
                  refine lv_iinc (v := tI e1) (lv' := [(8, .int (tI e1)), (7, .int 1), (9, .int (nI (bDig v bt e1))), (6, .int ((1 <<< (x4 &&& 31)) - 1)), (0, .ref (ad k)), (1, .long v), (4, .int x4), (5, .int x5)]) hx hb dX2_addBits_89 hl (k := 2) rfl (by rw [he1]; exact tI_step e1) (by decide) rfl (fun ls hl => ?_)
                  refine lv_goto (tgt := 16) hx hb dX2_addBits_92 (by decide) ?_
                  exact ih e1 true (t1 ++ [bCh lb (bDig v bt e1)]) c2 H locs ls (by omega) (by omega) (by rw [List.length_append]; simp only [List.length_cons, List.length_nil]; omega) (hs1.tr hs2) (by rw [by8_nI (bCh_lt hd16 hlb.2)] at hT2; exact hT2) (by rw [heq, he1, dgF_t (Or.inr (Or.inr ((nI_eq (by omega) (by omega)).mp (by rw [nI_0]; have h9 := hc3; rw [he1] at h9; exact h9)))), List.append_assoc]; rfl) hP hS (lv_sub hl [0, 1, 3, 4, 5, 6, 7] rfl)
  refine lv_iconst (v := 1) hx hb dX2_addBits_0 (by decide) ?_
  refine lv_iload hx hb dX2_addBits_1 (lv_at hl 3 rfl) ?_
  refine lv_ishl hx hb dX2_addBits_3 ?_
  refine lv_iconst (v := 1) hx hb dX2_addBits_4 (by decide) ?_
  refine lv_isub hx hb dX2_addBits_5 ?_
  refine lv_istore (lv' := [(6, .int ((1 <<< (x4 &&& 31)) - 1)), (0, .ref (ad k)), (1, .long v), (3, .int x3), (4, .int x4), (5, .int x5)]) hx hb dX2_addBits_6 hl (by decide) rfl (fun ls hl => ?_)
  refine lv_iconst (v := 0) hx hb dX2_addBits_8 (by decide) ?_
  refine lv_istore (lv' := [(7, .int 0), (6, .int ((1 <<< (x4 &&& 31)) - 1)), (0, .ref (ad k)), (1, .long v), (3, .int x3), (4, .int x4), (5, .int x5)]) hx hb dX2_addBits_9 hl (by decide) rfl (fun ls hl => ?_)
  refine lv_iload_n hx hb dX2_addBits_11 rfl (lv_at hl 4 rfl) ?_
  refine lv_iconst (v := 1) hx hb dX2_addBits_12 (by decide) ?_
  refine lv_isub hx hb dX2_addBits_13 ?_
  refine mx_i (tI mo) (by rw [h3]; exact tI_pred mo) ?_
  refine lv_istore (lv' := [(8, .int (tI mo)), (7, .int 0), (6, .int ((1 <<< (x4 &&& 31)) - 1)), (0, .ref (ad k)), (1, .long v), (3, .int x3), (4, .int x4), (5, .int x5)]) hx hb dX2_addBits_14 hl (by decide) rfl (fun ls hl => ?_)
  exact loop (mo + 1) mo false t c _ _ ls (Nat.le_refl _) (by omega) hroom tSm.rf hT rfl hP hS (by have h9 := (lv_sub hl [0, 1, 2, 3, 4, 6, 7] rfl); exact h9)
