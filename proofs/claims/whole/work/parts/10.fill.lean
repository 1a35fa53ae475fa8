set_option maxHeartbeats 4000000 in
set_option maxRecDepth 100000 in
/-- addPadded -/
theorem c_padded (l : Launch) (D : va_G) (ca : Nat → ClassId) (n : Nat) (ad : Nat → Nat) (c : Nat → va_E) {tp pt md dg : List Nat} {ar : Nat → List Nat} {ac tk : Nat} {f : fl4} {wd : Nat} {kd bh : Int32} {v : Int64} (hn : 52 ≤ n) (hM : tMF ca ad c tp pt md ar ac tk f (nI wd) kd bh v dg) (hwd : wd ≤ 100000) (x : Int32) (z : Bool) {kb : Nat} {bd : List Nat} (hkb : kb + 1 < 52) (hB : tTx ca ad c kb 40 bd) (hdj : kb ≠ 5 ∧ kb ≠ 6 ∧ kb + 1 ≠ 5) : mInt l yX3_addPadded wsX3_addPadded ({ frames := 2, cells := 0, slots := 0, locals := 44 }) [.ref (ad 0), .int x, .ref (ad kb), .int (bI z)] D (tTY ca) n ad c (fun r c' => (md.length + (pad f.1 z wd (sgL x) bd).length ≤ 1024 ∧ r = 0 ∧ tMF ca ad c' tp pt (md ++ pad f.1 z wd (sgL x) bd) ar ac tk f (nI wd) kd bh v dg ∧ tSm c c' 5) ∨ (¬ md.length + (pad f.1 z wd (sgL x) bd).length ≤ 1024 ∧ r = -5 ∧ c' = c)) := by
  intro sz
  refine Met.ofW (cc := cX3_addPadded) (maxL := 7) (ret := (some .int)) (by decide) rfl ?_
  intro pg9 ev9 s m args below meth cd s₁ B hml hv
  obtain ⟨rfl, hsz, hP, hK, hD0, hN⟩ := hv
  have hx := B.exec
  have hb := B.bytes
  have hr := B.returns
  have hts := fun (w : Cond) (h : w ∈ WSa) => atoms_spec (ws := wsX3_addPadded) B.pre w (List.mem_cons_of_mem _ h)
  have hown : s.vm.findClass RX3 = some m.cls := findClass_of_methodNamed B.named
  have hlocks := B.notSynchronized
  subst hsz
  have hD : ∀ c, va_D (fun _ => True) (mw n ad c) := fun c' => mw_D hD0 c'
  have hS : va_S (mA n ad s.heap.size) s.heap s.heap [] := va_S.rf
  have hl := lv_entry ([.ref (ad 0), .int x, .ref (ad kb), .int (bI z)]) (n := 7) (Nat.le_of_ble_eq_true rfl)
  rw [lg_entry_eq]
  generalize (lg_sl ([.ref (ad 0), .int x, .ref (ad kb), .int (bI z)]) ++ List.replicate (7 - (lg_sl ([.ref (ad 0), .int x, .ref (ad kb), .int (bI z)])).length) Slot.unset).toArray = ls at hl ⊢
  have hl : lv_has ls 7 [(0, .ref (ad 0)), (1, .int x), (2, .ref (ad kb)), (3, .int (bI z))] := hl
  have hle5 := hM.2.2.2.1.le
  have hleb := hB.le
  refine lv_aload_n hx hb dX3_addPadded_0 rfl (lv_at hl 2 rfl) ?_
  refine mx_getN (ci := 2) (v := .int (nI bd.length)) (C := RX2) (T := TX2) (N := 2) hx hb hts inX2 hown hK hP (by omega : kb < n) hB.cell rfl 1 (by decide) (hN.1 _ nn_2) (fun _ h9 => h9) rfl dX3_addPadded_1 ?_
  refine lv_iload_n hx hb dX3_addPadded_4 rfl (lv_at hl 1 rfl) ?_
  refine lv_if_ne (tgt := 12) hx hb dX3_addPadded_5 (by decide) (fun hc => ?_) (fun hc => ?_)
  · skip
    have hx1 : ¬ x = 0 := hc
    have hsl1 : sgL x = [by8 x] := if_neg hx1
    have hsln : (sgL x).length = 1 := by rw [hsl1]; rfl
    refine lv_iconst (v := 1) hx hb dX3_addPadded_12 (by decide) ?_
    refine lv_iadd hx hb dX3_addPadded_13 ?_
    refine mx_i (nI (bd.length + (sgL x).length)) (by rw [hsl1]; exact nI_add _ _) ?_
    refine lv_istore (lv' := [(4, .int (nI (bd.length + (sgL x).length))), (0, .ref (ad 0)), (1, .int x), (2, .ref (ad kb)), (3, .int (bI z))]) hx hb dX3_addPadded_14 hl (by decide) rfl (fun ls hl => ?_)
    refine lv_iload hx hb dX3_addPadded_16 (lv_at hl 0 rfl) ?_
    refine lv_aload_n hx hb dX3_addPadded_18 rfl (lv_at hl 1 rfl) ?_
    refine mx_get (ci := 3) (v := .ref (ad 48)) (C := RX3) (T := TX3) (N := 9) hx hb hts inX3 hown hK hP (by omega : 0 < n) hM.1 rfl 6 (by decide) (hts _ wm_83) (fun _ h9 => h9) rfl dX3_addPadded_19 ?_
    refine mx_getN (ci := 1) (v := .int (nI wd)) (C := RX1) (T := TX1) (N := 7) hx hb hts inX1 hown hK hP (by omega : 48 < n) hM.2.2.2.2.2.2.1 rfl 4 (by decide) (hN.1 _ nn_5) (fun _ h9 => h9) rfl dX3_addPadded_22 ?_
    refine va_mmax hx hb (by rw [hml]; exact hl.1.symm) hown (hts _ wm_215) (hts _ wm_216) (hts _ wm_6) (hts _ wm_217) (Nat.le_of_ble_eq_true rfl) (Nat.le_of_ble_eq_true rfl) (Nat.zero_le _) (Nat.zero_le _) dX3_addPadded_25 ?_
    refine mx_i (nI (max (bd.length + (sgL x).length) wd)) (wh_max (by omega) (by omega)) ?_
    refine lv_istore (lv' := [(5, .int (nI (max (bd.length + (sgL x).length) wd))), (4, .int (nI (bd.length + (sgL x).length))), (0, .ref (ad 0)), (1, .int x), (2, .ref (ad kb)), (3, .int (bI z))]) hx hb dX3_addPadded_28 hl (by decide) rfl (fun ls hl => ?_)
    refine lv_aload_n hx hb dX3_addPadded_30 rfl (lv_at hl 2 rfl) ?_
    refine mx_get (ci := 3) (v := .ref (ad 5)) (C := RX3) (T := TX3) (N := 9) hx hb hts inX3 hown hK hP (by omega : 0 < n) hM.1 rfl 2 (by decide) (hts _ wm_79) (fun _ h9 => h9) rfl dX3_addPadded_31 ?_
    refine lv_iload hx hb dX3_addPadded_34 (lv_at hl 0 rfl) ?_
    refine mx_ci (va_runV (As := [.int (nI (max (bd.length + (sgL x).length) wd))]) (rest := []) ⟨hx, hb, hml, hown, hts⟩ (c_Text_has l D ca n ad c (k := 5) (by omega) hM.2.2.2.1 (nI (max (bd.length + (sgL x).length) wd)) _) (cwV 1 hts (gV wm_109 wm_110 wm_111 wm_2 wm_112) rfl rfl rfl (by decide +kernel) ⟨Nat.le_of_ble_eq_true rfl, Nat.le_of_ble_eq_true rfl⟩) (mx_pv (C := RX2) (T := TX2) (N := 2) (ci := 2) hK hP hD hN (by omega : 5 < n) hM.2.2.2.1.cell rfl) rfl rfl hl.1 rfl (lv_room (Nat.le_of_ble_eq_true rfl)) dX3_addPadded_36 ⟨Nat.zero_le _, Nat.zero_le _⟩) (Nat.le_refl _) hS (fun r c1 H locs hw hP hS => ?_)
    obtain ⟨hcE, hw⟩ := hw
    rw [hcE] at hP
    refine lv_if_ne (tgt := 45) hx hb dX3_addPadded_39 (by decide) (fun hc2 => ?_) (fun hc2 => ?_)
    · skip
      have hrm : md.length + max (bd.length + (sgL x).length) wd ≤ 1024 := by rcases hw with h | h; have := (nI_leI (by omega) (by omega)).mp h.1; omega; exact absurd h.2 hc2
      refine lv_iload hx hb dX3_addPadded_45 (lv_at hl 0 rfl) ?_
      refine lv_iload hx hb dX3_addPadded_47 (lv_at hl 1 rfl) ?_
      refine lv_isub hx hb dX3_addPadded_49 ?_
      refine mx_i (nI (max (bd.length + (sgL x).length) wd - (bd.length + (sgL x).length))) (pk_sub (Nat.le_max_left _ _)) ?_
      refine lv_istore (lv' := [(6, .int (nI (max (bd.length + (sgL x).length) wd - (bd.length + (sgL x).length)))), (5, .int (nI (max (bd.length + (sgL x).length) wd))), (4, .int (nI (bd.length + (sgL x).length))), (0, .ref (ad 0)), (1, .int x), (2, .ref (ad kb)), (3, .int (bI z))]) hx hb dX3_addPadded_50 hl (by decide) rfl (fun ls hl => ?_)
      refine lv_aload_n hx hb dX3_addPadded_52 rfl (lv_at hl 3 rfl) ?_
      refine mx_get (ci := 3) (v := .ref (ad 48)) (C := RX3) (T := TX3) (N := 9) hx hb hts inX3 hown hK hP (by omega : 0 < n) hM.1 rfl 6 (by decide) (hts _ wm_83) (fun _ h9 => h9) rfl dX3_addPadded_53 ?_
      refine mx_getN (ci := 1) (v := .int (bI f.1)) (C := RX1) (T := TX1) (N := 7) hx hb hts inX1 hown hK hP (by omega : 48 < n) hM.2.2.2.2.2.2.1 rfl 0 (by decide) (hN.1 _ nn_3) (fun _ h9 => h9) rfl dX3_addPadded_56 ?_
      refine lv_if_ne (tgt := 77) hx hb dX3_addPadded_59 (by decide) (fun hc3 => ?_) (fun hc3 => ?_)
      · skip
        have hLt : f.1 = true := bI_ne hc3
        refine lv_iload_n hx hb dX3_addPadded_77 rfl (lv_at hl 4 rfl) ?_
        refine lv_if_eq (tgt := 90) hx hb dX3_addPadded_78 (by decide) (fun hc9 => ?_) (fun hc9 => ?_)
        · skip
          exact absurd hc9 hx1
        · skip
          refine lv_aload_n hx hb dX3_addPadded_81 rfl (lv_at hl 3 rfl) ?_
          refine mx_get (ci := 3) (v := .ref (ad 5)) (C := RX3) (T := TX3) (N := 9) hx hb hts inX3 hown hK hP (by omega : 0 < n) hM.1 rfl 2 (by decide) (hts _ wm_79) (fun _ h9 => h9) rfl dX3_addPadded_82 ?_
          refine lv_iload_n hx hb dX3_addPadded_85 rfl (lv_at hl 4 rfl) ?_
          refine mx_ci (va_runV (As := [.int x]) (rest := []) ⟨hx, hb, hml, hown, hts⟩ (c_Text_add l D ca n ad c (k := 5) (by omega) hM.2.2.2.1 x _) (cwV 1 hts (gV wm_161 wm_118 wm_119 wm_2 wm_120) rfl rfl rfl (by decide +kernel) ⟨Nat.le_of_ble_eq_true rfl, Nat.le_of_ble_eq_true rfl⟩) (mx_pv (C := RX2) (T := TX2) (N := 2) (ci := 2) hK hP hD hN (by omega : 5 < n) hM.2.2.2.1.cell rfl) rfl rfl hl.1 rfl (lv_room (Nat.le_of_ble_eq_true rfl)) dX3_addPadded_86 ⟨Nat.zero_le _, Nat.zero_le _⟩) (Nat.le_refl _) hS (fun r1 c1 H locs hw1 hP hS => ?_)
          obtain ⟨-, -, hs1, hT1⟩ := hw1.resolve_right (fun h => by have h9 := h.1; (try simp only [List.length_append, List.length_replicate] at h9); omega)
          have hM1 := hM.made hs1 hT1
          have hB1 : tTx ca ad c1 kb 40 bd := hB.keep (hs1 _ hdj.1 hdj.2.1) (hs1 _ hdj.2.2 (by omega))
          refine lv_pop hx hb dX3_addPadded_89 rfl ?_
          refine lv_aload_n hx hb dX3_addPadded_90 rfl (lv_at hl 3 rfl) ?_
          refine mx_get (ci := 3) (v := .ref (ad 48)) (C := RX3) (T := TX3) (N := 9) hx hb hts inX3 hown hK hP (by omega : 0 < n) hM1.1 rfl 6 (by decide) (hts _ wm_83) (fun _ h9 => h9) rfl dX3_addPadded_91 ?_
          refine mx_getN (ci := 1) (v := .int (bI f.1)) (C := RX1) (T := TX1) (N := 7) hx hb hts inX1 hown hK hP (by omega : 48 < n) hM1.2.2.2.2.2.2.1 rfl 0 (by decide) (hN.1 _ nn_3) (fun _ h9 => h9) rfl dX3_addPadded_94 ?_
          refine lv_if_ne (tgt := 115) hx hb dX3_addPadded_97 (by decide) (fun hc9 => ?_) (fun hc9 => ?_)
          · skip
            refine lv_aload_n hx hb dX3_addPadded_115 rfl (lv_at hl 3 rfl) ?_
            refine mx_get (ci := 3) (v := .ref (ad 5)) (C := RX3) (T := TX3) (N := 9) hx hb hts inX3 hown hK hP (by omega : 0 < n) hM1.1 rfl 2 (by decide) (hts _ wm_79) (fun _ h9 => h9) rfl dX3_addPadded_116 ?_
            refine lv_aload_n hx hb dX3_addPadded_119 rfl (lv_at hl 5 rfl) ?_
            refine mx_cv (va_runV (As := [.ref (ad kb)]) (rest := []) ⟨hx, hb, hml, hown, hts⟩ (c_Text_text l D ca n ad c1 (k := 5) (by omega) hM1.2.2.2.1 (k2 := kb) (by omega) hB1 (by omega) (by (try simp only [List.length_append, List.length_replicate, List.length_cons, List.length_nil]); omega) _) (cwV 1 hts (gV wm_137 wm_138 wm_139 wm_2 wm_140) rfl rfl rfl (by decide +kernel) ⟨Nat.le_of_ble_eq_true rfl, Nat.le_of_ble_eq_true rfl⟩) (mx_pv (C := RX2) (T := TX2) (N := 2) (ci := 2) hK hP hD hN (by omega : 5 < n) hM1.2.2.2.1.cell rfl) rfl rfl hl.1 rfl (lv_room (Nat.le_of_ble_eq_true rfl)) dX3_addPadded_120 ⟨Nat.zero_le _, Nat.zero_le _⟩) (Nat.le_refl _) hS (fun c2 H locs hw2 hP hS => ?_)
            obtain ⟨hs2, hT2⟩ := hw2
            have hM2 := hM1.made hs2 hT2
            have hB2 : tTx ca ad c2 kb 40 bd := hB1.keep (hs2 _ hdj.1 hdj.2.1) (hs2 _ hdj.2.2 (by omega))
            refine lv_aload_n hx hb dX3_addPadded_123 rfl (lv_at hl 3 rfl) ?_
            refine mx_get (ci := 3) (v := .ref (ad 48)) (C := RX3) (T := TX3) (N := 9) hx hb hts inX3 hown hK hP (by omega : 0 < n) hM2.1 rfl 6 (by decide) (hts _ wm_83) (fun _ h9 => h9) rfl dX3_addPadded_124 ?_
            refine mx_getN (ci := 1) (v := .int (bI f.1)) (C := RX1) (T := TX1) (N := 7) hx hb hts inX1 hown hK hP (by omega : 48 < n) hM2.2.2.2.2.2.2.1 rfl 0 (by decide) (hN.1 _ nn_3) (fun _ h9 => h9) rfl dX3_addPadded_127 ?_
            refine lv_if_eq (tgt := 144) hx hb dX3_addPadded_130 (by decide) (fun hc9 => ?_) (fun hc9 => ?_)
            · skip
              exact absurd (bI_eq hc9) (by rw [hLt]; decide)
            · skip
              refine lv_aload_n hx hb dX3_addPadded_133 rfl (lv_at hl 3 rfl) ?_
              refine mx_get (ci := 3) (v := .ref (ad 5)) (C := RX3) (T := TX3) (N := 9) hx hb hts inX3 hown hK hP (by omega : 0 < n) hM2.1 rfl 2 (by decide) (hts _ wm_79) (fun _ h9 => h9) rfl dX3_addPadded_134 ?_
              refine lv_bipush (v := 32) hx hb dX3_addPadded_137 (by decide) ?_
              refine lv_iload hx hb dX3_addPadded_139 (lv_at hl 0 rfl) ?_
              refine mx_cv (va_runV (As := [.int 32, .int (nI (max (bd.length + (sgL x).length) wd - (bd.length + (sgL x).length)))]) (rest := []) ⟨hx, hb, hml, hown, hts⟩ (c_Text_many l D ca n ad c2 (k := 5) (by omega) hM2.2.2.2.1 32 (nI (max (bd.length + (sgL x).length) wd - (bd.length + (sgL x).length))) (max (bd.length + (sgL x).length) wd - (bd.length + (sgL x).length)) rfl (by (try simp only [List.length_append, List.length_replicate, List.length_cons, List.length_nil]); omega) _) (cwV 2 hts (gV wm_218 wm_219 wm_220 wm_2 wm_221) rfl rfl rfl (by decide +kernel) ⟨Nat.le_of_ble_eq_true rfl, Nat.le_of_ble_eq_true rfl⟩) (mx_pv (C := RX2) (T := TX2) (N := 2) (ci := 2) hK hP hD hN (by omega : 5 < n) hM2.2.2.2.1.cell rfl) rfl rfl hl.1 rfl (lv_room (Nat.le_of_ble_eq_true rfl)) dX3_addPadded_141 ⟨Nat.zero_le _, Nat.zero_le _⟩) (Nat.le_refl _) hS (fun c3 H locs hw3 hP hS => ?_)
              obtain ⟨hs3, hT3⟩ := hw3
              have hM3 := hM2.made hs3 hT3
              have hB3 : tTx ca ad c3 kb 40 bd := hB2.keep (hs3 _ hdj.1 hdj.2.1) (hs3 _ hdj.2.2 (by omega))
              refine lv_iconst (v := 0) hx hb dX3_addPadded_144 (by decide) ?_
              have hmd : md ++ pad f.1 z wd (sgL x) bd = md ++ [by8 x] ++ bd ++ List.replicate (max (bd.length + (sgL x).length) wd - (bd.length + (sgL x).length)) (by8 32) := by
                unfold pad
                rw [if_pos hLt, hsl1]
                simp only [List.append_assoc, List.nil_append, show by8 32 = 32 from rfl, show by8 48 = 48 from rfl]
              exact mx_iret hx hb hr hlocks hP hS (Or.inl ⟨by rw [pad_len]; exact hrm, rfl, by rw [hmd]; exact hM3, ((hs1).tr hs2).tr hs3⟩) dX3_addPadded_145
          · skip
            exact absurd (bI_eq hc9) (by rw [hLt]; decide)
      · skip
        have hLf : f.1 = false := bI_eq hc3
        refine lv_iload_n hx hb dX3_addPadded_62 rfl (lv_at hl 6 rfl) ?_
        refine lv_if_ne (tgt := 77) hx hb dX3_addPadded_63 (by decide) (fun hc4 => ?_) (fun hc4 => ?_)
        · skip
          have hZt : z = true := bI_ne hc4
          refine lv_iload_n hx hb dX3_addPadded_77 rfl (lv_at hl 4 rfl) ?_
          refine lv_if_eq (tgt := 90) hx hb dX3_addPadded_78 (by decide) (fun hc9 => ?_) (fun hc9 => ?_)
          · skip
            exact absurd hc9 hx1
          · skip
            refine lv_aload_n hx hb dX3_addPadded_81 rfl (lv_at hl 3 rfl) ?_
            refine mx_get (ci := 3) (v := .ref (ad 5)) (C := RX3) (T := TX3) (N := 9) hx hb hts inX3 hown hK hP (by omega : 0 < n) hM.1 rfl 2 (by decide) (hts _ wm_79) (fun _ h9 => h9) rfl dX3_addPadded_82 ?_
            refine lv_iload_n hx hb dX3_addPadded_85 rfl (lv_at hl 4 rfl) ?_
            refine mx_ci (va_runV (As := [.int x]) (rest := []) ⟨hx, hb, hml, hown, hts⟩ (c_Text_add l D ca n ad c (k := 5) (by omega) hM.2.2.2.1 x _) (cwV 1 hts (gV wm_161 wm_118 wm_119 wm_2 wm_120) rfl rfl rfl (by decide +kernel) ⟨Nat.le_of_ble_eq_true rfl, Nat.le_of_ble_eq_true rfl⟩) (mx_pv (C := RX2) (T := TX2) (N := 2) (ci := 2) hK hP hD hN (by omega : 5 < n) hM.2.2.2.1.cell rfl) rfl rfl hl.1 rfl (lv_room (Nat.le_of_ble_eq_true rfl)) dX3_addPadded_86 ⟨Nat.zero_le _, Nat.zero_le _⟩) (Nat.le_refl _) hS (fun r1 c1 H locs hw1 hP hS => ?_)
            obtain ⟨-, -, hs1, hT1⟩ := hw1.resolve_right (fun h => by have h9 := h.1; (try simp only [List.length_append, List.length_replicate] at h9); omega)
            have hM1 := hM.made hs1 hT1
            have hB1 : tTx ca ad c1 kb 40 bd := hB.keep (hs1 _ hdj.1 hdj.2.1) (hs1 _ hdj.2.2 (by omega))
            refine lv_pop hx hb dX3_addPadded_89 rfl ?_
            refine lv_aload_n hx hb dX3_addPadded_90 rfl (lv_at hl 3 rfl) ?_
            refine mx_get (ci := 3) (v := .ref (ad 48)) (C := RX3) (T := TX3) (N := 9) hx hb hts inX3 hown hK hP (by omega : 0 < n) hM1.1 rfl 6 (by decide) (hts _ wm_83) (fun _ h9 => h9) rfl dX3_addPadded_91 ?_
            refine mx_getN (ci := 1) (v := .int (bI f.1)) (C := RX1) (T := TX1) (N := 7) hx hb hts inX1 hown hK hP (by omega : 48 < n) hM1.2.2.2.2.2.2.1 rfl 0 (by decide) (hN.1 _ nn_3) (fun _ h9 => h9) rfl dX3_addPadded_94 ?_
            refine lv_if_ne (tgt := 115) hx hb dX3_addPadded_97 (by decide) (fun hc9 => ?_) (fun hc9 => ?_)
            · skip
              exact absurd (bI_ne hc9) (by rw [hLf]; decide)
            · skip
              refine lv_iload_n hx hb dX3_addPadded_100 rfl (lv_at hl 6 rfl) ?_
              refine lv_if_eq (tgt := 115) hx hb dX3_addPadded_101 (by decide) (fun hc9 => ?_) (fun hc9 => ?_)
              · skip
                exact absurd (bI_eq hc9) (by rw [hZt]; decide)
              · skip
                refine lv_aload_n hx hb dX3_addPadded_104 rfl (lv_at hl 3 rfl) ?_
                refine mx_get (ci := 3) (v := .ref (ad 5)) (C := RX3) (T := TX3) (N := 9) hx hb hts inX3 hown hK hP (by omega : 0 < n) hM1.1 rfl 2 (by decide) (hts _ wm_79) (fun _ h9 => h9) rfl dX3_addPadded_105 ?_
                refine lv_bipush (v := 48) hx hb dX3_addPadded_108 (by decide) ?_
                refine lv_iload hx hb dX3_addPadded_110 (lv_at hl 0 rfl) ?_
                refine mx_cv (va_runV (As := [.int 48, .int (nI (max (bd.length + (sgL x).length) wd - (bd.length + (sgL x).length)))]) (rest := []) ⟨hx, hb, hml, hown, hts⟩ (c_Text_many l D ca n ad c1 (k := 5) (by omega) hM1.2.2.2.1 48 (nI (max (bd.length + (sgL x).length) wd - (bd.length + (sgL x).length))) (max (bd.length + (sgL x).length) wd - (bd.length + (sgL x).length)) rfl (by (try simp only [List.length_append, List.length_replicate, List.length_cons, List.length_nil]); omega) _) (cwV 2 hts (gV wm_218 wm_219 wm_220 wm_2 wm_221) rfl rfl rfl (by decide +kernel) ⟨Nat.le_of_ble_eq_true rfl, Nat.le_of_ble_eq_true rfl⟩) (mx_pv (C := RX2) (T := TX2) (N := 2) (ci := 2) hK hP hD hN (by omega : 5 < n) hM1.2.2.2.1.cell rfl) rfl rfl hl.1 rfl (lv_room (Nat.le_of_ble_eq_true rfl)) dX3_addPadded_112 ⟨Nat.zero_le _, Nat.zero_le _⟩) (Nat.le_refl _) hS (fun c2 H locs hw2 hP hS => ?_)
                obtain ⟨hs2, hT2⟩ := hw2
                have hM2 := hM1.made hs2 hT2
                have hB2 : tTx ca ad c2 kb 40 bd := hB1.keep (hs2 _ hdj.1 hdj.2.1) (hs2 _ hdj.2.2 (by omega))
                refine lv_aload_n hx hb dX3_addPadded_115 rfl (lv_at hl 3 rfl) ?_
                refine mx_get (ci := 3) (v := .ref (ad 5)) (C := RX3) (T := TX3) (N := 9) hx hb hts inX3 hown hK hP (by omega : 0 < n) hM2.1 rfl 2 (by decide) (hts _ wm_79) (fun _ h9 => h9) rfl dX3_addPadded_116 ?_
                refine lv_aload_n hx hb dX3_addPadded_119 rfl (lv_at hl 5 rfl) ?_
                refine mx_cv (va_runV (As := [.ref (ad kb)]) (rest := []) ⟨hx, hb, hml, hown, hts⟩ (c_Text_text l D ca n ad c2 (k := 5) (by omega) hM2.2.2.2.1 (k2 := kb) (by omega) hB2 (by omega) (by (try simp only [List.length_append, List.length_replicate, List.length_cons, List.length_nil]); omega) _) (cwV 1 hts (gV wm_137 wm_138 wm_139 wm_2 wm_140) rfl rfl rfl (by decide +kernel) ⟨Nat.le_of_ble_eq_true rfl, Nat.le_of_ble_eq_true rfl⟩) (mx_pv (C := RX2) (T := TX2) (N := 2) (ci := 2) hK hP hD hN (by omega : 5 < n) hM2.2.2.2.1.cell rfl) rfl rfl hl.1 rfl (lv_room (Nat.le_of_ble_eq_true rfl)) dX3_addPadded_120 ⟨Nat.zero_le _, Nat.zero_le _⟩) (Nat.le_refl _) hS (fun c3 H locs hw3 hP hS => ?_)
                obtain ⟨hs3, hT3⟩ := hw3
                have hM3 := hM2.made hs3 hT3
                have hB3 : tTx ca ad c3 kb 40 bd := hB2.keep (hs3 _ hdj.1 hdj.2.1) (hs3 _ hdj.2.2 (by omega))
                refine lv_aload_n hx hb dX3_addPadded_123 rfl (lv_at hl 3 rfl) ?_
                refine mx_get (ci := 3) (v := .ref (ad 48)) (C := RX3) (T := TX3) (N := 9) hx hb hts inX3 hown hK hP (by omega : 0 < n) hM3.1 rfl 6 (by decide) (hts _ wm_83) (fun _ h9 => h9) rfl dX3_addPadded_124 ?_
                refine mx_getN (ci := 1) (v := .int (bI f.1)) (C := RX1) (T := TX1) (N := 7) hx hb hts inX1 hown hK hP (by omega : 48 < n) hM3.2.2.2.2.2.2.1 rfl 0 (by decide) (hN.1 _ nn_3) (fun _ h9 => h9) rfl dX3_addPadded_127 ?_
                refine lv_if_eq (tgt := 144) hx hb dX3_addPadded_130 (by decide) (fun hc9 => ?_) (fun hc9 => ?_)
                · skip
                  refine lv_iconst (v := 0) hx hb dX3_addPadded_144 (by decide) ?_
                  have hmd : md ++ pad f.1 z wd (sgL x) bd = md ++ [by8 x] ++ List.replicate (max (bd.length + (sgL x).length) wd - (bd.length + (sgL x).length)) (by8 48) ++ bd := by
                    unfold pad
                    rw [if_neg (by rw [hLf]; decide), if_pos hZt, hsl1]
                    simp only [List.append_assoc, List.nil_append, show by8 32 = 32 from rfl, show by8 48 = 48 from rfl]
                  exact mx_iret hx hb hr hlocks hP hS (Or.inl ⟨by rw [pad_len]; exact hrm, rfl, by rw [hmd]; exact hM3, ((hs1).tr hs2).tr hs3⟩) dX3_addPadded_145
                · skip
                  exact absurd (bI_ne hc9) (by rw [hLf]; decide)
        · skip
          have hZf : z = false := bI_eq hc4
          refine lv_aload_n hx hb dX3_addPadded_66 rfl (lv_at hl 3 rfl) ?_
          refine mx_get (ci := 3) (v := .ref (ad 5)) (C := RX3) (T := TX3) (N := 9) hx hb hts inX3 hown hK hP (by omega : 0 < n) hM.1 rfl 2 (by decide) (hts _ wm_79) (fun _ h9 => h9) rfl dX3_addPadded_67 ?_
          refine lv_bipush (v := 32) hx hb dX3_addPadded_70 (by decide) ?_
          refine lv_iload hx hb dX3_addPadded_72 (lv_at hl 0 rfl) ?_
          refine mx_cv (va_runV (As := [.int 32, .int (nI (max (bd.length + (sgL x).length) wd - (bd.length + (sgL x).length)))]) (rest := []) ⟨hx, hb, hml, hown, hts⟩ (c_Text_many l D ca n ad c (k := 5) (by omega) hM.2.2.2.1 32 (nI (max (bd.length + (sgL x).length) wd - (bd.length + (sgL x).length))) (max (bd.length + (sgL x).length) wd - (bd.length + (sgL x).length)) rfl (by (try simp only [List.length_append, List.length_replicate, List.length_cons, List.length_nil]); omega) _) (cwV 2 hts (gV wm_218 wm_219 wm_220 wm_2 wm_221) rfl rfl rfl (by decide +kernel) ⟨Nat.le_of_ble_eq_true rfl, Nat.le_of_ble_eq_true rfl⟩) (mx_pv (C := RX2) (T := TX2) (N := 2) (ci := 2) hK hP hD hN (by omega : 5 < n) hM.2.2.2.1.cell rfl) rfl rfl hl.1 rfl (lv_room (Nat.le_of_ble_eq_true rfl)) dX3_addPadded_74 ⟨Nat.zero_le _, Nat.zero_le _⟩) (Nat.le_refl _) hS (fun c1 H locs hw1 hP hS => ?_)
          obtain ⟨hs1, hT1⟩ := hw1
          have hM1 := hM.made hs1 hT1
          have hB1 : tTx ca ad c1 kb 40 bd := hB.keep (hs1 _ hdj.1 hdj.2.1) (hs1 _ hdj.2.2 (by omega))
          refine lv_iload_n hx hb dX3_addPadded_77 rfl (lv_at hl 4 rfl) ?_
          refine lv_if_eq (tgt := 90) hx hb dX3_addPadded_78 (by decide) (fun hc9 => ?_) (fun hc9 => ?_)
          · skip
            exact absurd hc9 hx1
          · skip
            refine lv_aload_n hx hb dX3_addPadded_81 rfl (lv_at hl 3 rfl) ?_
            refine mx_get (ci := 3) (v := .ref (ad 5)) (C := RX3) (T := TX3) (N := 9) hx hb hts inX3 hown hK hP (by omega : 0 < n) hM1.1 rfl 2 (by decide) (hts _ wm_79) (fun _ h9 => h9) rfl dX3_addPadded_82 ?_
            refine lv_iload_n hx hb dX3_addPadded_85 rfl (lv_at hl 4 rfl) ?_
            refine mx_ci (va_runV (As := [.int x]) (rest := []) ⟨hx, hb, hml, hown, hts⟩ (c_Text_add l D ca n ad c1 (k := 5) (by omega) hM1.2.2.2.1 x _) (cwV 1 hts (gV wm_161 wm_118 wm_119 wm_2 wm_120) rfl rfl rfl (by decide +kernel) ⟨Nat.le_of_ble_eq_true rfl, Nat.le_of_ble_eq_true rfl⟩) (mx_pv (C := RX2) (T := TX2) (N := 2) (ci := 2) hK hP hD hN (by omega : 5 < n) hM1.2.2.2.1.cell rfl) rfl rfl hl.1 rfl (lv_room (Nat.le_of_ble_eq_true rfl)) dX3_addPadded_86 ⟨Nat.zero_le _, Nat.zero_le _⟩) (Nat.le_refl _) hS (fun r2 c2 H locs hw2 hP hS => ?_)
            obtain ⟨-, -, hs2, hT2⟩ := hw2.resolve_right (fun h => by have h9 := h.1; (try simp only [List.length_append, List.length_replicate] at h9); omega)
            have hM2 := hM1.made hs2 hT2
            have hB2 : tTx ca ad c2 kb 40 bd := hB1.keep (hs2 _ hdj.1 hdj.2.1) (hs2 _ hdj.2.2 (by omega))
            refine lv_pop hx hb dX3_addPadded_89 rfl ?_
            refine lv_aload_n hx hb dX3_addPadded_90 rfl (lv_at hl 3 rfl) ?_
            refine mx_get (ci := 3) (v := .ref (ad 48)) (C := RX3) (T := TX3) (N := 9) hx hb hts inX3 hown hK hP (by omega : 0 < n) hM2.1 rfl 6 (by decide) (hts _ wm_83) (fun _ h9 => h9) rfl dX3_addPadded_91 ?_
            refine mx_getN (ci := 1) (v := .int (bI f.1)) (C := RX1) (T := TX1) (N := 7) hx hb hts inX1 hown hK hP (by omega : 48 < n) hM2.2.2.2.2.2.2.1 rfl 0 (by decide) (hN.1 _ nn_3) (fun _ h9 => h9) rfl dX3_addPadded_94 ?_
            refine lv_if_ne (tgt := 115) hx hb dX3_addPadded_97 (by decide) (fun hc9 => ?_) (fun hc9 => ?_)
            · skip
              exact absurd (bI_ne hc9) (by rw [hLf]; decide)
            · skip
              refine lv_iload_n hx hb dX3_addPadded_100 rfl (lv_at hl 6 rfl) ?_
              refine lv_if_eq (tgt := 115) hx hb dX3_addPadded_101 (by decide) (fun hc9 => ?_) (fun hc9 => ?_)
              · skip
                refine lv_aload_n hx hb dX3_addPadded_115 rfl (lv_at hl 3 rfl) ?_
                refine mx_get (ci := 3) (v := .ref (ad 5)) (C := RX3) (T := TX3) (N := 9) hx hb hts inX3 hown hK hP (by omega : 0 < n) hM2.1 rfl 2 (by decide) (hts _ wm_79) (fun _ h9 => h9) rfl dX3_addPadded_116 ?_
                refine lv_aload_n hx hb dX3_addPadded_119 rfl (lv_at hl 5 rfl) ?_
                refine mx_cv (va_runV (As := [.ref (ad kb)]) (rest := []) ⟨hx, hb, hml, hown, hts⟩ (c_Text_text l D ca n ad c2 (k := 5) (by omega) hM2.2.2.2.1 (k2 := kb) (by omega) hB2 (by omega) (by (try simp only [List.length_append, List.length_replicate, List.length_cons, List.length_nil]); omega) _) (cwV 1 hts (gV wm_137 wm_138 wm_139 wm_2 wm_140) rfl rfl rfl (by decide +kernel) ⟨Nat.le_of_ble_eq_true rfl, Nat.le_of_ble_eq_true rfl⟩) (mx_pv (C := RX2) (T := TX2) (N := 2) (ci := 2) hK hP hD hN (by omega : 5 < n) hM2.2.2.2.1.cell rfl) rfl rfl hl.1 rfl (lv_room (Nat.le_of_ble_eq_true rfl)) dX3_addPadded_120 ⟨Nat.zero_le _, Nat.zero_le _⟩) (Nat.le_refl _) hS (fun c3 H locs hw3 hP hS => ?_)
                obtain ⟨hs3, hT3⟩ := hw3
                have hM3 := hM2.made hs3 hT3
                have hB3 : tTx ca ad c3 kb 40 bd := hB2.keep (hs3 _ hdj.1 hdj.2.1) (hs3 _ hdj.2.2 (by omega))
                refine lv_aload_n hx hb dX3_addPadded_123 rfl (lv_at hl 3 rfl) ?_
                refine mx_get (ci := 3) (v := .ref (ad 48)) (C := RX3) (T := TX3) (N := 9) hx hb hts inX3 hown hK hP (by omega : 0 < n) hM3.1 rfl 6 (by decide) (hts _ wm_83) (fun _ h9 => h9) rfl dX3_addPadded_124 ?_
                refine mx_getN (ci := 1) (v := .int (bI f.1)) (C := RX1) (T := TX1) (N := 7) hx hb hts inX1 hown hK hP (by omega : 48 < n) hM3.2.2.2.2.2.2.1 rfl 0 (by decide) (hN.1 _ nn_3) (fun _ h9 => h9) rfl dX3_addPadded_127 ?_
                refine lv_if_eq (tgt := 144) hx hb dX3_addPadded_130 (by decide) (fun hc9 => ?_) (fun hc9 => ?_)
                · skip
                  refine lv_iconst (v := 0) hx hb dX3_addPadded_144 (by decide) ?_
                  have hmd : md ++ pad f.1 z wd (sgL x) bd = md ++ List.replicate (max (bd.length + (sgL x).length) wd - (bd.length + (sgL x).length)) (by8 32) ++ [by8 x] ++ bd := by
                    unfold pad
                    rw [if_neg (by rw [hLf]; decide), if_neg (by rw [hZf]; decide), hsl1]
                    simp only [List.append_assoc, List.nil_append, show by8 32 = 32 from rfl, show by8 48 = 48 from rfl]
                  exact mx_iret hx hb hr hlocks hP hS (Or.inl ⟨by rw [pad_len]; exact hrm, rfl, by rw [hmd]; exact hM3, ((hs1).tr hs2).tr hs3⟩) dX3_addPadded_145
                · skip
                  exact absurd (bI_ne hc9) (by rw [hLf]; decide)
              · skip
                exact absurd (bI_ne hc9) (by rw [hZf]; decide)
    · skip
      refine lv_bipush (v := (-5)) hx hb dX3_addPadded_42 (by decide) ?_
      exact mx_iret hx hb hr hlocks hP hS (Or.inr ⟨by rw [pad_len]; rcases hw with h | h; exact absurd (h.2.symm.trans hc2) (by decide); have := (nI_ltI (by omega) (by omega)).mp h.1; omega, rfl, rfl⟩) dX3_addPadded_44
  · skip
    have hx0 : x = 0 := hc
    have hsl0 : sgL x = [] := if_pos hx0
    have hsln : (sgL x).length = 0 := by rw [hsl0]; rfl
    refine lv_iconst (v := 0) hx hb dX3_addPadded_8 (by decide) ?_
    refine lv_goto (tgt := 13) hx hb dX3_addPadded_9 (by decide) ?_
    refine lv_iadd hx hb dX3_addPadded_13 ?_
    refine mx_i (nI (bd.length + (sgL x).length)) (by rw [hsl0]; exact nI_add _ 0) ?_
    refine lv_istore (lv' := [(4, .int (nI (bd.length + (sgL x).length))), (0, .ref (ad 0)), (1, .int x), (2, .ref (ad kb)), (3, .int (bI z))]) hx hb dX3_addPadded_14 hl (by decide) rfl (fun ls hl => ?_)
    refine lv_iload hx hb dX3_addPadded_16 (lv_at hl 0 rfl) ?_
    refine lv_aload_n hx hb dX3_addPadded_18 rfl (lv_at hl 1 rfl) ?_
    refine mx_get (ci := 3) (v := .ref (ad 48)) (C := RX3) (T := TX3) (N := 9) hx hb hts inX3 hown hK hP (by omega : 0 < n) hM.1 rfl 6 (by decide) (hts _ wm_83) (fun _ h9 => h9) rfl dX3_addPadded_19 ?_
    refine mx_getN (ci := 1) (v := .int (nI wd)) (C := RX1) (T := TX1) (N := 7) hx hb hts inX1 hown hK hP (by omega : 48 < n) hM.2.2.2.2.2.2.1 rfl 4 (by decide) (hN.1 _ nn_5) (fun _ h9 => h9) rfl dX3_addPadded_22 ?_
    refine va_mmax hx hb (by rw [hml]; exact hl.1.symm) hown (hts _ wm_215) (hts _ wm_216) (hts _ wm_6) (hts _ wm_217) (Nat.le_of_ble_eq_true rfl) (Nat.le_of_ble_eq_true rfl) (Nat.zero_le _) (Nat.zero_le _) dX3_addPadded_25 ?_
    refine mx_i (nI (max (bd.length + (sgL x).length) wd)) (wh_max (by omega) (by omega)) ?_
    refine lv_istore (lv' := [(5, .int (nI (max (bd.length + (sgL x).length) wd))), (4, .int (nI (bd.length + (sgL x).length))), (0, .ref (ad 0)), (1, .int x), (2, .ref (ad kb)), (3, .int (bI z))]) hx hb dX3_addPadded_28 hl (by decide) rfl (fun ls hl => ?_)
    refine lv_aload_n hx hb dX3_addPadded_30 rfl (lv_at hl 2 rfl) ?_
    refine mx_get (ci := 3) (v := .ref (ad 5)) (C := RX3) (T := TX3) (N := 9) hx hb hts inX3 hown hK hP (by omega : 0 < n) hM.1 rfl 2 (by decide) (hts _ wm_79) (fun _ h9 => h9) rfl dX3_addPadded_31 ?_
    refine lv_iload hx hb dX3_addPadded_34 (lv_at hl 0 rfl) ?_
    refine mx_ci (va_runV (As := [.int (nI (max (bd.length + (sgL x).length) wd))]) (rest := []) ⟨hx, hb, hml, hown, hts⟩ (c_Text_has l D ca n ad c (k := 5) (by omega) hM.2.2.2.1 (nI (max (bd.length + (sgL x).length) wd)) _) (cwV 1 hts (gV wm_109 wm_110 wm_111 wm_2 wm_112) rfl rfl rfl (by decide +kernel) ⟨Nat.le_of_ble_eq_true rfl, Nat.le_of_ble_eq_true rfl⟩) (mx_pv (C := RX2) (T := TX2) (N := 2) (ci := 2) hK hP hD hN (by omega : 5 < n) hM.2.2.2.1.cell rfl) rfl rfl hl.1 rfl (lv_room (Nat.le_of_ble_eq_true rfl)) dX3_addPadded_36 ⟨Nat.zero_le _, Nat.zero_le _⟩) (Nat.le_refl _) hS (fun r c1 H locs hw hP hS => ?_)
    obtain ⟨hcE, hw⟩ := hw
    rw [hcE] at hP
    refine lv_if_ne (tgt := 45) hx hb dX3_addPadded_39 (by decide) (fun hc2 => ?_) (fun hc2 => ?_)
    · skip
      have hrm : md.length + max (bd.length + (sgL x).length) wd ≤ 1024 := by rcases hw with h | h; have := (nI_leI (by omega) (by omega)).mp h.1; omega; exact absurd h.2 hc2
      refine lv_iload hx hb dX3_addPadded_45 (lv_at hl 0 rfl) ?_
      refine lv_iload hx hb dX3_addPadded_47 (lv_at hl 1 rfl) ?_
      refine lv_isub hx hb dX3_addPadded_49 ?_
      refine mx_i (nI (max (bd.length + (sgL x).length) wd - (bd.length + (sgL x).length))) (pk_sub (Nat.le_max_left _ _)) ?_
      refine lv_istore (lv' := [(6, .int (nI (max (bd.length + (sgL x).length) wd - (bd.length + (sgL x).length)))), (5, .int (nI (max (bd.length + (sgL x).length) wd))), (4, .int (nI (bd.length + (sgL x).length))), (0, .ref (ad 0)), (1, .int x), (2, .ref (ad kb)), (3, .int (bI z))]) hx hb dX3_addPadded_50 hl (by decide) rfl (fun ls hl => ?_)
      refine lv_aload_n hx hb dX3_addPadded_52 rfl (lv_at hl 3 rfl) ?_
      refine mx_get (ci := 3) (v := .ref (ad 48)) (C := RX3) (T := TX3) (N := 9) hx hb hts inX3 hown hK hP (by omega : 0 < n) hM.1 rfl 6 (by decide) (hts _ wm_83) (fun _ h9 => h9) rfl dX3_addPadded_53 ?_
      refine mx_getN (ci := 1) (v := .int (bI f.1)) (C := RX1) (T := TX1) (N := 7) hx hb hts inX1 hown hK hP (by omega : 48 < n) hM.2.2.2.2.2.2.1 rfl 0 (by decide) (hN.1 _ nn_3) (fun _ h9 => h9) rfl dX3_addPadded_56 ?_
      refine lv_if_ne (tgt := 77) hx hb dX3_addPadded_59 (by decide) (fun hc3 => ?_) (fun hc3 => ?_)
      · skip
        have hLt : f.1 = true := bI_ne hc3
        refine lv_iload_n hx hb dX3_addPadded_77 rfl (lv_at hl 4 rfl) ?_
        refine lv_if_eq (tgt := 90) hx hb dX3_addPadded_78 (by decide) (fun hc9 => ?_) (fun hc9 => ?_)
        · skip
          refine lv_aload_n hx hb dX3_addPadded_90 rfl (lv_at hl 3 rfl) ?_
          refine mx_get (ci := 3) (v := .ref (ad 48)) (C := RX3) (T := TX3) (N := 9) hx hb hts inX3 hown hK hP (by omega : 0 < n) hM.1 rfl 6 (by decide) (hts _ wm_83) (fun _ h9 => h9) rfl dX3_addPadded_91 ?_
          refine mx_getN (ci := 1) (v := .int (bI f.1)) (C := RX1) (T := TX1) (N := 7) hx hb hts inX1 hown hK hP (by omega : 48 < n) hM.2.2.2.2.2.2.1 rfl 0 (by decide) (hN.1 _ nn_3) (fun _ h9 => h9) rfl dX3_addPadded_94 ?_
          refine lv_if_ne (tgt := 115) hx hb dX3_addPadded_97 (by decide) (fun hc9 => ?_) (fun hc9 => ?_)
          · skip
            refine lv_aload_n hx hb dX3_addPadded_115 rfl (lv_at hl 3 rfl) ?_
            refine mx_get (ci := 3) (v := .ref (ad 5)) (C := RX3) (T := TX3) (N := 9) hx hb hts inX3 hown hK hP (by omega : 0 < n) hM.1 rfl 2 (by decide) (hts _ wm_79) (fun _ h9 => h9) rfl dX3_addPadded_116 ?_
            refine lv_aload_n hx hb dX3_addPadded_119 rfl (lv_at hl 5 rfl) ?_
            refine mx_cv (va_runV (As := [.ref (ad kb)]) (rest := []) ⟨hx, hb, hml, hown, hts⟩ (c_Text_text l D ca n ad c (k := 5) (by omega) hM.2.2.2.1 (k2 := kb) (by omega) hB (by omega) (by (try simp only [List.length_append, List.length_replicate, List.length_cons, List.length_nil]); omega) _) (cwV 1 hts (gV wm_137 wm_138 wm_139 wm_2 wm_140) rfl rfl rfl (by decide +kernel) ⟨Nat.le_of_ble_eq_true rfl, Nat.le_of_ble_eq_true rfl⟩) (mx_pv (C := RX2) (T := TX2) (N := 2) (ci := 2) hK hP hD hN (by omega : 5 < n) hM.2.2.2.1.cell rfl) rfl rfl hl.1 rfl (lv_room (Nat.le_of_ble_eq_true rfl)) dX3_addPadded_120 ⟨Nat.zero_le _, Nat.zero_le _⟩) (Nat.le_refl _) hS (fun c1 H locs hw1 hP hS => ?_)
            obtain ⟨hs1, hT1⟩ := hw1
            have hM1 := hM.made hs1 hT1
            have hB1 : tTx ca ad c1 kb 40 bd := hB.keep (hs1 _ hdj.1 hdj.2.1) (hs1 _ hdj.2.2 (by omega))
            refine lv_aload_n hx hb dX3_addPadded_123 rfl (lv_at hl 3 rfl) ?_
            refine mx_get (ci := 3) (v := .ref (ad 48)) (C := RX3) (T := TX3) (N := 9) hx hb hts inX3 hown hK hP (by omega : 0 < n) hM1.1 rfl 6 (by decide) (hts _ wm_83) (fun _ h9 => h9) rfl dX3_addPadded_124 ?_
            refine mx_getN (ci := 1) (v := .int (bI f.1)) (C := RX1) (T := TX1) (N := 7) hx hb hts inX1 hown hK hP (by omega : 48 < n) hM1.2.2.2.2.2.2.1 rfl 0 (by decide) (hN.1 _ nn_3) (fun _ h9 => h9) rfl dX3_addPadded_127 ?_
            refine lv_if_eq (tgt := 144) hx hb dX3_addPadded_130 (by decide) (fun hc9 => ?_) (fun hc9 => ?_)
            · skip
              exact absurd (bI_eq hc9) (by rw [hLt]; decide)
            · skip
              refine lv_aload_n hx hb dX3_addPadded_133 rfl (lv_at hl 3 rfl) ?_
              refine mx_get (ci := 3) (v := .ref (ad 5)) (C := RX3) (T := TX3) (N := 9) hx hb hts inX3 hown hK hP (by omega : 0 < n) hM1.1 rfl 2 (by decide) (hts _ wm_79) (fun _ h9 => h9) rfl dX3_addPadded_134 ?_
              refine lv_bipush (v := 32) hx hb dX3_addPadded_137 (by decide) ?_
              refine lv_iload hx hb dX3_addPadded_139 (lv_at hl 0 rfl) ?_
              refine mx_cv (va_runV (As := [.int 32, .int (nI (max (bd.length + (sgL x).length) wd - (bd.length + (sgL x).length)))]) (rest := []) ⟨hx, hb, hml, hown, hts⟩ (c_Text_many l D ca n ad c1 (k := 5) (by omega) hM1.2.2.2.1 32 (nI (max (bd.length + (sgL x).length) wd - (bd.length + (sgL x).length))) (max (bd.length + (sgL x).length) wd - (bd.length + (sgL x).length)) rfl (by (try simp only [List.length_append, List.length_replicate, List.length_cons, List.length_nil]); omega) _) (cwV 2 hts (gV wm_218 wm_219 wm_220 wm_2 wm_221) rfl rfl rfl (by decide +kernel) ⟨Nat.le_of_ble_eq_true rfl, Nat.le_of_ble_eq_true rfl⟩) (mx_pv (C := RX2) (T := TX2) (N := 2) (ci := 2) hK hP hD hN (by omega : 5 < n) hM1.2.2.2.1.cell rfl) rfl rfl hl.1 rfl (lv_room (Nat.le_of_ble_eq_true rfl)) dX3_addPadded_141 ⟨Nat.zero_le _, Nat.zero_le _⟩) (Nat.le_refl _) hS (fun c2 H locs hw2 hP hS => ?_)
              obtain ⟨hs2, hT2⟩ := hw2
              have hM2 := hM1.made hs2 hT2
              have hB2 : tTx ca ad c2 kb 40 bd := hB1.keep (hs2 _ hdj.1 hdj.2.1) (hs2 _ hdj.2.2 (by omega))
              refine lv_iconst (v := 0) hx hb dX3_addPadded_144 (by decide) ?_
              have hmd : md ++ pad f.1 z wd (sgL x) bd = md ++ bd ++ List.replicate (max (bd.length + (sgL x).length) wd - (bd.length + (sgL x).length)) (by8 32) := by
                unfold pad
                rw [if_pos hLt, hsl0]
                simp only [List.append_assoc, List.nil_append, show by8 32 = 32 from rfl, show by8 48 = 48 from rfl]
              exact mx_iret hx hb hr hlocks hP hS (Or.inl ⟨by rw [pad_len]; exact hrm, rfl, by rw [hmd]; exact hM2, (hs1).tr hs2⟩) dX3_addPadded_145
          · skip
            exact absurd (bI_eq hc9) (by rw [hLt]; decide)
        · skip
          exact absurd hx0 hc9
      · skip
        have hLf : f.1 = false := bI_eq hc3
        refine lv_iload_n hx hb dX3_addPadded_62 rfl (lv_at hl 6 rfl) ?_
        refine lv_if_ne (tgt := 77) hx hb dX3_addPadded_63 (by decide) (fun hc4 => ?_) (fun hc4 => ?_)
        · skip
          have hZt : z = true := bI_ne hc4
          refine lv_iload_n hx hb dX3_addPadded_77 rfl (lv_at hl 4 rfl) ?_
          refine lv_if_eq (tgt := 90) hx hb dX3_addPadded_78 (by decide) (fun hc9 => ?_) (fun hc9 => ?_)
          · skip
            refine lv_aload_n hx hb dX3_addPadded_90 rfl (lv_at hl 3 rfl) ?_
            refine mx_get (ci := 3) (v := .ref (ad 48)) (C := RX3) (T := TX3) (N := 9) hx hb hts inX3 hown hK hP (by omega : 0 < n) hM.1 rfl 6 (by decide) (hts _ wm_83) (fun _ h9 => h9) rfl dX3_addPadded_91 ?_
            refine mx_getN (ci := 1) (v := .int (bI f.1)) (C := RX1) (T := TX1) (N := 7) hx hb hts inX1 hown hK hP (by omega : 48 < n) hM.2.2.2.2.2.2.1 rfl 0 (by decide) (hN.1 _ nn_3) (fun _ h9 => h9) rfl dX3_addPadded_94 ?_
            refine lv_if_ne (tgt := 115) hx hb dX3_addPadded_97 (by decide) (fun hc9 => ?_) (fun hc9 => ?_)
            · skip
              exact absurd (bI_ne hc9) (by rw [hLf]; decide)
            · skip
              refine lv_iload_n hx hb dX3_addPadded_100 rfl (lv_at hl 6 rfl) ?_
              refine lv_if_eq (tgt := 115) hx hb dX3_addPadded_101 (by decide) (fun hc9 => ?_) (fun hc9 => ?_)
              · skip
                exact absurd (bI_eq hc9) (by rw [hZt]; decide)
              · skip
                refine lv_aload_n hx hb dX3_addPadded_104 rfl (lv_at hl 3 rfl) ?_
                refine mx_get (ci := 3) (v := .ref (ad 5)) (C := RX3) (T := TX3) (N := 9) hx hb hts inX3 hown hK hP (by omega : 0 < n) hM.1 rfl 2 (by decide) (hts _ wm_79) (fun _ h9 => h9) rfl dX3_addPadded_105 ?_
                refine lv_bipush (v := 48) hx hb dX3_addPadded_108 (by decide) ?_
                refine lv_iload hx hb dX3_addPadded_110 (lv_at hl 0 rfl) ?_
                refine mx_cv (va_runV (As := [.int 48, .int (nI (max (bd.length + (sgL x).length) wd - (bd.length + (sgL x).length)))]) (rest := []) ⟨hx, hb, hml, hown, hts⟩ (c_Text_many l D ca n ad c (k := 5) (by omega) hM.2.2.2.1 48 (nI (max (bd.length + (sgL x).length) wd - (bd.length + (sgL x).length))) (max (bd.length + (sgL x).length) wd - (bd.length + (sgL x).length)) rfl (by (try simp only [List.length_append, List.length_replicate, List.length_cons, List.length_nil]); omega) _) (cwV 2 hts (gV wm_218 wm_219 wm_220 wm_2 wm_221) rfl rfl rfl (by decide +kernel) ⟨Nat.le_of_ble_eq_true rfl, Nat.le_of_ble_eq_true rfl⟩) (mx_pv (C := RX2) (T := TX2) (N := 2) (ci := 2) hK hP hD hN (by omega : 5 < n) hM.2.2.2.1.cell rfl) rfl rfl hl.1 rfl (lv_room (Nat.le_of_ble_eq_true rfl)) dX3_addPadded_112 ⟨Nat.zero_le _, Nat.zero_le _⟩) (Nat.le_refl _) hS (fun c1 H locs hw1 hP hS => ?_)
                obtain ⟨hs1, hT1⟩ := hw1
                have hM1 := hM.made hs1 hT1
                have hB1 : tTx ca ad c1 kb 40 bd := hB.keep (hs1 _ hdj.1 hdj.2.1) (hs1 _ hdj.2.2 (by omega))
                refine lv_aload_n hx hb dX3_addPadded_115 rfl (lv_at hl 3 rfl) ?_
                refine mx_get (ci := 3) (v := .ref (ad 5)) (C := RX3) (T := TX3) (N := 9) hx hb hts inX3 hown hK hP (by omega : 0 < n) hM1.1 rfl 2 (by decide) (hts _ wm_79) (fun _ h9 => h9) rfl dX3_addPadded_116 ?_
                refine lv_aload_n hx hb dX3_addPadded_119 rfl (lv_at hl 5 rfl) ?_
                refine mx_cv (va_runV (As := [.ref (ad kb)]) (rest := []) ⟨hx, hb, hml, hown, hts⟩ (c_Text_text l D ca n ad c1 (k := 5) (by omega) hM1.2.2.2.1 (k2 := kb) (by omega) hB1 (by omega) (by (try simp only [List.length_append, List.length_replicate, List.length_cons, List.length_nil]); omega) _) (cwV 1 hts (gV wm_137 wm_138 wm_139 wm_2 wm_140) rfl rfl rfl (by decide +kernel) ⟨Nat.le_of_ble_eq_true rfl, Nat.le_of_ble_eq_true rfl⟩) (mx_pv (C := RX2) (T := TX2) (N := 2) (ci := 2) hK hP hD hN (by omega : 5 < n) hM1.2.2.2.1.cell rfl) rfl rfl hl.1 rfl (lv_room (Nat.le_of_ble_eq_true rfl)) dX3_addPadded_120 ⟨Nat.zero_le _, Nat.zero_le _⟩) (Nat.le_refl _) hS (fun c2 H locs hw2 hP hS => ?_)
                obtain ⟨hs2, hT2⟩ := hw2
                have hM2 := hM1.made hs2 hT2
                have hB2 : tTx ca ad c2 kb 40 bd := hB1.keep (hs2 _ hdj.1 hdj.2.1) (hs2 _ hdj.2.2 (by omega))
                refine lv_aload_n hx hb dX3_addPadded_123 rfl (lv_at hl 3 rfl) ?_
                refine mx_get (ci := 3) (v := .ref (ad 48)) (C := RX3) (T := TX3) (N := 9) hx hb hts inX3 hown hK hP (by omega : 0 < n) hM2.1 rfl 6 (by decide) (hts _ wm_83) (fun _ h9 => h9) rfl dX3_addPadded_124 ?_
                refine mx_getN (ci := 1) (v := .int (bI f.1)) (C := RX1) (T := TX1) (N := 7) hx hb hts inX1 hown hK hP (by omega : 48 < n) hM2.2.2.2.2.2.2.1 rfl 0 (by decide) (hN.1 _ nn_3) (fun _ h9 => h9) rfl dX3_addPadded_127 ?_
                refine lv_if_eq (tgt := 144) hx hb dX3_addPadded_130 (by decide) (fun hc9 => ?_) (fun hc9 => ?_)
                · skip
                  refine lv_iconst (v := 0) hx hb dX3_addPadded_144 (by decide) ?_
                  have hmd : md ++ pad f.1 z wd (sgL x) bd = md ++ List.replicate (max (bd.length + (sgL x).length) wd - (bd.length + (sgL x).length)) (by8 48) ++ bd := by
                    unfold pad
                    rw [if_neg (by rw [hLf]; decide), if_pos hZt, hsl0]
                    simp only [List.append_assoc, List.nil_append, show by8 32 = 32 from rfl, show by8 48 = 48 from rfl]
                  exact mx_iret hx hb hr hlocks hP hS (Or.inl ⟨by rw [pad_len]; exact hrm, rfl, by rw [hmd]; exact hM2, (hs1).tr hs2⟩) dX3_addPadded_145
                · skip
                  exact absurd (bI_ne hc9) (by rw [hLf]; decide)
          · skip
            exact absurd hx0 hc9
        · skip
          have hZf : z = false := bI_eq hc4
          refine lv_aload_n hx hb dX3_addPadded_66 rfl (lv_at hl 3 rfl) ?_
          refine mx_get (ci := 3) (v := .ref (ad 5)) (C := RX3) (T := TX3) (N := 9) hx hb hts inX3 hown hK hP (by omega : 0 < n) hM.1 rfl 2 (by decide) (hts _ wm_79) (fun _ h9 => h9) rfl dX3_addPadded_67 ?_
          refine lv_bipush (v := 32) hx hb dX3_addPadded_70 (by decide) ?_
          refine lv_iload hx hb dX3_addPadded_72 (lv_at hl 0 rfl) ?_
          refine mx_cv (va_runV (As := [.int 32, .int (nI (max (bd.length + (sgL x).length) wd - (bd.length + (sgL x).length)))]) (rest := []) ⟨hx, hb, hml, hown, hts⟩ (c_Text_many l D ca n ad c (k := 5) (by omega) hM.2.2.2.1 32 (nI (max (bd.length + (sgL x).length) wd - (bd.length + (sgL x).length))) (max (bd.length + (sgL x).length) wd - (bd.length + (sgL x).length)) rfl (by (try simp only [List.length_append, List.length_replicate, List.length_cons, List.length_nil]); omega) _) (cwV 2 hts (gV wm_218 wm_219 wm_220 wm_2 wm_221) rfl rfl rfl (by decide +kernel) ⟨Nat.le_of_ble_eq_true rfl, Nat.le_of_ble_eq_true rfl⟩) (mx_pv (C := RX2) (T := TX2) (N := 2) (ci := 2) hK hP hD hN (by omega : 5 < n) hM.2.2.2.1.cell rfl) rfl rfl hl.1 rfl (lv_room (Nat.le_of_ble_eq_true rfl)) dX3_addPadded_74 ⟨Nat.zero_le _, Nat.zero_le _⟩) (Nat.le_refl _) hS (fun c1 H locs hw1 hP hS => ?_)
          obtain ⟨hs1, hT1⟩ := hw1
          have hM1 := hM.made hs1 hT1
          have hB1 : tTx ca ad c1 kb 40 bd := hB.keep (hs1 _ hdj.1 hdj.2.1) (hs1 _ hdj.2.2 (by omega))
          refine lv_iload_n hx hb dX3_addPadded_77 rfl (lv_at hl 4 rfl) ?_
          refine lv_if_eq (tgt := 90) hx hb dX3_addPadded_78 (by decide) (fun hc9 => ?_) (fun hc9 => ?_)
          · skip
            refine lv_aload_n hx hb dX3_addPadded_90 rfl (lv_at hl 3 rfl) ?_
            refine mx_get (ci := 3) (v := .ref (ad 48)) (C := RX3) (T := TX3) (N := 9) hx hb hts inX3 hown hK hP (by omega : 0 < n) hM1.1 rfl 6 (by decide) (hts _ wm_83) (fun _ h9 => h9) rfl dX3_addPadded_91 ?_
            refine mx_getN (ci := 1) (v := .int (bI f.1)) (C := RX1) (T := TX1) (N := 7) hx hb hts inX1 hown hK hP (by omega : 48 < n) hM1.2.2.2.2.2.2.1 rfl 0 (by decide) (hN.1 _ nn_3) (fun _ h9 => h9) rfl dX3_addPadded_94 ?_
            refine lv_if_ne (tgt := 115) hx hb dX3_addPadded_97 (by decide) (fun hc9 => ?_) (fun hc9 => ?_)
            · skip
              exact absurd (bI_ne hc9) (by rw [hLf]; decide)
            · skip
              refine lv_iload_n hx hb dX3_addPadded_100 rfl (lv_at hl 6 rfl) ?_
              refine lv_if_eq (tgt := 115) hx hb dX3_addPadded_101 (by decide) (fun hc9 => ?_) (fun hc9 => ?_)
              · skip
                refine lv_aload_n hx hb dX3_addPadded_115 rfl (lv_at hl 3 rfl) ?_
                refine mx_get (ci := 3) (v := .ref (ad 5)) (C := RX3) (T := TX3) (N := 9) hx hb hts inX3 hown hK hP (by omega : 0 < n) hM1.1 rfl 2 (by decide) (hts _ wm_79) (fun _ h9 => h9) rfl dX3_addPadded_116 ?_
                refine lv_aload_n hx hb dX3_addPadded_119 rfl (lv_at hl 5 rfl) ?_
                refine mx_cv (va_runV (As := [.ref (ad kb)]) (rest := []) ⟨hx, hb, hml, hown, hts⟩ (c_Text_text l D ca n ad c1 (k := 5) (by omega) hM1.2.2.2.1 (k2 := kb) (by omega) hB1 (by omega) (by (try simp only [List.length_append, List.length_replicate, List.length_cons, List.length_nil]); omega) _) (cwV 1 hts (gV wm_137 wm_138 wm_139 wm_2 wm_140) rfl rfl rfl (by decide +kernel) ⟨Nat.le_of_ble_eq_true rfl, Nat.le_of_ble_eq_true rfl⟩) (mx_pv (C := RX2) (T := TX2) (N := 2) (ci := 2) hK hP hD hN (by omega : 5 < n) hM1.2.2.2.1.cell rfl) rfl rfl hl.1 rfl (lv_room (Nat.le_of_ble_eq_true rfl)) dX3_addPadded_120 ⟨Nat.zero_le _, Nat.zero_le _⟩) (Nat.le_refl _) hS (fun c2 H locs hw2 hP hS => ?_)
                obtain ⟨hs2, hT2⟩ := hw2
                have hM2 := hM1.made hs2 hT2
                have hB2 : tTx ca ad c2 kb 40 bd := hB1.keep (hs2 _ hdj.1 hdj.2.1) (hs2 _ hdj.2.2 (by omega))
                refine lv_aload_n hx hb dX3_addPadded_123 rfl (lv_at hl 3 rfl) ?_
                refine mx_get (ci := 3) (v := .ref (ad 48)) (C := RX3) (T := TX3) (N := 9) hx hb hts inX3 hown hK hP (by omega : 0 < n) hM2.1 rfl 6 (by decide) (hts _ wm_83) (fun _ h9 => h9) rfl dX3_addPadded_124 ?_
                refine mx_getN (ci := 1) (v := .int (bI f.1)) (C := RX1) (T := TX1) (N := 7) hx hb hts inX1 hown hK hP (by omega : 48 < n) hM2.2.2.2.2.2.2.1 rfl 0 (by decide) (hN.1 _ nn_3) (fun _ h9 => h9) rfl dX3_addPadded_127 ?_
                refine lv_if_eq (tgt := 144) hx hb dX3_addPadded_130 (by decide) (fun hc9 => ?_) (fun hc9 => ?_)
                · skip
                  refine lv_iconst (v := 0) hx hb dX3_addPadded_144 (by decide) ?_
                  have hmd : md ++ pad f.1 z wd (sgL x) bd = md ++ List.replicate (max (bd.length + (sgL x).length) wd - (bd.length + (sgL x).length)) (by8 32) ++ bd := by
                    unfold pad
                    rw [if_neg (by rw [hLf]; decide), if_neg (by rw [hZf]; decide), hsl0]
                    simp only [List.append_assoc, List.nil_append, show by8 32 = 32 from rfl, show by8 48 = 48 from rfl]
                  exact mx_iret hx hb hr hlocks hP hS (Or.inl ⟨by rw [pad_len]; exact hrm, rfl, by rw [hmd]; exact hM2, (hs1).tr hs2⟩) dX3_addPadded_145
                · skip
                  exact absurd (bI_ne hc9) (by rw [hLf]; decide)
              · skip
                exact absurd (bI_ne hc9) (by rw [hZf]; decide)
          · skip
            exact absurd hx0 hc9
    · skip
      refine lv_bipush (v := (-5)) hx hb dX3_addPadded_42 (by decide) ?_
      exact mx_iret hx hb hr hlocks hP hS (Or.inr ⟨by rw [pad_len]; rcases hw with h | h; exact absurd (h.2.symm.trans hc2) (by decide); have := (nI_ltI (by omega) (by omega)).mp h.1; omega, rfl, rfl⟩) dX3_addPadded_44
set_option maxHeartbeats 4000000 in
set_option maxRecDepth 100000 in
/-- fillWithInteger -/
theorem c_fillInt (l : Launch) (D : va_G) (ca : Nat → ClassId) (n : Nat) (ad : Nat → Nat) (c : Nat → va_E) {tp pt md dg : List Nat} {ar : Nat → List Nat} {ac tk : Nat} {f : fl4} {wd : Nat} {kd bh : Int32} {v : Int64} (hn : 52 ≤ n) (hM : tMF ca ad c tp pt md ar ac tk f (nI wd) kd bh v dg) (hwd : wd ≤ 100000) (x : Int64) : mInt l yX3_fillWithInteger wsX3_fillWithInteger ({ frames := 3, cells := 0, slots := 0, locals := 70 }) [.ref (ad 0), .long x] D (tTY ca) n ad c (fun r c' => ((md.length + (fInt f wd kd x).length ≤ 1024 ∧ r = 0 ∧ ∃ dg', tMF ca ad c' tp pt (md ++ fInt f wd kd x) ar ac tk f (nI wd) kd bh v dg') ∨ (¬ md.length + (fInt f wd kd x).length ≤ 1024 ∧ r = -5 ∧ ∃ dg', tMF ca ad c' tp pt md ar ac tk f (nI wd) kd bh v dg')) ∧ ∀ j, 52 ≤ j → c' j = c j) := by
  intro sz
  refine Met.ofW (cc := cX3_fillWithInteger) (maxL := 3) (ret := (some .int)) (by decide) rfl ?_
  intro pg9 ev9 s m args below meth cd s₁ B hml hv
  obtain ⟨rfl, hsz, hP, hK, hD0, hN⟩ := hv
  have hx := B.exec
  have hb := B.bytes
  have hr := B.returns
  have hts := fun (w : Cond) (h : w ∈ WSa) => atoms_spec (ws := wsX3_fillWithInteger) B.pre w (List.mem_cons_of_mem _ h)
  have hown : s.vm.findClass RX3 = some m.cls := findClass_of_methodNamed B.named
  have hlocks := B.notSynchronized
  subst hsz
  have hD : ∀ c, va_D (fun _ => True) (mw n ad c) := fun c' => mw_D hD0 c'
  have hS : va_S (mA n ad s.heap.size) s.heap s.heap [] := va_S.rf
  have hl := lv_entry ([.ref (ad 0), .long x]) (n := 3) (Nat.le_of_ble_eq_true rfl)
  rw [lg_entry_eq]
  generalize (lg_sl ([.ref (ad 0), .long x]) ++ List.replicate (3 - (lg_sl ([.ref (ad 0), .long x])).length) Slot.unset).toArray = ls at hl ⊢
  have hl : lv_has ls 3 [(0, .ref (ad 0)), (1, .long x)] := hl
  refine lv_aload_n hx hb dX3_fillWithInteger_0 rfl (lv_at hl 0 rfl) ?_
  refine mx_get (ci := 3) (v := .ref (ad 50)) (C := RX3) (T := TX3) (N := 9) hx hb hts inX3 hown hK hP (by omega : 0 < n) hM.1 rfl 8 (by decide) (hts _ wm_85) (fun _ h9 => h9) rfl dX3_fillWithInteger_1 ?_
  refine mx_cv (va_runV (As := []) (rest := []) ⟨hx, hb, hml, hown, hts⟩ (c_Text_empty l D ca n ad c (k := 50) (by omega) hM.2.2.2.2.2.2.2.2.1 _) (cwV 0 hts (gV wm_133 wm_134 wm_135 wm_2 wm_136) rfl rfl rfl (by decide +kernel) ⟨Nat.le_of_ble_eq_true rfl, Nat.le_of_ble_eq_true rfl⟩) (mx_pv (C := RX2) (T := TX2) (N := 2) (ci := 2) hK hP hD hN (by omega : 50 < n) hM.2.2.2.2.2.2.2.2.1.cell rfl) rfl rfl hl.1 rfl (lv_room (Nat.le_of_ble_eq_true rfl)) dX3_fillWithInteger_4 ⟨Nat.zero_le _, Nat.zero_le _⟩) (Nat.le_refl _) hS (fun c1 H locs hw1 hP hS => ?_)
  obtain ⟨hs1, hT1⟩ := hw1
  have hM1 := hM.dig hs1 hT1
  refine lv_aload_n hx hb dX3_fillWithInteger_7 rfl (lv_at hl 0 rfl) ?_
  refine mx_get (ci := 3) (v := .ref (ad 48)) (C := RX3) (T := TX3) (N := 9) hx hb hts inX3 hown hK hP (by omega : 0 < n) hM1.1 rfl 6 (by decide) (hts _ wm_83) (fun _ h9 => h9) rfl dX3_fillWithInteger_8 ?_
  refine mx_getN (ci := 1) (v := .int kd) (C := RX1) (T := TX1) (N := 7) hx hb hts inX1 hown hK hP (by omega : 48 < n) hM1.2.2.2.2.2.2.1 rfl 5 (by decide) (hN.1 _ nn_6) (fun _ h9 => h9) rfl dX3_fillWithInteger_11 ?_
  by_cases h88 : kd = 88
  · skip
    refine lv_lookup (off := 104) (tgt := 118) hx hb dX3_fillWithInteger_14 (by decide) (by first | (rw [h88]; rfl) | rw [h88]) (by decide) ?_
    refine lv_aload_n hx hb dX3_fillWithInteger_118 rfl (lv_at hl 0 rfl) ?_
    refine mx_get (ci := 3) (v := .ref (ad 50)) (C := RX3) (T := TX3) (N := 9) hx hb hts inX3 hown hK hP (by omega : 0 < n) hM1.1 rfl 8 (by decide) (hts _ wm_85) (fun _ h9 => h9) rfl dX3_fillWithInteger_119 ?_
    refine lv_lload_n hx hb dX3_fillWithInteger_122 rfl (lv_at hl 1 rfl) ?_
    refine lv_bipush (v := 16) hx hb dX3_fillWithInteger_123 (by decide) ?_
    refine lv_iconst (v := 4) hx hb dX3_fillWithInteger_125 (by decide) ?_
    refine lv_bipush (v := 65) hx hb dX3_fillWithInteger_126 (by decide) ?_
    refine mx_cv (va_runV (As := [.long x, .int 16, .int 4, .int 65]) (rest := []) ⟨hx, hb, hml, hown, hts⟩ (c_Text_bits l D ca n ad c1 (k := 50) (by omega) hT1 x 16 4 65 16 4 65 rfl rfl rfl (by decide) (by decide) (by decide) (by decide) (by simp) _) (cwV 4 hts (gV wm_254 wm_255 wm_256 wm_2 wm_257) rfl rfl rfl (by decide +kernel) ⟨Nat.le_of_ble_eq_true rfl, Nat.le_of_ble_eq_true rfl⟩) (mx_pv (C := RX2) (T := TX2) (N := 2) (ci := 2) hK hP hD hN (by omega : 50 < n) hM1.2.2.2.2.2.2.2.2.1.cell rfl) rfl rfl hl.1 rfl (lv_room (Nat.le_of_ble_eq_true rfl)) dX3_fillWithInteger_128 ⟨Nat.zero_le _, Nat.zero_le _⟩) (Nat.le_refl _) hS (fun c2 H locs hw2 hP hS => ?_)
    obtain ⟨hs2, hT2⟩ := hw2
    rw [List.nil_append] at hT2
    have hM2 := hM1.dig hs2 hT2
    refine lv_aload_n hx hb dX3_fillWithInteger_131 rfl (lv_at hl 0 rfl) ?_
    refine lv_iconst (v := 0) hx hb dX3_fillWithInteger_132 (by decide) ?_
    refine lv_aload_n hx hb dX3_fillWithInteger_133 rfl (lv_at hl 0 rfl) ?_
    refine mx_get (ci := 3) (v := .ref (ad 50)) (C := RX3) (T := TX3) (N := 9) hx hb hts inX3 hown hK hP (by omega : 0 < n) hM2.1 rfl 8 (by decide) (hts _ wm_85) (fun _ h9 => h9) rfl dX3_fillWithInteger_134 ?_
    refine lv_aload_n hx hb dX3_fillWithInteger_137 rfl (lv_at hl 0 rfl) ?_
    refine mx_get (ci := 3) (v := .ref (ad 48)) (C := RX3) (T := TX3) (N := 9) hx hb hts inX3 hown hK hP (by omega : 0 < n) hM2.1 rfl 6 (by decide) (hts _ wm_83) (fun _ h9 => h9) rfl dX3_fillWithInteger_138 ?_
    refine mx_getN (ci := 1) (v := .int (bI f.2.1)) (C := RX1) (T := TX1) (N := 7) hx hb hts inX1 hown hK hP (by omega : 48 < n) hM2.2.2.2.2.2.2.1 rfl 1 (by decide) (hN.1 _ nn_4) (fun _ h9 => h9) rfl dX3_fillWithInteger_141 ?_
    refine mx_ci (va_runV (As := [.int 0, .ref (ad 50), .int (bI f.2.1)]) (rest := []) ⟨hx, hb, hml, hown, hts⟩ (c_padded l D ca n ad c2 hn hM2 hwd 0 f.2.1 (kb := 50) (by omega) hM2.2.2.2.2.2.2.2.2.1 (by omega) _) (cwV 3 hts (gV wm_211 wm_213 ws_6 wm_1 wm_214) rfl rfl rfl (by decide +kernel) ⟨Nat.le_of_ble_eq_true rfl, Nat.le_of_ble_eq_true rfl⟩) (mx_pv (C := RX3) (T := TX3) (N := 9) (ci := 3) hK hP hD hN (by omega : 0 < n) hM2.1 rfl) rfl rfl hl.1 rfl (lv_room (Nat.le_of_ble_eq_true rfl)) dX3_fillWithInteger_144 ⟨Nat.zero_le _, Nat.zero_le _⟩) (Nat.le_refl _) hS (fun r c3 H locs hw3 hP hS => ?_)
    have hfi : fInt f wd kd x = pad f.1 f.2.1 wd (sgL 0) (tBits x 16 4 65) := by unfold fInt; rw [if_pos h88]
    have hq : ((md.length + (fInt f wd kd x).length ≤ 1024 ∧ r = 0 ∧ ∃ dg', tMF ca ad c3 tp pt (md ++ fInt f wd kd x) ar ac tk f (nI wd) kd bh v dg') ∨ (¬ md.length + (fInt f wd kd x).length ≤ 1024 ∧ r = -5 ∧ ∃ dg', tMF ca ad c3 tp pt md ar ac tk f (nI wd) kd bh v dg')) ∧ ∀ j, 52 ≤ j → c3 j = c j := by
      rw [hfi]
      rcases hw3 with ⟨h1, h2, h3, h4⟩ | ⟨h1, h2, h3⟩
      · exact ⟨Or.inl ⟨h1, h2, _, h3⟩, fun j h => (h4 j (by omega) (by omega)).trans ((hs2 j (by omega) (by omega)).trans (hs1 j (by omega) (by omega)))⟩
      · rw [h3]; exact ⟨Or.inr ⟨h1, h2, _, hM2⟩, fun j h => (hs2 j (by omega) (by omega)).trans (hs1 j (by omega) (by omega))⟩
    exact mx_iret hx hb hr hlocks hP hS (hq) dX3_fillWithInteger_147
  by_cases h100 : kd = 100
  · skip
    refine lv_lookup (off := 42) (tgt := 56) hx hb dX3_fillWithInteger_14 (by decide) (by first | (rw [h100]; rfl) | rw [h100]) (by decide) ?_
    refine lv_aload_n hx hb dX3_fillWithInteger_56 rfl (lv_at hl 0 rfl) ?_
    refine mx_get (ci := 3) (v := .ref (ad 50)) (C := RX3) (T := TX3) (N := 9) hx hb hts inX3 hown hK hP (by omega : 0 < n) hM1.1 rfl 8 (by decide) (hts _ wm_85) (fun _ h9 => h9) rfl dX3_fillWithInteger_57 ?_
    refine lv_lload_n hx hb dX3_fillWithInteger_60 rfl (lv_at hl 1 rfl) ?_
    refine mx_cv (va_runV (As := [.long x]) (rest := []) ⟨hx, hb, hml, hown, hts⟩ (c_Text_dec l D ca n ad c1 (k := 50) (by omega) hT1 x (by simp) _) (cwV 1 hts (gV wm_162 wm_163 wm_164 wm_2 wm_165) rfl rfl rfl (by decide +kernel) ⟨Nat.le_of_ble_eq_true rfl, Nat.le_of_ble_eq_true rfl⟩) (mx_pv (C := RX2) (T := TX2) (N := 2) (ci := 2) hK hP hD hN (by omega : 50 < n) hM1.2.2.2.2.2.2.2.2.1.cell rfl) rfl rfl hl.1 rfl (lv_room (Nat.le_of_ble_eq_true rfl)) dX3_fillWithInteger_61 ⟨Nat.zero_le _, Nat.zero_le _⟩) (Nat.le_refl _) hS (fun c2 H locs hw2 hP hS => ?_)
    obtain ⟨hs2, hT2⟩ := hw2
    rw [List.nil_append] at hT2
    have hM2 := hM1.dig hs2 hT2
    refine lv_aload_n hx hb dX3_fillWithInteger_64 rfl (lv_at hl 0 rfl) ?_
    refine lv_aload_n hx hb dX3_fillWithInteger_65 rfl (lv_at hl 0 rfl) ?_
    refine mx_get (ci := 3) (v := .ref (ad 48)) (C := RX3) (T := TX3) (N := 9) hx hb hts inX3 hown hK hP (by omega : 0 < n) hM2.1 rfl 6 (by decide) (hts _ wm_83) (fun _ h9 => h9) rfl dX3_fillWithInteger_66 ?_
    refine lv_lload_n hx hb dX3_fillWithInteger_69 rfl (lv_at hl 1 rfl) ?_
    refine mx_ci (va_runV (As := [.long x]) (rest := [.ref (ad 0)]) ⟨hx, hb, hml, hown, hts⟩ (c_Place_signOf l D ca n ad c2 (k := 48) (by omega) hM2.2.2.2.2.2.2.1 x _) (cwV 1 hts (gV wm_250 wm_251 wm_252 wm_3 wm_253) rfl rfl rfl (by decide +kernel) ⟨Nat.le_of_ble_eq_true rfl, Nat.le_of_ble_eq_true rfl⟩) (mx_pv (C := RX1) (T := TX1) (N := 7) (ci := 1) hK hP hD hN (by omega : 48 < n) hM2.2.2.2.2.2.2.1 rfl) rfl rfl hl.1 rfl (lv_room (Nat.le_of_ble_eq_true rfl)) dX3_fillWithInteger_70 ⟨Nat.zero_le _, Nat.zero_le _⟩) (Nat.le_refl _) hS (fun r1 c3 H locs hw3 hP hS => ?_)
    obtain ⟨hcE, hr1⟩ := hw3
    rw [hcE] at hP
    refine mx_i (sgn f x) (hr1) ?_
    refine lv_aload_n hx hb dX3_fillWithInteger_73 rfl (lv_at hl 0 rfl) ?_
    refine mx_get (ci := 3) (v := .ref (ad 50)) (C := RX3) (T := TX3) (N := 9) hx hb hts inX3 hown hK hP (by omega : 0 < n) hM2.1 rfl 8 (by decide) (hts _ wm_85) (fun _ h9 => h9) rfl dX3_fillWithInteger_74 ?_
    refine lv_aload_n hx hb dX3_fillWithInteger_77 rfl (lv_at hl 0 rfl) ?_
    refine mx_get (ci := 3) (v := .ref (ad 48)) (C := RX3) (T := TX3) (N := 9) hx hb hts inX3 hown hK hP (by omega : 0 < n) hM2.1 rfl 6 (by decide) (hts _ wm_83) (fun _ h9 => h9) rfl dX3_fillWithInteger_78 ?_
    refine mx_getN (ci := 1) (v := .int (bI f.2.1)) (C := RX1) (T := TX1) (N := 7) hx hb hts inX1 hown hK hP (by omega : 48 < n) hM2.2.2.2.2.2.2.1 rfl 1 (by decide) (hN.1 _ nn_4) (fun _ h9 => h9) rfl dX3_fillWithInteger_81 ?_
    refine mx_ci (va_runV (As := [.int (sgn f x), .ref (ad 50), .int (bI f.2.1)]) (rest := []) ⟨hx, hb, hml, hown, hts⟩ (c_padded l D ca n ad c2 hn hM2 hwd (sgn f x) f.2.1 (kb := 50) (by omega) hM2.2.2.2.2.2.2.2.2.1 (by omega) _) (cwV 3 hts (gV wm_211 wm_213 ws_6 wm_1 wm_214) rfl rfl rfl (by decide +kernel) ⟨Nat.le_of_ble_eq_true rfl, Nat.le_of_ble_eq_true rfl⟩) (mx_pv (C := RX3) (T := TX3) (N := 9) (ci := 3) hK hP hD hN (by omega : 0 < n) hM2.1 rfl) rfl rfl hl.1 rfl (lv_room (Nat.le_of_ble_eq_true rfl)) dX3_fillWithInteger_84 ⟨Nat.zero_le _, Nat.zero_le _⟩) (Nat.le_refl _) hS (fun r c3 H locs hw3 hP hS => ?_)
    have hfi : fInt f wd kd x = pad f.1 f.2.1 wd (sgL (sgn f x)) (tDec x) := by unfold fInt; rw [if_neg h88, if_pos h100]
    have hq : ((md.length + (fInt f wd kd x).length ≤ 1024 ∧ r = 0 ∧ ∃ dg', tMF ca ad c3 tp pt (md ++ fInt f wd kd x) ar ac tk f (nI wd) kd bh v dg') ∨ (¬ md.length + (fInt f wd kd x).length ≤ 1024 ∧ r = -5 ∧ ∃ dg', tMF ca ad c3 tp pt md ar ac tk f (nI wd) kd bh v dg')) ∧ ∀ j, 52 ≤ j → c3 j = c j := by
      rw [hfi]
      rcases hw3 with ⟨h1, h2, h3, h4⟩ | ⟨h1, h2, h3⟩
      · exact ⟨Or.inl ⟨h1, h2, _, h3⟩, fun j h => (h4 j (by omega) (by omega)).trans ((hs2 j (by omega) (by omega)).trans (hs1 j (by omega) (by omega)))⟩
      · rw [h3]; exact ⟨Or.inr ⟨h1, h2, _, hM2⟩, fun j h => (hs2 j (by omega) (by omega)).trans (hs1 j (by omega) (by omega))⟩
    exact mx_iret hx hb hr hlocks hP hS (hq) dX3_fillWithInteger_87
  by_cases h111 : kd = 111
  · skip
    refine lv_lookup (off := 134) (tgt := 148) hx hb dX3_fillWithInteger_14 (by decide) (by first | (rw [h111]; rfl) | rw [h111]) (by decide) ?_
    refine lv_aload_n hx hb dX3_fillWithInteger_148 rfl (lv_at hl 0 rfl) ?_
    refine mx_get (ci := 3) (v := .ref (ad 50)) (C := RX3) (T := TX3) (N := 9) hx hb hts inX3 hown hK hP (by omega : 0 < n) hM1.1 rfl 8 (by decide) (hts _ wm_85) (fun _ h9 => h9) rfl dX3_fillWithInteger_149 ?_
    refine lv_lload_n hx hb dX3_fillWithInteger_152 rfl (lv_at hl 1 rfl) ?_
    refine lv_bipush (v := 22) hx hb dX3_fillWithInteger_153 (by decide) ?_
    refine lv_iconst (v := 3) hx hb dX3_fillWithInteger_155 (by decide) ?_
    refine lv_bipush (v := 97) hx hb dX3_fillWithInteger_156 (by decide) ?_
    refine mx_cv (va_runV (As := [.long x, .int 22, .int 3, .int 97]) (rest := []) ⟨hx, hb, hml, hown, hts⟩ (c_Text_bits l D ca n ad c1 (k := 50) (by omega) hT1 x 22 3 97 22 3 97 rfl rfl rfl (by decide) (by decide) (by decide) (by decide) (by simp) _) (cwV 4 hts (gV wm_254 wm_255 wm_256 wm_2 wm_257) rfl rfl rfl (by decide +kernel) ⟨Nat.le_of_ble_eq_true rfl, Nat.le_of_ble_eq_true rfl⟩) (mx_pv (C := RX2) (T := TX2) (N := 2) (ci := 2) hK hP hD hN (by omega : 50 < n) hM1.2.2.2.2.2.2.2.2.1.cell rfl) rfl rfl hl.1 rfl (lv_room (Nat.le_of_ble_eq_true rfl)) dX3_fillWithInteger_158 ⟨Nat.zero_le _, Nat.zero_le _⟩) (Nat.le_refl _) hS (fun c2 H locs hw2 hP hS => ?_)
    obtain ⟨hs2, hT2⟩ := hw2
    rw [List.nil_append] at hT2
    have hM2 := hM1.dig hs2 hT2
    refine lv_aload_n hx hb dX3_fillWithInteger_161 rfl (lv_at hl 0 rfl) ?_
    refine lv_iconst (v := 0) hx hb dX3_fillWithInteger_162 (by decide) ?_
    refine lv_aload_n hx hb dX3_fillWithInteger_163 rfl (lv_at hl 0 rfl) ?_
    refine mx_get (ci := 3) (v := .ref (ad 50)) (C := RX3) (T := TX3) (N := 9) hx hb hts inX3 hown hK hP (by omega : 0 < n) hM2.1 rfl 8 (by decide) (hts _ wm_85) (fun _ h9 => h9) rfl dX3_fillWithInteger_164 ?_
    refine lv_aload_n hx hb dX3_fillWithInteger_167 rfl (lv_at hl 0 rfl) ?_
    refine mx_get (ci := 3) (v := .ref (ad 48)) (C := RX3) (T := TX3) (N := 9) hx hb hts inX3 hown hK hP (by omega : 0 < n) hM2.1 rfl 6 (by decide) (hts _ wm_83) (fun _ h9 => h9) rfl dX3_fillWithInteger_168 ?_
    refine mx_getN (ci := 1) (v := .int (bI f.2.1)) (C := RX1) (T := TX1) (N := 7) hx hb hts inX1 hown hK hP (by omega : 48 < n) hM2.2.2.2.2.2.2.1 rfl 1 (by decide) (hN.1 _ nn_4) (fun _ h9 => h9) rfl dX3_fillWithInteger_171 ?_
    refine mx_ci (va_runV (As := [.int 0, .ref (ad 50), .int (bI f.2.1)]) (rest := []) ⟨hx, hb, hml, hown, hts⟩ (c_padded l D ca n ad c2 hn hM2 hwd 0 f.2.1 (kb := 50) (by omega) hM2.2.2.2.2.2.2.2.2.1 (by omega) _) (cwV 3 hts (gV wm_211 wm_213 ws_6 wm_1 wm_214) rfl rfl rfl (by decide +kernel) ⟨Nat.le_of_ble_eq_true rfl, Nat.le_of_ble_eq_true rfl⟩) (mx_pv (C := RX3) (T := TX3) (N := 9) (ci := 3) hK hP hD hN (by omega : 0 < n) hM2.1 rfl) rfl rfl hl.1 rfl (lv_room (Nat.le_of_ble_eq_true rfl)) dX3_fillWithInteger_174 ⟨Nat.zero_le _, Nat.zero_le _⟩) (Nat.le_refl _) hS (fun r c3 H locs hw3 hP hS => ?_)
    have hfi : fInt f wd kd x = pad f.1 f.2.1 wd (sgL 0) (tBits x 22 3 97) := by unfold fInt; rw [if_neg h88, if_neg h100, if_pos h111]
    have hq : ((md.length + (fInt f wd kd x).length ≤ 1024 ∧ r = 0 ∧ ∃ dg', tMF ca ad c3 tp pt (md ++ fInt f wd kd x) ar ac tk f (nI wd) kd bh v dg') ∨ (¬ md.length + (fInt f wd kd x).length ≤ 1024 ∧ r = -5 ∧ ∃ dg', tMF ca ad c3 tp pt md ar ac tk f (nI wd) kd bh v dg')) ∧ ∀ j, 52 ≤ j → c3 j = c j := by
      rw [hfi]
      rcases hw3 with ⟨h1, h2, h3, h4⟩ | ⟨h1, h2, h3⟩
      · exact ⟨Or.inl ⟨h1, h2, _, h3⟩, fun j h => (h4 j (by omega) (by omega)).trans ((hs2 j (by omega) (by omega)).trans (hs1 j (by omega) (by omega)))⟩
      · rw [h3]; exact ⟨Or.inr ⟨h1, h2, _, hM2⟩, fun j h => (hs2 j (by omega) (by omega)).trans (hs1 j (by omega) (by omega))⟩
    exact mx_iret hx hb hr hlocks hP hS (hq) dX3_fillWithInteger_177
  by_cases h120 : kd = 120
  · skip
    refine lv_lookup (off := 74) (tgt := 88) hx hb dX3_fillWithInteger_14 (by decide) (by first | (rw [h120]; rfl) | rw [h120]) (by decide) ?_
    refine lv_aload_n hx hb dX3_fillWithInteger_88 rfl (lv_at hl 0 rfl) ?_
    refine mx_get (ci := 3) (v := .ref (ad 50)) (C := RX3) (T := TX3) (N := 9) hx hb hts inX3 hown hK hP (by omega : 0 < n) hM1.1 rfl 8 (by decide) (hts _ wm_85) (fun _ h9 => h9) rfl dX3_fillWithInteger_89 ?_
    refine lv_lload_n hx hb dX3_fillWithInteger_92 rfl (lv_at hl 1 rfl) ?_
    refine lv_bipush (v := 16) hx hb dX3_fillWithInteger_93 (by decide) ?_
    refine lv_iconst (v := 4) hx hb dX3_fillWithInteger_95 (by decide) ?_
    refine lv_bipush (v := 97) hx hb dX3_fillWithInteger_96 (by decide) ?_
    refine mx_cv (va_runV (As := [.long x, .int 16, .int 4, .int 97]) (rest := []) ⟨hx, hb, hml, hown, hts⟩ (c_Text_bits l D ca n ad c1 (k := 50) (by omega) hT1 x 16 4 97 16 4 97 rfl rfl rfl (by decide) (by decide) (by decide) (by decide) (by simp) _) (cwV 4 hts (gV wm_254 wm_255 wm_256 wm_2 wm_257) rfl rfl rfl (by decide +kernel) ⟨Nat.le_of_ble_eq_true rfl, Nat.le_of_ble_eq_true rfl⟩) (mx_pv (C := RX2) (T := TX2) (N := 2) (ci := 2) hK hP hD hN (by omega : 50 < n) hM1.2.2.2.2.2.2.2.2.1.cell rfl) rfl rfl hl.1 rfl (lv_room (Nat.le_of_ble_eq_true rfl)) dX3_fillWithInteger_98 ⟨Nat.zero_le _, Nat.zero_le _⟩) (Nat.le_refl _) hS (fun c2 H locs hw2 hP hS => ?_)
    obtain ⟨hs2, hT2⟩ := hw2
    rw [List.nil_append] at hT2
    have hM2 := hM1.dig hs2 hT2
    refine lv_aload_n hx hb dX3_fillWithInteger_101 rfl (lv_at hl 0 rfl) ?_
    refine lv_iconst (v := 0) hx hb dX3_fillWithInteger_102 (by decide) ?_
    refine lv_aload_n hx hb dX3_fillWithInteger_103 rfl (lv_at hl 0 rfl) ?_
    refine mx_get (ci := 3) (v := .ref (ad 50)) (C := RX3) (T := TX3) (N := 9) hx hb hts inX3 hown hK hP (by omega : 0 < n) hM2.1 rfl 8 (by decide) (hts _ wm_85) (fun _ h9 => h9) rfl dX3_fillWithInteger_104 ?_
    refine lv_aload_n hx hb dX3_fillWithInteger_107 rfl (lv_at hl 0 rfl) ?_
    refine mx_get (ci := 3) (v := .ref (ad 48)) (C := RX3) (T := TX3) (N := 9) hx hb hts inX3 hown hK hP (by omega : 0 < n) hM2.1 rfl 6 (by decide) (hts _ wm_83) (fun _ h9 => h9) rfl dX3_fillWithInteger_108 ?_
    refine mx_getN (ci := 1) (v := .int (bI f.2.1)) (C := RX1) (T := TX1) (N := 7) hx hb hts inX1 hown hK hP (by omega : 48 < n) hM2.2.2.2.2.2.2.1 rfl 1 (by decide) (hN.1 _ nn_4) (fun _ h9 => h9) rfl dX3_fillWithInteger_111 ?_
    refine mx_ci (va_runV (As := [.int 0, .ref (ad 50), .int (bI f.2.1)]) (rest := []) ⟨hx, hb, hml, hown, hts⟩ (c_padded l D ca n ad c2 hn hM2 hwd 0 f.2.1 (kb := 50) (by omega) hM2.2.2.2.2.2.2.2.2.1 (by omega) _) (cwV 3 hts (gV wm_211 wm_213 ws_6 wm_1 wm_214) rfl rfl rfl (by decide +kernel) ⟨Nat.le_of_ble_eq_true rfl, Nat.le_of_ble_eq_true rfl⟩) (mx_pv (C := RX3) (T := TX3) (N := 9) (ci := 3) hK hP hD hN (by omega : 0 < n) hM2.1 rfl) rfl rfl hl.1 rfl (lv_room (Nat.le_of_ble_eq_true rfl)) dX3_fillWithInteger_114 ⟨Nat.zero_le _, Nat.zero_le _⟩) (Nat.le_refl _) hS (fun r c3 H locs hw3 hP hS => ?_)
    have hfi : fInt f wd kd x = pad f.1 f.2.1 wd (sgL 0) (tBits x 16 4 97) := by unfold fInt; rw [if_neg h88, if_neg h100, if_neg h111, if_pos h120]
    have hq : ((md.length + (fInt f wd kd x).length ≤ 1024 ∧ r = 0 ∧ ∃ dg', tMF ca ad c3 tp pt (md ++ fInt f wd kd x) ar ac tk f (nI wd) kd bh v dg') ∨ (¬ md.length + (fInt f wd kd x).length ≤ 1024 ∧ r = -5 ∧ ∃ dg', tMF ca ad c3 tp pt md ar ac tk f (nI wd) kd bh v dg')) ∧ ∀ j, 52 ≤ j → c3 j = c j := by
      rw [hfi]
      rcases hw3 with ⟨h1, h2, h3, h4⟩ | ⟨h1, h2, h3⟩
      · exact ⟨Or.inl ⟨h1, h2, _, h3⟩, fun j h => (h4 j (by omega) (by omega)).trans ((hs2 j (by omega) (by omega)).trans (hs1 j (by omega) (by omega)))⟩
      · rw [h3]; exact ⟨Or.inr ⟨h1, h2, _, hM2⟩, fun j h => (hs2 j (by omega) (by omega)).trans (hs1 j (by omega) (by omega))⟩
    exact mx_iret hx hb hr hlocks hP hS (hq) dX3_fillWithInteger_117
  refine lv_lookup (off := 164) (tgt := 178) hx hb dX3_fillWithInteger_14 (by decide) ((lv_osw h88 (by decide)).trans ((lv_osw h100 (by decide)).trans ((lv_osw h111 (by decide)).trans ((lv_osw h120 (by decide)).trans (rfl))))) (by decide) ?_
  refine lv_aload_n hx hb dX3_fillWithInteger_178 rfl (lv_at hl 0 rfl) ?_
  refine mx_get (ci := 3) (v := .ref (ad 50)) (C := RX3) (T := TX3) (N := 9) hx hb hts inX3 hown hK hP (by omega : 0 < n) hM1.1 rfl 8 (by decide) (hts _ wm_85) (fun _ h9 => h9) rfl dX3_fillWithInteger_179 ?_
  refine lv_lload_n hx hb dX3_fillWithInteger_182 rfl (lv_at hl 1 rfl) ?_
  refine lv_l2i (v := x.toInt32) hx hb dX3_fillWithInteger_183 rfl ?_
  refine mx_ci (va_runV (As := [.int x.toInt32]) (rest := []) ⟨hx, hb, hml, hown, hts⟩ (c_Text_add l D ca n ad c1 (k := 50) (by omega) hT1 x.toInt32 _) (cwV 1 hts (gV wm_161 wm_118 wm_119 wm_2 wm_120) rfl rfl rfl (by decide +kernel) ⟨Nat.le_of_ble_eq_true rfl, Nat.le_of_ble_eq_true rfl⟩) (mx_pv (C := RX2) (T := TX2) (N := 2) (ci := 2) hK hP hD hN (by omega : 50 < n) hM1.2.2.2.2.2.2.2.2.1.cell rfl) rfl rfl hl.1 rfl (lv_room (Nat.le_of_ble_eq_true rfl)) dX3_fillWithInteger_184 ⟨Nat.zero_le _, Nat.zero_le _⟩) (Nat.le_refl _) hS (fun r2 c2 H locs hw2 hP hS => ?_)
  obtain ⟨-, -, hs2, hT2⟩ := hw2.resolve_right (fun h => absurd h.1 (by decide))
  rw [List.nil_append] at hT2
  have hM2 := hM1.dig hs2 hT2
  refine lv_pop hx hb dX3_fillWithInteger_187 rfl ?_
  refine lv_aload_n hx hb dX3_fillWithInteger_188 rfl (lv_at hl 0 rfl) ?_
  refine lv_iconst (v := 0) hx hb dX3_fillWithInteger_189 (by decide) ?_
  refine lv_aload_n hx hb dX3_fillWithInteger_190 rfl (lv_at hl 0 rfl) ?_
  refine mx_get (ci := 3) (v := .ref (ad 50)) (C := RX3) (T := TX3) (N := 9) hx hb hts inX3 hown hK hP (by omega : 0 < n) hM2.1 rfl 8 (by decide) (hts _ wm_85) (fun _ h9 => h9) rfl dX3_fillWithInteger_191 ?_
  refine lv_iconst (v := 0) hx hb dX3_fillWithInteger_194 (by decide) ?_
  refine mx_i (bI false) (rfl) ?_
  refine mx_ci (va_runV (As := [.int 0, .ref (ad 50), .int (bI false)]) (rest := []) ⟨hx, hb, hml, hown, hts⟩ (c_padded l D ca n ad c2 hn hM2 hwd 0 false (kb := 50) (by omega) hM2.2.2.2.2.2.2.2.2.1 (by omega) _) (cwV 3 hts (gV wm_211 wm_213 ws_6 wm_1 wm_214) rfl rfl rfl (by decide +kernel) ⟨Nat.le_of_ble_eq_true rfl, Nat.le_of_ble_eq_true rfl⟩) (mx_pv (C := RX3) (T := TX3) (N := 9) (ci := 3) hK hP hD hN (by omega : 0 < n) hM2.1 rfl) rfl rfl hl.1 rfl (lv_room (Nat.le_of_ble_eq_true rfl)) dX3_fillWithInteger_195 ⟨Nat.zero_le _, Nat.zero_le _⟩) (Nat.le_refl _) hS (fun r c3 H locs hw3 hP hS => ?_)
  have hfi : fInt f wd kd x = pad f.1 false wd (sgL 0) ([by8 x.toInt32]) := by unfold fInt; rw [if_neg h88, if_neg h100, if_neg h111, if_neg h120]
  have hq : ((md.length + (fInt f wd kd x).length ≤ 1024 ∧ r = 0 ∧ ∃ dg', tMF ca ad c3 tp pt (md ++ fInt f wd kd x) ar ac tk f (nI wd) kd bh v dg') ∨ (¬ md.length + (fInt f wd kd x).length ≤ 1024 ∧ r = -5 ∧ ∃ dg', tMF ca ad c3 tp pt md ar ac tk f (nI wd) kd bh v dg')) ∧ ∀ j, 52 ≤ j → c3 j = c j := by
    rw [hfi]
    rcases hw3 with ⟨h1, h2, h3, h4⟩ | ⟨h1, h2, h3⟩
    · exact ⟨Or.inl ⟨h1, h2, _, h3⟩, fun j h => (h4 j (by omega) (by omega)).trans ((hs2 j (by omega) (by omega)).trans (hs1 j (by omega) (by omega)))⟩
    · rw [h3]; exact ⟨Or.inr ⟨h1, h2, _, hM2⟩, fun j h => (hs2 j (by omega) (by omega)).trans (hs1 j (by omega) (by omega))⟩
  exact mx_iret hx hb hr hlocks hP hS (hq) dX3_fillWithInteger_198
set_option maxHeartbeats 4000000 in
set_option maxRecDepth 100000 in
/-- fillPlace -/
theorem c_fillPlace (l : Launch) (D : va_G) (ca : Nat → ClassId) (n : Nat) (ad : Nat → Nat) (c : Nat → va_E) {tp pt md dg : List Nat} {ar : Nat → List Nat} {ac tk : Nat} {f : fl4} {wd : Nat} {kd bh : Int32} {v : Int64} (hn : 52 ≤ n) (hM : tMF ca ad c tp pt md ar ac tk f (nI wd) kd bh v dg) (hwd : wd ≤ 100000) : mInt l yX3_fillPlace wsX3_fillPlace ({ frames := 4, cells := 0, slots := 0, locals := 92 }) [.ref (ad 0)] D (tTY ca) n ad c (fun r c' => (∃ tk' v' dg' md', tMF ca ad c' tp pt md' ar ac tk' f (nI wd) kd bh v' dg' ∧ (((pcs ar ac tk f wd kd).1 = 0 ∧ md.length + (pcs ar ac tk f wd kd).2.1.length ≤ 1024 ∧ r = 0 ∧ md' = md ++ (pcs ar ac tk f wd kd).2.1 ∧ tk' = (pcs ar ac tk f wd kd).2.2) ∨ ((pcs ar ac tk f wd kd).1 = 0 ∧ ¬ md.length + (pcs ar ac tk f wd kd).2.1.length ≤ 1024 ∧ r = -5) ∨ (¬ (pcs ar ac tk f wd kd).1 = 0 ∧ r = (pcs ar ac tk f wd kd).1))) ∧ ∀ j, 52 ≤ j → c' j = c j) := by
  intro sz
  refine Met.ofW (cc := cX3_fillPlace) (maxL := 2) (ret := (some .int)) (by decide) rfl ?_
  intro pg9 ev9 s m args below meth cd s₁ B hml hv
  obtain ⟨rfl, hsz, hP, hK, hD0, hN⟩ := hv
  have hx := B.exec
  have hb := B.bytes
  have hr := B.returns
  have hts := fun (w : Cond) (h : w ∈ WSa) => atoms_spec (ws := wsX3_fillPlace) B.pre w (List.mem_cons_of_mem _ h)
  have hown : s.vm.findClass RX3 = some m.cls := findClass_of_methodNamed B.named
  have hlocks := B.notSynchronized
  subst hsz
  have hD : ∀ c, va_D (fun _ => True) (mw n ad c) := fun c' => mw_D hD0 c'
  have hS : va_S (mA n ad s.heap.size) s.heap s.heap [] := va_S.rf
  have hl := lv_entry ([.ref (ad 0)]) (n := 2) (Nat.le_of_ble_eq_true rfl)
  rw [lg_entry_eq]
  generalize (lg_sl ([.ref (ad 0)]) ++ List.replicate (2 - (lg_sl ([.ref (ad 0)])).length) Slot.unset).toArray = ls at hl ⊢
  have hl : lv_has ls 2 [(0, .ref (ad 0))] := hl
  have hac := hM.2.2.2.2.2.2.2.2.2.1
  have htk := hM.2.2.2.2.2.2.2.2.2.2
  obtain ⟨g7, h7, hg7⟩ := hM.2.2.2.2.1
  have hle5 := hM.2.2.2.1.le
  refine lv_aload_n hx hb dX3_fillPlace_0 rfl (lv_at hl 0 rfl) ?_
  refine mx_get (ci := 3) (v := .ref (ad 48)) (C := RX3) (T := TX3) (N := 9) hx hb hts inX3 hown hK hP (by omega : 0 < n) hM.1 rfl 6 (by decide) (hts _ wm_83) (fun _ h9 => h9) rfl dX3_fillPlace_1 ?_
  refine mx_getN (ci := 1) (v := .int kd) (C := RX1) (T := TX1) (N := 7) hx hb hts inX1 hown hK hP (by omega : 48 < n) hM.2.2.2.2.2.2.1 rfl 5 (by decide) (hN.1 _ nn_6) (fun _ h9 => h9) rfl dX3_fillPlace_4 ?_
  refine lv_bipush (v := 37) hx hb dX3_fillPlace_7 (by decide) ?_
  refine lv_icmp_ne (tgt := 31) hx hb dX3_fillPlace_9 (by decide) (fun hc => ?_) (fun hc => ?_)
  · skip
    refine lv_aload_n hx hb dX3_fillPlace_31 rfl (lv_at hl 0 rfl) ?_
    refine mx_get (ci := 3) (v := .int (nI tk)) (C := RX3) (T := TX3) (N := 9) hx hb hts inX3 hown hK hP (by omega : 0 < n) hM.1 rfl 5 (by decide) (hts _ wm_82) (fun _ h9 => h9) rfl dX3_fillPlace_32 ?_
    refine lv_if_lt (tgt := 61) hx hb dX3_fillPlace_35 (by decide) (fun hc1 => ?_) (fun hc1 => ?_)
    · skip
      exact absurd hc1 (nI_pos (by omega))
    · skip
      refine lv_aload_n hx hb dX3_fillPlace_38 rfl (lv_at hl 0 rfl) ?_
      refine mx_get (ci := 3) (v := .int (nI tk)) (C := RX3) (T := TX3) (N := 9) hx hb hts inX3 hown hK hP (by omega : 0 < n) hM.1 rfl 5 (by decide) (hts _ wm_82) (fun _ h9 => h9) rfl dX3_fillPlace_39 ?_
      refine lv_aload_n hx hb dX3_fillPlace_42 rfl (lv_at hl 0 rfl) ?_
      refine mx_get (ci := 3) (v := .int (nI ac)) (C := RX3) (T := TX3) (N := 9) hx hb hts inX3 hown hK hP (by omega : 0 < n) hM.1 rfl 4 (by decide) (hts _ wm_81) (fun _ h9 => h9) rfl dX3_fillPlace_43 ?_
      refine lv_icmp_ge (tgt := 61) hx hb dX3_fillPlace_46 (by decide) (fun hc2 => ?_) (fun hc2 => ?_)
      · skip
        have hge : ac ≤ tk := (nI_leI (by omega) (by omega)).mp hc2
        have hP9 : pcs ar ac tk f wd kd = (-3, [], tk) := by unfold pcs; rw [if_neg hc, if_pos hge]
        refine lv_bipush (v := (-3)) hx hb dX3_fillPlace_61 (by decide) ?_
        exact mx_iret hx hb hr hlocks hP hS (⟨⟨tk, v, dg, md, hM, by rw [hP9]; exact Or.inr (Or.inr ⟨by show ¬ (-3 : Int32) = 0; decide, rfl⟩)⟩, fun j h => rfl⟩) dX3_fillPlace_63
      · skip
        have hlt : tk < ac := by have := (not_congr (nI_leI (by omega) (by omega))).mp hc2; omega
        refine lv_aload_n hx hb dX3_fillPlace_49 rfl (lv_at hl 0 rfl) ?_
        refine mx_get (ci := 3) (v := .int (nI tk)) (C := RX3) (T := TX3) (N := 9) hx hb hts inX3 hown hK hP (by omega : 0 < n) hM.1 rfl 5 (by decide) (hts _ wm_82) (fun _ h9 => h9) rfl dX3_fillPlace_50 ?_
        refine lv_aload_n hx hb dX3_fillPlace_53 rfl (lv_at hl 0 rfl) ?_
        refine mx_get (ci := 3) (v := .ref (ad 7)) (C := RX3) (T := TX3) (N := 9) hx hb hts inX3 hown hK hP (by omega : 0 < n) hM.1 rfl 3 (by decide) (hts _ wm_80) (fun _ h9 => h9) rfl dX3_fillPlace_54 ?_
        refine mx_alen (v := nI 20) hx hb hK hP (by omega : 7 < n) 1 h7 rfl rfl dX3_fillPlace_57 ?_
        refine lv_icmp_lt (tgt := 64) hx hb dX3_fillPlace_58 (by decide) (fun hc3 => ?_) (fun hc3 => ?_)
        · skip
          have hng : ¬ ac ≤ tk := by omega
          refine lv_aload_n hx hb dX3_fillPlace_64 rfl (lv_at hl 0 rfl) ?_
          refine mx_get (ci := 3) (v := .ref (ad 7)) (C := RX3) (T := TX3) (N := 9) hx hb hts inX3 hown hK hP (by omega : 0 < n) hM.1 rfl 3 (by decide) (hts _ wm_80) (fun _ h9 => h9) rfl dX3_fillPlace_65 ?_
          refine lv_aload_n hx hb dX3_fillPlace_68 rfl (lv_at hl 0 rfl) ?_
          refine mx_get (ci := 3) (v := .int (nI tk)) (C := RX3) (T := TX3) (N := 9) hx hb hts inX3 hown hK hP (by omega : 0 < n) hM.1 rfl 5 (by decide) (hts _ wm_82) (fun _ h9 => h9) rfl dX3_fillPlace_69 ?_
          refine mx_aald hx hb hK hP (by omega : 7 < n) 1 h7 rfl (vp_in_nI (by omega) (by omega)) (.ref (ad (8 + 2 * tk))) (by rw [nI_clamp (by omega), hg7 tk (by omega)]; rfl) dX3_fillPlace_72 ?_
          refine lv_astore_n (lv' := [(1, .ref (ad (8 + 2 * tk))), (0, .ref (ad 0))]) hx hb dX3_fillPlace_73 rfl hl (by decide) rfl (fun ls hl => ?_)
          refine lv_aload_n hx hb dX3_fillPlace_74 rfl (lv_at hl 1 rfl) ?_
          refine lv_dup hx hb dX3_fillPlace_75 rfl ?_
          refine mx_get (ci := 3) (v := .int (nI tk)) (C := RX3) (T := TX3) (N := 9) hx hb hts inX3 hown hK hP (by omega : 0 < n) hM.1 rfl 5 (by decide) (hts _ wm_82) (fun _ h9 => h9) rfl dX3_fillPlace_76 ?_
          refine lv_iconst (v := 1) hx hb dX3_fillPlace_79 (by decide) ?_
          refine lv_iadd hx hb dX3_fillPlace_80 ?_
          refine mx_i (nI (tk + 1)) (nI_1 tk) ?_
          refine mx_put (ci := 3) (v := .int (nI (tk + 1))) (ty := .int) (C := RX3) (T := TX3) (N := 9) hx hb hts inX3 tyX3 tyX3_ok nmX3 hown hK hP hD hS (by omega : 0 < n) hM.1 rfl 5 (by decide) (hts _ wm_82) (fun _ h9 => h9) rfl (by decide +kernel) rfl rfl (Nat.le_of_ble_eq_true rfl) dX3_fillPlace_81 (fun H locs hP hS => ?_)
          obtain ⟨c1, ec1⟩ : ∃ z : Nat → va_E, z = va_up c 0 (.inr (3, [.ref (ad 1), .ref (ad 3), .ref (ad 5), .ref (ad 7), .int (nI ac), .int (nI (tk + 1)), .ref (ad 48), .ref (ad 49), .ref (ad 50)])) := ⟨_, rfl⟩
          have hP : va_P D vwCl (mw n ad c1) H := by rw [ec1]; exact hP
          have hsc1 : ∀ j, j ≠ 0 → c1 j = c j := fun j h => by rw [ec1]; exact va_up_ne _ _ h
          have hcc1 : c1 0 = .inr (3, [.ref (ad 1), .ref (ad 3), .ref (ad 5), .ref (ad 7), .int (nI ac), .int (nI (tk + 1)), .ref (ad 48), .ref (ad 49), .ref (ad 50)]) := by rw [ec1]; exact va_up_self _ _ _
          have hM1 := hM.cel hsc1 hcc1 hac (by omega : tk + 1 ≤ 20)
          have hTw := hM1.2.2.2.2.2.1 tk (by omega)
          refine lv_aload_n hx hb dX3_fillPlace_84 rfl (lv_at hl 1 rfl) ?_
          refine mx_get (ci := 3) (v := .ref (ad 48)) (C := RX3) (T := TX3) (N := 9) hx hb hts inX3 hown hK hP (by omega : 0 < n) hM1.1 rfl 6 (by decide) (hts _ wm_83) (fun _ h9 => h9) rfl dX3_fillPlace_85 ?_
          refine mx_getN (ci := 1) (v := .int kd) (C := RX1) (T := TX1) (N := 7) hx hb hts inX1 hown hK hP (by omega : 48 < n) hM1.2.2.2.2.2.2.1 rfl 5 (by decide) (hN.1 _ nn_6) (fun _ h9 => h9) rfl dX3_fillPlace_88 ?_
          refine lv_bipush (v := 115) hx hb dX3_fillPlace_91 (by decide) ?_
          refine lv_icmp_ne (tgt := 104) hx hb dX3_fillPlace_93 (by decide) (fun hc4 => ?_) (fun hc4 => ?_)
          · skip
            refine lv_aload_n hx hb dX3_fillPlace_104 rfl (lv_at hl 1 rfl) ?_
            refine mx_get (ci := 3) (v := .ref (ad 49)) (C := RX3) (T := TX3) (N := 9) hx hb hts inX3 hown hK hP (by omega : 0 < n) hM1.1 rfl 7 (by decide) (hts _ wm_84) (fun _ h9 => h9) rfl dX3_fillPlace_105 ?_
            refine lv_aload_n hx hb dX3_fillPlace_108 rfl (lv_at hl 0 rfl) ?_
            refine mx_ci (va_runV (As := [.ref (ad (8 + 2 * tk))]) (rest := []) ⟨hx, hb, hml, hown, hts⟩ (c_Num_read l D ca n ad c1 (k := 49) (by omega) hM1.2.2.2.2.2.2.2.1 (k2 := 8 + 2 * tk) (by omega) hTw (by omega) _) (cwV 1 hts (gV wm_222 wm_223 wm_224 wm_4 wm_225) rfl rfl rfl (by decide +kernel) ⟨Nat.le_of_ble_eq_true rfl, Nat.le_of_ble_eq_true rfl⟩) (mx_pv (C := RX0) (T := TX0) (N := 1) (ci := 0) hK hP hD hN (by omega : 49 < n) hM1.2.2.2.2.2.2.2.1 rfl) rfl rfl hl.1 rfl (lv_room (Nat.le_of_ble_eq_true rfl)) dX3_fillPlace_109 ⟨Nat.zero_le _, Nat.zero_le _⟩) (Nat.le_refl _) hS (fun r1 c2 H locs hw hP hS => ?_)
            refine lv_if_ne (tgt := 118) hx hb dX3_fillPlace_112 (by decide) (fun hc5 => ?_) (fun hc5 => ?_)
            · skip
              obtain ⟨x, hx1, -, hV2, hs2⟩ := hw.resolve_right (fun h => hc5 h.2.1)
              have hM2 := hM1.num hs2 hV2
              have hP9 : pcs ar ac tk f wd kd = (0, fInt f wd kd x, tk + 1) := by unfold pcs; rw [if_neg hc, if_neg hng, if_neg hc4, hx1]
              refine lv_aload_n hx hb dX3_fillPlace_118 rfl (lv_at hl 1 rfl) ?_
              refine lv_aload_n hx hb dX3_fillPlace_119 rfl (lv_at hl 1 rfl) ?_
              refine mx_get (ci := 3) (v := .ref (ad 49)) (C := RX3) (T := TX3) (N := 9) hx hb hts inX3 hown hK hP (by omega : 0 < n) hM2.1 rfl 7 (by decide) (hts _ wm_84) (fun _ h9 => h9) rfl dX3_fillPlace_120 ?_
              refine mx_getN (ci := 0) (v := .long x) (C := RX0) (T := TX0) (N := 1) hx hb hts inX0 hown hK hP (by omega : 49 < n) hM2.2.2.2.2.2.2.2.1 rfl 0 (by decide) (hN.1 _ nn_8) (fun _ h9 => h9) rfl dX3_fillPlace_123 ?_
              refine mx_ci (va_runV (As := [.long x]) (rest := []) ⟨hx, hb, hml, hown, hts⟩ (c_fillInt l D ca n ad c2 hn hM2 hwd x _) (cwV 1 hts (gV wm_246 wm_248 ws_10 wm_1 wm_249) rfl rfl rfl (by decide +kernel) ⟨Nat.le_of_ble_eq_true rfl, Nat.le_of_ble_eq_true rfl⟩) (mx_pv (C := RX3) (T := TX3) (N := 9) (ci := 3) hK hP hD hN (by omega : 0 < n) hM2.1 rfl) rfl rfl hl.1 rfl (lv_room (Nat.le_of_ble_eq_true rfl)) dX3_fillPlace_126 ⟨Nat.zero_le _, Nat.zero_le _⟩) (Nat.le_refl _) hS (fun r c3 H locs hw3 hP hS => ?_)
              have hq : (∃ tk' v' dg' md', tMF ca ad c3 tp pt md' ar ac tk' f (nI wd) kd bh v' dg' ∧ (((pcs ar ac tk f wd kd).1 = 0 ∧ md.length + (pcs ar ac tk f wd kd).2.1.length ≤ 1024 ∧ r = 0 ∧ md' = md ++ (pcs ar ac tk f wd kd).2.1 ∧ tk' = (pcs ar ac tk f wd kd).2.2) ∨ ((pcs ar ac tk f wd kd).1 = 0 ∧ ¬ md.length + (pcs ar ac tk f wd kd).2.1.length ≤ 1024 ∧ r = -5) ∨ (¬ (pcs ar ac tk f wd kd).1 = 0 ∧ r = (pcs ar ac tk f wd kd).1))) ∧ ∀ j, 52 ≤ j → c3 j = c j := by
                rw [hP9]
                obtain ⟨hw3, hs3⟩ := hw3
                refine ⟨?_, fun j h => (hs3 j h).trans ((hs2 j (by omega)).trans (hsc1 j (by omega)))⟩
                rcases hw3 with ⟨h1, h2, dg', h3⟩ | ⟨h1, h2, dg', h3⟩
                · exact ⟨_, _, _, _, h3, Or.inl ⟨rfl, h1, h2, rfl, rfl⟩⟩
                · exact ⟨_, _, _, _, h3, Or.inr (Or.inl ⟨rfl, h1, h2⟩)⟩
              exact mx_iret hx hb hr hlocks hP hS (hq) dX3_fillPlace_129
            · skip
              obtain ⟨hx1, -, ⟨x, hV2⟩, hs2⟩ := hw.resolve_left (fun h => by obtain ⟨v9, h1, h2, -⟩ := h; rw [h2] at hc5; exact absurd hc5 (by decide))
              have hM2 := hM1.num hs2 hV2
              have hP9 : pcs ar ac tk f wd kd = (-4, [], tk + 1) := by unfold pcs; rw [if_neg hc, if_neg hng, if_neg hc4, hx1]
              refine lv_bipush (v := (-4)) hx hb dX3_fillPlace_115 (by decide) ?_
              exact mx_iret hx hb hr hlocks hP hS (⟨⟨_, _, _, _, hM2, by rw [hP9]; exact Or.inr (Or.inr ⟨by show ¬ (-4 : Int32) = 0; decide, rfl⟩)⟩, fun j h => (hs2 j (by omega)).trans (hsc1 j (by omega))⟩) dX3_fillPlace_117
          · skip
            have hP9 : pcs ar ac tk f wd kd = (0, pad f.1 false wd (sgL 0) (ar tk), tk + 1) := by unfold pcs; rw [if_neg hc, if_neg hng, if_pos hc4]
            refine lv_aload_n hx hb dX3_fillPlace_96 rfl (lv_at hl 1 rfl) ?_
            refine lv_iconst (v := 0) hx hb dX3_fillPlace_97 (by decide) ?_
            refine lv_aload_n hx hb dX3_fillPlace_98 rfl (lv_at hl 0 rfl) ?_
            refine lv_iconst (v := 0) hx hb dX3_fillPlace_99 (by decide) ?_
            refine mx_i (bI false) (rfl) ?_
            refine mx_ci (va_runV (As := [.int 0, .ref (ad (8 + 2 * tk)), .int (bI false)]) (rest := []) ⟨hx, hb, hml, hown, hts⟩ (c_padded l D ca n ad c1 hn hM1 hwd 0 false (kb := 8 + 2 * tk) (by omega) hTw (by omega) _) (cwV 3 hts (gV wm_211 wm_213 ws_6 wm_1 wm_214) rfl rfl rfl (by decide +kernel) ⟨Nat.le_of_ble_eq_true rfl, Nat.le_of_ble_eq_true rfl⟩) (mx_pv (C := RX3) (T := TX3) (N := 9) (ci := 3) hK hP hD hN (by omega : 0 < n) hM1.1 rfl) rfl rfl hl.1 rfl (lv_room (Nat.le_of_ble_eq_true rfl)) dX3_fillPlace_100 ⟨Nat.zero_le _, Nat.zero_le _⟩) (Nat.le_refl _) hS (fun r c2 H locs hw hP hS => ?_)
            have hq : (∃ tk' v' dg' md', tMF ca ad c2 tp pt md' ar ac tk' f (nI wd) kd bh v' dg' ∧ (((pcs ar ac tk f wd kd).1 = 0 ∧ md.length + (pcs ar ac tk f wd kd).2.1.length ≤ 1024 ∧ r = 0 ∧ md' = md ++ (pcs ar ac tk f wd kd).2.1 ∧ tk' = (pcs ar ac tk f wd kd).2.2) ∨ ((pcs ar ac tk f wd kd).1 = 0 ∧ ¬ md.length + (pcs ar ac tk f wd kd).2.1.length ≤ 1024 ∧ r = -5) ∨ (¬ (pcs ar ac tk f wd kd).1 = 0 ∧ r = (pcs ar ac tk f wd kd).1))) ∧ ∀ j, 52 ≤ j → c2 j = c j := by
              rw [hP9]
              rcases hw with ⟨h1, h2, h3, h4⟩ | ⟨h1, h2, h3⟩
              · exact ⟨⟨_, _, _, _, h3, Or.inl ⟨rfl, h1, h2, rfl, rfl⟩⟩, fun j h => (h4 j (by omega) (by omega)).trans (hsc1 j (by omega))⟩
              · rw [h3]; exact ⟨⟨_, _, _, _, hM1, Or.inr (Or.inl ⟨rfl, h1, h2⟩)⟩, fun j h => hsc1 j (by omega)⟩
            exact mx_iret hx hb hr hlocks hP hS (hq) dX3_fillPlace_103
        · skip
          exact absurd (nI_lt (by omega) (by omega)) hc3
  · skip
    have hP9 : pcs ar ac tk f wd kd = (0, [37], tk) := by unfold pcs; rw [if_pos hc]
    refine lv_aload_n hx hb dX3_fillPlace_12 rfl (lv_at hl 0 rfl) ?_
    refine mx_get (ci := 3) (v := .ref (ad 5)) (C := RX3) (T := TX3) (N := 9) hx hb hts inX3 hown hK hP (by omega : 0 < n) hM.1 rfl 2 (by decide) (hts _ wm_79) (fun _ h9 => h9) rfl dX3_fillPlace_13 ?_
    refine lv_bipush (v := 37) hx hb dX3_fillPlace_16 (by decide) ?_
    refine mx_ci (va_runV (As := [.int 37]) (rest := []) ⟨hx, hb, hml, hown, hts⟩ (c_Text_add l D ca n ad c (k := 5) (by omega) hM.2.2.2.1 37 _) (cwV 1 hts (gV wm_161 wm_118 wm_119 wm_2 wm_120) rfl rfl rfl (by decide +kernel) ⟨Nat.le_of_ble_eq_true rfl, Nat.le_of_ble_eq_true rfl⟩) (mx_pv (C := RX2) (T := TX2) (N := 2) (ci := 2) hK hP hD hN (by omega : 5 < n) hM.2.2.2.1.cell rfl) rfl rfl hl.1 rfl (lv_room (Nat.le_of_ble_eq_true rfl)) dX3_fillPlace_18 ⟨Nat.zero_le _, Nat.zero_le _⟩) (Nat.le_refl _) hS (fun r c1 H locs hw hP hS => ?_)
    refine lv_if_eq (tgt := 28) hx hb dX3_fillPlace_21 (by decide) (fun hc2 => ?_) (fun hc2 => ?_)
    · skip
      obtain ⟨h1, -, hcE⟩ := hw.resolve_left (fun h => by rw [h.2.1] at hc2; exact absurd hc2 (by decide))
      rw [hcE] at hP
      refine lv_bipush (v := (-5)) hx hb dX3_fillPlace_28 (by decide) ?_
      exact mx_iret hx hb hr hlocks hP hS (⟨⟨tk, v, dg, md, hM, by rw [hP9]; exact Or.inr (Or.inl ⟨rfl, by simp; omega, rfl⟩)⟩, fun j h => rfl⟩) dX3_fillPlace_30
    · skip
      obtain ⟨h1, -, hs1, hT1⟩ := hw.resolve_right (fun h => hc2 h.2.1)
      refine lv_iconst (v := 0) hx hb dX3_fillPlace_24 (by decide) ?_
      refine lv_goto (tgt := 30) hx hb dX3_fillPlace_25 (by decide) ?_
      exact mx_iret hx hb hr hlocks hP hS (⟨⟨tk, v, dg, _, hM.made hs1 hT1, by rw [hP9]; exact Or.inl ⟨rfl, by simp; omega, rfl, rfl, rfl⟩⟩, fun j h => hs1 j (by omega) (by omega)⟩) dX3_fillPlace_30
