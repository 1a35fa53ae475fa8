set_option maxHeartbeats 4000000 in
set_option maxRecDepth 100000 in
/-- make -/
theorem c_make (l : Launch) (D : va_G) (ca : Nat → ClassId) (n : Nat) (ad : Nat → Nat) (c : Nat → va_E) {tp pt md dg : List Nat} {ar : Nat → List Nat} {ac tk : Nat} {f : fl4} {w kd bh : Int32} {v : Int64} (hn : 52 ≤ n) (hM : tMF ca ad c tp pt md ar ac tk f w kd bh v dg) : mInt l yX3_make wsX3_make ({ frames := 5, cells := 0, slots := 0, locals := 113 }) [.ref (ad 0)] D (tTY ca) n ad c (fun r c' => r = (mkF ar ac (pt.length + 1) pt 0 []).1 ∧ tMS ca ad c' tp pt (mkF ar ac (pt.length + 1) pt 0 []).2 ar ac ∧ ∀ j, 52 ≤ j → c' j = c j) := by
  intro sz
  refine Met.ofW (cc := cX3_make) (maxL := 4) (ret := (some .int)) (by decide) rfl ?_
  intro pg9 ev9 s m args below meth cd s₁ B hml hv
  obtain ⟨rfl, hsz, hP, hK, hD0, hN⟩ := hv
  have hx := B.exec
  have hb := B.bytes
  have hr := B.returns
  have hts := fun (w : Cond) (h : w ∈ WSa) => atoms_spec (ws := wsX3_make) B.pre w (List.mem_cons_of_mem _ h)
  have hown : s.vm.findClass RX3 = some m.cls := findClass_of_methodNamed B.named
  have hlocks := B.notSynchronized
  subst hsz
  have hD : ∀ c, va_D (fun _ => True) (mw n ad c) := fun c' => mw_D hD0 c'
  have hS : va_S (mA n ad s.heap.size) s.heap s.heap [] := va_S.rf
  have hl := lv_entry ([.ref (ad 0)]) (n := 4) (Nat.le_of_ble_eq_true rfl)
  rw [lg_entry_eq]
  generalize (lg_sl ([.ref (ad 0)]) ++ List.replicate (4 - (lg_sl ([.ref (ad 0)])).length) Slot.unset).toArray = ls at hl ⊢
  have hl : lv_has ls 4 [(0, .ref (ad 0))] := hl
  have hle3 := hM.2.2.1.le
  have hb3 := hM.2.2.1.b8
  generalize hRR : mkF ar ac (pt.length + 1) pt 0 [] = RR
  refine lv_aload_n hx hb dX3_make_0 rfl (lv_at hl 0 rfl) ?_
  refine mx_get (ci := 3) (v := .ref (ad 5)) (C := RX3) (T := TX3) (N := 9) hx hb hts inX3 hown hK hP (by omega : 0 < n) hM.1 rfl 2 (by decide) (hts _ wm_79) (fun _ h9 => h9) rfl dX3_make_1 ?_
  refine mx_cv (va_runV (As := []) (rest := []) ⟨hx, hb, hml, hown, hts⟩ (c_Text_empty l D ca n ad c (k := 5) (by omega) hM.2.2.2.1 _) (cwV 0 hts (gV wm_133 wm_134 wm_135 wm_2 wm_136) rfl rfl rfl (by decide +kernel) ⟨Nat.le_of_ble_eq_true rfl, Nat.le_of_ble_eq_true rfl⟩) (mx_pv (C := RX2) (T := TX2) (N := 2) (ci := 2) hK hP hD hN (by omega : 5 < n) hM.2.2.2.1.cell rfl) rfl rfl hl.1 rfl (lv_room (Nat.le_of_ble_eq_true rfl)) dX3_make_4 ⟨Nat.zero_le _, Nat.zero_le _⟩) (Nat.le_refl _) hS (fun a1 H locs hw1 hP hS => ?_)
  obtain ⟨hsa, hTa⟩ := hw1
  have hMa := hM.made hsa hTa
  refine lv_aload_n hx hb dX3_make_7 rfl (lv_at hl 0 rfl) ?_
  refine lv_iconst (v := 0) hx hb dX3_make_8 (by decide) ?_
  refine mx_i (nI 0) (nI_0.symm) ?_
  refine mx_put (ci := 3) (v := .int (nI 0)) (ty := .int) (C := RX3) (T := TX3) (N := 9) hx hb hts inX3 tyX3 tyX3_ok nmX3 hown hK hP hD hS (by omega : 0 < n) hMa.1 rfl 5 (by decide) (hts _ wm_82) (fun _ h9 => h9) rfl (by decide +kernel) rfl rfl (Nat.le_of_ble_eq_true rfl) dX3_make_9 (fun H locs hP hS => ?_)
  obtain ⟨a2, ea2⟩ : ∃ z : Nat → va_E, z = va_up a1 0 (.inr (3, [.ref (ad 1), .ref (ad 3), .ref (ad 5), .ref (ad 7), .int (nI ac), .int (nI 0), .ref (ad 48), .ref (ad 49), .ref (ad 50)])) := ⟨_, rfl⟩
  have hP : va_P D vwCl (mw n ad a2) H := by rw [ea2]; exact hP
  have hsa2 : ∀ j, j ≠ 0 → a2 j = a1 j := fun j h => by rw [ea2]; exact va_up_ne _ _ h
  have hca2 : a2 0 = .inr (3, [.ref (ad 1), .ref (ad 3), .ref (ad 5), .ref (ad 7), .int (nI ac), .int (nI 0), .ref (ad 48), .ref (ad 49), .ref (ad 50)]) := by rw [ea2]; exact va_up_self _ _ _
  have hMb := hMa.cel hsa2 hca2 hM.2.2.2.2.2.2.2.2.2.1 (by omega : 0 ≤ 20)
  have loop : ∀ (q1 : Nat) (i : Nat) (j : Nat) (tk1 : Nat) (md1 : List Nat) (c1 : Nat → va_E) (H : Heap) (locs : List Loc) (ls : Array Slot), (i ≤ pt.length) → (j ≤ i) → (pt.length < i + q1) → (RR = mkF ar ac q1 (pt.drop i) tk1 md1) → (∃ f w kd bh v dg, tMF ca ad c1 tp pt md1 ar ac tk1 f w kd bh v dg) → (∀ j, 52 ≤ j → c1 j = c j) → va_P D vwCl (mw n ad c1) H → va_S (mA n ad s.heap.size) s.heap H locs → lv_has ls 4 [(1, .int (nI i)), (2, .int (nI j)), (0, .ref (ad 0))] → W pg9 l ev9 (headSpec wsX3_make ({ frames := 5, cells := 0, slots := 0, locals := 113 })).room s m ([.ref (ad 0)] : List Value).toArray below meth cd H locs 0 0 (MQ below (va_Qi (fun r c' => r = RR.1 ∧ tMS ca ad c' tp pt RR.2 ar ac ∧ ∀ j, 52 ≤ j → c' j = c j) (mW D n ad) (mA n ad s.heap.size)) ([.ref (ad 0)] : List Value).toArray s 0 0 (mA n ad s.heap.size)) (F0 m 16 ls []) := by
    intro q1
    induction q1 with
    | zero => intro i j tk1 md1 c1 H locs ls hi hji hq heq hM1 hs1 hP hS hl; omega
    | succ q1 ih =>
      intro i j tk1 md1 c1 H locs ls hi hji hq heq hM1 hs1 hP hS hl
      obtain ⟨f1, w1, kd1, bh1, v1, dg1, hM1⟩ := hM1
      have hle5 := hM1.2.2.2.1.le
      refine lv_iload_n hx hb dX3_make_16 rfl (lv_at hl 1 rfl) ?_
      refine lv_sipush (v := 400) hx hb dX3_make_17 (by decide) ?_
      refine lv_icmp_ge (tgt := 132) hx hb dX3_make_20 (by decide) (fun hc => ?_) (fun hc => ?_)
      · skip
        have hge : pt.length ≤ i := by have := (nI_leI (a := 400) (by omega) (by omega)).mp hc; omega
        have hend : RR = (nI md1.length, md1) := by rw [heq, dr_nil hge]; rfl
        refine lv_aload_n hx hb dX3_make_132 rfl (lv_at hl 2 rfl) ?_
        refine mx_get (ci := 3) (v := .ref (ad 5)) (C := RX3) (T := TX3) (N := 9) hx hb hts inX3 hown hK hP (by omega : 0 < n) hM1.1 rfl 2 (by decide) (hts _ wm_79) (fun _ h9 => h9) rfl dX3_make_133 ?_
        refine mx_getN (ci := 2) (v := .int (nI md1.length)) (C := RX2) (T := TX2) (N := 2) hx hb hts inX2 hown hK hP (by omega : 5 < n) hM1.2.2.2.1.cell rfl 1 (by decide) (hN.1 _ nn_2) (fun _ h9 => h9) rfl dX3_make_136 ?_
        exact mx_iret hx hb hr hlocks hP hS (⟨by rw [hend], by rw [hend]; exact hM1.ms, hs1⟩) dX3_make_139
      · skip
        refine lv_iload_n hx hb dX3_make_23 rfl (lv_at hl 0 rfl) ?_
        refine lv_aload_n hx hb dX3_make_24 rfl (lv_at hl 2 rfl) ?_
        refine mx_get (ci := 3) (v := .ref (ad 3)) (C := RX3) (T := TX3) (N := 9) hx hb hts inX3 hown hK hP (by omega : 0 < n) hM1.1 rfl 1 (by decide) (hts _ wm_78) (fun _ h9 => h9) rfl dX3_make_25 ?_
        refine mx_getN (ci := 2) (v := .int (nI pt.length)) (C := RX2) (T := TX2) (N := 2) hx hb hts inX2 hown hK hP (by omega : 3 < n) hM1.2.2.1.cell rfl 1 (by decide) (hN.1 _ nn_2) (fun _ h9 => h9) rfl dX3_make_28 ?_
        refine lv_icmp_ge (tgt := 132) hx hb dX3_make_31 (by decide) (fun hc1 => ?_) (fun hc1 => ?_)
        · skip
          have hge : pt.length ≤ i := (nI_leI (by omega) (by omega)).mp hc1
          have hend : RR = (nI md1.length, md1) := by rw [heq, dr_nil hge]; rfl
          refine lv_aload_n hx hb dX3_make_132 rfl (lv_at hl 2 rfl) ?_
          refine mx_get (ci := 3) (v := .ref (ad 5)) (C := RX3) (T := TX3) (N := 9) hx hb hts inX3 hown hK hP (by omega : 0 < n) hM1.1 rfl 2 (by decide) (hts _ wm_79) (fun _ h9 => h9) rfl dX3_make_133 ?_
          refine mx_getN (ci := 2) (v := .int (nI md1.length)) (C := RX2) (T := TX2) (N := 2) hx hb hts inX2 hown hK hP (by omega : 5 < n) hM1.2.2.2.1.cell rfl 1 (by decide) (hN.1 _ nn_2) (fun _ h9 => h9) rfl dX3_make_136 ?_
          exact mx_iret hx hb hr hlocks hP hS (⟨by rw [hend], by rw [hend]; exact hM1.ms, hs1⟩) dX3_make_139
        · skip
          have hlt : i < pt.length := by rcases Nat.lt_or_ge i pt.length with h | h; exact h; exact absurd (nI_le h (by omega)) hc1
          have hb8 : pt.getD i 0 < 256 := hb3 _ (gD_mem hlt)
          rw [dr_cons hlt] at heq
          refine lv_aload_n hx hb dX3_make_34 rfl (lv_at hl 2 rfl) ?_
          refine mx_get (ci := 3) (v := .ref (ad 3)) (C := RX3) (T := TX3) (N := 9) hx hb hts inX3 hown hK hP (by omega : 0 < n) hM1.1 rfl 1 (by decide) (hts _ wm_78) (fun _ h9 => h9) rfl dX3_make_35 ?_
          refine lv_iload_n hx hb dX3_make_38 rfl (lv_at hl 0 rfl) ?_
          refine mx_ci (va_runV (As := [.int (nI i)]) (rest := []) ⟨hx, hb, hml, hown, hts⟩ (c_Text_at l D ca n ad c1 (k := 3) (by omega) hM1.2.2.1 (nI i) _) (cwV 1 hts (gV wm_179 wm_142 wm_143 wm_2 wm_144) rfl rfl rfl (by decide +kernel) ⟨Nat.le_of_ble_eq_true rfl, Nat.le_of_ble_eq_true rfl⟩) (mx_pv (C := RX2) (T := TX2) (N := 2) (ci := 2) hK hP hD hN (by omega : 3 < n) hM1.2.2.1.cell rfl) rfl rfl hl.1 rfl (lv_room (Nat.le_of_ble_eq_true rfl)) dX3_make_39 ⟨Nat.zero_le _, Nat.zero_le _⟩) (Nat.le_refl _) hS (fun r1 c9 H locs hw9 hP hS => ?_)
          obtain ⟨hr1, hcE⟩ := hw9
          rw [hcE] at hP
          refine mx_i (nI (pt.getD i 0)) (by rw [hr1, tAtI_nI (by omega)]; exact if_pos hlt) ?_
          refine lv_bipush (v := 37) hx hb dX3_make_42 (by decide) ?_
          refine lv_icmp_ne (tgt := 85) hx hb dX3_make_44 (by decide) (fun hc2 => ?_) (fun hc2 => ?_)
          · skip
            have hx37 : ¬ pt.getD i 0 = 37 := fun h => hc2 (by rw [h]; rfl)
            rw [mkF_byte hx37] at heq
            refine lv_aload_n hx hb dX3_make_85 rfl (lv_at hl 2 rfl) ?_
            refine mx_get (ci := 3) (v := .ref (ad 5)) (C := RX3) (T := TX3) (N := 9) hx hb hts inX3 hown hK hP (by omega : 0 < n) hM1.1 rfl 2 (by decide) (hts _ wm_79) (fun _ h9 => h9) rfl dX3_make_86 ?_
            refine lv_aload_n hx hb dX3_make_89 rfl (lv_at hl 2 rfl) ?_
            refine mx_get (ci := 3) (v := .ref (ad 3)) (C := RX3) (T := TX3) (N := 9) hx hb hts inX3 hown hK hP (by omega : 0 < n) hM1.1 rfl 1 (by decide) (hts _ wm_78) (fun _ h9 => h9) rfl dX3_make_90 ?_
            refine lv_iload_n hx hb dX3_make_93 rfl (lv_at hl 0 rfl) ?_
            refine mx_ci (va_runV (As := [.int (nI i)]) (rest := [.ref (ad 5)]) ⟨hx, hb, hml, hown, hts⟩ (c_Text_at l D ca n ad c1 (k := 3) (by omega) hM1.2.2.1 (nI i) _) (cwV 1 hts (gV wm_179 wm_142 wm_143 wm_2 wm_144) rfl rfl rfl (by decide +kernel) ⟨Nat.le_of_ble_eq_true rfl, Nat.le_of_ble_eq_true rfl⟩) (mx_pv (C := RX2) (T := TX2) (N := 2) (ci := 2) hK hP hD hN (by omega : 3 < n) hM1.2.2.1.cell rfl) rfl rfl hl.1 rfl (lv_room (Nat.le_of_ble_eq_true rfl)) dX3_make_94 ⟨Nat.zero_le _, Nat.zero_le _⟩) (Nat.le_refl _) hS (fun r2 c9 H locs hw9 hP hS => ?_)
            obtain ⟨hr2, hcE⟩ := hw9
            rw [hcE] at hP
            refine mx_i (nI (pt.getD i 0)) (by rw [hr2, tAtI_nI (by omega)]; exact if_pos hlt) ?_
            refine mx_ci (va_runV (As := [.int (nI (pt.getD i 0))]) (rest := []) ⟨hx, hb, hml, hown, hts⟩ (c_Text_add l D ca n ad c1 (k := 5) (by omega) hM1.2.2.2.1 (nI (pt.getD i 0)) _) (cwV 1 hts (gV wm_161 wm_118 wm_119 wm_2 wm_120) rfl rfl rfl (by decide +kernel) ⟨Nat.le_of_ble_eq_true rfl, Nat.le_of_ble_eq_true rfl⟩) (mx_pv (C := RX2) (T := TX2) (N := 2) (ci := 2) hK hP hD hN (by omega : 5 < n) hM1.2.2.2.1.cell rfl) rfl rfl hl.1 rfl (lv_room (Nat.le_of_ble_eq_true rfl)) dX3_make_97 ⟨Nat.zero_le _, Nat.zero_le _⟩) (Nat.le_refl _) hS (fun r3 c2 H locs hw3 hP hS => ?_)
            refine lv_if_eq (tgt := 107) hx hb dX3_make_100 (by decide) (fun hc3 => ?_) (fun hc3 => ?_)
            · skip
              obtain ⟨h1, -, hcE⟩ := hw3.resolve_left (fun h => by rw [h.2.1] at hc3; exact absurd hc3 (by decide))
              rw [hcE] at hP
              rw [if_neg (by omega)] at heq
              refine lv_bipush (v := (-5)) hx hb dX3_make_107 (by decide) ?_
              refine lv_istore_n (lv' := [(3, .int ((-5))), (1, .int (nI i)), (2, .int (nI j)), (0, .ref (ad 0))]) hx hb dX3_make_109 rfl hl (by decide) rfl (fun ls hl => ?_)
              refine lv_iinc (v := nI (i + 1)) (lv' := [(1, .int (nI (i + 1))), (3, .int ((-5))), (2, .int (nI j)), (0, .ref (ad 0))]) hx hb dX3_make_110 hl (k := 1) rfl (nI_1 i) (by decide) rfl (fun ls hl => ?_)
              refine lv_iload_n hx hb dX3_make_113 rfl (lv_at hl 1 rfl) ?_
              refine lv_if_eq (tgt := 126) hx hb dX3_make_114 (by decide) (fun hc4 => ?_) (fun hc4 => ?_)
              · skip
                exact absurd hc4 (by decide)
              · skip
                refine lv_aload_n hx hb dX3_make_117 rfl (lv_at hl 3 rfl) ?_
                refine mx_get (ci := 3) (v := .ref (ad 5)) (C := RX3) (T := TX3) (N := 9) hx hb hts inX3 hown hK hP (by omega : 0 < n) hM1.1 rfl 2 (by decide) (hts _ wm_79) (fun _ h9 => h9) rfl dX3_make_118 ?_
                refine mx_cv (va_runV (As := []) (rest := []) ⟨hx, hb, hml, hown, hts⟩ (c_Text_empty l D ca n ad c1 (k := 5) (by omega) hM1.2.2.2.1 _) (cwV 0 hts (gV wm_133 wm_134 wm_135 wm_2 wm_136) rfl rfl rfl (by decide +kernel) ⟨Nat.le_of_ble_eq_true rfl, Nat.le_of_ble_eq_true rfl⟩) (mx_pv (C := RX2) (T := TX2) (N := 2) (ci := 2) hK hP hD hN (by omega : 5 < n) hM1.2.2.2.1.cell rfl) rfl rfl hl.1 rfl (lv_room (Nat.le_of_ble_eq_true rfl)) dX3_make_121 ⟨Nat.zero_le _, Nat.zero_le _⟩) (Nat.le_refl _) hS (fun c8 H locs hw8 hP hS => ?_)
                obtain ⟨hs8, hT8⟩ := hw8
                have hM8 := hM1.made hs8 hT8
                refine lv_iload_n hx hb dX3_make_124 rfl (lv_at hl 1 rfl) ?_
                exact mx_iret hx hb hr hlocks hP hS (⟨by rw [heq], by rw [heq]; exact hM8.ms, fun j h => (hs8 j (by omega) (by omega)).trans (hs1 j h)⟩) dX3_make_125
            · skip
              obtain ⟨h1, -, hs3, hT3⟩ := hw3.resolve_right (fun h => hc3 h.2.1)
              rw [by8_nI hb8] at hT3
              have hM3 := hM1.made hs3 hT3
              rw [if_pos h1] at heq
              refine lv_iconst (v := 0) hx hb dX3_make_103 (by decide) ?_
              refine lv_goto (tgt := 109) hx hb dX3_make_104 (by decide) ?_
              refine lv_istore_n (lv' := [(3, .int 0), (1, .int (nI i)), (2, .int (nI j)), (0, .ref (ad 0))]) hx hb dX3_make_109 rfl hl (by decide) rfl (fun ls hl => ?_)
              refine lv_iinc (v := nI (i + 1)) (lv' := [(1, .int (nI (i + 1))), (3, .int 0), (2, .int (nI j)), (0, .ref (ad 0))]) hx hb dX3_make_110 hl (k := 1) rfl (nI_1 i) (by decide) rfl (fun ls hl => ?_)
              refine lv_iload_n hx hb dX3_make_113 rfl (lv_at hl 1 rfl) ?_
              refine lv_if_eq (tgt := 126) hx hb dX3_make_114 (by decide) (fun hc4 => ?_) (fun hc4 => ?_)
              · skip
                refine lv_iinc (v := nI (j + 1)) (lv' := [(2, .int (nI (j + 1))), (1, .int (nI (i + 1))), (3, .int 0), (0, .ref (ad 0))]) hx hb dX3_make_126 hl (k := 2) rfl (nI_1 j) (by decide) rfl (fun ls hl => ?_)
                refine lv_goto (tgt := 16) hx hb dX3_make_129 (by decide) ?_
                exact ih (i + 1) (j + 1) tk1 _ c2 H locs ls (by omega) (by omega) (by omega) heq ⟨_, _, _, _, _, _, hM3⟩ (fun j h => (hs3 j (by omega) (by omega)).trans (hs1 j h)) hP hS (lv_sub hl [1, 0, 3] rfl)
              · skip
                exact absurd rfl hc4
          · skip
            have hx37 : pt.getD i 0 = 37 := (nI_eq (b := 37) (by omega) (by omega)).mp hc2
            refine lv_aload_n hx hb dX3_make_47 rfl (lv_at hl 2 rfl) ?_
            refine mx_get (ci := 3) (v := .ref (ad 48)) (C := RX3) (T := TX3) (N := 9) hx hb hts inX3 hown hK hP (by omega : 0 < n) hM1.1 rfl 6 (by decide) (hts _ wm_83) (fun _ h9 => h9) rfl dX3_make_48 ?_
            refine lv_aload_n hx hb dX3_make_51 rfl (lv_at hl 2 rfl) ?_
            refine mx_get (ci := 3) (v := .ref (ad 3)) (C := RX3) (T := TX3) (N := 9) hx hb hts inX3 hown hK hP (by omega : 0 < n) hM1.1 rfl 1 (by decide) (hts _ wm_78) (fun _ h9 => h9) rfl dX3_make_52 ?_
            refine lv_iload_n hx hb dX3_make_55 rfl (lv_at hl 0 rfl) ?_
            refine lv_iconst (v := 1) hx hb dX3_make_56 (by decide) ?_
            refine lv_iadd hx hb dX3_make_57 ?_
            refine mx_i (nI (i + 1)) (nI_1 i) ?_
            refine mx_ci (va_runV (As := [.ref (ad 3), .int (nI (i + 1))]) (rest := []) ⟨hx, hb, hml, hown, hts⟩ (c_Place_read l D ca n ad c1 (k := 48) (by omega) hM1.2.2.2.2.2.2.1 (k2 := 3) (by omega) hM1.2.2.1 (by decide) (nI (i + 1)) (i + 1) rfl (by omega) _) (cwV 2 hts (gV wm_180 wm_181 wm_182 wm_3 wm_183) rfl rfl rfl (by decide +kernel) ⟨Nat.le_of_ble_eq_true rfl, Nat.le_of_ble_eq_true rfl⟩) (mx_pv (C := RX1) (T := TX1) (N := 7) (ci := 1) hK hP hD hN (by omega : 48 < n) hM1.2.2.2.2.2.2.1 rfl) rfl rfl hl.1 rfl (lv_room (Nat.le_of_ble_eq_true rfl)) dX3_make_58 ⟨Nat.zero_le _, Nat.zero_le _⟩) (Nat.le_refl _) hS (fun r3 c2 H locs hw3 hP hS => ?_)
            obtain ⟨i2, hi2, hd2, hL2, hs2, hw3⟩ := hw3
            have hM2 := hM1.plc hs2 hL2
            have h2i : i + 1 ≤ i2 := by
              have h9 := congrArg List.length hd2
              have h8 := pPlace_le (pt.drop (i + 1))
              rw [List.length_drop] at h9 h8
              omega
            refine lv_if_eq (tgt := 71) hx hb dX3_make_61 (by decide) (fun hc3 => ?_) (fun hc3 => ?_)
            · skip
              have hbad : (pPlace (pt.drop (i + 1))).2.2 = [] ∨ ∃ kd s', (pPlace (pt.drop (i + 1))).2.2 = kd :: s' ∧ isKd kd = false := by
                rcases hw3 with ⟨h1, h2, h3⟩ | ⟨h1, h2⟩
                · rw [h3] at hc3; exact absurd hc3 (by decide)
                · rw [← hd2]
                  rcases Nat.lt_or_ge i2 pt.length with h9 | h9
                  · exact Or.inr ⟨_, _, dr_cons h9, by cases hk : isKd (pt.getD i2 0); rfl; exact absurd ⟨h9, hk⟩ h1⟩
                  · exact Or.inl (dr_nil h9)
              rw [mkF_bad hx37 hbad] at heq
              refine lv_bipush (v := (-2)) hx hb dX3_make_71 (by decide) ?_
              refine lv_istore_n (lv' := [(3, .int ((-2))), (1, .int (nI i)), (2, .int (nI j)), (0, .ref (ad 0))]) hx hb dX3_make_73 rfl hl (by decide) rfl (fun ls hl => ?_)
              refine lv_aload_n hx hb dX3_make_74 rfl (lv_at hl 3 rfl) ?_
              refine mx_get (ci := 3) (v := .ref (ad 48)) (C := RX3) (T := TX3) (N := 9) hx hb hts inX3 hown hK hP (by omega : 0 < n) hM2.1 rfl 6 (by decide) (hts _ wm_83) (fun _ h9 => h9) rfl dX3_make_75 ?_
              refine mx_getN (ci := 1) (v := .int (nI (i2 + 1))) (C := RX1) (T := TX1) (N := 7) hx hb hts inX1 hown hK hP (by omega : 48 < n) hM2.2.2.2.2.2.2.1 rfl 6 (by decide) (hN.1 _ nn_7) (fun _ h9 => h9) rfl dX3_make_78 ?_
              refine lv_istore_n (lv' := [(1, .int (nI (i2 + 1))), (3, .int ((-2))), (2, .int (nI j)), (0, .ref (ad 0))]) hx hb dX3_make_81 rfl hl (by decide) rfl (fun ls hl => ?_)
              refine lv_goto (tgt := 113) hx hb dX3_make_82 (by decide) ?_
              refine lv_iload_n hx hb dX3_make_113 rfl (lv_at hl 1 rfl) ?_
              refine lv_if_eq (tgt := 126) hx hb dX3_make_114 (by decide) (fun hc4 => ?_) (fun hc4 => ?_)
              · skip
                exact absurd hc4 (by decide)
              · skip
                refine lv_aload_n hx hb dX3_make_117 rfl (lv_at hl 3 rfl) ?_
                refine mx_get (ci := 3) (v := .ref (ad 5)) (C := RX3) (T := TX3) (N := 9) hx hb hts inX3 hown hK hP (by omega : 0 < n) hM2.1 rfl 2 (by decide) (hts _ wm_79) (fun _ h9 => h9) rfl dX3_make_118 ?_
                refine mx_cv (va_runV (As := []) (rest := []) ⟨hx, hb, hml, hown, hts⟩ (c_Text_empty l D ca n ad c2 (k := 5) (by omega) hM2.2.2.2.1 _) (cwV 0 hts (gV wm_133 wm_134 wm_135 wm_2 wm_136) rfl rfl rfl (by decide +kernel) ⟨Nat.le_of_ble_eq_true rfl, Nat.le_of_ble_eq_true rfl⟩) (mx_pv (C := RX2) (T := TX2) (N := 2) (ci := 2) hK hP hD hN (by omega : 5 < n) hM2.2.2.2.1.cell rfl) rfl rfl hl.1 rfl (lv_room (Nat.le_of_ble_eq_true rfl)) dX3_make_121 ⟨Nat.zero_le _, Nat.zero_le _⟩) (Nat.le_refl _) hS (fun c8 H locs hw8 hP hS => ?_)
                obtain ⟨hs8, hT8⟩ := hw8
                have hM8 := hM2.made hs8 hT8
                refine lv_iload_n hx hb dX3_make_124 rfl (lv_at hl 1 rfl) ?_
                exact mx_iret hx hb hr hlocks hP hS (⟨by rw [heq], by rw [heq]; exact hM8.ms, fun j h => (hs8 j (by omega) (by omega)).trans ((hs2 j (by omega)).trans (hs1 j h))⟩) dX3_make_125
            · skip
              obtain ⟨h2lt, hkd, -⟩ := hw3.resolve_right (fun h => hc3 h.2)
              have hat : tAt pt i2 = nI (pt.getD i2 0) := if_pos h2lt
              rw [mkF_plc hx37 (by rw [← hd2]; exact dr_cons h2lt) hkd] at heq
              refine lv_aload_n hx hb dX3_make_64 rfl (lv_at hl 2 rfl) ?_
              refine mx_ci (va_runV (As := []) (rest := []) ⟨hx, hb, hml, hown, hts⟩ (c_fillPlace l D ca n ad c2 hn hM2 (pWid_lt _ _ (by omega)) _) (cwV 0 hts (gV wm_207 wm_209 ws_5 wm_1 wm_210) rfl rfl rfl (by decide +kernel) ⟨Nat.le_of_ble_eq_true rfl, Nat.le_of_ble_eq_true rfl⟩) (mx_pv (C := RX3) (T := TX3) (N := 9) (ci := 3) hK hP hD hN (by omega : 0 < n) hM2.1 rfl) rfl rfl hl.1 rfl (lv_room (Nat.le_of_ble_eq_true rfl)) dX3_make_65 ⟨Nat.zero_le _, Nat.zero_le _⟩) (Nat.le_refl _) hS (fun r4 c3 H locs hw4 hP hS => ?_)
              obtain ⟨⟨tk4, v4, dg4, md4, hM4, hw4⟩, hs4⟩ := hw4
              rw [hat] at hw4
              refine lv_goto (tgt := 73) hx hb dX3_make_68 (by decide) ?_
              refine lv_istore_n (lv' := [(3, .int r4), (1, .int (nI i)), (2, .int (nI j)), (0, .ref (ad 0))]) hx hb dX3_make_73 rfl hl (by decide) rfl (fun ls hl => ?_)
              refine lv_aload_n hx hb dX3_make_74 rfl (lv_at hl 3 rfl) ?_
              refine mx_get (ci := 3) (v := .ref (ad 48)) (C := RX3) (T := TX3) (N := 9) hx hb hts inX3 hown hK hP (by omega : 0 < n) hM4.1 rfl 6 (by decide) (hts _ wm_83) (fun _ h9 => h9) rfl dX3_make_75 ?_
              refine mx_getN (ci := 1) (v := .int (nI (i2 + 1))) (C := RX1) (T := TX1) (N := 7) hx hb hts inX1 hown hK hP (by omega : 48 < n) hM4.2.2.2.2.2.2.1 rfl 6 (by decide) (hN.1 _ nn_7) (fun _ h9 => h9) rfl dX3_make_78 ?_
              refine lv_istore_n (lv' := [(1, .int (nI (i2 + 1))), (3, .int r4), (2, .int (nI j)), (0, .ref (ad 0))]) hx hb dX3_make_81 rfl hl (by decide) rfl (fun ls hl => ?_)
              refine lv_goto (tgt := 113) hx hb dX3_make_82 (by decide) ?_
              refine lv_iload_n hx hb dX3_make_113 rfl (lv_at hl 1 rfl) ?_
              refine lv_if_eq (tgt := 126) hx hb dX3_make_114 (by decide) (fun hc5 => ?_) (fun hc5 => ?_)
              · skip
                obtain ⟨e1, e2, -, rfl, rfl⟩ := hw4.resolve_right (fun h => by
                  rcases h with ⟨-, -, h⟩ | ⟨h1, h⟩
                  · rw [h] at hc5; exact absurd hc5 (by decide)
                  · exact h1 (by rw [← h]; exact hc5))
                rw [if_pos e1, if_pos e2] at heq
                refine lv_iinc (v := nI (j + 1)) (lv' := [(2, .int (nI (j + 1))), (1, .int (nI (i2 + 1))), (3, .int r4), (0, .ref (ad 0))]) hx hb dX3_make_126 hl (k := 2) rfl (nI_1 j) (by decide) rfl (fun ls hl => ?_)
                refine lv_goto (tgt := 16) hx hb dX3_make_129 (by decide) ?_
                exact ih (i2 + 1) (j + 1) _ _ c3 H locs ls (by omega) (by omega) (by omega) heq ⟨_, _, _, _, _, _, hM4⟩ (fun j h => (hs4 j h).trans ((hs2 j (by omega)).trans (hs1 j h))) hP hS (lv_sub hl [1, 0, 3] rfl)
              · skip
                have hfl : RR = (r4, []) := by
                  rcases hw4 with ⟨-, -, h, -⟩ | ⟨e1, e2, h⟩ | ⟨e1, h⟩
                  · exact absurd h hc5
                  · rw [heq, if_pos e1, if_neg e2, h]
                  · rw [heq, if_neg e1, h]
                refine lv_aload_n hx hb dX3_make_117 rfl (lv_at hl 3 rfl) ?_
                refine mx_get (ci := 3) (v := .ref (ad 5)) (C := RX3) (T := TX3) (N := 9) hx hb hts inX3 hown hK hP (by omega : 0 < n) hM4.1 rfl 2 (by decide) (hts _ wm_79) (fun _ h9 => h9) rfl dX3_make_118 ?_
                refine mx_cv (va_runV (As := []) (rest := []) ⟨hx, hb, hml, hown, hts⟩ (c_Text_empty l D ca n ad c3 (k := 5) (by omega) hM4.2.2.2.1 _) (cwV 0 hts (gV wm_133 wm_134 wm_135 wm_2 wm_136) rfl rfl rfl (by decide +kernel) ⟨Nat.le_of_ble_eq_true rfl, Nat.le_of_ble_eq_true rfl⟩) (mx_pv (C := RX2) (T := TX2) (N := 2) (ci := 2) hK hP hD hN (by omega : 5 < n) hM4.2.2.2.1.cell rfl) rfl rfl hl.1 rfl (lv_room (Nat.le_of_ble_eq_true rfl)) dX3_make_121 ⟨Nat.zero_le _, Nat.zero_le _⟩) (Nat.le_refl _) hS (fun c8 H locs hw8 hP hS => ?_)
                obtain ⟨hs8, hT8⟩ := hw8
                have hM8 := hM4.made hs8 hT8
                refine lv_iload_n hx hb dX3_make_124 rfl (lv_at hl 1 rfl) ?_
                exact mx_iret hx hb hr hlocks hP hS (⟨by rw [hfl], by rw [hfl]; exact hM8.ms, fun j h => (hs8 j (by omega) (by omega)).trans ((hs4 j h).trans ((hs2 j (by omega)).trans (hs1 j h)))⟩) dX3_make_125
  refine lv_iconst (v := 0) hx hb dX3_make_12 (by decide) ?_
  refine lv_istore_n (lv' := [(1, .int 0), (0, .ref (ad 0))]) hx hb dX3_make_13 rfl hl (by decide) rfl (fun ls hl => ?_)
  refine lv_iconst (v := 0) hx hb dX3_make_14 (by decide) ?_
  refine lv_istore_n (lv' := [(2, .int 0), (1, .int 0), (0, .ref (ad 0))]) hx hb dX3_make_15 rfl hl (by decide) rfl (fun ls hl => ?_)
  exact loop (pt.length + 1) 0 0 0 [] a2 _ _ ls (Nat.zero_le _) (Nat.le_refl _) (by omega) hRR.symm ⟨_, _, _, _, _, _, hMb⟩ (fun j h => (hsa2 j (by omega)).trans (hsa j (by omega) (by omega))) hP hS (by have h9 := (lv_sub hl [1, 0, 2] rfl); rw [nI_0]; exact h9)
