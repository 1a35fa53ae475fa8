set_option maxHeartbeats 4000000 in
set_option maxRecDepth 100000 in
/-- flag() -/
theorem c_flag (l : Launch) (D : va_G) (ca : Nat → ClassId) (n : Nat) (ad : Nat → Nat) (c : Nat → va_E) {x0 x1 x2 x3 x4 x5 x6 x7 x12 : Int32} {f : fl4} {v : Int64} (hn : 59 ≤ n) {t : List Nat} {i : Nat} (hO : c 52 = rO ad x0 x1 x2 x3 x4 x5 x6 x7 (bI f.1) (bI f.2.1) (bI f.2.2.1) (bI f.2.2.2) x12 v) (hB : tB ca c 54 400 0 t) (hx1 : x1 = nI t.length) (hx5 : x5 = nI i) (hi : i ≤ t.length) : mInt l yX4_flag wsX4_flag ({ frames := 0, cells := 0, slots := 0, locals := 0 }) [.ref (ad 52)] D (tTY ca) n ad c (fun r c' => ((i < t.length ∧ ∃ f', pFlag (t.getD i 0) f = some f' ∧ r = 1 ∧ c' 52 = rO ad x0 x1 x2 x3 x4 x5 x6 x7 (bI f'.1) (bI f'.2.1) (bI f'.2.2.1) (bI f'.2.2.2) x12 v) ∨ (¬ (i < t.length ∧ ∃ f', pFlag (t.getD i 0) f = some f') ∧ r = 0 ∧ c' 52 = rO ad x0 x1 x2 x3 x4 x5 x6 x7 (bI f.1) (bI f.2.1) (bI f.2.2.1) (bI f.2.2.2) x12 v)) ∧ ∀ j, j ≠ 52 → c' j = c j) := by
  intro sz
  refine Met.ofW (cc := cX4_flag) (maxL := 2) (ret := (some .boolean)) (by decide) rfl ?_
  intro pg9 ev9 s m args below meth cd s₁ B hml hv
  obtain ⟨rfl, hsz, hP, hK, hD0, hN⟩ := hv
  have hx := B.exec
  have hb := B.bytes
  have hr := B.returns
  have hts := fun (w : Cond) (h : w ∈ WSa) => atoms_spec (ws := wsX4_flag) B.pre w (List.mem_cons_of_mem _ h)
  have hown : s.vm.findClass RX4 = some m.cls := findClass_of_methodNamed B.named
  have hlocks := B.notSynchronized
  subst hsz
  have hD : ∀ c, va_D (fun _ => True) (mw n ad c) := fun c' => mw_D hD0 c'
  have hS : va_S (mA n ad s.heap.size) s.heap s.heap [] := va_S.rf
  have hl := lv_entry ([.ref (ad 52)]) (n := 2) (Nat.le_of_ble_eq_true rfl)
  rw [lg_entry_eq]
  generalize (lg_sl ([.ref (ad 52)]) ++ List.replicate (2 - (lg_sl ([.ref (ad 52)])).length) Slot.unset).toArray = ls at hl ⊢
  have hl : lv_has ls 2 [(0, .ref (ad 52))] := hl
  obtain ⟨hle, hcp, hby, g, h54, hg⟩ := id hB
  suffices hj24 : W pg9 l ev9 (headSpec wsX4_flag ({ frames := 0, cells := 0, slots := 0, locals := 0 })).room s m ([.ref (ad 52)] : List Value).toArray below meth cd s.heap [] 0 0 (MQ below (va_Qi (fun r c' => ((i < t.length ∧ ∃ f', pFlag (t.getD i 0) f = some f' ∧ r = 1 ∧ c' 52 = rO ad x0 x1 x2 x3 x4 x5 x6 x7 (bI f'.1) (bI f'.2.1) (bI f'.2.2.1) (bI f'.2.2.2) x12 v) ∨ (¬ (i < t.length ∧ ∃ f', pFlag (t.getD i 0) f = some f') ∧ r = 0 ∧ c' 52 = rO ad x0 x1 x2 x3 x4 x5 x6 x7 (bI f.1) (bI f.2.1) (bI f.2.2.1) (bI f.2.2.2) x12 v)) ∧ ∀ j, j ≠ 52 → c' j = c j) (mW D n ad) (mA n ad s.heap.size)) ([.ref (ad 52)] : List Value).toArray s 0 0 (mA n ad s.heap.size)) (F0 m 24 ls [.int (tAs t i)]) by
    refine lv_aload_n hx hb dX4_flag_0 rfl (lv_at hl 0 rfl) ?_
    refine mx_get (ci := 4) (v := .int x5) (C := RX4) (T := TX4) (N := 20) hx hb hts inX4 hown hK hP (by omega : 52 < n) hO rfl 10 (by decide) (hts _ wm_278) (fun _ h9 => h9) rfl dX4_flag_1 ?_
    refine lv_aload_n hx hb dX4_flag_4 rfl (lv_at hl 0 rfl) ?_
    refine mx_get (ci := 4) (v := .int x1) (C := RX4) (T := TX4) (N := 20) hx hb hts inX4 hown hK hP (by omega : 52 < n) hO rfl 5 (by decide) (hts _ wm_273) (fun _ h9 => h9) rfl dX4_flag_5 ?_
    refine lv_icmp_ge (tgt := 23) hx hb dX4_flag_8 (by decide) (fun hc1 => ?_) (fun hc1 => ?_)
    · skip
      refine lv_iconst (v := (-1)) hx hb dX4_flag_23 (by decide) ?_
      refine mx_i (tAs t i) (by have h9 : ¬ i < t.length := (by have := (nI_leI (a := t.length) (b := i) (by omega) (by omega)).mp (by rw [← hx1, ← hx5]; exact hc1); omega); rw [show tAs t i = -1 from if_neg h9]) ?_
      exact hj24
    · skip
      have hlt : i < t.length := by have := (not_congr (nI_leI (a := t.length) (b := i) (by omega) (by omega))).mp (by rw [← hx1, ← hx5]; exact hc1); omega
      refine lv_aload_n hx hb dX4_flag_11 rfl (lv_at hl 0 rfl) ?_
      refine mx_get (ci := 4) (v := .ref (ad 54)) (C := RX4) (T := TX4) (N := 20) hx hb hts inX4 hown hK hP (by omega : 52 < n) hO rfl 1 (by decide) (hts _ wm_269) (fun _ h9 => h9) rfl dX4_flag_12 ?_
      refine lv_aload_n hx hb dX4_flag_15 rfl (lv_at hl 0 rfl) ?_
      refine mx_get (ci := 4) (v := .int x5) (C := RX4) (T := TX4) (N := 20) hx hb hts inX4 hown hK hP (by omega : 52 < n) hO rfl 10 (by decide) (hts _ wm_278) (fun _ h9 => h9) rfl dX4_flag_16 ?_
      refine mx_bald hx hb hK hP (by omega : 54 < n) 2 h54 rfl (by rw [hx5]; exact vp_in_nI (by omega) (by omega)) dX4_flag_19 ?_
      refine mx_i (tAs t i) (by rw [hx5, nI_clamp (by omega), show tAs t i = sB (t.getD i 0) from if_pos hlt]; have h9 := hg i hlt; rw [Nat.zero_add] at h9; exact h9) ?_
      refine lv_goto (tgt := 24) hx hb dX4_flag_20 (by decide) ?_
      refine mx_i (tAs t i) (rfl) ?_
      exact hj24
  obtain ⟨y, hy⟩ : ∃ y : Int32, tAs t i = y := ⟨_, rfl⟩
  refine mx_i y hy ?_
  refine lv_istore_n (lv' := [(1, .int y), (0, .ref (ad 52))]) hx hb dX4_flag_24 rfl hl (by decide) rfl (fun ls hl => ?_)
  refine lv_aload_n hx hb dX4_flag_25 rfl (lv_at hl 1 rfl) ?_
  suffices hj44 : W pg9 l ev9 (headSpec wsX4_flag ({ frames := 0, cells := 0, slots := 0, locals := 0 })).room s m ([.ref (ad 52)] : List Value).toArray below meth cd s.heap [] 0 0 (MQ below (va_Qi (fun r c' => ((i < t.length ∧ ∃ f', pFlag (t.getD i 0) f = some f' ∧ r = 1 ∧ c' 52 = rO ad x0 x1 x2 x3 x4 x5 x6 x7 (bI f'.1) (bI f'.2.1) (bI f'.2.2.1) (bI f'.2.2.2) x12 v) ∨ (¬ (i < t.length ∧ ∃ f', pFlag (t.getD i 0) f = some f') ∧ r = 0 ∧ c' 52 = rO ad x0 x1 x2 x3 x4 x5 x6 x7 (bI f.1) (bI f.2.1) (bI f.2.2.1) (bI f.2.2.2) x12 v)) ∧ ∀ j, j ≠ 52 → c' j = c j) (mW D n ad) (mA n ad s.heap.size)) ([.ref (ad 52)] : List Value).toArray s 0 0 (mA n ad s.heap.size)) (F0 m 44 ls [.int (bI (f.1 || decide (y = 45))), .ref (ad 52)]) by
    refine lv_aload_n hx hb dX4_flag_26 rfl (lv_at hl 1 rfl) ?_
    refine mx_get (ci := 4) (v := .int (bI f.1)) (C := RX4) (T := TX4) (N := 20) hx hb hts inX4 hown hK hP (by omega : 52 < n) hO rfl 13 (by decide) (hts _ wm_281) (fun _ h9 => h9) rfl dX4_flag_27 ?_
    refine lv_if_ne (tgt := 39) hx hb dX4_flag_30 (by decide) (fun hc2 => ?_) (fun hc2 => ?_)
    · skip
      refine lv_iconst (v := 1) hx hb dX4_flag_39 (by decide) ?_
      refine lv_goto (tgt := 44) hx hb dX4_flag_40 (by decide) ?_
      refine mx_i (bI (f.1 || decide (y = 45))) (by rw [bI_ne hc2]; rfl) ?_
      exact hj44
    · skip
      refine lv_iload_n hx hb dX4_flag_33 rfl (lv_at hl 0 rfl) ?_
      refine lv_bipush (v := 45) hx hb dX4_flag_34 (by decide) ?_
      refine lv_icmp_ne (tgt := 43) hx hb dX4_flag_36 (by decide) (fun hc3 => ?_) (fun hc3 => ?_)
      · skip
        refine lv_iconst (v := 0) hx hb dX4_flag_43 (by decide) ?_
        refine mx_i (bI (f.1 || decide (y = 45))) (by rw [bI_eq hc2, decide_eq_false hc3]; rfl) ?_
        exact hj44
      · skip
        refine lv_iconst (v := 1) hx hb dX4_flag_39 (by decide) ?_
        refine lv_goto (tgt := 44) hx hb dX4_flag_40 (by decide) ?_
        refine mx_i (bI (f.1 || decide (y = 45))) (by rw [bI_eq hc2, decide_eq_true hc3]; rfl) ?_
        exact hj44
  refine mx_put (ci := 4) (v := .int (bI (f.1 || decide (y = 45)))) (ty := .boolean) (C := RX4) (T := TX4) (N := 20) hx hb hts inX4 tyX4 tyX4_ok nmX4 hown hK hP hD hS (by omega : 52 < n) hO rfl 13 (by decide) (hts _ wm_281) (fun _ h9 => h9) rfl (by decide +kernel) (by cases (f.1 || decide (y = 45)) <;> rfl) (by cases (f.1 || decide (y = 45)) <;> rfl) (Nat.le_of_ble_eq_true rfl) dX4_flag_44 (fun H locs hP hS => ?_)
  obtain ⟨a1, ea1⟩ : ∃ z : Nat → va_E, z = va_up c 52 (.inr (4, [.ref (ad 53), .ref (ad 54), .ref (ad 55), .ref (ad 56), .int x0, .int x1, .int x2, .int x3, .int x4, .ref (ad 57), .int x5, .int x6, .int x7, .int (bI (f.1 || decide (y = 45))), .int (bI f.2.1), .int (bI f.2.2.1), .int (bI f.2.2.2), .ref (ad 58), .int x12, .long v])) := ⟨_, rfl⟩
  have hP : va_P D vwCl (mw n ad a1) H := by rw [ea1]; exact hP
  have hsa1 : ∀ j, j ≠ 52 → a1 j = c j := fun j h => by rw [ea1]; exact va_up_ne _ _ h
  have hca1 : a1 52 = .inr (4, [.ref (ad 53), .ref (ad 54), .ref (ad 55), .ref (ad 56), .int x0, .int x1, .int x2, .int x3, .int x4, .ref (ad 57), .int x5, .int x6, .int x7, .int (bI (f.1 || decide (y = 45))), .int (bI f.2.1), .int (bI f.2.2.1), .int (bI f.2.2.2), .ref (ad 58), .int x12, .long v]) := by rw [ea1]; exact va_up_self _ _ _
  refine lv_aload_n hx hb dX4_flag_47 rfl (lv_at hl 1 rfl) ?_
  suffices hj66 : W pg9 l ev9 (headSpec wsX4_flag ({ frames := 0, cells := 0, slots := 0, locals := 0 })).room s m ([.ref (ad 52)] : List Value).toArray below meth cd H locs 0 0 (MQ below (va_Qi (fun r c' => ((i < t.length ∧ ∃ f', pFlag (t.getD i 0) f = some f' ∧ r = 1 ∧ c' 52 = rO ad x0 x1 x2 x3 x4 x5 x6 x7 (bI f'.1) (bI f'.2.1) (bI f'.2.2.1) (bI f'.2.2.2) x12 v) ∨ (¬ (i < t.length ∧ ∃ f', pFlag (t.getD i 0) f = some f') ∧ r = 0 ∧ c' 52 = rO ad x0 x1 x2 x3 x4 x5 x6 x7 (bI f.1) (bI f.2.1) (bI f.2.2.1) (bI f.2.2.2) x12 v)) ∧ ∀ j, j ≠ 52 → c' j = c j) (mW D n ad) (mA n ad s.heap.size)) ([.ref (ad 52)] : List Value).toArray s 0 0 (mA n ad s.heap.size)) (F0 m 66 ls [.int (bI (f.2.1 || decide (y = 48))), .ref (ad 52)]) by
    refine lv_aload_n hx hb dX4_flag_48 rfl (lv_at hl 1 rfl) ?_
    refine mx_get (ci := 4) (v := .int (bI f.2.1)) (C := RX4) (T := TX4) (N := 20) hx hb hts inX4 hown hK hP (by omega : 52 < n) hca1 rfl 14 (by decide) (hts _ wm_282) (fun _ h9 => h9) rfl dX4_flag_49 ?_
    refine lv_if_ne (tgt := 61) hx hb dX4_flag_52 (by decide) (fun hc2 => ?_) (fun hc2 => ?_)
    · skip
      refine lv_iconst (v := 1) hx hb dX4_flag_61 (by decide) ?_
      refine lv_goto (tgt := 66) hx hb dX4_flag_62 (by decide) ?_
      refine mx_i (bI (f.2.1 || decide (y = 48))) (by rw [bI_ne hc2]; rfl) ?_
      exact hj66
    · skip
      refine lv_iload_n hx hb dX4_flag_55 rfl (lv_at hl 0 rfl) ?_
      refine lv_bipush (v := 48) hx hb dX4_flag_56 (by decide) ?_
      refine lv_icmp_ne (tgt := 65) hx hb dX4_flag_58 (by decide) (fun hc3 => ?_) (fun hc3 => ?_)
      · skip
        refine lv_iconst (v := 0) hx hb dX4_flag_65 (by decide) ?_
        refine mx_i (bI (f.2.1 || decide (y = 48))) (by rw [bI_eq hc2, decide_eq_false hc3]; rfl) ?_
        exact hj66
      · skip
        refine lv_iconst (v := 1) hx hb dX4_flag_61 (by decide) ?_
        refine lv_goto (tgt := 66) hx hb dX4_flag_62 (by decide) ?_
        refine mx_i (bI (f.2.1 || decide (y = 48))) (by rw [bI_eq hc2, decide_eq_true hc3]; rfl) ?_
        exact hj66
  refine mx_put (ci := 4) (v := .int (bI (f.2.1 || decide (y = 48)))) (ty := .boolean) (C := RX4) (T := TX4) (N := 20) hx hb hts inX4 tyX4 tyX4_ok nmX4 hown hK hP hD hS (by omega : 52 < n) hca1 rfl 14 (by decide) (hts _ wm_282) (fun _ h9 => h9) rfl (by decide +kernel) (by cases (f.2.1 || decide (y = 48)) <;> rfl) (by cases (f.2.1 || decide (y = 48)) <;> rfl) (Nat.le_of_ble_eq_true rfl) dX4_flag_66 (fun H locs hP hS => ?_)
  obtain ⟨a2, ea2⟩ : ∃ z : Nat → va_E, z = va_up a1 52 (.inr (4, [.ref (ad 53), .ref (ad 54), .ref (ad 55), .ref (ad 56), .int x0, .int x1, .int x2, .int x3, .int x4, .ref (ad 57), .int x5, .int x6, .int x7, .int (bI (f.1 || decide (y = 45))), .int (bI (f.2.1 || decide (y = 48))), .int (bI f.2.2.1), .int (bI f.2.2.2), .ref (ad 58), .int x12, .long v])) := ⟨_, rfl⟩
  have hP : va_P D vwCl (mw n ad a2) H := by rw [ea2]; exact hP
  have hsa2 : ∀ j, j ≠ 52 → a2 j = a1 j := fun j h => by rw [ea2]; exact va_up_ne _ _ h
  have hca2 : a2 52 = .inr (4, [.ref (ad 53), .ref (ad 54), .ref (ad 55), .ref (ad 56), .int x0, .int x1, .int x2, .int x3, .int x4, .ref (ad 57), .int x5, .int x6, .int x7, .int (bI (f.1 || decide (y = 45))), .int (bI (f.2.1 || decide (y = 48))), .int (bI f.2.2.1), .int (bI f.2.2.2), .ref (ad 58), .int x12, .long v]) := by rw [ea2]; exact va_up_self _ _ _
  refine lv_aload_n hx hb dX4_flag_69 rfl (lv_at hl 1 rfl) ?_
  suffices hj88 : W pg9 l ev9 (headSpec wsX4_flag ({ frames := 0, cells := 0, slots := 0, locals := 0 })).room s m ([.ref (ad 52)] : List Value).toArray below meth cd H locs 0 0 (MQ below (va_Qi (fun r c' => ((i < t.length ∧ ∃ f', pFlag (t.getD i 0) f = some f' ∧ r = 1 ∧ c' 52 = rO ad x0 x1 x2 x3 x4 x5 x6 x7 (bI f'.1) (bI f'.2.1) (bI f'.2.2.1) (bI f'.2.2.2) x12 v) ∨ (¬ (i < t.length ∧ ∃ f', pFlag (t.getD i 0) f = some f') ∧ r = 0 ∧ c' 52 = rO ad x0 x1 x2 x3 x4 x5 x6 x7 (bI f.1) (bI f.2.1) (bI f.2.2.1) (bI f.2.2.2) x12 v)) ∧ ∀ j, j ≠ 52 → c' j = c j) (mW D n ad) (mA n ad s.heap.size)) ([.ref (ad 52)] : List Value).toArray s 0 0 (mA n ad s.heap.size)) (F0 m 88 ls [.int (bI (f.2.2.1 || decide (y = 43))), .ref (ad 52)]) by
    refine lv_aload_n hx hb dX4_flag_70 rfl (lv_at hl 1 rfl) ?_
    refine mx_get (ci := 4) (v := .int (bI f.2.2.1)) (C := RX4) (T := TX4) (N := 20) hx hb hts inX4 hown hK hP (by omega : 52 < n) hca2 rfl 15 (by decide) (hts _ wm_283) (fun _ h9 => h9) rfl dX4_flag_71 ?_
    refine lv_if_ne (tgt := 83) hx hb dX4_flag_74 (by decide) (fun hc2 => ?_) (fun hc2 => ?_)
    · skip
      refine lv_iconst (v := 1) hx hb dX4_flag_83 (by decide) ?_
      refine lv_goto (tgt := 88) hx hb dX4_flag_84 (by decide) ?_
      refine mx_i (bI (f.2.2.1 || decide (y = 43))) (by rw [bI_ne hc2]; rfl) ?_
      exact hj88
    · skip
      refine lv_iload_n hx hb dX4_flag_77 rfl (lv_at hl 0 rfl) ?_
      refine lv_bipush (v := 43) hx hb dX4_flag_78 (by decide) ?_
      refine lv_icmp_ne (tgt := 87) hx hb dX4_flag_80 (by decide) (fun hc3 => ?_) (fun hc3 => ?_)
      · skip
        refine lv_iconst (v := 0) hx hb dX4_flag_87 (by decide) ?_
        refine mx_i (bI (f.2.2.1 || decide (y = 43))) (by rw [bI_eq hc2, decide_eq_false hc3]; rfl) ?_
        exact hj88
      · skip
        refine lv_iconst (v := 1) hx hb dX4_flag_83 (by decide) ?_
        refine lv_goto (tgt := 88) hx hb dX4_flag_84 (by decide) ?_
        refine mx_i (bI (f.2.2.1 || decide (y = 43))) (by rw [bI_eq hc2, decide_eq_true hc3]; rfl) ?_
        exact hj88
  refine mx_put (ci := 4) (v := .int (bI (f.2.2.1 || decide (y = 43)))) (ty := .boolean) (C := RX4) (T := TX4) (N := 20) hx hb hts inX4 tyX4 tyX4_ok nmX4 hown hK hP hD hS (by omega : 52 < n) hca2 rfl 15 (by decide) (hts _ wm_283) (fun _ h9 => h9) rfl (by decide +kernel) (by cases (f.2.2.1 || decide (y = 43)) <;> rfl) (by cases (f.2.2.1 || decide (y = 43)) <;> rfl) (Nat.le_of_ble_eq_true rfl) dX4_flag_88 (fun H locs hP hS => ?_)
  obtain ⟨a3, ea3⟩ : ∃ z : Nat → va_E, z = va_up a2 52 (.inr (4, [.ref (ad 53), .ref (ad 54), .ref (ad 55), .ref (ad 56), .int x0, .int x1, .int x2, .int x3, .int x4, .ref (ad 57), .int x5, .int x6, .int x7, .int (bI (f.1 || decide (y = 45))), .int (bI (f.2.1 || decide (y = 48))), .int (bI (f.2.2.1 || decide (y = 43))), .int (bI f.2.2.2), .ref (ad 58), .int x12, .long v])) := ⟨_, rfl⟩
  have hP : va_P D vwCl (mw n ad a3) H := by rw [ea3]; exact hP
  have hsa3 : ∀ j, j ≠ 52 → a3 j = a2 j := fun j h => by rw [ea3]; exact va_up_ne _ _ h
  have hca3 : a3 52 = .inr (4, [.ref (ad 53), .ref (ad 54), .ref (ad 55), .ref (ad 56), .int x0, .int x1, .int x2, .int x3, .int x4, .ref (ad 57), .int x5, .int x6, .int x7, .int (bI (f.1 || decide (y = 45))), .int (bI (f.2.1 || decide (y = 48))), .int (bI (f.2.2.1 || decide (y = 43))), .int (bI f.2.2.2), .ref (ad 58), .int x12, .long v]) := by rw [ea3]; exact va_up_self _ _ _
  refine lv_aload_n hx hb dX4_flag_91 rfl (lv_at hl 1 rfl) ?_
  suffices hj110 : W pg9 l ev9 (headSpec wsX4_flag ({ frames := 0, cells := 0, slots := 0, locals := 0 })).room s m ([.ref (ad 52)] : List Value).toArray below meth cd H locs 0 0 (MQ below (va_Qi (fun r c' => ((i < t.length ∧ ∃ f', pFlag (t.getD i 0) f = some f' ∧ r = 1 ∧ c' 52 = rO ad x0 x1 x2 x3 x4 x5 x6 x7 (bI f'.1) (bI f'.2.1) (bI f'.2.2.1) (bI f'.2.2.2) x12 v) ∨ (¬ (i < t.length ∧ ∃ f', pFlag (t.getD i 0) f = some f') ∧ r = 0 ∧ c' 52 = rO ad x0 x1 x2 x3 x4 x5 x6 x7 (bI f.1) (bI f.2.1) (bI f.2.2.1) (bI f.2.2.2) x12 v)) ∧ ∀ j, j ≠ 52 → c' j = c j) (mW D n ad) (mA n ad s.heap.size)) ([.ref (ad 52)] : List Value).toArray s 0 0 (mA n ad s.heap.size)) (F0 m 110 ls [.int (bI (f.2.2.2 || decide (y = 32))), .ref (ad 52)]) by
    refine lv_aload_n hx hb dX4_flag_92 rfl (lv_at hl 1 rfl) ?_
    refine mx_get (ci := 4) (v := .int (bI f.2.2.2)) (C := RX4) (T := TX4) (N := 20) hx hb hts inX4 hown hK hP (by omega : 52 < n) hca3 rfl 16 (by decide) (hts _ wm_284) (fun _ h9 => h9) rfl dX4_flag_93 ?_
    refine lv_if_ne (tgt := 105) hx hb dX4_flag_96 (by decide) (fun hc2 => ?_) (fun hc2 => ?_)
    · skip
      refine lv_iconst (v := 1) hx hb dX4_flag_105 (by decide) ?_
      refine lv_goto (tgt := 110) hx hb dX4_flag_106 (by decide) ?_
      refine mx_i (bI (f.2.2.2 || decide (y = 32))) (by rw [bI_ne hc2]; rfl) ?_
      exact hj110
    · skip
      refine lv_iload_n hx hb dX4_flag_99 rfl (lv_at hl 0 rfl) ?_
      refine lv_bipush (v := 32) hx hb dX4_flag_100 (by decide) ?_
      refine lv_icmp_ne (tgt := 109) hx hb dX4_flag_102 (by decide) (fun hc3 => ?_) (fun hc3 => ?_)
      · skip
        refine lv_iconst (v := 0) hx hb dX4_flag_109 (by decide) ?_
        refine mx_i (bI (f.2.2.2 || decide (y = 32))) (by rw [bI_eq hc2, decide_eq_false hc3]; rfl) ?_
        exact hj110
      · skip
        refine lv_iconst (v := 1) hx hb dX4_flag_105 (by decide) ?_
        refine lv_goto (tgt := 110) hx hb dX4_flag_106 (by decide) ?_
        refine mx_i (bI (f.2.2.2 || decide (y = 32))) (by rw [bI_eq hc2, decide_eq_true hc3]; rfl) ?_
        exact hj110
  refine mx_put (ci := 4) (v := .int (bI (f.2.2.2 || decide (y = 32)))) (ty := .boolean) (C := RX4) (T := TX4) (N := 20) hx hb hts inX4 tyX4 tyX4_ok nmX4 hown hK hP hD hS (by omega : 52 < n) hca3 rfl 16 (by decide) (hts _ wm_284) (fun _ h9 => h9) rfl (by decide +kernel) (by cases (f.2.2.2 || decide (y = 32)) <;> rfl) (by cases (f.2.2.2 || decide (y = 32)) <;> rfl) (Nat.le_of_ble_eq_true rfl) dX4_flag_110 (fun H locs hP hS => ?_)
  obtain ⟨a4, ea4⟩ : ∃ z : Nat → va_E, z = va_up a3 52 (.inr (4, [.ref (ad 53), .ref (ad 54), .ref (ad 55), .ref (ad 56), .int x0, .int x1, .int x2, .int x3, .int x4, .ref (ad 57), .int x5, .int x6, .int x7, .int (bI (f.1 || decide (y = 45))), .int (bI (f.2.1 || decide (y = 48))), .int (bI (f.2.2.1 || decide (y = 43))), .int (bI (f.2.2.2 || decide (y = 32))), .ref (ad 58), .int x12, .long v])) := ⟨_, rfl⟩
  have hP : va_P D vwCl (mw n ad a4) H := by rw [ea4]; exact hP
  have hsa4 : ∀ j, j ≠ 52 → a4 j = a3 j := fun j h => by rw [ea4]; exact va_up_ne _ _ h
  have hca4 : a4 52 = .inr (4, [.ref (ad 53), .ref (ad 54), .ref (ad 55), .ref (ad 56), .int x0, .int x1, .int x2, .int x3, .int x4, .ref (ad 57), .int x5, .int x6, .int x7, .int (bI (f.1 || decide (y = 45))), .int (bI (f.2.1 || decide (y = 48))), .int (bI (f.2.2.1 || decide (y = 43))), .int (bI (f.2.2.2 || decide (y = 32))), .ref (ad 58), .int x12, .long v]) := by rw [ea4]; exact va_up_self _ _ _
  suffices hj142 : W pg9 l ev9 (headSpec wsX4_flag ({ frames := 0, cells := 0, slots := 0, locals := 0 })).room s m ([.ref (ad 52)] : List Value).toArray below meth cd H locs 0 0 (MQ below (va_Qi (fun r c' => ((i < t.length ∧ ∃ f', pFlag (t.getD i 0) f = some f' ∧ r = 1 ∧ c' 52 = rO ad x0 x1 x2 x3 x4 x5 x6 x7 (bI f'.1) (bI f'.2.1) (bI f'.2.2.1) (bI f'.2.2.2) x12 v) ∨ (¬ (i < t.length ∧ ∃ f', pFlag (t.getD i 0) f = some f') ∧ r = 0 ∧ c' 52 = rO ad x0 x1 x2 x3 x4 x5 x6 x7 (bI f.1) (bI f.2.1) (bI f.2.2.1) (bI f.2.2.2) x12 v)) ∧ ∀ j, j ≠ 52 → c' j = c j) (mW D n ad) (mA n ad s.heap.size)) ([.ref (ad 52)] : List Value).toArray s 0 0 (mA n ad s.heap.size)) (F0 m 142 ls [.int (bI (decide (y = 45 ∨ y = 48 ∨ y = 43 ∨ y = 32)))]) by
    refine lv_iload_n hx hb dX4_flag_113 rfl (lv_at hl 0 rfl) ?_
    refine lv_bipush (v := 45) hx hb dX4_flag_114 (by decide) ?_
    refine lv_icmp_eq (tgt := 137) hx hb dX4_flag_116 (by decide) (fun hc4 => ?_) (fun hc4 => ?_)
    · skip
      refine lv_iconst (v := 1) hx hb dX4_flag_137 (by decide) ?_
      refine lv_goto (tgt := 142) hx hb dX4_flag_138 (by decide) ?_
      refine mx_i (bI (decide (y = 45 ∨ y = 48 ∨ y = 43 ∨ y = 32))) (by rw [decide_eq_true (Or.inl hc4)]; rfl) ?_
      exact hj142
    · skip
      refine lv_iload_n hx hb dX4_flag_119 rfl (lv_at hl 0 rfl) ?_
      refine lv_bipush (v := 48) hx hb dX4_flag_120 (by decide) ?_
      refine lv_icmp_eq (tgt := 137) hx hb dX4_flag_122 (by decide) (fun hc5 => ?_) (fun hc5 => ?_)
      · skip
        refine lv_iconst (v := 1) hx hb dX4_flag_137 (by decide) ?_
        refine lv_goto (tgt := 142) hx hb dX4_flag_138 (by decide) ?_
        refine mx_i (bI (decide (y = 45 ∨ y = 48 ∨ y = 43 ∨ y = 32))) (by rw [decide_eq_true (Or.inr (Or.inl hc5))]; rfl) ?_
        exact hj142
      · skip
        refine lv_iload_n hx hb dX4_flag_125 rfl (lv_at hl 0 rfl) ?_
        refine lv_bipush (v := 43) hx hb dX4_flag_126 (by decide) ?_
        refine lv_icmp_eq (tgt := 137) hx hb dX4_flag_128 (by decide) (fun hc6 => ?_) (fun hc6 => ?_)
        · skip
          refine lv_iconst (v := 1) hx hb dX4_flag_137 (by decide) ?_
          refine lv_goto (tgt := 142) hx hb dX4_flag_138 (by decide) ?_
          refine mx_i (bI (decide (y = 45 ∨ y = 48 ∨ y = 43 ∨ y = 32))) (by rw [decide_eq_true (Or.inr (Or.inr (Or.inl hc6)))]; rfl) ?_
          exact hj142
        · skip
          refine lv_iload_n hx hb dX4_flag_131 rfl (lv_at hl 0 rfl) ?_
          refine lv_bipush (v := 32) hx hb dX4_flag_132 (by decide) ?_
          refine lv_icmp_ne (tgt := 141) hx hb dX4_flag_134 (by decide) (fun hc7 => ?_) (fun hc7 => ?_)
          · skip
            refine lv_iconst (v := 0) hx hb dX4_flag_141 (by decide) ?_
            refine mx_i (bI (decide (y = 45 ∨ y = 48 ∨ y = 43 ∨ y = 32))) (by rw [decide_eq_false (fun h => h.elim hc4 (fun h => h.elim hc5 (fun h => h.elim hc6 hc7)))]; rfl) ?_
            exact hj142
          · skip
            refine lv_iconst (v := 1) hx hb dX4_flag_137 (by decide) ?_
            refine lv_goto (tgt := 142) hx hb dX4_flag_138 (by decide) ?_
            refine mx_i (bI (decide (y = 45 ∨ y = 48 ∨ y = 43 ∨ y = 32))) (by rw [decide_eq_true (Or.inr (Or.inr (Or.inr hc7)))]; rfl) ?_
            exact hj142
  have hfin := fl_fin (ad := ad) (x0 := x0) (x1 := x1) (x2 := x2) (x3 := x3) (x4 := x4) (x5 := x5) (x6 := x6) (x7 := x7) (x12 := x12) (v := v) (f := f) (e := a4 52) hby hi hy hca4
  have hfr : ∀ j, j ≠ 52 → a4 j = c j := fun j h => (hsa4 j h).trans ((hsa3 j h).trans ((hsa2 j h).trans (hsa1 j h)))
  generalize decide (y = 45 ∨ y = 48 ∨ y = 43 ∨ y = 32) = gg at hfin ⊢
  cases gg
  · skip
    exact mx_zret hx hb hr hlocks rfl hP hS (⟨hfin, hfr⟩) dX4_flag_142
  · skip
    exact mx_zret hx hb hr hlocks rfl hP hS (⟨hfin, hfr⟩) dX4_flag_142
set_option maxHeartbeats 4000000 in
set_option maxRecDepth 100000 in
/-- readPlace() -/
theorem c_readPlace (l : Launch) (D : va_G) (ca : Nat → ClassId) (n : Nat) (ad : Nat → Nat) (c : Nat → va_E) {x0 x1 x2 x3 x4 x6 x7 x12 : Int32} {f : fl4} {v : Int64} (hn : 59 ≤ n) {t : List Nat} {i0 : Nat} (hO : c 52 = rO ad x0 x1 x2 x3 x4 (nI i0) x6 x7 (bI f.1) (bI f.2.1) (bI f.2.2.1) (bI f.2.2.2) x12 v) (hB : tB ca c 54 400 0 t) (hx1 : x1 = nI t.length) (hi0 : i0 ≤ t.length) : mInt l yX4_readPlace wsX4_readPlace ({ frames := 1, cells := 0, slots := 0, locals := 21 }) [.ref (ad 52)] D (tTY ca) n ad c (fun r c' => ∃ i kd, i ≤ t.length ∧ t.drop i = (pPlace (t.drop i0)).2.2 ∧ c' 52 = rO ad x0 x1 x2 x3 x4 (nI (i + 1)) (nI (pPlace (t.drop i0)).2.1) kd (bI ((pPlace (t.drop i0)).1).1) (bI ((pPlace (t.drop i0)).1).2.1) (bI ((pPlace (t.drop i0)).1).2.2.1) (bI ((pPlace (t.drop i0)).1).2.2.2) x12 v ∧ (∀ j, j ≠ 52 → c' j = c j) ∧ (i < t.length → kd = sB (t.getD i 0)) ∧ ((i < t.length ∧ isKd (t.getD i 0) = true ∧ r = 1) ∨ (¬ (i < t.length ∧ isKd (t.getD i 0) = true) ∧ r = 0))) := by
  intro sz
  refine Met.ofW (cc := cX4_readPlace) (maxL := 1) (ret := (some .boolean)) (by decide) rfl ?_
  intro pg9 ev9 s m args below meth cd s₁ B hml hv
  obtain ⟨rfl, hsz, hP, hK, hD0, hN⟩ := hv
  have hx := B.exec
  have hb := B.bytes
  have hr := B.returns
  have hts := fun (w : Cond) (h : w ∈ WSa) => atoms_spec (ws := wsX4_readPlace) B.pre w (List.mem_cons_of_mem _ h)
  have hown : s.vm.findClass RX4 = some m.cls := findClass_of_methodNamed B.named
  have hlocks := B.notSynchronized
  subst hsz
  have hD : ∀ c, va_D (fun _ => True) (mw n ad c) := fun c' => mw_D hD0 c'
  have hS : va_S (mA n ad s.heap.size) s.heap s.heap [] := va_S.rf
  have hl := lv_entry ([.ref (ad 52)]) (n := 1) (Nat.le_of_ble_eq_true rfl)
  rw [lg_entry_eq]
  generalize (lg_sl ([.ref (ad 52)]) ++ List.replicate (1 - (lg_sl ([.ref (ad 52)])).length) Slot.unset).toArray = ls at hl ⊢
  have hl : lv_has ls 1 [(0, .ref (ad 52))] := hl
  obtain ⟨hle, hcp, hby, g, h54, hg⟩ := id hB
  have loop2 : ∀ (q1 : Nat) (i : Nat) (w1 : Nat) (c2 : Nat → va_E) (H : Heap) (locs : List Loc) (ls : Array Slot), (i ≤ t.length) → (t.length < i + q1) → (w1 ≤ 100000) → ((pPlace (t.drop i0)).2 = pWid (t.drop i) w1) → (c2 52 = rO ad x0 x1 x2 x3 x4 (nI i) (nI w1) x7 (bI ((pFlags (t.drop i0) (false, false, false, false)).1).1) (bI ((pFlags (t.drop i0) (false, false, false, false)).1).2.1) (bI ((pFlags (t.drop i0) (false, false, false, false)).1).2.2.1) (bI ((pFlags (t.drop i0) (false, false, false, false)).1).2.2.2) x12 v) → (∀ j, j ≠ 52 → c2 j = c j) → va_P D vwCl (mw n ad c2) H → va_S (mA n ad s.heap.size) s.heap H locs → lv_has ls 1 [(0, .ref (ad 52))] → W pg9 l ev9 (headSpec wsX4_readPlace ({ frames := 1, cells := 0, slots := 0, locals := 21 })).room s m ([.ref (ad 52)] : List Value).toArray below meth cd H locs 0 0 (MQ below (va_Qi (fun r c' => ∃ i kd, i ≤ t.length ∧ t.drop i = (pPlace (t.drop i0)).2.2 ∧ c' 52 = rO ad x0 x1 x2 x3 x4 (nI (i + 1)) (nI (pPlace (t.drop i0)).2.1) kd (bI ((pPlace (t.drop i0)).1).1) (bI ((pPlace (t.drop i0)).1).2.1) (bI ((pPlace (t.drop i0)).1).2.2.1) (bI ((pPlace (t.drop i0)).1).2.2.2) x12 v ∧ (∀ j, j ≠ 52 → c' j = c j) ∧ (i < t.length → kd = sB (t.getD i 0)) ∧ ((i < t.length ∧ isKd (t.getD i 0) = true ∧ r = 1) ∨ (¬ (i < t.length ∧ isKd (t.getD i 0) = true) ∧ r = 0))) (mW D n ad) (mA n ad s.heap.size)) ([.ref (ad 52)] : List Value).toArray s 0 0 (mA n ad s.heap.size)) (F0 m 45 ls []) := by
    intro q1
    induction q1 with
    | zero => intro i w1 c2 H locs ls hi hq hw1 heq hO2 hs2 hP hS hl; omega
    | succ q1 ih =>
      intro i w1 c2 H locs ls hi hq hw1 heq hO2 hs2 hP hS hl
      have h54 := (hs2 54 (by omega)).trans h54
      refine lv_aload_n hx hb dX4_readPlace_45 rfl (lv_at hl 0 rfl) ?_
      refine mx_get (ci := 4) (v := .int (nI i)) (C := RX4) (T := TX4) (N := 20) hx hb hts inX4 hown hK hP (by omega : 52 < n) hO2 rfl 10 (by decide) (hts _ wm_278) (fun _ h9 => h9) rfl dX4_readPlace_46 ?_
      refine lv_aload_n hx hb dX4_readPlace_49 rfl (lv_at hl 0 rfl) ?_
      refine mx_get (ci := 4) (v := .int x1) (C := RX4) (T := TX4) (N := 20) hx hb hts inX4 hown hK hP (by omega : 52 < n) hO2 rfl 5 (by decide) (hts _ wm_273) (fun _ h9 => h9) rfl dX4_readPlace_50 ?_
      refine lv_icmp_ge (tgt := 143) hx hb dX4_readPlace_53 (by decide) (fun hc1 => ?_) (fun hc1 => ?_)
      · skip
        have hge : t.length ≤ i := by have := (nI_leI (a := t.length) (b := i) (by omega) (by omega)).mp (by rw [← hx1]; exact hc1); omega
        refine lv_aload_n hx hb dX4_readPlace_143 rfl (lv_at hl 0 rfl) ?_
        have hdr : t.drop i = (pPlace (t.drop i0)).2.2 ∧ w1 = (pPlace (t.drop i0)).2.1 := by
          have h9 : (pPlace (t.drop i0)).2 = pWid (t.drop i) w1 := heq
          rw [h9, show pWid (t.drop i) w1 = (w1, t.drop i) from by rw [dr_nil hge]; rfl]
          exact ⟨rfl, rfl⟩
        suffices hj168 : W pg9 l ev9 (headSpec wsX4_readPlace ({ frames := 1, cells := 0, slots := 0, locals := 21 })).room s m ([.ref (ad 52)] : List Value).toArray below meth cd H locs 0 0 (MQ below (va_Qi (fun r c' => ∃ i kd, i ≤ t.length ∧ t.drop i = (pPlace (t.drop i0)).2.2 ∧ c' 52 = rO ad x0 x1 x2 x3 x4 (nI (i + 1)) (nI (pPlace (t.drop i0)).2.1) kd (bI ((pPlace (t.drop i0)).1).1) (bI ((pPlace (t.drop i0)).1).2.1) (bI ((pPlace (t.drop i0)).1).2.2.1) (bI ((pPlace (t.drop i0)).1).2.2.2) x12 v ∧ (∀ j, j ≠ 52 → c' j = c j) ∧ (i < t.length → kd = sB (t.getD i 0)) ∧ ((i < t.length ∧ isKd (t.getD i 0) = true ∧ r = 1) ∨ (¬ (i < t.length ∧ isKd (t.getD i 0) = true) ∧ r = 0))) (mW D n ad) (mA n ad s.heap.size)) ([.ref (ad 52)] : List Value).toArray s 0 0 (mA n ad s.heap.size)) (F0 m 168 ls [.int (tAz t i), .ref (ad 52)]) by
          refine lv_aload_n hx hb dX4_readPlace_144 rfl (lv_at hl 0 rfl) ?_
          refine mx_get (ci := 4) (v := .int (nI i)) (C := RX4) (T := TX4) (N := 20) hx hb hts inX4 hown hK hP (by omega : 52 < n) hO2 rfl 10 (by decide) (hts _ wm_278) (fun _ h9 => h9) rfl dX4_readPlace_145 ?_
          refine lv_aload_n hx hb dX4_readPlace_148 rfl (lv_at hl 0 rfl) ?_
          refine mx_get (ci := 4) (v := .int x1) (C := RX4) (T := TX4) (N := 20) hx hb hts inX4 hown hK hP (by omega : 52 < n) hO2 rfl 5 (by decide) (hts _ wm_273) (fun _ h9 => h9) rfl dX4_readPlace_149 ?_
          refine lv_icmp_ge (tgt := 167) hx hb dX4_readPlace_152 (by decide) (fun hk1 => ?_) (fun hk1 => ?_)
          · skip
            refine lv_iconst (v := 0) hx hb dX4_readPlace_167 (by decide) ?_
            refine mx_i (tAz t i) (by rw [show tAz t i = 0 from if_neg (by have := (nI_leI (a := t.length) (b := i) (by omega) (by omega)).mp (by rw [← hx1]; exact hk1); omega)]) ?_
            exact hj168
          · skip
            have hlk : i < t.length := by have := (not_congr (nI_leI (a := t.length) (b := i) (by omega) (by omega))).mp (by rw [← hx1]; exact hk1); omega
            refine lv_aload_n hx hb dX4_readPlace_155 rfl (lv_at hl 0 rfl) ?_
            refine mx_get (ci := 4) (v := .ref (ad 54)) (C := RX4) (T := TX4) (N := 20) hx hb hts inX4 hown hK hP (by omega : 52 < n) hO2 rfl 1 (by decide) (hts _ wm_269) (fun _ h9 => h9) rfl dX4_readPlace_156 ?_
            refine lv_aload_n hx hb dX4_readPlace_159 rfl (lv_at hl 0 rfl) ?_
            refine mx_get (ci := 4) (v := .int (nI i)) (C := RX4) (T := TX4) (N := 20) hx hb hts inX4 hown hK hP (by omega : 52 < n) hO2 rfl 10 (by decide) (hts _ wm_278) (fun _ h9 => h9) rfl dX4_readPlace_160 ?_
            refine mx_bald hx hb hK hP (by omega : 54 < n) 2 h54 rfl (vp_in_nI (by omega) (by omega)) dX4_readPlace_163 ?_
            refine mx_i (tAz t i) (by rw [nI_clamp (by omega), show tAz t i = sB (t.getD i 0) from if_pos hlk]; have h9 := hg i hlk; rw [Nat.zero_add] at h9; exact h9) ?_
            refine lv_goto (tgt := 168) hx hb dX4_readPlace_164 (by decide) ?_
            refine mx_i (tAz t i) (rfl) ?_
            exact hj168
        refine mx_put (ci := 4) (v := .int (tAz t i)) (ty := .int) (C := RX4) (T := TX4) (N := 20) hx hb hts inX4 tyX4 tyX4_ok nmX4 hown hK hP hD hS (by omega : 52 < n) hO2 rfl 12 (by decide) (hts _ wm_280) (fun _ h9 => h9) rfl (by decide +kernel) rfl rfl (Nat.le_of_ble_eq_true rfl) dX4_readPlace_168 (fun H locs hP hS => ?_)
        obtain ⟨b1, eb1⟩ : ∃ z : Nat → va_E, z = va_up c2 52 (.inr (4, [.ref (ad 53), .ref (ad 54), .ref (ad 55), .ref (ad 56), .int x0, .int x1, .int x2, .int x3, .int x4, .ref (ad 57), .int (nI i), .int (nI w1), .int (tAz t i), .int (bI ((pFlags (t.drop i0) (false, false, false, false)).1).1), .int (bI ((pFlags (t.drop i0) (false, false, false, false)).1).2.1), .int (bI ((pFlags (t.drop i0) (false, false, false, false)).1).2.2.1), .int (bI ((pFlags (t.drop i0) (false, false, false, false)).1).2.2.2), .ref (ad 58), .int x12, .long v])) := ⟨_, rfl⟩
        have hP : va_P D vwCl (mw n ad b1) H := by rw [eb1]; exact hP
        have hsb1 : ∀ j, j ≠ 52 → b1 j = c2 j := fun j h => by rw [eb1]; exact va_up_ne _ _ h
        have hcb1 : b1 52 = .inr (4, [.ref (ad 53), .ref (ad 54), .ref (ad 55), .ref (ad 56), .int x0, .int x1, .int x2, .int x3, .int x4, .ref (ad 57), .int (nI i), .int (nI w1), .int (tAz t i), .int (bI ((pFlags (t.drop i0) (false, false, false, false)).1).1), .int (bI ((pFlags (t.drop i0) (false, false, false, false)).1).2.1), .int (bI ((pFlags (t.drop i0) (false, false, false, false)).1).2.2.1), .int (bI ((pFlags (t.drop i0) (false, false, false, false)).1).2.2.2), .ref (ad 58), .int x12, .long v]) := by rw [eb1]; exact va_up_self _ _ _
        refine lv_aload_n hx hb dX4_readPlace_171 rfl (lv_at hl 0 rfl) ?_
        refine lv_dup hx hb dX4_readPlace_172 rfl ?_
        refine mx_get (ci := 4) (v := .int (nI i)) (C := RX4) (T := TX4) (N := 20) hx hb hts inX4 hown hK hP (by omega : 52 < n) hcb1 rfl 10 (by decide) (hts _ wm_278) (fun _ h9 => h9) rfl dX4_readPlace_173 ?_
        refine lv_iconst (v := 1) hx hb dX4_readPlace_176 (by decide) ?_
        refine lv_iadd hx hb dX4_readPlace_177 ?_
        refine mx_i (nI (i + 1)) (nI_1 i) ?_
        refine mx_put (ci := 4) (v := .int (nI (i + 1))) (ty := .int) (C := RX4) (T := TX4) (N := 20) hx hb hts inX4 tyX4 tyX4_ok nmX4 hown hK hP hD hS (by omega : 52 < n) hcb1 rfl 10 (by decide) (hts _ wm_278) (fun _ h9 => h9) rfl (by decide +kernel) rfl rfl (Nat.le_of_ble_eq_true rfl) dX4_readPlace_178 (fun H locs hP hS => ?_)
        obtain ⟨b2, eb2⟩ : ∃ z : Nat → va_E, z = va_up b1 52 (.inr (4, [.ref (ad 53), .ref (ad 54), .ref (ad 55), .ref (ad 56), .int x0, .int x1, .int x2, .int x3, .int x4, .ref (ad 57), .int (nI (i + 1)), .int (nI w1), .int (tAz t i), .int (bI ((pFlags (t.drop i0) (false, false, false, false)).1).1), .int (bI ((pFlags (t.drop i0) (false, false, false, false)).1).2.1), .int (bI ((pFlags (t.drop i0) (false, false, false, false)).1).2.2.1), .int (bI ((pFlags (t.drop i0) (false, false, false, false)).1).2.2.2), .ref (ad 58), .int x12, .long v])) := ⟨_, rfl⟩
        have hP : va_P D vwCl (mw n ad b2) H := by rw [eb2]; exact hP
        have hsb2 : ∀ j, j ≠ 52 → b2 j = b1 j := fun j h => by rw [eb2]; exact va_up_ne _ _ h
        have hcb2 : b2 52 = .inr (4, [.ref (ad 53), .ref (ad 54), .ref (ad 55), .ref (ad 56), .int x0, .int x1, .int x2, .int x3, .int x4, .ref (ad 57), .int (nI (i + 1)), .int (nI w1), .int (tAz t i), .int (bI ((pFlags (t.drop i0) (false, false, false, false)).1).1), .int (bI ((pFlags (t.drop i0) (false, false, false, false)).1).2.1), .int (bI ((pFlags (t.drop i0) (false, false, false, false)).1).2.2.1), .int (bI ((pFlags (t.drop i0) (false, false, false, false)).1).2.2.2), .ref (ad 58), .int x12, .long v]) := by rw [eb2]; exact va_up_self _ _ _
        suffices hj249 : W pg9 l ev9 (headSpec wsX4_readPlace ({ frames := 1, cells := 0, slots := 0, locals := 21 })).room s m ([.ref (ad 52)] : List Value).toArray below meth cd H locs 0 0 (MQ below (va_Qi (fun r c' => ∃ i kd, i ≤ t.length ∧ t.drop i = (pPlace (t.drop i0)).2.2 ∧ c' 52 = rO ad x0 x1 x2 x3 x4 (nI (i + 1)) (nI (pPlace (t.drop i0)).2.1) kd (bI ((pPlace (t.drop i0)).1).1) (bI ((pPlace (t.drop i0)).1).2.1) (bI ((pPlace (t.drop i0)).1).2.2.1) (bI ((pPlace (t.drop i0)).1).2.2.2) x12 v ∧ (∀ j, j ≠ 52 → c' j = c j) ∧ (i < t.length → kd = sB (t.getD i 0)) ∧ ((i < t.length ∧ isKd (t.getD i 0) = true ∧ r = 1) ∨ (¬ (i < t.length ∧ isKd (t.getD i 0) = true) ∧ r = 0))) (mW D n ad) (mA n ad s.heap.size)) ([.ref (ad 52)] : List Value).toArray s 0 0 (mA n ad s.heap.size)) (F0 m 249 ls [.int (bI (kdB (tAz t i)))]) by
          refine lv_aload_n hx hb dX4_readPlace_181 rfl (lv_at hl 0 rfl) ?_
          refine mx_get (ci := 4) (v := .int (tAz t i)) (C := RX4) (T := TX4) (N := 20) hx hb hts inX4 hown hK hP (by omega : 52 < n) hcb2 rfl 12 (by decide) (hts _ wm_280) (fun _ h9 => h9) rfl dX4_readPlace_182 ?_
          refine lv_bipush (v := 100) hx hb dX4_readPlace_185 (by decide) ?_
          refine lv_icmp_eq (tgt := 244) hx hb dX4_readPlace_187 (by decide) (fun hq0 => ?_) (fun hq0 => ?_)
          · skip
            refine lv_iconst (v := 1) hx hb dX4_readPlace_244 (by decide) ?_
            refine lv_goto (tgt := 249) hx hb dX4_readPlace_245 (by decide) ?_
            refine mx_i (bI (kdB (tAz t i))) (by rw [show kdB (tAz t i) = true from decide_eq_true (Or.inl hq0)]; rfl) ?_
            exact hj249
          · skip
            refine lv_aload_n hx hb dX4_readPlace_190 rfl (lv_at hl 0 rfl) ?_
            refine mx_get (ci := 4) (v := .int (tAz t i)) (C := RX4) (T := TX4) (N := 20) hx hb hts inX4 hown hK hP (by omega : 52 < n) hcb2 rfl 12 (by decide) (hts _ wm_280) (fun _ h9 => h9) rfl dX4_readPlace_191 ?_
            refine lv_bipush (v := 120) hx hb dX4_readPlace_194 (by decide) ?_
            refine lv_icmp_eq (tgt := 244) hx hb dX4_readPlace_196 (by decide) (fun hq1 => ?_) (fun hq1 => ?_)
            · skip
              refine lv_iconst (v := 1) hx hb dX4_readPlace_244 (by decide) ?_
              refine lv_goto (tgt := 249) hx hb dX4_readPlace_245 (by decide) ?_
              refine mx_i (bI (kdB (tAz t i))) (by rw [show kdB (tAz t i) = true from decide_eq_true (Or.inr (Or.inl hq1))]; rfl) ?_
              exact hj249
            · skip
              refine lv_aload_n hx hb dX4_readPlace_199 rfl (lv_at hl 0 rfl) ?_
              refine mx_get (ci := 4) (v := .int (tAz t i)) (C := RX4) (T := TX4) (N := 20) hx hb hts inX4 hown hK hP (by omega : 52 < n) hcb2 rfl 12 (by decide) (hts _ wm_280) (fun _ h9 => h9) rfl dX4_readPlace_200 ?_
              refine lv_bipush (v := 88) hx hb dX4_readPlace_203 (by decide) ?_
              refine lv_icmp_eq (tgt := 244) hx hb dX4_readPlace_205 (by decide) (fun hq2 => ?_) (fun hq2 => ?_)
              · skip
                refine lv_iconst (v := 1) hx hb dX4_readPlace_244 (by decide) ?_
                refine lv_goto (tgt := 249) hx hb dX4_readPlace_245 (by decide) ?_
                refine mx_i (bI (kdB (tAz t i))) (by rw [show kdB (tAz t i) = true from decide_eq_true (Or.inr (Or.inr (Or.inl hq2)))]; rfl) ?_
                exact hj249
              · skip
                refine lv_aload_n hx hb dX4_readPlace_208 rfl (lv_at hl 0 rfl) ?_
                refine mx_get (ci := 4) (v := .int (tAz t i)) (C := RX4) (T := TX4) (N := 20) hx hb hts inX4 hown hK hP (by omega : 52 < n) hcb2 rfl 12 (by decide) (hts _ wm_280) (fun _ h9 => h9) rfl dX4_readPlace_209 ?_
                refine lv_bipush (v := 111) hx hb dX4_readPlace_212 (by decide) ?_
                refine lv_icmp_eq (tgt := 244) hx hb dX4_readPlace_214 (by decide) (fun hq3 => ?_) (fun hq3 => ?_)
                · skip
                  refine lv_iconst (v := 1) hx hb dX4_readPlace_244 (by decide) ?_
                  refine lv_goto (tgt := 249) hx hb dX4_readPlace_245 (by decide) ?_
                  refine mx_i (bI (kdB (tAz t i))) (by rw [show kdB (tAz t i) = true from decide_eq_true (Or.inr (Or.inr (Or.inr (Or.inl hq3))))]; rfl) ?_
                  exact hj249
                · skip
                  refine lv_aload_n hx hb dX4_readPlace_217 rfl (lv_at hl 0 rfl) ?_
                  refine mx_get (ci := 4) (v := .int (tAz t i)) (C := RX4) (T := TX4) (N := 20) hx hb hts inX4 hown hK hP (by omega : 52 < n) hcb2 rfl 12 (by decide) (hts _ wm_280) (fun _ h9 => h9) rfl dX4_readPlace_218 ?_
                  refine lv_bipush (v := 99) hx hb dX4_readPlace_221 (by decide) ?_
                  refine lv_icmp_eq (tgt := 244) hx hb dX4_readPlace_223 (by decide) (fun hq4 => ?_) (fun hq4 => ?_)
                  · skip
                    refine lv_iconst (v := 1) hx hb dX4_readPlace_244 (by decide) ?_
                    refine lv_goto (tgt := 249) hx hb dX4_readPlace_245 (by decide) ?_
                    refine mx_i (bI (kdB (tAz t i))) (by rw [show kdB (tAz t i) = true from decide_eq_true (Or.inr (Or.inr (Or.inr (Or.inr (Or.inl hq4)))))]; rfl) ?_
                    exact hj249
                  · skip
                    refine lv_aload_n hx hb dX4_readPlace_226 rfl (lv_at hl 0 rfl) ?_
                    refine mx_get (ci := 4) (v := .int (tAz t i)) (C := RX4) (T := TX4) (N := 20) hx hb hts inX4 hown hK hP (by omega : 52 < n) hcb2 rfl 12 (by decide) (hts _ wm_280) (fun _ h9 => h9) rfl dX4_readPlace_227 ?_
                    refine lv_bipush (v := 115) hx hb dX4_readPlace_230 (by decide) ?_
                    refine lv_icmp_eq (tgt := 244) hx hb dX4_readPlace_232 (by decide) (fun hq5 => ?_) (fun hq5 => ?_)
                    · skip
                      refine lv_iconst (v := 1) hx hb dX4_readPlace_244 (by decide) ?_
                      refine lv_goto (tgt := 249) hx hb dX4_readPlace_245 (by decide) ?_
                      refine mx_i (bI (kdB (tAz t i))) (by rw [show kdB (tAz t i) = true from decide_eq_true (Or.inr (Or.inr (Or.inr (Or.inr (Or.inr (Or.inl hq5))))))]; rfl) ?_
                      exact hj249
                    · skip
                      refine lv_aload_n hx hb dX4_readPlace_235 rfl (lv_at hl 0 rfl) ?_
                      refine mx_get (ci := 4) (v := .int (tAz t i)) (C := RX4) (T := TX4) (N := 20) hx hb hts inX4 hown hK hP (by omega : 52 < n) hcb2 rfl 12 (by decide) (hts _ wm_280) (fun _ h9 => h9) rfl dX4_readPlace_236 ?_
                      refine lv_bipush (v := 37) hx hb dX4_readPlace_239 (by decide) ?_
                      refine lv_icmp_ne (tgt := 248) hx hb dX4_readPlace_241 (by decide) (fun hq6 => ?_) (fun hq6 => ?_)
                      · skip
                        refine lv_iconst (v := 0) hx hb dX4_readPlace_248 (by decide) ?_
                        refine mx_i (bI (kdB (tAz t i))) (by rw [show kdB (tAz t i) = false from decide_eq_false (fun h => h.elim hq0 (fun h => h.elim hq1 (fun h => h.elim hq2 (fun h => h.elim hq3 (fun h => h.elim hq4 (fun h => h.elim hq5 (fun h => hq6 h)))))))]; rfl) ?_
                        exact hj249
                      · skip
                        refine lv_iconst (v := 1) hx hb dX4_readPlace_244 (by decide) ?_
                        refine lv_goto (tgt := 249) hx hb dX4_readPlace_245 (by decide) ?_
                        refine mx_i (bI (kdB (tAz t i))) (by rw [show kdB (tAz t i) = true from decide_eq_true (Or.inr (Or.inr (Or.inr (Or.inr (Or.inr (Or.inr (hq6)))))))]; rfl) ?_
                        exact hj249
        have hkk := kz_cases (i := i) hby
        have hq2 : ∀ r : Int32, r = bI (kdB (tAz t i)) → ∃ i kd, i ≤ t.length ∧ t.drop i = (pPlace (t.drop i0)).2.2 ∧ b2 52 = rO ad x0 x1 x2 x3 x4 (nI (i + 1)) (nI (pPlace (t.drop i0)).2.1) kd (bI ((pPlace (t.drop i0)).1).1) (bI ((pPlace (t.drop i0)).1).2.1) (bI ((pPlace (t.drop i0)).1).2.2.1) (bI ((pPlace (t.drop i0)).1).2.2.2) x12 v ∧ (∀ j, j ≠ 52 → b2 j = c j) ∧ (i < t.length → kd = sB (t.getD i 0)) ∧ ((i < t.length ∧ isKd (t.getD i 0) = true ∧ r = 1) ∨ (¬ (i < t.length ∧ isKd (t.getD i 0) = true) ∧ r = 0)) := by
          intro r hr9
          refine ⟨i, tAz t i, hi, hdr.1, by rw [← hdr.2]; exact hcb2, fun j h => (hsb2 j h).trans ((hsb1 j h).trans (hs2 j h)), fun h => if_pos h, ?_⟩
          rw [hr9]
          cases hkv : kdB (tAz t i)
          · exact Or.inr ⟨fun h => absurd (hkk.mpr h) (by rw [hkv]; decide), rfl⟩
          · exact Or.inl ⟨(hkk.mp hkv).1, (hkk.mp hkv).2, rfl⟩
        generalize kdB (tAz t i) = gg at hq2 ⊢
        cases gg
        · skip
          exact mx_zret hx hb hr hlocks rfl hP hS (hq2 _ rfl) dX4_readPlace_249
        · skip
          exact mx_zret hx hb hr hlocks rfl hP hS (hq2 _ rfl) dX4_readPlace_249
      · skip
        have hlt : i < t.length := by have := (not_congr (nI_leI (a := t.length) (b := i) (by omega) (by omega))).mp (by rw [← hx1]; exact hc1); omega
        have hb8 : t.getD i 0 < 256 := hby _ (gD_mem hlt)
        have hgi : g i = sB (t.getD i 0) := by have h9 := hg i hlt; rw [Nat.zero_add] at h9; exact h9
        refine lv_aload_n hx hb dX4_readPlace_56 rfl (lv_at hl 0 rfl) ?_
        refine mx_get (ci := 4) (v := .ref (ad 54)) (C := RX4) (T := TX4) (N := 20) hx hb hts inX4 hown hK hP (by omega : 52 < n) hO2 rfl 1 (by decide) (hts _ wm_269) (fun _ h9 => h9) rfl dX4_readPlace_57 ?_
        refine lv_aload_n hx hb dX4_readPlace_60 rfl (lv_at hl 0 rfl) ?_
        refine mx_get (ci := 4) (v := .int (nI i)) (C := RX4) (T := TX4) (N := 20) hx hb hts inX4 hown hK hP (by omega : 52 < n) hO2 rfl 10 (by decide) (hts _ wm_278) (fun _ h9 => h9) rfl dX4_readPlace_61 ?_
        refine mx_bald hx hb hK hP (by omega : 54 < n) 2 h54 rfl (vp_in_nI (by omega) (by omega)) dX4_readPlace_64 ?_
        refine mx_i (sB (t.getD i 0)) (by rw [nI_clamp (by omega)]; exact hgi) ?_
        refine lv_bipush (v := 48) hx hb dX4_readPlace_65 (by decide) ?_
        refine lv_icmp_lt (tgt := 143) hx hb dX4_readPlace_67 (by decide) (fun hc2 => ?_) (fun hc2 => ?_)
        · skip
          have hnd : isDg (t.getD i 0) = false := sd_f hb8 (fun h => absurd h.1 (Int32.not_le.mpr hc2))
          refine lv_aload_n hx hb dX4_readPlace_143 rfl (lv_at hl 0 rfl) ?_
          have hdr : t.drop i = (pPlace (t.drop i0)).2.2 ∧ w1 = (pPlace (t.drop i0)).2.1 := by
            have h9 : (pPlace (t.drop i0)).2 = pWid (t.drop i) w1 := heq
            rw [h9, show pWid (t.drop i) w1 = (w1, t.drop i) from by rw [dr_cons hlt]; exact if_neg (by rw [hnd]; decide)]
            exact ⟨rfl, rfl⟩
          suffices hj168 : W pg9 l ev9 (headSpec wsX4_readPlace ({ frames := 1, cells := 0, slots := 0, locals := 21 })).room s m ([.ref (ad 52)] : List Value).toArray below meth cd H locs 0 0 (MQ below (va_Qi (fun r c' => ∃ i kd, i ≤ t.length ∧ t.drop i = (pPlace (t.drop i0)).2.2 ∧ c' 52 = rO ad x0 x1 x2 x3 x4 (nI (i + 1)) (nI (pPlace (t.drop i0)).2.1) kd (bI ((pPlace (t.drop i0)).1).1) (bI ((pPlace (t.drop i0)).1).2.1) (bI ((pPlace (t.drop i0)).1).2.2.1) (bI ((pPlace (t.drop i0)).1).2.2.2) x12 v ∧ (∀ j, j ≠ 52 → c' j = c j) ∧ (i < t.length → kd = sB (t.getD i 0)) ∧ ((i < t.length ∧ isKd (t.getD i 0) = true ∧ r = 1) ∨ (¬ (i < t.length ∧ isKd (t.getD i 0) = true) ∧ r = 0))) (mW D n ad) (mA n ad s.heap.size)) ([.ref (ad 52)] : List Value).toArray s 0 0 (mA n ad s.heap.size)) (F0 m 168 ls [.int (tAz t i), .ref (ad 52)]) by
            refine lv_aload_n hx hb dX4_readPlace_144 rfl (lv_at hl 0 rfl) ?_
            refine mx_get (ci := 4) (v := .int (nI i)) (C := RX4) (T := TX4) (N := 20) hx hb hts inX4 hown hK hP (by omega : 52 < n) hO2 rfl 10 (by decide) (hts _ wm_278) (fun _ h9 => h9) rfl dX4_readPlace_145 ?_
            refine lv_aload_n hx hb dX4_readPlace_148 rfl (lv_at hl 0 rfl) ?_
            refine mx_get (ci := 4) (v := .int x1) (C := RX4) (T := TX4) (N := 20) hx hb hts inX4 hown hK hP (by omega : 52 < n) hO2 rfl 5 (by decide) (hts _ wm_273) (fun _ h9 => h9) rfl dX4_readPlace_149 ?_
            refine lv_icmp_ge (tgt := 167) hx hb dX4_readPlace_152 (by decide) (fun hk1 => ?_) (fun hk1 => ?_)
            · skip
              refine lv_iconst (v := 0) hx hb dX4_readPlace_167 (by decide) ?_
              refine mx_i (tAz t i) (by rw [show tAz t i = 0 from if_neg (by have := (nI_leI (a := t.length) (b := i) (by omega) (by omega)).mp (by rw [← hx1]; exact hk1); omega)]) ?_
              exact hj168
            · skip
              have hlk : i < t.length := by have := (not_congr (nI_leI (a := t.length) (b := i) (by omega) (by omega))).mp (by rw [← hx1]; exact hk1); omega
              refine lv_aload_n hx hb dX4_readPlace_155 rfl (lv_at hl 0 rfl) ?_
              refine mx_get (ci := 4) (v := .ref (ad 54)) (C := RX4) (T := TX4) (N := 20) hx hb hts inX4 hown hK hP (by omega : 52 < n) hO2 rfl 1 (by decide) (hts _ wm_269) (fun _ h9 => h9) rfl dX4_readPlace_156 ?_
              refine lv_aload_n hx hb dX4_readPlace_159 rfl (lv_at hl 0 rfl) ?_
              refine mx_get (ci := 4) (v := .int (nI i)) (C := RX4) (T := TX4) (N := 20) hx hb hts inX4 hown hK hP (by omega : 52 < n) hO2 rfl 10 (by decide) (hts _ wm_278) (fun _ h9 => h9) rfl dX4_readPlace_160 ?_
              refine mx_bald hx hb hK hP (by omega : 54 < n) 2 h54 rfl (vp_in_nI (by omega) (by omega)) dX4_readPlace_163 ?_
              refine mx_i (tAz t i) (by rw [nI_clamp (by omega), show tAz t i = sB (t.getD i 0) from if_pos hlk]; have h9 := hg i hlk; rw [Nat.zero_add] at h9; exact h9) ?_
              refine lv_goto (tgt := 168) hx hb dX4_readPlace_164 (by decide) ?_
              refine mx_i (tAz t i) (rfl) ?_
              exact hj168
          refine mx_put (ci := 4) (v := .int (tAz t i)) (ty := .int) (C := RX4) (T := TX4) (N := 20) hx hb hts inX4 tyX4 tyX4_ok nmX4 hown hK hP hD hS (by omega : 52 < n) hO2 rfl 12 (by decide) (hts _ wm_280) (fun _ h9 => h9) rfl (by decide +kernel) rfl rfl (Nat.le_of_ble_eq_true rfl) dX4_readPlace_168 (fun H locs hP hS => ?_)
          obtain ⟨b1, eb1⟩ : ∃ z : Nat → va_E, z = va_up c2 52 (.inr (4, [.ref (ad 53), .ref (ad 54), .ref (ad 55), .ref (ad 56), .int x0, .int x1, .int x2, .int x3, .int x4, .ref (ad 57), .int (nI i), .int (nI w1), .int (tAz t i), .int (bI ((pFlags (t.drop i0) (false, false, false, false)).1).1), .int (bI ((pFlags (t.drop i0) (false, false, false, false)).1).2.1), .int (bI ((pFlags (t.drop i0) (false, false, false, false)).1).2.2.1), .int (bI ((pFlags (t.drop i0) (false, false, false, false)).1).2.2.2), .ref (ad 58), .int x12, .long v])) := ⟨_, rfl⟩
          have hP : va_P D vwCl (mw n ad b1) H := by rw [eb1]; exact hP
          have hsb1 : ∀ j, j ≠ 52 → b1 j = c2 j := fun j h => by rw [eb1]; exact va_up_ne _ _ h
          have hcb1 : b1 52 = .inr (4, [.ref (ad 53), .ref (ad 54), .ref (ad 55), .ref (ad 56), .int x0, .int x1, .int x2, .int x3, .int x4, .ref (ad 57), .int (nI i), .int (nI w1), .int (tAz t i), .int (bI ((pFlags (t.drop i0) (false, false, false, false)).1).1), .int (bI ((pFlags (t.drop i0) (false, false, false, false)).1).2.1), .int (bI ((pFlags (t.drop i0) (false, false, false, false)).1).2.2.1), .int (bI ((pFlags (t.drop i0) (false, false, false, false)).1).2.2.2), .ref (ad 58), .int x12, .long v]) := by rw [eb1]; exact va_up_self _ _ _
          refine lv_aload_n hx hb dX4_readPlace_171 rfl (lv_at hl 0 rfl) ?_
          refine lv_dup hx hb dX4_readPlace_172 rfl ?_
          refine mx_get (ci := 4) (v := .int (nI i)) (C := RX4) (T := TX4) (N := 20) hx hb hts inX4 hown hK hP (by omega : 52 < n) hcb1 rfl 10 (by decide) (hts _ wm_278) (fun _ h9 => h9) rfl dX4_readPlace_173 ?_
          refine lv_iconst (v := 1) hx hb dX4_readPlace_176 (by decide) ?_
          refine lv_iadd hx hb dX4_readPlace_177 ?_
          refine mx_i (nI (i + 1)) (nI_1 i) ?_
          refine mx_put (ci := 4) (v := .int (nI (i + 1))) (ty := .int) (C := RX4) (T := TX4) (N := 20) hx hb hts inX4 tyX4 tyX4_ok nmX4 hown hK hP hD hS (by omega : 52 < n) hcb1 rfl 10 (by decide) (hts _ wm_278) (fun _ h9 => h9) rfl (by decide +kernel) rfl rfl (Nat.le_of_ble_eq_true rfl) dX4_readPlace_178 (fun H locs hP hS => ?_)
          obtain ⟨b2, eb2⟩ : ∃ z : Nat → va_E, z = va_up b1 52 (.inr (4, [.ref (ad 53), .ref (ad 54), .ref (ad 55), .ref (ad 56), .int x0, .int x1, .int x2, .int x3, .int x4, .ref (ad 57), .int (nI (i + 1)), .int (nI w1), .int (tAz t i), .int (bI ((pFlags (t.drop i0) (false, false, false, false)).1).1), .int (bI ((pFlags (t.drop i0) (false, false, false, false)).1).2.1), .int (bI ((pFlags (t.drop i0) (false, false, false, false)).1).2.2.1), .int (bI ((pFlags (t.drop i0) (false, false, false, false)).1).2.2.2), .ref (ad 58), .int x12, .long v])) := ⟨_, rfl⟩
          have hP : va_P D vwCl (mw n ad b2) H := by rw [eb2]; exact hP
          have hsb2 : ∀ j, j ≠ 52 → b2 j = b1 j := fun j h => by rw [eb2]; exact va_up_ne _ _ h
          have hcb2 : b2 52 = .inr (4, [.ref (ad 53), .ref (ad 54), .ref (ad 55), .ref (ad 56), .int x0, .int x1, .int x2, .int x3, .int x4, .ref (ad 57), .int (nI (i + 1)), .int (nI w1), .int (tAz t i), .int (bI ((pFlags (t.drop i0) (false, false, false, false)).1).1), .int (bI ((pFlags (t.drop i0) (false, false, false, false)).1).2.1), .int (bI ((pFlags (t.drop i0) (false, false, false, false)).1).2.2.1), .int (bI ((pFlags (t.drop i0) (false, false, false, false)).1).2.2.2), .ref (ad 58), .int x12, .long v]) := by rw [eb2]; exact va_up_self _ _ _
          suffices hj249 : W pg9 l ev9 (headSpec wsX4_readPlace ({ frames := 1, cells := 0, slots := 0, locals := 21 })).room s m ([.ref (ad 52)] : List Value).toArray below meth cd H locs 0 0 (MQ below (va_Qi (fun r c' => ∃ i kd, i ≤ t.length ∧ t.drop i = (pPlace (t.drop i0)).2.2 ∧ c' 52 = rO ad x0 x1 x2 x3 x4 (nI (i + 1)) (nI (pPlace (t.drop i0)).2.1) kd (bI ((pPlace (t.drop i0)).1).1) (bI ((pPlace (t.drop i0)).1).2.1) (bI ((pPlace (t.drop i0)).1).2.2.1) (bI ((pPlace (t.drop i0)).1).2.2.2) x12 v ∧ (∀ j, j ≠ 52 → c' j = c j) ∧ (i < t.length → kd = sB (t.getD i 0)) ∧ ((i < t.length ∧ isKd (t.getD i 0) = true ∧ r = 1) ∨ (¬ (i < t.length ∧ isKd (t.getD i 0) = true) ∧ r = 0))) (mW D n ad) (mA n ad s.heap.size)) ([.ref (ad 52)] : List Value).toArray s 0 0 (mA n ad s.heap.size)) (F0 m 249 ls [.int (bI (kdB (tAz t i)))]) by
            refine lv_aload_n hx hb dX4_readPlace_181 rfl (lv_at hl 0 rfl) ?_
            refine mx_get (ci := 4) (v := .int (tAz t i)) (C := RX4) (T := TX4) (N := 20) hx hb hts inX4 hown hK hP (by omega : 52 < n) hcb2 rfl 12 (by decide) (hts _ wm_280) (fun _ h9 => h9) rfl dX4_readPlace_182 ?_
            refine lv_bipush (v := 100) hx hb dX4_readPlace_185 (by decide) ?_
            refine lv_icmp_eq (tgt := 244) hx hb dX4_readPlace_187 (by decide) (fun hq0 => ?_) (fun hq0 => ?_)
            · skip
              refine lv_iconst (v := 1) hx hb dX4_readPlace_244 (by decide) ?_
              refine lv_goto (tgt := 249) hx hb dX4_readPlace_245 (by decide) ?_
              refine mx_i (bI (kdB (tAz t i))) (by rw [show kdB (tAz t i) = true from decide_eq_true (Or.inl hq0)]; rfl) ?_
              exact hj249
            · skip
              refine lv_aload_n hx hb dX4_readPlace_190 rfl (lv_at hl 0 rfl) ?_
              refine mx_get (ci := 4) (v := .int (tAz t i)) (C := RX4) (T := TX4) (N := 20) hx hb hts inX4 hown hK hP (by omega : 52 < n) hcb2 rfl 12 (by decide) (hts _ wm_280) (fun _ h9 => h9) rfl dX4_readPlace_191 ?_
              refine lv_bipush (v := 120) hx hb dX4_readPlace_194 (by decide) ?_
              refine lv_icmp_eq (tgt := 244) hx hb dX4_readPlace_196 (by decide) (fun hq1 => ?_) (fun hq1 => ?_)
              · skip
                refine lv_iconst (v := 1) hx hb dX4_readPlace_244 (by decide) ?_
                refine lv_goto (tgt := 249) hx hb dX4_readPlace_245 (by decide) ?_
                refine mx_i (bI (kdB (tAz t i))) (by rw [show kdB (tAz t i) = true from decide_eq_true (Or.inr (Or.inl hq1))]; rfl) ?_
                exact hj249
              · skip
                refine lv_aload_n hx hb dX4_readPlace_199 rfl (lv_at hl 0 rfl) ?_
                refine mx_get (ci := 4) (v := .int (tAz t i)) (C := RX4) (T := TX4) (N := 20) hx hb hts inX4 hown hK hP (by omega : 52 < n) hcb2 rfl 12 (by decide) (hts _ wm_280) (fun _ h9 => h9) rfl dX4_readPlace_200 ?_
                refine lv_bipush (v := 88) hx hb dX4_readPlace_203 (by decide) ?_
                refine lv_icmp_eq (tgt := 244) hx hb dX4_readPlace_205 (by decide) (fun hq2 => ?_) (fun hq2 => ?_)
                · skip
                  refine lv_iconst (v := 1) hx hb dX4_readPlace_244 (by decide) ?_
                  refine lv_goto (tgt := 249) hx hb dX4_readPlace_245 (by decide) ?_
                  refine mx_i (bI (kdB (tAz t i))) (by rw [show kdB (tAz t i) = true from decide_eq_true (Or.inr (Or.inr (Or.inl hq2)))]; rfl) ?_
                  exact hj249
                · skip
                  refine lv_aload_n hx hb dX4_readPlace_208 rfl (lv_at hl 0 rfl) ?_
                  refine mx_get (ci := 4) (v := .int (tAz t i)) (C := RX4) (T := TX4) (N := 20) hx hb hts inX4 hown hK hP (by omega : 52 < n) hcb2 rfl 12 (by decide) (hts _ wm_280) (fun _ h9 => h9) rfl dX4_readPlace_209 ?_
                  refine lv_bipush (v := 111) hx hb dX4_readPlace_212 (by decide) ?_
                  refine lv_icmp_eq (tgt := 244) hx hb dX4_readPlace_214 (by decide) (fun hq3 => ?_) (fun hq3 => ?_)
                  · skip
                    refine lv_iconst (v := 1) hx hb dX4_readPlace_244 (by decide) ?_
                    refine lv_goto (tgt := 249) hx hb dX4_readPlace_245 (by decide) ?_
                    refine mx_i (bI (kdB (tAz t i))) (by rw [show kdB (tAz t i) = true from decide_eq_true (Or.inr (Or.inr (Or.inr (Or.inl hq3))))]; rfl) ?_
                    exact hj249
                  · skip
                    refine lv_aload_n hx hb dX4_readPlace_217 rfl (lv_at hl 0 rfl) ?_
                    refine mx_get (ci := 4) (v := .int (tAz t i)) (C := RX4) (T := TX4) (N := 20) hx hb hts inX4 hown hK hP (by omega : 52 < n) hcb2 rfl 12 (by decide) (hts _ wm_280) (fun _ h9 => h9) rfl dX4_readPlace_218 ?_
                    refine lv_bipush (v := 99) hx hb dX4_readPlace_221 (by decide) ?_
                    refine lv_icmp_eq (tgt := 244) hx hb dX4_readPlace_223 (by decide) (fun hq4 => ?_) (fun hq4 => ?_)
                    · skip
                      refine lv_iconst (v := 1) hx hb dX4_readPlace_244 (by decide) ?_
                      refine lv_goto (tgt := 249) hx hb dX4_readPlace_245 (by decide) ?_
                      refine mx_i (bI (kdB (tAz t i))) (by rw [show kdB (tAz t i) = true from decide_eq_true (Or.inr (Or.inr (Or.inr (Or.inr (Or.inl hq4)))))]; rfl) ?_
                      exact hj249
                    · skip
                      refine lv_aload_n hx hb dX4_readPlace_226 rfl (lv_at hl 0 rfl) ?_
                      refine mx_get (ci := 4) (v := .int (tAz t i)) (C := RX4) (T := TX4) (N := 20) hx hb hts inX4 hown hK hP (by omega : 52 < n) hcb2 rfl 12 (by decide) (hts _ wm_280) (fun _ h9 => h9) rfl dX4_readPlace_227 ?_
                      refine lv_bipush (v := 115) hx hb dX4_readPlace_230 (by decide) ?_
                      refine lv_icmp_eq (tgt := 244) hx hb dX4_readPlace_232 (by decide) (fun hq5 => ?_) (fun hq5 => ?_)
                      · skip
                        refine lv_iconst (v := 1) hx hb dX4_readPlace_244 (by decide) ?_
                        refine lv_goto (tgt := 249) hx hb dX4_readPlace_245 (by decide) ?_
                        refine mx_i (bI (kdB (tAz t i))) (by rw [show kdB (tAz t i) = true from decide_eq_true (Or.inr (Or.inr (Or.inr (Or.inr (Or.inr (Or.inl hq5))))))]; rfl) ?_
                        exact hj249
                      · skip
                        refine lv_aload_n hx hb dX4_readPlace_235 rfl (lv_at hl 0 rfl) ?_
                        refine mx_get (ci := 4) (v := .int (tAz t i)) (C := RX4) (T := TX4) (N := 20) hx hb hts inX4 hown hK hP (by omega : 52 < n) hcb2 rfl 12 (by decide) (hts _ wm_280) (fun _ h9 => h9) rfl dX4_readPlace_236 ?_
                        refine lv_bipush (v := 37) hx hb dX4_readPlace_239 (by decide) ?_
                        refine lv_icmp_ne (tgt := 248) hx hb dX4_readPlace_241 (by decide) (fun hq6 => ?_) (fun hq6 => ?_)
                        · skip
                          refine lv_iconst (v := 0) hx hb dX4_readPlace_248 (by decide) ?_
                          refine mx_i (bI (kdB (tAz t i))) (by rw [show kdB (tAz t i) = false from decide_eq_false (fun h => h.elim hq0 (fun h => h.elim hq1 (fun h => h.elim hq2 (fun h => h.elim hq3 (fun h => h.elim hq4 (fun h => h.elim hq5 (fun h => hq6 h)))))))]; rfl) ?_
                          exact hj249
                        · skip
                          refine lv_iconst (v := 1) hx hb dX4_readPlace_244 (by decide) ?_
                          refine lv_goto (tgt := 249) hx hb dX4_readPlace_245 (by decide) ?_
                          refine mx_i (bI (kdB (tAz t i))) (by rw [show kdB (tAz t i) = true from decide_eq_true (Or.inr (Or.inr (Or.inr (Or.inr (Or.inr (Or.inr (hq6)))))))]; rfl) ?_
                          exact hj249
          have hkk := kz_cases (i := i) hby
          have hq2 : ∀ r : Int32, r = bI (kdB (tAz t i)) → ∃ i kd, i ≤ t.length ∧ t.drop i = (pPlace (t.drop i0)).2.2 ∧ b2 52 = rO ad x0 x1 x2 x3 x4 (nI (i + 1)) (nI (pPlace (t.drop i0)).2.1) kd (bI ((pPlace (t.drop i0)).1).1) (bI ((pPlace (t.drop i0)).1).2.1) (bI ((pPlace (t.drop i0)).1).2.2.1) (bI ((pPlace (t.drop i0)).1).2.2.2) x12 v ∧ (∀ j, j ≠ 52 → b2 j = c j) ∧ (i < t.length → kd = sB (t.getD i 0)) ∧ ((i < t.length ∧ isKd (t.getD i 0) = true ∧ r = 1) ∨ (¬ (i < t.length ∧ isKd (t.getD i 0) = true) ∧ r = 0)) := by
            intro r hr9
            refine ⟨i, tAz t i, hi, hdr.1, by rw [← hdr.2]; exact hcb2, fun j h => (hsb2 j h).trans ((hsb1 j h).trans (hs2 j h)), fun h => if_pos h, ?_⟩
            rw [hr9]
            cases hkv : kdB (tAz t i)
            · exact Or.inr ⟨fun h => absurd (hkk.mpr h) (by rw [hkv]; decide), rfl⟩
            · exact Or.inl ⟨(hkk.mp hkv).1, (hkk.mp hkv).2, rfl⟩
          generalize kdB (tAz t i) = gg at hq2 ⊢
          cases gg
          · skip
            exact mx_zret hx hb hr hlocks rfl hP hS (hq2 _ rfl) dX4_readPlace_249
          · skip
            exact mx_zret hx hb hr hlocks rfl hP hS (hq2 _ rfl) dX4_readPlace_249
        · skip
          refine lv_aload_n hx hb dX4_readPlace_70 rfl (lv_at hl 0 rfl) ?_
          refine mx_get (ci := 4) (v := .ref (ad 54)) (C := RX4) (T := TX4) (N := 20) hx hb hts inX4 hown hK hP (by omega : 52 < n) hO2 rfl 1 (by decide) (hts _ wm_269) (fun _ h9 => h9) rfl dX4_readPlace_71 ?_
          refine lv_aload_n hx hb dX4_readPlace_74 rfl (lv_at hl 0 rfl) ?_
          refine mx_get (ci := 4) (v := .int (nI i)) (C := RX4) (T := TX4) (N := 20) hx hb hts inX4 hown hK hP (by omega : 52 < n) hO2 rfl 10 (by decide) (hts _ wm_278) (fun _ h9 => h9) rfl dX4_readPlace_75 ?_
          refine mx_bald hx hb hK hP (by omega : 54 < n) 2 h54 rfl (vp_in_nI (by omega) (by omega)) dX4_readPlace_78 ?_
          refine mx_i (sB (t.getD i 0)) (by rw [nI_clamp (by omega)]; exact hgi) ?_
          refine lv_bipush (v := 57) hx hb dX4_readPlace_79 (by decide) ?_
          refine lv_icmp_gt (tgt := 143) hx hb dX4_readPlace_81 (by decide) (fun hc3 => ?_) (fun hc3 => ?_)
          · skip
            have hnd : isDg (t.getD i 0) = false := sd_f hb8 (fun h => absurd h.2 (Int32.not_le.mpr hc3))
            refine lv_aload_n hx hb dX4_readPlace_143 rfl (lv_at hl 0 rfl) ?_
            have hdr : t.drop i = (pPlace (t.drop i0)).2.2 ∧ w1 = (pPlace (t.drop i0)).2.1 := by
              have h9 : (pPlace (t.drop i0)).2 = pWid (t.drop i) w1 := heq
              rw [h9, show pWid (t.drop i) w1 = (w1, t.drop i) from by rw [dr_cons hlt]; exact if_neg (by rw [hnd]; decide)]
              exact ⟨rfl, rfl⟩
            suffices hj168 : W pg9 l ev9 (headSpec wsX4_readPlace ({ frames := 1, cells := 0, slots := 0, locals := 21 })).room s m ([.ref (ad 52)] : List Value).toArray below meth cd H locs 0 0 (MQ below (va_Qi (fun r c' => ∃ i kd, i ≤ t.length ∧ t.drop i = (pPlace (t.drop i0)).2.2 ∧ c' 52 = rO ad x0 x1 x2 x3 x4 (nI (i + 1)) (nI (pPlace (t.drop i0)).2.1) kd (bI ((pPlace (t.drop i0)).1).1) (bI ((pPlace (t.drop i0)).1).2.1) (bI ((pPlace (t.drop i0)).1).2.2.1) (bI ((pPlace (t.drop i0)).1).2.2.2) x12 v ∧ (∀ j, j ≠ 52 → c' j = c j) ∧ (i < t.length → kd = sB (t.getD i 0)) ∧ ((i < t.length ∧ isKd (t.getD i 0) = true ∧ r = 1) ∨ (¬ (i < t.length ∧ isKd (t.getD i 0) = true) ∧ r = 0))) (mW D n ad) (mA n ad s.heap.size)) ([.ref (ad 52)] : List Value).toArray s 0 0 (mA n ad s.heap.size)) (F0 m 168 ls [.int (tAz t i), .ref (ad 52)]) by
              refine lv_aload_n hx hb dX4_readPlace_144 rfl (lv_at hl 0 rfl) ?_
              refine mx_get (ci := 4) (v := .int (nI i)) (C := RX4) (T := TX4) (N := 20) hx hb hts inX4 hown hK hP (by omega : 52 < n) hO2 rfl 10 (by decide) (hts _ wm_278) (fun _ h9 => h9) rfl dX4_readPlace_145 ?_
              refine lv_aload_n hx hb dX4_readPlace_148 rfl (lv_at hl 0 rfl) ?_
              refine mx_get (ci := 4) (v := .int x1) (C := RX4) (T := TX4) (N := 20) hx hb hts inX4 hown hK hP (by omega : 52 < n) hO2 rfl 5 (by decide) (hts _ wm_273) (fun _ h9 => h9) rfl dX4_readPlace_149 ?_
              refine lv_icmp_ge (tgt := 167) hx hb dX4_readPlace_152 (by decide) (fun hk1 => ?_) (fun hk1 => ?_)
              · skip
                refine lv_iconst (v := 0) hx hb dX4_readPlace_167 (by decide) ?_
                refine mx_i (tAz t i) (by rw [show tAz t i = 0 from if_neg (by have := (nI_leI (a := t.length) (b := i) (by omega) (by omega)).mp (by rw [← hx1]; exact hk1); omega)]) ?_
                exact hj168
              · skip
                have hlk : i < t.length := by have := (not_congr (nI_leI (a := t.length) (b := i) (by omega) (by omega))).mp (by rw [← hx1]; exact hk1); omega
                refine lv_aload_n hx hb dX4_readPlace_155 rfl (lv_at hl 0 rfl) ?_
                refine mx_get (ci := 4) (v := .ref (ad 54)) (C := RX4) (T := TX4) (N := 20) hx hb hts inX4 hown hK hP (by omega : 52 < n) hO2 rfl 1 (by decide) (hts _ wm_269) (fun _ h9 => h9) rfl dX4_readPlace_156 ?_
                refine lv_aload_n hx hb dX4_readPlace_159 rfl (lv_at hl 0 rfl) ?_
                refine mx_get (ci := 4) (v := .int (nI i)) (C := RX4) (T := TX4) (N := 20) hx hb hts inX4 hown hK hP (by omega : 52 < n) hO2 rfl 10 (by decide) (hts _ wm_278) (fun _ h9 => h9) rfl dX4_readPlace_160 ?_
                refine mx_bald hx hb hK hP (by omega : 54 < n) 2 h54 rfl (vp_in_nI (by omega) (by omega)) dX4_readPlace_163 ?_
                refine mx_i (tAz t i) (by rw [nI_clamp (by omega), show tAz t i = sB (t.getD i 0) from if_pos hlk]; have h9 := hg i hlk; rw [Nat.zero_add] at h9; exact h9) ?_
                refine lv_goto (tgt := 168) hx hb dX4_readPlace_164 (by decide) ?_
                refine mx_i (tAz t i) (rfl) ?_
                exact hj168
            refine mx_put (ci := 4) (v := .int (tAz t i)) (ty := .int) (C := RX4) (T := TX4) (N := 20) hx hb hts inX4 tyX4 tyX4_ok nmX4 hown hK hP hD hS (by omega : 52 < n) hO2 rfl 12 (by decide) (hts _ wm_280) (fun _ h9 => h9) rfl (by decide +kernel) rfl rfl (Nat.le_of_ble_eq_true rfl) dX4_readPlace_168 (fun H locs hP hS => ?_)
            obtain ⟨b1, eb1⟩ : ∃ z : Nat → va_E, z = va_up c2 52 (.inr (4, [.ref (ad 53), .ref (ad 54), .ref (ad 55), .ref (ad 56), .int x0, .int x1, .int x2, .int x3, .int x4, .ref (ad 57), .int (nI i), .int (nI w1), .int (tAz t i), .int (bI ((pFlags (t.drop i0) (false, false, false, false)).1).1), .int (bI ((pFlags (t.drop i0) (false, false, false, false)).1).2.1), .int (bI ((pFlags (t.drop i0) (false, false, false, false)).1).2.2.1), .int (bI ((pFlags (t.drop i0) (false, false, false, false)).1).2.2.2), .ref (ad 58), .int x12, .long v])) := ⟨_, rfl⟩
            have hP : va_P D vwCl (mw n ad b1) H := by rw [eb1]; exact hP
            have hsb1 : ∀ j, j ≠ 52 → b1 j = c2 j := fun j h => by rw [eb1]; exact va_up_ne _ _ h
            have hcb1 : b1 52 = .inr (4, [.ref (ad 53), .ref (ad 54), .ref (ad 55), .ref (ad 56), .int x0, .int x1, .int x2, .int x3, .int x4, .ref (ad 57), .int (nI i), .int (nI w1), .int (tAz t i), .int (bI ((pFlags (t.drop i0) (false, false, false, false)).1).1), .int (bI ((pFlags (t.drop i0) (false, false, false, false)).1).2.1), .int (bI ((pFlags (t.drop i0) (false, false, false, false)).1).2.2.1), .int (bI ((pFlags (t.drop i0) (false, false, false, false)).1).2.2.2), .ref (ad 58), .int x12, .long v]) := by rw [eb1]; exact va_up_self _ _ _
            refine lv_aload_n hx hb dX4_readPlace_171 rfl (lv_at hl 0 rfl) ?_
            refine lv_dup hx hb dX4_readPlace_172 rfl ?_
            refine mx_get (ci := 4) (v := .int (nI i)) (C := RX4) (T := TX4) (N := 20) hx hb hts inX4 hown hK hP (by omega : 52 < n) hcb1 rfl 10 (by decide) (hts _ wm_278) (fun _ h9 => h9) rfl dX4_readPlace_173 ?_
            refine lv_iconst (v := 1) hx hb dX4_readPlace_176 (by decide) ?_
            refine lv_iadd hx hb dX4_readPlace_177 ?_
            refine mx_i (nI (i + 1)) (nI_1 i) ?_
            refine mx_put (ci := 4) (v := .int (nI (i + 1))) (ty := .int) (C := RX4) (T := TX4) (N := 20) hx hb hts inX4 tyX4 tyX4_ok nmX4 hown hK hP hD hS (by omega : 52 < n) hcb1 rfl 10 (by decide) (hts _ wm_278) (fun _ h9 => h9) rfl (by decide +kernel) rfl rfl (Nat.le_of_ble_eq_true rfl) dX4_readPlace_178 (fun H locs hP hS => ?_)
            obtain ⟨b2, eb2⟩ : ∃ z : Nat → va_E, z = va_up b1 52 (.inr (4, [.ref (ad 53), .ref (ad 54), .ref (ad 55), .ref (ad 56), .int x0, .int x1, .int x2, .int x3, .int x4, .ref (ad 57), .int (nI (i + 1)), .int (nI w1), .int (tAz t i), .int (bI ((pFlags (t.drop i0) (false, false, false, false)).1).1), .int (bI ((pFlags (t.drop i0) (false, false, false, false)).1).2.1), .int (bI ((pFlags (t.drop i0) (false, false, false, false)).1).2.2.1), .int (bI ((pFlags (t.drop i0) (false, false, false, false)).1).2.2.2), .ref (ad 58), .int x12, .long v])) := ⟨_, rfl⟩
            have hP : va_P D vwCl (mw n ad b2) H := by rw [eb2]; exact hP
            have hsb2 : ∀ j, j ≠ 52 → b2 j = b1 j := fun j h => by rw [eb2]; exact va_up_ne _ _ h
            have hcb2 : b2 52 = .inr (4, [.ref (ad 53), .ref (ad 54), .ref (ad 55), .ref (ad 56), .int x0, .int x1, .int x2, .int x3, .int x4, .ref (ad 57), .int (nI (i + 1)), .int (nI w1), .int (tAz t i), .int (bI ((pFlags (t.drop i0) (false, false, false, false)).1).1), .int (bI ((pFlags (t.drop i0) (false, false, false, false)).1).2.1), .int (bI ((pFlags (t.drop i0) (false, false, false, false)).1).2.2.1), .int (bI ((pFlags (t.drop i0) (false, false, false, false)).1).2.2.2), .ref (ad 58), .int x12, .long v]) := by rw [eb2]; exact va_up_self _ _ _
            suffices hj249 : W pg9 l ev9 (headSpec wsX4_readPlace ({ frames := 1, cells := 0, slots := 0, locals := 21 })).room s m ([.ref (ad 52)] : List Value).toArray below meth cd H locs 0 0 (MQ below (va_Qi (fun r c' => ∃ i kd, i ≤ t.length ∧ t.drop i = (pPlace (t.drop i0)).2.2 ∧ c' 52 = rO ad x0 x1 x2 x3 x4 (nI (i + 1)) (nI (pPlace (t.drop i0)).2.1) kd (bI ((pPlace (t.drop i0)).1).1) (bI ((pPlace (t.drop i0)).1).2.1) (bI ((pPlace (t.drop i0)).1).2.2.1) (bI ((pPlace (t.drop i0)).1).2.2.2) x12 v ∧ (∀ j, j ≠ 52 → c' j = c j) ∧ (i < t.length → kd = sB (t.getD i 0)) ∧ ((i < t.length ∧ isKd (t.getD i 0) = true ∧ r = 1) ∨ (¬ (i < t.length ∧ isKd (t.getD i 0) = true) ∧ r = 0))) (mW D n ad) (mA n ad s.heap.size)) ([.ref (ad 52)] : List Value).toArray s 0 0 (mA n ad s.heap.size)) (F0 m 249 ls [.int (bI (kdB (tAz t i)))]) by
              refine lv_aload_n hx hb dX4_readPlace_181 rfl (lv_at hl 0 rfl) ?_
              refine mx_get (ci := 4) (v := .int (tAz t i)) (C := RX4) (T := TX4) (N := 20) hx hb hts inX4 hown hK hP (by omega : 52 < n) hcb2 rfl 12 (by decide) (hts _ wm_280) (fun _ h9 => h9) rfl dX4_readPlace_182 ?_
              refine lv_bipush (v := 100) hx hb dX4_readPlace_185 (by decide) ?_
              refine lv_icmp_eq (tgt := 244) hx hb dX4_readPlace_187 (by decide) (fun hq0 => ?_) (fun hq0 => ?_)
              · skip
                refine lv_iconst (v := 1) hx hb dX4_readPlace_244 (by decide) ?_
                refine lv_goto (tgt := 249) hx hb dX4_readPlace_245 (by decide) ?_
                refine mx_i (bI (kdB (tAz t i))) (by rw [show kdB (tAz t i) = true from decide_eq_true (Or.inl hq0)]; rfl) ?_
                exact hj249
              · skip
                refine lv_aload_n hx hb dX4_readPlace_190 rfl (lv_at hl 0 rfl) ?_
                refine mx_get (ci := 4) (v := .int (tAz t i)) (C := RX4) (T := TX4) (N := 20) hx hb hts inX4 hown hK hP (by omega : 52 < n) hcb2 rfl 12 (by decide) (hts _ wm_280) (fun _ h9 => h9) rfl dX4_readPlace_191 ?_
                refine lv_bipush (v := 120) hx hb dX4_readPlace_194 (by decide) ?_
                refine lv_icmp_eq (tgt := 244) hx hb dX4_readPlace_196 (by decide) (fun hq1 => ?_) (fun hq1 => ?_)
                · skip
                  refine lv_iconst (v := 1) hx hb dX4_readPlace_244 (by decide) ?_
                  refine lv_goto (tgt := 249) hx hb dX4_readPlace_245 (by decide) ?_
                  refine mx_i (bI (kdB (tAz t i))) (by rw [show kdB (tAz t i) = true from decide_eq_true (Or.inr (Or.inl hq1))]; rfl) ?_
                  exact hj249
                · skip
                  refine lv_aload_n hx hb dX4_readPlace_199 rfl (lv_at hl 0 rfl) ?_
                  refine mx_get (ci := 4) (v := .int (tAz t i)) (C := RX4) (T := TX4) (N := 20) hx hb hts inX4 hown hK hP (by omega : 52 < n) hcb2 rfl 12 (by decide) (hts _ wm_280) (fun _ h9 => h9) rfl dX4_readPlace_200 ?_
                  refine lv_bipush (v := 88) hx hb dX4_readPlace_203 (by decide) ?_
                  refine lv_icmp_eq (tgt := 244) hx hb dX4_readPlace_205 (by decide) (fun hq2 => ?_) (fun hq2 => ?_)
                  · skip
                    refine lv_iconst (v := 1) hx hb dX4_readPlace_244 (by decide) ?_
                    refine lv_goto (tgt := 249) hx hb dX4_readPlace_245 (by decide) ?_
                    refine mx_i (bI (kdB (tAz t i))) (by rw [show kdB (tAz t i) = true from decide_eq_true (Or.inr (Or.inr (Or.inl hq2)))]; rfl) ?_
                    exact hj249
                  · skip
                    refine lv_aload_n hx hb dX4_readPlace_208 rfl (lv_at hl 0 rfl) ?_
                    refine mx_get (ci := 4) (v := .int (tAz t i)) (C := RX4) (T := TX4) (N := 20) hx hb hts inX4 hown hK hP (by omega : 52 < n) hcb2 rfl 12 (by decide) (hts _ wm_280) (fun _ h9 => h9) rfl dX4_readPlace_209 ?_
                    refine lv_bipush (v := 111) hx hb dX4_readPlace_212 (by decide) ?_
                    refine lv_icmp_eq (tgt := 244) hx hb dX4_readPlace_214 (by decide) (fun hq3 => ?_) (fun hq3 => ?_)
                    · skip
                      refine lv_iconst (v := 1) hx hb dX4_readPlace_244 (by decide) ?_
                      refine lv_goto (tgt := 249) hx hb dX4_readPlace_245 (by decide) ?_
                      refine mx_i (bI (kdB (tAz t i))) (by rw [show kdB (tAz t i) = true from decide_eq_true (Or.inr (Or.inr (Or.inr (Or.inl hq3))))]; rfl) ?_
                      exact hj249
                    · skip
                      refine lv_aload_n hx hb dX4_readPlace_217 rfl (lv_at hl 0 rfl) ?_
                      refine mx_get (ci := 4) (v := .int (tAz t i)) (C := RX4) (T := TX4) (N := 20) hx hb hts inX4 hown hK hP (by omega : 52 < n) hcb2 rfl 12 (by decide) (hts _ wm_280) (fun _ h9 => h9) rfl dX4_readPlace_218 ?_
                      refine lv_bipush (v := 99) hx hb dX4_readPlace_221 (by decide) ?_
                      refine lv_icmp_eq (tgt := 244) hx hb dX4_readPlace_223 (by decide) (fun hq4 => ?_) (fun hq4 => ?_)
                      · skip
                        refine lv_iconst (v := 1) hx hb dX4_readPlace_244 (by decide) ?_
                        refine lv_goto (tgt := 249) hx hb dX4_readPlace_245 (by decide) ?_
                        refine mx_i (bI (kdB (tAz t i))) (by rw [show kdB (tAz t i) = true from decide_eq_true (Or.inr (Or.inr (Or.inr (Or.inr (Or.inl hq4)))))]; rfl) ?_
                        exact hj249
                      · skip
                        refine lv_aload_n hx hb dX4_readPlace_226 rfl (lv_at hl 0 rfl) ?_
                        refine mx_get (ci := 4) (v := .int (tAz t i)) (C := RX4) (T := TX4) (N := 20) hx hb hts inX4 hown hK hP (by omega : 52 < n) hcb2 rfl 12 (by decide) (hts _ wm_280) (fun _ h9 => h9) rfl dX4_readPlace_227 ?_
                        refine lv_bipush (v := 115) hx hb dX4_readPlace_230 (by decide) ?_
                        refine lv_icmp_eq (tgt := 244) hx hb dX4_readPlace_232 (by decide) (fun hq5 => ?_) (fun hq5 => ?_)
                        · skip
                          refine lv_iconst (v := 1) hx hb dX4_readPlace_244 (by decide) ?_
                          refine lv_goto (tgt := 249) hx hb dX4_readPlace_245 (by decide) ?_
                          refine mx_i (bI (kdB (tAz t i))) (by rw [show kdB (tAz t i) = true from decide_eq_true (Or.inr (Or.inr (Or.inr (Or.inr (Or.inr (Or.inl hq5))))))]; rfl) ?_
                          exact hj249
                        · skip
                          refine lv_aload_n hx hb dX4_readPlace_235 rfl (lv_at hl 0 rfl) ?_
                          refine mx_get (ci := 4) (v := .int (tAz t i)) (C := RX4) (T := TX4) (N := 20) hx hb hts inX4 hown hK hP (by omega : 52 < n) hcb2 rfl 12 (by decide) (hts _ wm_280) (fun _ h9 => h9) rfl dX4_readPlace_236 ?_
                          refine lv_bipush (v := 37) hx hb dX4_readPlace_239 (by decide) ?_
                          refine lv_icmp_ne (tgt := 248) hx hb dX4_readPlace_241 (by decide) (fun hq6 => ?_) (fun hq6 => ?_)
                          · skip
                            refine lv_iconst (v := 0) hx hb dX4_readPlace_248 (by decide) ?_
                            refine mx_i (bI (kdB (tAz t i))) (by rw [show kdB (tAz t i) = false from decide_eq_false (fun h => h.elim hq0 (fun h => h.elim hq1 (fun h => h.elim hq2 (fun h => h.elim hq3 (fun h => h.elim hq4 (fun h => h.elim hq5 (fun h => hq6 h)))))))]; rfl) ?_
                            exact hj249
                          · skip
                            refine lv_iconst (v := 1) hx hb dX4_readPlace_244 (by decide) ?_
                            refine lv_goto (tgt := 249) hx hb dX4_readPlace_245 (by decide) ?_
                            refine mx_i (bI (kdB (tAz t i))) (by rw [show kdB (tAz t i) = true from decide_eq_true (Or.inr (Or.inr (Or.inr (Or.inr (Or.inr (Or.inr (hq6)))))))]; rfl) ?_
                            exact hj249
            have hkk := kz_cases (i := i) hby
            have hq2 : ∀ r : Int32, r = bI (kdB (tAz t i)) → ∃ i kd, i ≤ t.length ∧ t.drop i = (pPlace (t.drop i0)).2.2 ∧ b2 52 = rO ad x0 x1 x2 x3 x4 (nI (i + 1)) (nI (pPlace (t.drop i0)).2.1) kd (bI ((pPlace (t.drop i0)).1).1) (bI ((pPlace (t.drop i0)).1).2.1) (bI ((pPlace (t.drop i0)).1).2.2.1) (bI ((pPlace (t.drop i0)).1).2.2.2) x12 v ∧ (∀ j, j ≠ 52 → b2 j = c j) ∧ (i < t.length → kd = sB (t.getD i 0)) ∧ ((i < t.length ∧ isKd (t.getD i 0) = true ∧ r = 1) ∨ (¬ (i < t.length ∧ isKd (t.getD i 0) = true) ∧ r = 0)) := by
              intro r hr9
              refine ⟨i, tAz t i, hi, hdr.1, by rw [← hdr.2]; exact hcb2, fun j h => (hsb2 j h).trans ((hsb1 j h).trans (hs2 j h)), fun h => if_pos h, ?_⟩
              rw [hr9]
              cases hkv : kdB (tAz t i)
              · exact Or.inr ⟨fun h => absurd (hkk.mpr h) (by rw [hkv]; decide), rfl⟩
              · exact Or.inl ⟨(hkk.mp hkv).1, (hkk.mp hkv).2, rfl⟩
            generalize kdB (tAz t i) = gg at hq2 ⊢
            cases gg
            · skip
              exact mx_zret hx hb hr hlocks rfl hP hS (hq2 _ rfl) dX4_readPlace_249
            · skip
              exact mx_zret hx hb hr hlocks rfl hP hS (hq2 _ rfl) dX4_readPlace_249
          · skip
            have hdg : isDg (t.getD i 0) = true := sd_t hb8 (Int32.not_lt.mp hc2) (Int32.not_lt.mp hc3)
            obtain ⟨hd1, hd2⟩ := isDg_le hdg
            refine lv_aload_n hx hb dX4_readPlace_84 rfl (lv_at hl 0 rfl) ?_
            refine lv_bipush (v := 10) hx hb dX4_readPlace_85 (by decide) ?_
            refine lv_aload_n hx hb dX4_readPlace_87 rfl (lv_at hl 0 rfl) ?_
            refine mx_get (ci := 4) (v := .int (nI w1)) (C := RX4) (T := TX4) (N := 20) hx hb hts inX4 hown hK hP (by omega : 52 < n) hO2 rfl 11 (by decide) (hts _ wm_279) (fun _ h9 => h9) rfl dX4_readPlace_88 ?_
            refine lv_imul hx hb dX4_readPlace_91 ?_
            refine lv_aload_n hx hb dX4_readPlace_92 rfl (lv_at hl 0 rfl) ?_
            refine mx_get (ci := 4) (v := .ref (ad 54)) (C := RX4) (T := TX4) (N := 20) hx hb hts inX4 hown hK hP (by omega : 52 < n) hO2 rfl 1 (by decide) (hts _ wm_269) (fun _ h9 => h9) rfl dX4_readPlace_93 ?_
            refine lv_aload_n hx hb dX4_readPlace_96 rfl (lv_at hl 0 rfl) ?_
            refine mx_get (ci := 4) (v := .int (nI i)) (C := RX4) (T := TX4) (N := 20) hx hb hts inX4 hown hK hP (by omega : 52 < n) hO2 rfl 10 (by decide) (hts _ wm_278) (fun _ h9 => h9) rfl dX4_readPlace_97 ?_
            refine mx_bald hx hb hK hP (by omega : 54 < n) 2 h54 rfl (vp_in_nI (by omega) (by omega)) dX4_readPlace_100 ?_
            refine mx_i (sB (t.getD i 0)) (by rw [nI_clamp (by omega)]; exact hgi) ?_
            refine mx_i (nI (t.getD i 0)) (sB_lo _ (by omega)) ?_
            refine lv_iadd hx hb dX4_readPlace_101 ?_
            refine lv_bipush (v := 48) hx hb dX4_readPlace_102 (by decide) ?_
            refine lv_isub hx hb dX4_readPlace_104 ?_
            refine mx_i (nI (w1 * 10 + (t.getD i 0 - 48))) (by rw [Int32.mul_comm]; exact wd_eq hd1) ?_
            refine mx_put (ci := 4) (v := .int (nI (w1 * 10 + (t.getD i 0 - 48)))) (ty := .int) (C := RX4) (T := TX4) (N := 20) hx hb hts inX4 tyX4 tyX4_ok nmX4 hown hK hP hD hS (by omega : 52 < n) hO2 rfl 11 (by decide) (hts _ wm_279) (fun _ h9 => h9) rfl (by decide +kernel) rfl rfl (Nat.le_of_ble_eq_true rfl) dX4_readPlace_105 (fun H locs hP hS => ?_)
            obtain ⟨b1, eb1⟩ : ∃ z : Nat → va_E, z = va_up c2 52 (.inr (4, [.ref (ad 53), .ref (ad 54), .ref (ad 55), .ref (ad 56), .int x0, .int x1, .int x2, .int x3, .int x4, .ref (ad 57), .int (nI i), .int (nI (w1 * 10 + (t.getD i 0 - 48))), .int x7, .int (bI ((pFlags (t.drop i0) (false, false, false, false)).1).1), .int (bI ((pFlags (t.drop i0) (false, false, false, false)).1).2.1), .int (bI ((pFlags (t.drop i0) (false, false, false, false)).1).2.2.1), .int (bI ((pFlags (t.drop i0) (false, false, false, false)).1).2.2.2), .ref (ad 58), .int x12, .long v])) := ⟨_, rfl⟩
            have hP : va_P D vwCl (mw n ad b1) H := by rw [eb1]; exact hP
            have hsb1 : ∀ j, j ≠ 52 → b1 j = c2 j := fun j h => by rw [eb1]; exact va_up_ne _ _ h
            have hcb1 : b1 52 = .inr (4, [.ref (ad 53), .ref (ad 54), .ref (ad 55), .ref (ad 56), .int x0, .int x1, .int x2, .int x3, .int x4, .ref (ad 57), .int (nI i), .int (nI (w1 * 10 + (t.getD i 0 - 48))), .int x7, .int (bI ((pFlags (t.drop i0) (false, false, false, false)).1).1), .int (bI ((pFlags (t.drop i0) (false, false, false, false)).1).2.1), .int (bI ((pFlags (t.drop i0) (false, false, false, false)).1).2.2.1), .int (bI ((pFlags (t.drop i0) (false, false, false, false)).1).2.2.2), .ref (ad 58), .int x12, .long v]) := by rw [eb1]; exact va_up_self _ _ _
            refine lv_aload_n hx hb dX4_readPlace_108 rfl (lv_at hl 0 rfl) ?_
            suffices hj127 : W pg9 l ev9 (headSpec wsX4_readPlace ({ frames := 1, cells := 0, slots := 0, locals := 21 })).room s m ([.ref (ad 52)] : List Value).toArray below meth cd H locs 0 0 (MQ below (va_Qi (fun r c' => ∃ i kd, i ≤ t.length ∧ t.drop i = (pPlace (t.drop i0)).2.2 ∧ c' 52 = rO ad x0 x1 x2 x3 x4 (nI (i + 1)) (nI (pPlace (t.drop i0)).2.1) kd (bI ((pPlace (t.drop i0)).1).1) (bI ((pPlace (t.drop i0)).1).2.1) (bI ((pPlace (t.drop i0)).1).2.2.1) (bI ((pPlace (t.drop i0)).1).2.2.2) x12 v ∧ (∀ j, j ≠ 52 → c' j = c j) ∧ (i < t.length → kd = sB (t.getD i 0)) ∧ ((i < t.length ∧ isKd (t.getD i 0) = true ∧ r = 1) ∨ (¬ (i < t.length ∧ isKd (t.getD i 0) = true) ∧ r = 0))) (mW D n ad) (mA n ad s.heap.size)) ([.ref (ad 52)] : List Value).toArray s 0 0 (mA n ad s.heap.size)) (F0 m 127 ls [.int (nI (min 100000 (w1 * 10 + (t.getD i 0 - 48)))), .ref (ad 52)]) by
              refine lv_aload_n hx hb dX4_readPlace_109 rfl (lv_at hl 0 rfl) ?_
              refine mx_get (ci := 4) (v := .int (nI (w1 * 10 + (t.getD i 0 - 48)))) (C := RX4) (T := TX4) (N := 20) hx hb hts inX4 hown hK hP (by omega : 52 < n) hcb1 rfl 11 (by decide) (hts _ wm_279) (fun _ h9 => h9) rfl dX4_readPlace_110 ?_
              refine lv_ldc (v := 100000) hx hb hown (hts _ wm_387) dX4_readPlace_113 ?_
              refine lv_icmp_le (tgt := 123) hx hb dX4_readPlace_115 (by decide) (fun hc4 => ?_) (fun hc4 => ?_)
              · skip
                refine lv_aload_n hx hb dX4_readPlace_123 rfl (lv_at hl 0 rfl) ?_
                refine mx_get (ci := 4) (v := .int (nI (w1 * 10 + (t.getD i 0 - 48)))) (C := RX4) (T := TX4) (N := 20) hx hb hts inX4 hown hK hP (by omega : 52 < n) hcb1 rfl 11 (by decide) (hts _ wm_279) (fun _ h9 => h9) rfl dX4_readPlace_124 ?_
                refine mx_i (nI (min 100000 (w1 * 10 + (t.getD i 0 - 48)))) (by rw [Nat.min_eq_right ((nI_leI (b := 100000) (by omega) (by omega)).mp hc4)]) ?_
                exact hj127
              · skip
                refine lv_ldc (v := 100000) hx hb hown (hts _ wm_387) dX4_readPlace_118 ?_
                refine lv_goto (tgt := 127) hx hb dX4_readPlace_120 (by decide) ?_
                refine mx_i (nI (min 100000 (w1 * 10 + (t.getD i 0 - 48)))) (by rw [Nat.min_eq_left (by have := (not_congr (nI_leI (a := w1 * 10 + (t.getD i 0 - 48)) (b := 100000) (by omega) (by omega))).mp hc4; omega)]; rfl) ?_
                exact hj127
            refine mx_put (ci := 4) (v := .int (nI (min 100000 (w1 * 10 + (t.getD i 0 - 48))))) (ty := .int) (C := RX4) (T := TX4) (N := 20) hx hb hts inX4 tyX4 tyX4_ok nmX4 hown hK hP hD hS (by omega : 52 < n) hcb1 rfl 11 (by decide) (hts _ wm_279) (fun _ h9 => h9) rfl (by decide +kernel) rfl rfl (Nat.le_of_ble_eq_true rfl) dX4_readPlace_127 (fun H locs hP hS => ?_)
            obtain ⟨b2, eb2⟩ : ∃ z : Nat → va_E, z = va_up b1 52 (.inr (4, [.ref (ad 53), .ref (ad 54), .ref (ad 55), .ref (ad 56), .int x0, .int x1, .int x2, .int x3, .int x4, .ref (ad 57), .int (nI i), .int (nI (min 100000 (w1 * 10 + (t.getD i 0 - 48)))), .int x7, .int (bI ((pFlags (t.drop i0) (false, false, false, false)).1).1), .int (bI ((pFlags (t.drop i0) (false, false, false, false)).1).2.1), .int (bI ((pFlags (t.drop i0) (false, false, false, false)).1).2.2.1), .int (bI ((pFlags (t.drop i0) (false, false, false, false)).1).2.2.2), .ref (ad 58), .int x12, .long v])) := ⟨_, rfl⟩
            have hP : va_P D vwCl (mw n ad b2) H := by rw [eb2]; exact hP
            have hsb2 : ∀ j, j ≠ 52 → b2 j = b1 j := fun j h => by rw [eb2]; exact va_up_ne _ _ h
            have hcb2 : b2 52 = .inr (4, [.ref (ad 53), .ref (ad 54), .ref (ad 55), .ref (ad 56), .int x0, .int x1, .int x2, .int x3, .int x4, .ref (ad 57), .int (nI i), .int (nI (min 100000 (w1 * 10 + (t.getD i 0 - 48)))), .int x7, .int (bI ((pFlags (t.drop i0) (false, false, false, false)).1).1), .int (bI ((pFlags (t.drop i0) (false, false, false, false)).1).2.1), .int (bI ((pFlags (t.drop i0) (false, false, false, false)).1).2.2.1), .int (bI ((pFlags (t.drop i0) (false, false, false, false)).1).2.2.2), .ref (ad 58), .int x12, .long v]) := by rw [eb2]; exact va_up_self _ _ _
            refine lv_aload_n hx hb dX4_readPlace_130 rfl (lv_at hl 0 rfl) ?_
            refine lv_dup hx hb dX4_readPlace_131 rfl ?_
            refine mx_get (ci := 4) (v := .int (nI i)) (C := RX4) (T := TX4) (N := 20) hx hb hts inX4 hown hK hP (by omega : 52 < n) hcb2 rfl 10 (by decide) (hts _ wm_278) (fun _ h9 => h9) rfl dX4_readPlace_132 ?_
            refine lv_iconst (v := 1) hx hb dX4_readPlace_135 (by decide) ?_
            refine lv_iadd hx hb dX4_readPlace_136 ?_
            refine mx_i (nI (i + 1)) (nI_1 i) ?_
            refine mx_put (ci := 4) (v := .int (nI (i + 1))) (ty := .int) (C := RX4) (T := TX4) (N := 20) hx hb hts inX4 tyX4 tyX4_ok nmX4 hown hK hP hD hS (by omega : 52 < n) hcb2 rfl 10 (by decide) (hts _ wm_278) (fun _ h9 => h9) rfl (by decide +kernel) rfl rfl (Nat.le_of_ble_eq_true rfl) dX4_readPlace_137 (fun H locs hP hS => ?_)
            obtain ⟨b3, eb3⟩ : ∃ z : Nat → va_E, z = va_up b2 52 (.inr (4, [.ref (ad 53), .ref (ad 54), .ref (ad 55), .ref (ad 56), .int x0, .int x1, .int x2, .int x3, .int x4, .ref (ad 57), .int (nI (i + 1)), .int (nI (min 100000 (w1 * 10 + (t.getD i 0 - 48)))), .int x7, .int (bI ((pFlags (t.drop i0) (false, false, false, false)).1).1), .int (bI ((pFlags (t.drop i0) (false, false, false, false)).1).2.1), .int (bI ((pFlags (t.drop i0) (false, false, false, false)).1).2.2.1), .int (bI ((pFlags (t.drop i0) (false, false, false, false)).1).2.2.2), .ref (ad 58), .int x12, .long v])) := ⟨_, rfl⟩
            have hP : va_P D vwCl (mw n ad b3) H := by rw [eb3]; exact hP
            have hsb3 : ∀ j, j ≠ 52 → b3 j = b2 j := fun j h => by rw [eb3]; exact va_up_ne _ _ h
            have hcb3 : b3 52 = .inr (4, [.ref (ad 53), .ref (ad 54), .ref (ad 55), .ref (ad 56), .int x0, .int x1, .int x2, .int x3, .int x4, .ref (ad 57), .int (nI (i + 1)), .int (nI (min 100000 (w1 * 10 + (t.getD i 0 - 48)))), .int x7, .int (bI ((pFlags (t.drop i0) (false, false, false, false)).1).1), .int (bI ((pFlags (t.drop i0) (false, false, false, false)).1).2.1), .int (bI ((pFlags (t.drop i0) (false, false, false, false)).1).2.2.1), .int (bI ((pFlags (t.drop i0) (false, false, false, false)).1).2.2.2), .ref (ad 58), .int x12, .long v]) := by rw [eb3]; exact va_up_self _ _ _
            refine lv_goto (tgt := 45) hx hb dX4_readPlace_140 (by decide) ?_
            exact ih (i + 1) _ b3 H locs ls (by omega) (by omega) (Nat.min_le_left _ _) (by rw [heq, dr_cons hlt]; exact if_pos hdg) hcb3 (fun j h => (hsb3 j h).trans ((hsb2 j h).trans ((hsb1 j h).trans (hs2 j h)))) hP hS (lv_sub hl [0] rfl)
  have loop1 : ∀ (q2 : Nat) (i : Nat) (f1 : fl4) (c1 : Nat → va_E) (H : Heap) (locs : List Loc) (ls : Array Slot), (i ≤ t.length) → (t.length < i + q2) → (pFlags (t.drop i0) (false, false, false, false) = pFlags (t.drop i) f1) → (c1 52 = rO ad x0 x1 x2 x3 x4 (nI i) (nI 0) x7 (bI f1.1) (bI f1.2.1) (bI f1.2.2.1) (bI f1.2.2.2) x12 v) → (∀ j, j ≠ 52 → c1 j = c j) → va_P D vwCl (mw n ad c1) H → va_S (mA n ad s.heap.size) s.heap H locs → lv_has ls 1 [(0, .ref (ad 52))] → W pg9 l ev9 (headSpec wsX4_readPlace ({ frames := 1, cells := 0, slots := 0, locals := 21 })).room s m ([.ref (ad 52)] : List Value).toArray below meth cd H locs 0 0 (MQ below (va_Qi (fun r c' => ∃ i kd, i ≤ t.length ∧ t.drop i = (pPlace (t.drop i0)).2.2 ∧ c' 52 = rO ad x0 x1 x2 x3 x4 (nI (i + 1)) (nI (pPlace (t.drop i0)).2.1) kd (bI ((pPlace (t.drop i0)).1).1) (bI ((pPlace (t.drop i0)).1).2.1) (bI ((pPlace (t.drop i0)).1).2.2.1) (bI ((pPlace (t.drop i0)).1).2.2.2) x12 v ∧ (∀ j, j ≠ 52 → c' j = c j) ∧ (i < t.length → kd = sB (t.getD i 0)) ∧ ((i < t.length ∧ isKd (t.getD i 0) = true ∧ r = 1) ∨ (¬ (i < t.length ∧ isKd (t.getD i 0) = true) ∧ r = 0))) (mW D n ad) (mA n ad s.heap.size)) ([.ref (ad 52)] : List Value).toArray s 0 0 (mA n ad s.heap.size)) (F0 m 25 ls []) := by
    intro q2
    induction q2 with
    | zero => intro i f1 c1 H locs ls hi hq heq hO1 hs1 hP hS hl; omega
    | succ q2 ih =>
      intro i f1 c1 H locs ls hi hq heq hO1 hs1 hP hS hl
      refine lv_aload_n hx hb dX4_readPlace_25 rfl (lv_at hl 0 rfl) ?_
      refine mx_ci (va_runV (As := []) (rest := []) ⟨hx, hb, hml, hown, hts⟩ (c_flag l D ca n ad c1 hn (i := i) hO1 (hB.keep (hs1 54 (by omega))) hx1 rfl hi _) (cwV 0 hts (gV wm_383 wm_385 ws_17 wm_5 wm_386) rfl rfl rfl (by decide +kernel) ⟨Nat.le_of_ble_eq_true rfl, Nat.le_of_ble_eq_true rfl⟩) (mx_pv (C := RX4) (T := TX4) (N := 20) (ci := 4) hK hP hD hN (by omega : 52 < n) hO1 rfl) rfl rfl hl.1 rfl (lv_room (Nat.le_of_ble_eq_true rfl)) dX4_readPlace_26 ⟨Nat.zero_le _, Nat.zero_le _⟩) (Nat.le_refl _) hS (fun r c2 H locs hw hP hS => ?_)
      obtain ⟨hw, hs3⟩ := hw
      refine lv_if_eq (tgt := 45) hx hb dX4_readPlace_29 (by decide) (fun hc1 => ?_) (fun hc1 => ?_)
      · skip
        obtain ⟨hno, -, hO2⟩ := hw.resolve_left (fun h => by obtain ⟨h1, f9, h2, h3, -⟩ := h; rw [h3] at hc1; exact absurd hc1 (by decide))
        have hfl : pFlags (t.drop i) f1 = (f1, t.drop i) := by
          rcases Nat.lt_or_ge i t.length with h9 | h9
          · rw [dr_cons h9]
            show (match pFlag _ _ with | some f' => pFlags _ f' | none => (f1, _) : fl4 × List Nat) = _
            cases h8 : pFlag (t.getD i 0) f1 with
            | none => rfl
            | some f' => exact absurd ⟨h9, f', h8⟩ hno
          · rw [dr_nil h9]; rfl
        have hf1 : f1 = (pFlags (t.drop i0) (false, false, false, false)).1 := by rw [heq, hfl]
        have hp2 : (pPlace (t.drop i0)).2 = pWid (t.drop i) 0 := by
          show pWid (pFlags (t.drop i0) (false, false, false, false)).2 0 = _
          rw [heq, hfl]
        exact loop2 (t.length + 1 - i + 1) i 0 c2 H locs ls hi (by omega) (by omega) hp2 (by rw [← hf1]; exact hO2) (fun j h => (hs3 j h).trans (hs1 j h)) hP hS (lv_sub hl [0] rfl)
      · skip
        obtain ⟨hlt, f2, hf2, -, hO2⟩ := hw.resolve_right (fun h => hc1 h.2.1)
        refine lv_aload_n hx hb dX4_readPlace_32 rfl (lv_at hl 0 rfl) ?_
        refine lv_dup hx hb dX4_readPlace_33 rfl ?_
        refine mx_get (ci := 4) (v := .int (nI i)) (C := RX4) (T := TX4) (N := 20) hx hb hts inX4 hown hK hP (by omega : 52 < n) hO2 rfl 10 (by decide) (hts _ wm_278) (fun _ h9 => h9) rfl dX4_readPlace_34 ?_
        refine lv_iconst (v := 1) hx hb dX4_readPlace_37 (by decide) ?_
        refine lv_iadd hx hb dX4_readPlace_38 ?_
        refine mx_i (nI (i + 1)) (nI_1 i) ?_
        refine mx_put (ci := 4) (v := .int (nI (i + 1))) (ty := .int) (C := RX4) (T := TX4) (N := 20) hx hb hts inX4 tyX4 tyX4_ok nmX4 hown hK hP hD hS (by omega : 52 < n) hO2 rfl 10 (by decide) (hts _ wm_278) (fun _ h9 => h9) rfl (by decide +kernel) rfl rfl (Nat.le_of_ble_eq_true rfl) dX4_readPlace_39 (fun H locs hP hS => ?_)
        obtain ⟨b1, eb1⟩ : ∃ z : Nat → va_E, z = va_up c2 52 (.inr (4, [.ref (ad 53), .ref (ad 54), .ref (ad 55), .ref (ad 56), .int x0, .int x1, .int x2, .int x3, .int x4, .ref (ad 57), .int (nI (i + 1)), .int (nI 0), .int x7, .int (bI f2.1), .int (bI f2.2.1), .int (bI f2.2.2.1), .int (bI f2.2.2.2), .ref (ad 58), .int x12, .long v])) := ⟨_, rfl⟩
        have hP : va_P D vwCl (mw n ad b1) H := by rw [eb1]; exact hP
        have hsb1 : ∀ j, j ≠ 52 → b1 j = c2 j := fun j h => by rw [eb1]; exact va_up_ne _ _ h
        have hcb1 : b1 52 = .inr (4, [.ref (ad 53), .ref (ad 54), .ref (ad 55), .ref (ad 56), .int x0, .int x1, .int x2, .int x3, .int x4, .ref (ad 57), .int (nI (i + 1)), .int (nI 0), .int x7, .int (bI f2.1), .int (bI f2.2.1), .int (bI f2.2.2.1), .int (bI f2.2.2.2), .ref (ad 58), .int x12, .long v]) := by rw [eb1]; exact va_up_self _ _ _
        refine lv_goto (tgt := 25) hx hb dX4_readPlace_42 (by decide) ?_
        exact ih (i + 1) f2 b1 H locs ls (by omega) (by omega) (by rw [heq, dr_cons hlt]; show (match pFlag _ _ with | some f' => pFlags _ f' | none => (f1, _) : fl4 × List Nat) = _; rw [hf2]) hcb1 (fun j h => (hsb1 j h).trans ((hs3 j h).trans (hs1 j h))) hP hS (lv_sub hl [0] rfl)
  refine lv_aload_n hx hb dX4_readPlace_0 rfl (lv_at hl 0 rfl) ?_
  refine lv_iconst (v := 0) hx hb dX4_readPlace_1 (by decide) ?_
  refine mx_i (bI false) (rfl) ?_
  refine mx_put (ci := 4) (v := .int (bI false)) (ty := .boolean) (C := RX4) (T := TX4) (N := 20) hx hb hts inX4 tyX4 tyX4_ok nmX4 hown hK hP hD hS (by omega : 52 < n) hO rfl 13 (by decide) (hts _ wm_281) (fun _ h9 => h9) rfl (by decide +kernel) rfl rfl (Nat.le_of_ble_eq_true rfl) dX4_readPlace_2 (fun H locs hP hS => ?_)
  obtain ⟨a1, ea1⟩ : ∃ z : Nat → va_E, z = va_up c 52 (.inr (4, [.ref (ad 53), .ref (ad 54), .ref (ad 55), .ref (ad 56), .int x0, .int x1, .int x2, .int x3, .int x4, .ref (ad 57), .int (nI i0), .int x6, .int x7, .int (bI false), .int (bI f.2.1), .int (bI f.2.2.1), .int (bI f.2.2.2), .ref (ad 58), .int x12, .long v])) := ⟨_, rfl⟩
  have hP : va_P D vwCl (mw n ad a1) H := by rw [ea1]; exact hP
  have hsa1 : ∀ j, j ≠ 52 → a1 j = c j := fun j h => by rw [ea1]; exact va_up_ne _ _ h
  have hca1 : a1 52 = .inr (4, [.ref (ad 53), .ref (ad 54), .ref (ad 55), .ref (ad 56), .int x0, .int x1, .int x2, .int x3, .int x4, .ref (ad 57), .int (nI i0), .int x6, .int x7, .int (bI false), .int (bI f.2.1), .int (bI f.2.2.1), .int (bI f.2.2.2), .ref (ad 58), .int x12, .long v]) := by rw [ea1]; exact va_up_self _ _ _
  refine lv_aload_n hx hb dX4_readPlace_5 rfl (lv_at hl 0 rfl) ?_
  refine lv_iconst (v := 0) hx hb dX4_readPlace_6 (by decide) ?_
  refine mx_i (bI false) (rfl) ?_
  refine mx_put (ci := 4) (v := .int (bI false)) (ty := .boolean) (C := RX4) (T := TX4) (N := 20) hx hb hts inX4 tyX4 tyX4_ok nmX4 hown hK hP hD hS (by omega : 52 < n) hca1 rfl 14 (by decide) (hts _ wm_282) (fun _ h9 => h9) rfl (by decide +kernel) rfl rfl (Nat.le_of_ble_eq_true rfl) dX4_readPlace_7 (fun H locs hP hS => ?_)
  obtain ⟨a2, ea2⟩ : ∃ z : Nat → va_E, z = va_up a1 52 (.inr (4, [.ref (ad 53), .ref (ad 54), .ref (ad 55), .ref (ad 56), .int x0, .int x1, .int x2, .int x3, .int x4, .ref (ad 57), .int (nI i0), .int x6, .int x7, .int (bI false), .int (bI false), .int (bI f.2.2.1), .int (bI f.2.2.2), .ref (ad 58), .int x12, .long v])) := ⟨_, rfl⟩
  have hP : va_P D vwCl (mw n ad a2) H := by rw [ea2]; exact hP
  have hsa2 : ∀ j, j ≠ 52 → a2 j = a1 j := fun j h => by rw [ea2]; exact va_up_ne _ _ h
  have hca2 : a2 52 = .inr (4, [.ref (ad 53), .ref (ad 54), .ref (ad 55), .ref (ad 56), .int x0, .int x1, .int x2, .int x3, .int x4, .ref (ad 57), .int (nI i0), .int x6, .int x7, .int (bI false), .int (bI false), .int (bI f.2.2.1), .int (bI f.2.2.2), .ref (ad 58), .int x12, .long v]) := by rw [ea2]; exact va_up_self _ _ _
  refine lv_aload_n hx hb dX4_readPlace_10 rfl (lv_at hl 0 rfl) ?_
  refine lv_iconst (v := 0) hx hb dX4_readPlace_11 (by decide) ?_
  refine mx_i (bI false) (rfl) ?_
  refine mx_put (ci := 4) (v := .int (bI false)) (ty := .boolean) (C := RX4) (T := TX4) (N := 20) hx hb hts inX4 tyX4 tyX4_ok nmX4 hown hK hP hD hS (by omega : 52 < n) hca2 rfl 15 (by decide) (hts _ wm_283) (fun _ h9 => h9) rfl (by decide +kernel) rfl rfl (Nat.le_of_ble_eq_true rfl) dX4_readPlace_12 (fun H locs hP hS => ?_)
  obtain ⟨a3, ea3⟩ : ∃ z : Nat → va_E, z = va_up a2 52 (.inr (4, [.ref (ad 53), .ref (ad 54), .ref (ad 55), .ref (ad 56), .int x0, .int x1, .int x2, .int x3, .int x4, .ref (ad 57), .int (nI i0), .int x6, .int x7, .int (bI false), .int (bI false), .int (bI false), .int (bI f.2.2.2), .ref (ad 58), .int x12, .long v])) := ⟨_, rfl⟩
  have hP : va_P D vwCl (mw n ad a3) H := by rw [ea3]; exact hP
  have hsa3 : ∀ j, j ≠ 52 → a3 j = a2 j := fun j h => by rw [ea3]; exact va_up_ne _ _ h
  have hca3 : a3 52 = .inr (4, [.ref (ad 53), .ref (ad 54), .ref (ad 55), .ref (ad 56), .int x0, .int x1, .int x2, .int x3, .int x4, .ref (ad 57), .int (nI i0), .int x6, .int x7, .int (bI false), .int (bI false), .int (bI false), .int (bI f.2.2.2), .ref (ad 58), .int x12, .long v]) := by rw [ea3]; exact va_up_self _ _ _
  refine lv_aload_n hx hb dX4_readPlace_15 rfl (lv_at hl 0 rfl) ?_
  refine lv_iconst (v := 0) hx hb dX4_readPlace_16 (by decide) ?_
  refine mx_i (bI false) (rfl) ?_
  refine mx_put (ci := 4) (v := .int (bI false)) (ty := .boolean) (C := RX4) (T := TX4) (N := 20) hx hb hts inX4 tyX4 tyX4_ok nmX4 hown hK hP hD hS (by omega : 52 < n) hca3 rfl 16 (by decide) (hts _ wm_284) (fun _ h9 => h9) rfl (by decide +kernel) rfl rfl (Nat.le_of_ble_eq_true rfl) dX4_readPlace_17 (fun H locs hP hS => ?_)
  obtain ⟨a4, ea4⟩ : ∃ z : Nat → va_E, z = va_up a3 52 (.inr (4, [.ref (ad 53), .ref (ad 54), .ref (ad 55), .ref (ad 56), .int x0, .int x1, .int x2, .int x3, .int x4, .ref (ad 57), .int (nI i0), .int x6, .int x7, .int (bI false), .int (bI false), .int (bI false), .int (bI false), .ref (ad 58), .int x12, .long v])) := ⟨_, rfl⟩
  have hP : va_P D vwCl (mw n ad a4) H := by rw [ea4]; exact hP
  have hsa4 : ∀ j, j ≠ 52 → a4 j = a3 j := fun j h => by rw [ea4]; exact va_up_ne _ _ h
  have hca4 : a4 52 = .inr (4, [.ref (ad 53), .ref (ad 54), .ref (ad 55), .ref (ad 56), .int x0, .int x1, .int x2, .int x3, .int x4, .ref (ad 57), .int (nI i0), .int x6, .int x7, .int (bI false), .int (bI false), .int (bI false), .int (bI false), .ref (ad 58), .int x12, .long v]) := by rw [ea4]; exact va_up_self _ _ _
  refine lv_aload_n hx hb dX4_readPlace_20 rfl (lv_at hl 0 rfl) ?_
  refine lv_iconst (v := 0) hx hb dX4_readPlace_21 (by decide) ?_
  refine mx_i (nI 0) (nI_0.symm) ?_
  refine mx_put (ci := 4) (v := .int (nI 0)) (ty := .int) (C := RX4) (T := TX4) (N := 20) hx hb hts inX4 tyX4 tyX4_ok nmX4 hown hK hP hD hS (by omega : 52 < n) hca4 rfl 11 (by decide) (hts _ wm_279) (fun _ h9 => h9) rfl (by decide +kernel) rfl rfl (Nat.le_of_ble_eq_true rfl) dX4_readPlace_22 (fun H locs hP hS => ?_)
  obtain ⟨a5, ea5⟩ : ∃ z : Nat → va_E, z = va_up a4 52 (.inr (4, [.ref (ad 53), .ref (ad 54), .ref (ad 55), .ref (ad 56), .int x0, .int x1, .int x2, .int x3, .int x4, .ref (ad 57), .int (nI i0), .int (nI 0), .int x7, .int (bI false), .int (bI false), .int (bI false), .int (bI false), .ref (ad 58), .int x12, .long v])) := ⟨_, rfl⟩
  have hP : va_P D vwCl (mw n ad a5) H := by rw [ea5]; exact hP
  have hsa5 : ∀ j, j ≠ 52 → a5 j = a4 j := fun j h => by rw [ea5]; exact va_up_ne _ _ h
  have hca5 : a5 52 = .inr (4, [.ref (ad 53), .ref (ad 54), .ref (ad 55), .ref (ad 56), .int x0, .int x1, .int x2, .int x3, .int x4, .ref (ad 57), .int (nI i0), .int (nI 0), .int x7, .int (bI false), .int (bI false), .int (bI false), .int (bI false), .ref (ad 58), .int x12, .long v]) := by rw [ea5]; exact va_up_self _ _ _
  exact loop1 (t.length + 1 - i0 + 1) i0 (false, false, false, false) a5 _ _ ls hi0 (by omega) rfl hca5 (fun j h => (hsa5 j h).trans ((hsa4 j h).trans ((hsa3 j h).trans ((hsa2 j h).trans (hsa1 j h))))) hP hS (lv_sub hl [0] rfl)
