set_option maxHeartbeats 4000000 in
set_option maxRecDepth 100000 in
/-- isDecimalDigit(x) -/
theorem c_isDig (l : Launch) (D : va_G) (ca : Nat → ClassId) (n : Nat) (ad : Nat → Nat) (c : Nat → va_E) (x : Int32) : mInt l yX3_isDecimalDigit wsX3_isDecimalDigit ({ frames := 0, cells := 0, slots := 0, locals := 0 }) [.int x] D (tTY ca) n ad c (fun r c' => c' = c ∧ ((48 ≤ x ∧ x ≤ 57 ∧ r = 1) ∨ (¬ (48 ≤ x ∧ x ≤ 57) ∧ r = 0))) := by
  intro sz
  refine Met.ofW (cc := cX3_isDecimalDigit) (maxL := 1) (ret := (some .boolean)) (by decide) rfl ?_
  intro pg9 ev9 s m args below meth cd s₁ B hml hv
  obtain ⟨rfl, hsz, hP, hK, hD0, hN⟩ := hv
  have hx := B.exec
  have hb := B.bytes
  have hr := B.returns
  have hts := fun (w : Cond) (h : w ∈ WSa) => atoms_spec (ws := wsX3_isDecimalDigit) B.pre w (List.mem_cons_of_mem _ h)
  have hown : s.vm.findClass RX3 = some m.cls := findClass_of_methodNamed B.named
  have hlocks := B.notSynchronized
  subst hsz
  have hD : ∀ c, va_D (fun _ => True) (mw n ad c) := fun c' => mw_D hD0 c'
  have hS : va_S (mA n ad s.heap.size) s.heap s.heap [] := va_S.rf
  have hl := lv_entry ([.int x]) (n := 1) (Nat.le_of_ble_eq_true rfl)
  rw [lg_entry_eq]
  generalize (lg_sl ([.int x]) ++ List.replicate (1 - (lg_sl ([.int x])).length) Slot.unset).toArray = ls at hl ⊢
  have hl : lv_has ls 1 [(0, .int x)] := hl
  refine lv_iload_n hx hb dX3_isDecimalDigit_0 rfl (lv_at hl 0 rfl) ?_
  refine lv_bipush (v := 48) hx hb dX3_isDecimalDigit_1 (by decide) ?_
  refine lv_icmp_lt (tgt := 16) hx hb dX3_isDecimalDigit_3 (by decide) (fun hc => ?_) (fun hc => ?_)
  · skip
    refine lv_iconst (v := 0) hx hb dX3_isDecimalDigit_16 (by decide) ?_
    exact mx_zret hx hb hr hlocks rfl hP hS (⟨rfl, Or.inr ⟨fun h => absurd h.1 (Int32.not_le.mpr hc), rfl⟩⟩) dX3_isDecimalDigit_17
  · skip
    refine lv_iload_n hx hb dX3_isDecimalDigit_6 rfl (lv_at hl 0 rfl) ?_
    refine lv_bipush (v := 57) hx hb dX3_isDecimalDigit_7 (by decide) ?_
    refine lv_icmp_gt (tgt := 16) hx hb dX3_isDecimalDigit_9 (by decide) (fun hc2 => ?_) (fun hc2 => ?_)
    · skip
      refine lv_iconst (v := 0) hx hb dX3_isDecimalDigit_16 (by decide) ?_
      exact mx_zret hx hb hr hlocks rfl hP hS (⟨rfl, Or.inr ⟨fun h => absurd h.2 (Int32.not_le.mpr hc2), rfl⟩⟩) dX3_isDecimalDigit_17
    · skip
      refine lv_iconst (v := 1) hx hb dX3_isDecimalDigit_12 (by decide) ?_
      refine lv_goto (tgt := 17) hx hb dX3_isDecimalDigit_13 (by decide) ?_
      exact mx_zret hx hb hr hlocks rfl hP hS (⟨rfl, Or.inl ⟨Int32.not_lt.mp hc, Int32.not_lt.mp hc2, rfl⟩⟩) dX3_isDecimalDigit_17
set_option maxHeartbeats 4000000 in
set_option maxRecDepth 100000 in
/-- Place.setFlag(x) -/
theorem c_Place_setFlag (l : Launch) (D : va_G) (ca : Nat → ClassId) (n : Nat) (ad : Nat → Nat) (c : Nat → va_E) {k : Nat} {f : fl4} {w kd bh : Int32} (hk : k < n) (hL : tPl c k f w kd bh) (x : Int32) (b : Nat) (hb8 : b < 256) (hxb : x = nI b) : mInt l yX1_setFlag wsX1_setFlag ({ frames := 0, cells := 0, slots := 0, locals := 0 }) [.ref (ad k), .int x] D (tTY ca) n ad c (fun r c' => (∃ f', pFlag b f = some f' ∧ r = 1 ∧ tPl c' k f' w kd bh ∧ ∀ j, j ≠ k → c' j = c j) ∨ (pFlag b f = none ∧ r = 0 ∧ c' = c)) := by
  intro sz
  refine Met.ofW (cc := cX1_setFlag) (maxL := 2) (ret := (some .boolean)) (by decide) rfl ?_
  intro pg9 ev9 s m args below meth cd s₁ B hml hv
  obtain ⟨rfl, hsz, hP, hK, hD0, hN⟩ := hv
  have hx := B.exec
  have hb := B.bytes
  have hr := B.returns
  have hts := fun (w : Cond) (h : w ∈ WSa) => atoms_spec (ws := wsX1_setFlag) B.pre w (List.mem_cons_of_mem _ h)
  have hown : s.vm.findClass RX1 = some m.cls := findClass_of_methodNamed B.named
  have hlocks := B.notSynchronized
  subst hsz
  have hD : ∀ c, va_D (fun _ => True) (mw n ad c) := fun c' => mw_D hD0 c'
  have hS : va_S (mA n ad s.heap.size) s.heap s.heap [] := va_S.rf
  have hl := lv_entry ([.ref (ad k), .int x]) (n := 2) (Nat.le_of_ble_eq_true rfl)
  rw [lg_entry_eq]
  generalize (lg_sl ([.ref (ad k), .int x]) ++ List.replicate (2 - (lg_sl ([.ref (ad k), .int x])).length) Slot.unset).toArray = ls at hl ⊢
  have hl : lv_has ls 2 [(0, .ref (ad k)), (1, .int x)] := hl
  refine lv_iload_n hx hb dX1_setFlag_0 rfl (lv_at hl 1 rfl) ?_
  by_cases h32 : x = 32
  · skip
    have hbk : b = 32 := (nI_eq (by omega) (by omega)).mp (by rw [← hxb, h32]; rfl)
    refine lv_lookup (off := 64) (tgt := 65) hx hb dX1_setFlag_1 (by decide) (by first | (rw [h32]; rfl) | rw [h32]) (by decide) ?_
    refine lv_aload_n hx hb dX1_setFlag_65 rfl (lv_at hl 0 rfl) ?_
    refine lv_iconst (v := 1) hx hb dX1_setFlag_66 (by decide) ?_
    refine mx_i (bI true) (rfl) ?_
    refine mx_put (ci := 1) (v := .int (bI true)) (ty := .boolean) (C := RX1) (T := TX1) (N := 7) hx hb hts inX1 tyX1 tyX1_ok nmX1 hown hK hP hD hS hk hL rfl 3 (by decide) (hts _ wm_44) (fun _ h9 => h9) rfl (by decide +kernel) rfl rfl (Nat.le_of_ble_eq_true rfl) dX1_setFlag_67 (fun H locs hP hS => ?_)
    obtain ⟨c1, ec1⟩ : ∃ z : Nat → va_E, z = va_up c k (.inr (1, [.int (bI f.1), .int (bI f.2.1), .int (bI f.2.2.1), .int (bI true), .int w, .int kd, .int bh])) := ⟨_, rfl⟩
    have hP : va_P D vwCl (mw n ad c1) H := by rw [ec1]; exact hP
    have hsc1 : ∀ j, j ≠ k → c1 j = c j := fun j h => by rw [ec1]; exact va_up_ne _ _ h
    have hcc1 : c1 k = .inr (1, [.int (bI f.1), .int (bI f.2.1), .int (bI f.2.2.1), .int (bI true), .int w, .int kd, .int bh]) := by rw [ec1]; exact va_up_self _ _ _
    refine lv_iconst (v := 1) hx hb dX1_setFlag_70 (by decide) ?_
    exact mx_zret hx hb hr hlocks rfl hP hS (Or.inl ⟨(f.1, f.2.1, f.2.2.1, true), by rw [hbk]; rfl, rfl, hcc1, hsc1⟩) dX1_setFlag_71
  by_cases h43 : x = 43
  · skip
    have hbk : b = 43 := (nI_eq (by omega) (by omega)).mp (by rw [← hxb, h43]; rfl)
    refine lv_lookup (off := 57) (tgt := 58) hx hb dX1_setFlag_1 (by decide) (by first | (rw [h43]; rfl) | rw [h43]) (by decide) ?_
    refine lv_aload_n hx hb dX1_setFlag_58 rfl (lv_at hl 0 rfl) ?_
    refine lv_iconst (v := 1) hx hb dX1_setFlag_59 (by decide) ?_
    refine mx_i (bI true) (rfl) ?_
    refine mx_put (ci := 1) (v := .int (bI true)) (ty := .boolean) (C := RX1) (T := TX1) (N := 7) hx hb hts inX1 tyX1 tyX1_ok nmX1 hown hK hP hD hS hk hL rfl 2 (by decide) (hts _ wm_43) (fun _ h9 => h9) rfl (by decide +kernel) rfl rfl (Nat.le_of_ble_eq_true rfl) dX1_setFlag_60 (fun H locs hP hS => ?_)
    obtain ⟨c1, ec1⟩ : ∃ z : Nat → va_E, z = va_up c k (.inr (1, [.int (bI f.1), .int (bI f.2.1), .int (bI true), .int (bI f.2.2.2), .int w, .int kd, .int bh])) := ⟨_, rfl⟩
    have hP : va_P D vwCl (mw n ad c1) H := by rw [ec1]; exact hP
    have hsc1 : ∀ j, j ≠ k → c1 j = c j := fun j h => by rw [ec1]; exact va_up_ne _ _ h
    have hcc1 : c1 k = .inr (1, [.int (bI f.1), .int (bI f.2.1), .int (bI true), .int (bI f.2.2.2), .int w, .int kd, .int bh]) := by rw [ec1]; exact va_up_self _ _ _
    refine lv_iconst (v := 1) hx hb dX1_setFlag_63 (by decide) ?_
    exact mx_zret hx hb hr hlocks rfl hP hS (Or.inl ⟨(f.1, f.2.1, true, f.2.2.2), by rw [hbk]; rfl, rfl, hcc1, hsc1⟩) dX1_setFlag_64
  by_cases h45 : x = 45
  · skip
    have hbk : b = 45 := (nI_eq (by omega) (by omega)).mp (by rw [← hxb, h45]; rfl)
    refine lv_lookup (off := 43) (tgt := 44) hx hb dX1_setFlag_1 (by decide) (by first | (rw [h45]; rfl) | rw [h45]) (by decide) ?_
    refine lv_aload_n hx hb dX1_setFlag_44 rfl (lv_at hl 0 rfl) ?_
    refine lv_iconst (v := 1) hx hb dX1_setFlag_45 (by decide) ?_
    refine mx_i (bI true) (rfl) ?_
    refine mx_put (ci := 1) (v := .int (bI true)) (ty := .boolean) (C := RX1) (T := TX1) (N := 7) hx hb hts inX1 tyX1 tyX1_ok nmX1 hown hK hP hD hS hk hL rfl 0 (by decide) (hts _ wm_39) (fun _ h9 => h9) rfl (by decide +kernel) rfl rfl (Nat.le_of_ble_eq_true rfl) dX1_setFlag_46 (fun H locs hP hS => ?_)
    obtain ⟨c1, ec1⟩ : ∃ z : Nat → va_E, z = va_up c k (.inr (1, [.int (bI true), .int (bI f.2.1), .int (bI f.2.2.1), .int (bI f.2.2.2), .int w, .int kd, .int bh])) := ⟨_, rfl⟩
    have hP : va_P D vwCl (mw n ad c1) H := by rw [ec1]; exact hP
    have hsc1 : ∀ j, j ≠ k → c1 j = c j := fun j h => by rw [ec1]; exact va_up_ne _ _ h
    have hcc1 : c1 k = .inr (1, [.int (bI true), .int (bI f.2.1), .int (bI f.2.2.1), .int (bI f.2.2.2), .int w, .int kd, .int bh]) := by rw [ec1]; exact va_up_self _ _ _
    refine lv_iconst (v := 1) hx hb dX1_setFlag_49 (by decide) ?_
    exact mx_zret hx hb hr hlocks rfl hP hS (Or.inl ⟨(true, f.2.1, f.2.2.1, f.2.2.2), by rw [hbk]; rfl, rfl, hcc1, hsc1⟩) dX1_setFlag_50
  by_cases h48 : x = 48
  · skip
    have hbk : b = 48 := (nI_eq (by omega) (by omega)).mp (by rw [← hxb, h48]; rfl)
    refine lv_lookup (off := 50) (tgt := 51) hx hb dX1_setFlag_1 (by decide) (by first | (rw [h48]; rfl) | rw [h48]) (by decide) ?_
    refine lv_aload_n hx hb dX1_setFlag_51 rfl (lv_at hl 0 rfl) ?_
    refine lv_iconst (v := 1) hx hb dX1_setFlag_52 (by decide) ?_
    refine mx_i (bI true) (rfl) ?_
    refine mx_put (ci := 1) (v := .int (bI true)) (ty := .boolean) (C := RX1) (T := TX1) (N := 7) hx hb hts inX1 tyX1 tyX1_ok nmX1 hown hK hP hD hS hk hL rfl 1 (by decide) (hts _ wm_41) (fun _ h9 => h9) rfl (by decide +kernel) rfl rfl (Nat.le_of_ble_eq_true rfl) dX1_setFlag_53 (fun H locs hP hS => ?_)
    obtain ⟨c1, ec1⟩ : ∃ z : Nat → va_E, z = va_up c k (.inr (1, [.int (bI f.1), .int (bI true), .int (bI f.2.2.1), .int (bI f.2.2.2), .int w, .int kd, .int bh])) := ⟨_, rfl⟩
    have hP : va_P D vwCl (mw n ad c1) H := by rw [ec1]; exact hP
    have hsc1 : ∀ j, j ≠ k → c1 j = c j := fun j h => by rw [ec1]; exact va_up_ne _ _ h
    have hcc1 : c1 k = .inr (1, [.int (bI f.1), .int (bI true), .int (bI f.2.2.1), .int (bI f.2.2.2), .int w, .int kd, .int bh]) := by rw [ec1]; exact va_up_self _ _ _
    refine lv_iconst (v := 1) hx hb dX1_setFlag_56 (by decide) ?_
    exact mx_zret hx hb hr hlocks rfl hP hS (Or.inl ⟨(f.1, true, f.2.2.1, f.2.2.2), by rw [hbk]; rfl, rfl, hcc1, hsc1⟩) dX1_setFlag_57
  refine lv_lookup (off := 71) (tgt := 72) hx hb dX1_setFlag_1 (by decide) ((lv_osw h32 (by decide)).trans ((lv_osw h43 (by decide)).trans ((lv_osw h45 (by decide)).trans ((lv_osw h48 (by decide)).trans (rfl))))) (by decide) ?_
  refine lv_iconst (v := 0) hx hb dX1_setFlag_72 (by decide) ?_
  exact mx_zret hx hb hr hlocks rfl hP hS (Or.inr ⟨by unfold pFlag; rw [if_neg (fun h => h45 (by rw [hxb, h]; rfl)), if_neg (fun h => h48 (by rw [hxb, h]; rfl)), if_neg (fun h => h43 (by rw [hxb, h]; rfl)), if_neg (fun h => h32 (by rw [hxb, h]; rfl))], rfl, rfl⟩) dX1_setFlag_73
set_option maxHeartbeats 4000000 in
set_option maxRecDepth 100000 in
/-- Place.isKind(x) -/
theorem c_isKind (l : Launch) (D : va_G) (ca : Nat → ClassId) (n : Nat) (ad : Nat → Nat) (c : Nat → va_E) (x : Int32) : mInt l yX1_isKind wsX1_isKind ({ frames := 0, cells := 0, slots := 0, locals := 0 }) [.int x] D (tTY ca) n ad c (fun r c' => c' = c ∧ (((x = 37 ∨ x = 88 ∨ x = 99 ∨ x = 100 ∨ x = 111 ∨ x = 115 ∨ x = 120) ∧ r = 1) ∨ (¬ (x = 37 ∨ x = 88 ∨ x = 99 ∨ x = 100 ∨ x = 111 ∨ x = 115 ∨ x = 120) ∧ r = 0))) := by
  intro sz
  refine Met.ofW (cc := cX1_isKind) (maxL := 1) (ret := (some .boolean)) (by decide) rfl ?_
  intro pg9 ev9 s m args below meth cd s₁ B hml hv
  obtain ⟨rfl, hsz, hP, hK, hD0, hN⟩ := hv
  have hx := B.exec
  have hb := B.bytes
  have hr := B.returns
  have hts := fun (w : Cond) (h : w ∈ WSa) => atoms_spec (ws := wsX1_isKind) B.pre w (List.mem_cons_of_mem _ h)
  have hown : s.vm.findClass RX1 = some m.cls := findClass_of_methodNamed B.named
  have hlocks := B.notSynchronized
  subst hsz
  have hD : ∀ c, va_D (fun _ => True) (mw n ad c) := fun c' => mw_D hD0 c'
  have hS : va_S (mA n ad s.heap.size) s.heap s.heap [] := va_S.rf
  have hl := lv_entry ([.int x]) (n := 1) (Nat.le_of_ble_eq_true rfl)
  rw [lg_entry_eq]
  generalize (lg_sl ([.int x]) ++ List.replicate (1 - (lg_sl ([.int x])).length) Slot.unset).toArray = ls at hl ⊢
  have hl : lv_has ls 1 [(0, .int x)] := hl
  refine lv_iload_n hx hb dX1_isKind_0 rfl (lv_at hl 0 rfl) ?_
  by_cases h37 : x = 37
  · skip
    refine lv_lookup (off := 67) (tgt := 68) hx hb dX1_isKind_1 (by decide) (by first | (rw [h37]; rfl) | rw [h37]) (by decide) ?_
    refine lv_iconst (v := 1) hx hb dX1_isKind_68 (by decide) ?_
    exact mx_zret hx hb hr hlocks rfl hP hS (⟨rfl, Or.inl ⟨by simp [h37], rfl⟩⟩) dX1_isKind_69
  by_cases h88 : x = 88
  · skip
    refine lv_lookup (off := 67) (tgt := 68) hx hb dX1_isKind_1 (by decide) (by first | (rw [h88]; rfl) | rw [h88]) (by decide) ?_
    refine lv_iconst (v := 1) hx hb dX1_isKind_68 (by decide) ?_
    exact mx_zret hx hb hr hlocks rfl hP hS (⟨rfl, Or.inl ⟨by simp [h88], rfl⟩⟩) dX1_isKind_69
  by_cases h99 : x = 99
  · skip
    refine lv_lookup (off := 67) (tgt := 68) hx hb dX1_isKind_1 (by decide) (by first | (rw [h99]; rfl) | rw [h99]) (by decide) ?_
    refine lv_iconst (v := 1) hx hb dX1_isKind_68 (by decide) ?_
    exact mx_zret hx hb hr hlocks rfl hP hS (⟨rfl, Or.inl ⟨by simp [h99], rfl⟩⟩) dX1_isKind_69
  by_cases h100 : x = 100
  · skip
    refine lv_lookup (off := 67) (tgt := 68) hx hb dX1_isKind_1 (by decide) (by first | (rw [h100]; rfl) | rw [h100]) (by decide) ?_
    refine lv_iconst (v := 1) hx hb dX1_isKind_68 (by decide) ?_
    exact mx_zret hx hb hr hlocks rfl hP hS (⟨rfl, Or.inl ⟨by simp [h100], rfl⟩⟩) dX1_isKind_69
  by_cases h111 : x = 111
  · skip
    refine lv_lookup (off := 67) (tgt := 68) hx hb dX1_isKind_1 (by decide) (by first | (rw [h111]; rfl) | rw [h111]) (by decide) ?_
    refine lv_iconst (v := 1) hx hb dX1_isKind_68 (by decide) ?_
    exact mx_zret hx hb hr hlocks rfl hP hS (⟨rfl, Or.inl ⟨by simp [h111], rfl⟩⟩) dX1_isKind_69
  by_cases h115 : x = 115
  · skip
    refine lv_lookup (off := 67) (tgt := 68) hx hb dX1_isKind_1 (by decide) (by first | (rw [h115]; rfl) | rw [h115]) (by decide) ?_
    refine lv_iconst (v := 1) hx hb dX1_isKind_68 (by decide) ?_
    exact mx_zret hx hb hr hlocks rfl hP hS (⟨rfl, Or.inl ⟨by simp [h115], rfl⟩⟩) dX1_isKind_69
  by_cases h120 : x = 120
  · skip
    refine lv_lookup (off := 67) (tgt := 68) hx hb dX1_isKind_1 (by decide) (by first | (rw [h120]; rfl) | rw [h120]) (by decide) ?_
    refine lv_iconst (v := 1) hx hb dX1_isKind_68 (by decide) ?_
    exact mx_zret hx hb hr hlocks rfl hP hS (⟨rfl, Or.inl ⟨by simp [h120], rfl⟩⟩) dX1_isKind_69
  refine lv_lookup (off := 69) (tgt := 70) hx hb dX1_isKind_1 (by decide) ((lv_osw h37 (by decide)).trans ((lv_osw h88 (by decide)).trans ((lv_osw h99 (by decide)).trans ((lv_osw h100 (by decide)).trans ((lv_osw h111 (by decide)).trans ((lv_osw h115 (by decide)).trans ((lv_osw h120 (by decide)).trans (rfl)))))))) (by decide) ?_
  refine lv_iconst (v := 0) hx hb dX1_isKind_70 (by decide) ?_
  exact mx_zret hx hb hr hlocks rfl hP hS (⟨rfl, Or.inr ⟨by simp [h37, h88, h99, h100, h111, h115, h120], rfl⟩⟩) dX1_isKind_71
set_option maxHeartbeats 4000000 in
set_option maxRecDepth 100000 in
/-- Place.signOf(v) -/
theorem c_Place_signOf (l : Launch) (D : va_G) (ca : Nat → ClassId) (n : Nat) (ad : Nat → Nat) (c : Nat → va_E) {k : Nat} {f : fl4} {w kd bh : Int32} (hk : k < n) (hL : tPl c k f w kd bh) (v : Int64) : mInt l yX1_signOf wsX1_signOf ({ frames := 0, cells := 0, slots := 0, locals := 0 }) [.ref (ad k), .long v] D (tTY ca) n ad c (fun r c' => c' = c ∧ r = (if v < 0 then 45 else if f.2.2.1 = true then 43 else if f.2.2.2 = true then 32 else 0)) := by
  intro sz
  refine Met.ofW (cc := cX1_signOf) (maxL := 3) (ret := (some .int)) (by decide) rfl ?_
  intro pg9 ev9 s m args below meth cd s₁ B hml hv
  obtain ⟨rfl, hsz, hP, hK, hD0, hN⟩ := hv
  have hx := B.exec
  have hb := B.bytes
  have hr := B.returns
  have hts := fun (w : Cond) (h : w ∈ WSa) => atoms_spec (ws := wsX1_signOf) B.pre w (List.mem_cons_of_mem _ h)
  have hown : s.vm.findClass RX1 = some m.cls := findClass_of_methodNamed B.named
  have hlocks := B.notSynchronized
  subst hsz
  have hD : ∀ c, va_D (fun _ => True) (mw n ad c) := fun c' => mw_D hD0 c'
  have hS : va_S (mA n ad s.heap.size) s.heap s.heap [] := va_S.rf
  have hl := lv_entry ([.ref (ad k), .long v]) (n := 3) (Nat.le_of_ble_eq_true rfl)
  rw [lg_entry_eq]
  generalize (lg_sl ([.ref (ad k), .long v]) ++ List.replicate (3 - (lg_sl ([.ref (ad k), .long v])).length) Slot.unset).toArray = ls at hl ⊢
  have hl : lv_has ls 3 [(0, .ref (ad k)), (1, .long v)] := hl
  refine lv_lload_n hx hb dX1_signOf_0 rfl (lv_at hl 1 rfl) ?_
  refine lv_lconst (v := 0) hx hb dX1_signOf_1 (by decide) ?_
  refine W.lcmp hx hb dX1_signOf_2 ?_
  refine lv_if_ge (tgt := 9) hx hb dX1_signOf_3 (by decide) (fun hc => ?_) (fun hc => ?_)
  · skip
    have hv : ¬ v < 0 := Int64.not_lt.mpr ((lg_cmp_ge _ _).mp hc)
    refine lv_aload_n hx hb dX1_signOf_9 rfl (lv_at hl 0 rfl) ?_
    refine mx_get (ci := 1) (v := .int (bI f.2.2.1)) (C := RX1) (T := TX1) (N := 7) hx hb hts inX1 hown hK hP hk hL rfl 2 (by decide) (hts _ wm_43) (fun _ h9 => h9) rfl dX1_signOf_10 ?_
    refine lv_if_eq (tgt := 19) hx hb dX1_signOf_13 (by decide) (fun hc2 => ?_) (fun hc2 => ?_)
    · skip
      refine lv_aload_n hx hb dX1_signOf_19 rfl (lv_at hl 0 rfl) ?_
      refine mx_get (ci := 1) (v := .int (bI f.2.2.2)) (C := RX1) (T := TX1) (N := 7) hx hb hts inX1 hown hK hP hk hL rfl 3 (by decide) (hts _ wm_44) (fun _ h9 => h9) rfl dX1_signOf_20 ?_
      refine lv_if_eq (tgt := 31) hx hb dX1_signOf_23 (by decide) (fun hc3 => ?_) (fun hc3 => ?_)
      · skip
        refine lv_iconst (v := 0) hx hb dX1_signOf_31 (by decide) ?_
        exact mx_iret hx hb hr hlocks hP hS (⟨rfl, by rw [if_neg hv, if_neg (by rw [bI_eq hc2]; decide), if_neg (by rw [bI_eq hc3]; decide)]⟩) dX1_signOf_32
      · skip
        refine lv_bipush (v := 32) hx hb dX1_signOf_26 (by decide) ?_
        refine lv_goto (tgt := 32) hx hb dX1_signOf_28 (by decide) ?_
        exact mx_iret hx hb hr hlocks hP hS (⟨rfl, by rw [if_neg hv, if_neg (by rw [bI_eq hc2]; decide), if_pos (bI_ne hc3)]⟩) dX1_signOf_32
    · skip
      refine lv_bipush (v := 43) hx hb dX1_signOf_16 (by decide) ?_
      exact mx_iret hx hb hr hlocks hP hS (⟨rfl, by rw [if_neg hv, if_pos (bI_ne hc2)]⟩) dX1_signOf_18
  · skip
    refine lv_bipush (v := 45) hx hb dX1_signOf_6 (by decide) ?_
    exact mx_iret hx hb hr hlocks hP hS (⟨rfl, by rw [if_pos (Int64.not_le.mp (fun h => hc ((lg_cmp_ge _ _).mpr h)))]⟩) dX1_signOf_8
set_option maxHeartbeats 4000000 in
set_option maxRecDepth 100000 in
/-- Place.readFlags -/
theorem c_Place_readFlags (l : Launch) (D : va_G) (ca : Nat → ClassId) (n : Nat) (ad : Nat → Nat) (c : Nat → va_E) {k : Nat} {f : fl4} {w kd bh : Int32} (hk : k < n) (hL : tPl c k f w kd bh) {k2 cap : Nat} {t : List Nat} (hk2 : k2 + 1 < n) (hT : tTx ca ad c k2 cap t) (hd : k2 ≠ k ∧ k2 + 1 ≠ k) (x : Int32) (i0 : Nat) (hx0 : x = nI i0) (hi0 : i0 ≤ t.length) : mInt l yX1_readFlags wsX1_readFlags ({ frames := 1, cells := 0, slots := 0, locals := 21 }) [.ref (ad k), .ref (ad k2), .int x] D (tTY ca) n ad c (fun r c' => ∃ i, i ≤ t.length ∧ r = nI i ∧ t.drop i = (pFlags (t.drop i0) (false, false, false, false)).2 ∧ tPl c' k (pFlags (t.drop i0) (false, false, false, false)).1 w kd bh ∧ ∀ j, j ≠ k → c' j = c j) := by
  intro sz
  refine Met.ofW (cc := cX1_readFlags) (maxL := 4) (ret := (some .int)) (by decide) rfl ?_
  intro pg9 ev9 s m args below meth cd s₁ B hml hv
  obtain ⟨rfl, hsz, hP, hK, hD0, hN⟩ := hv
  have hx := B.exec
  have hb := B.bytes
  have hr := B.returns
  have hts := fun (w : Cond) (h : w ∈ WSa) => atoms_spec (ws := wsX1_readFlags) B.pre w (List.mem_cons_of_mem _ h)
  have hown : s.vm.findClass RX1 = some m.cls := findClass_of_methodNamed B.named
  have hlocks := B.notSynchronized
  subst hsz
  have hD : ∀ c, va_D (fun _ => True) (mw n ad c) := fun c' => mw_D hD0 c'
  have hS : va_S (mA n ad s.heap.size) s.heap s.heap [] := va_S.rf
  have hl := lv_entry ([.ref (ad k), .ref (ad k2), .int x]) (n := 4) (Nat.le_of_ble_eq_true rfl)
  rw [lg_entry_eq]
  generalize (lg_sl ([.ref (ad k), .ref (ad k2), .int x]) ++ List.replicate (4 - (lg_sl ([.ref (ad k), .ref (ad k2), .int x])).length) Slot.unset).toArray = ls at hl ⊢
  have hl : lv_has ls 4 [(0, .ref (ad k)), (1, .ref (ad k2)), (2, .int x)] := hl
  have hcp := hT.cap
  have hle := hT.le
  have loop : ∀ (q1 : Nat) (i : Nat) (f1 : fl4) (c1 : Nat → va_E) (H : Heap) (locs : List Loc) (ls : Array Slot), (i ≤ t.length) → (t.length < i + q1) → (pFlags (t.drop i0) (false, false, false, false) = pFlags (t.drop i) f1) → (tPl c1 k f1 w kd bh) → (∀ j, j ≠ k → c1 j = c j) → va_P D vwCl (mw n ad c1) H → va_S (mA n ad s.heap.size) s.heap H locs → lv_has ls 4 [(3, .int (nI i)), (0, .ref (ad k)), (1, .ref (ad k2)), (2, .int x)] → W pg9 l ev9 (headSpec wsX1_readFlags ({ frames := 1, cells := 0, slots := 0, locals := 21 })).room s m ([.ref (ad k), .ref (ad k2), .int x] : List Value).toArray below meth cd H locs 0 0 (MQ below (va_Qi (fun r c' => ∃ i, i ≤ t.length ∧ r = nI i ∧ t.drop i = (pFlags (t.drop i0) (false, false, false, false)).2 ∧ tPl c' k (pFlags (t.drop i0) (false, false, false, false)).1 w kd bh ∧ ∀ j, j ≠ k → c' j = c j) (mW D n ad) (mA n ad s.heap.size)) ([.ref (ad k), .ref (ad k2), .int x] : List Value).toArray s 0 0 (mA n ad s.heap.size)) (F0 m 22 ls []) := by
    intro q1
    induction q1 with
    | zero => intro i f1 c1 H locs ls hi hq heq hL1 hs1 hP hS hl; omega
    | succ q1 ih =>
      intro i f1 c1 H locs ls hi hq heq hL1 hs1 hP hS hl
      have hT1 : tTx ca ad c1 k2 cap t := hT.keep (hs1 _ hd.1) (hs1 _ hd.2)
      refine lv_iload_n hx hb dX1_readFlags_22 rfl (lv_at hl 0 rfl) ?_
      refine lv_aload_n hx hb dX1_readFlags_23 rfl (lv_at hl 2 rfl) ?_
      refine mx_getN (ci := 2) (v := .int (nI t.length)) (C := RX2) (T := TX2) (N := 2) hx hb hts inX2 hown hK hP (by omega : k2 < n) hT1.cell rfl 1 (by decide) (hN.1 _ nn_1) (fun _ h9 => h9) rfl dX1_readFlags_24 ?_
      refine lv_icmp_ge (tgt := 48) hx hb dX1_readFlags_27 (by decide) (fun hc => ?_) (fun hc => ?_)
      · skip
        have hge : t.length ≤ i := (nI_leI (by omega) (by omega)).mp hc
        refine lv_iload_n hx hb dX1_readFlags_48 rfl (lv_at hl 0 rfl) ?_
        exact mx_iret hx hb hr hlocks hP hS (⟨i, hi, rfl, by rw [heq, dr_nil hge]; rfl, by rw [heq, dr_nil hge]; exact hL1, hs1⟩) dX1_readFlags_49
      · skip
        have hlt : i < t.length := by rcases Nat.lt_or_ge i t.length with h | h; exact h; exact absurd (nI_le h (by omega)) hc
        refine lv_aload_n hx hb dX1_readFlags_30 rfl (lv_at hl 1 rfl) ?_
        refine lv_aload_n hx hb dX1_readFlags_31 rfl (lv_at hl 2 rfl) ?_
        refine lv_iload_n hx hb dX1_readFlags_32 rfl (lv_at hl 0 rfl) ?_
        refine mx_ci (va_runV (As := [.int (nI i)]) (rest := [.ref (ad k)]) ⟨hx, hb, hml, hown, hts⟩ (c_Text_at l D ca n ad c1 hk2 hT1 (nI i) _) (cwV 1 hts (gV wm_188 wm_142 wm_143 wm_2 wm_144) rfl rfl rfl (by decide +kernel) ⟨Nat.le_of_ble_eq_true rfl, Nat.le_of_ble_eq_true rfl⟩) (mx_pv (C := RX2) (T := TX2) (N := 2) (ci := 2) hK hP hD hN (by omega : k2 < n) hT1.cell rfl) rfl rfl hl.1 rfl (lv_room (Nat.le_of_ble_eq_true rfl)) dX1_readFlags_33 ⟨Nat.zero_le _, Nat.zero_le _⟩) (Nat.le_refl _) hS (fun r1 c2 H locs hw hP hS => ?_)
        obtain ⟨hr1, hcE⟩ := hw
        rw [hcE] at hP
        refine mx_i (nI (t.getD i 0)) (by rw [hr1, tAtI_nI (by omega)]; exact if_pos hlt) ?_
        refine mx_ci (va_runV (As := [.int (nI (t.getD i 0))]) (rest := []) ⟨hx, hb, hml, hown, hts⟩ (c_Place_setFlag l D ca n ad c1 hk hL1 (nI (t.getD i 0)) (t.getD i 0) (hT.b8 _ (gD_mem hlt)) rfl _) (cwV 1 hts (gV wm_189 wm_191 ws_3 wm_3 wm_192) rfl rfl rfl (by decide +kernel) ⟨Nat.le_of_ble_eq_true rfl, Nat.le_of_ble_eq_true rfl⟩) (mx_pv (C := RX1) (T := TX1) (N := 7) (ci := 1) hK hP hD hN hk hL1 rfl) rfl rfl hl.1 rfl (lv_room (Nat.le_of_ble_eq_true rfl)) dX1_readFlags_36 ⟨Nat.zero_le _, Nat.zero_le _⟩) (Nat.le_refl _) hS (fun r2 c2 H locs hw hP hS => ?_)
        refine lv_if_eq (tgt := 48) hx hb dX1_readFlags_39 (by decide) (fun hc2 => ?_) (fun hc2 => ?_)
        · skip
          obtain ⟨hn, -, hcE⟩ := hw.resolve_left (fun h => by obtain ⟨f9, h1, h2, -⟩ := h; rw [h2] at hc2; exact absurd hc2 (by decide))
          rw [hcE] at hP
          refine lv_iload_n hx hb dX1_readFlags_48 rfl (lv_at hl 0 rfl) ?_
          exact mx_iret hx hb hr hlocks hP hS (⟨i, hi, rfl, by rw [heq, dr_cons hlt]; show _ = (match pFlag _ _ with | some f' => pFlags _ f' | none => (f1, _) : fl4 × List Nat).2; rw [hn], by rw [heq, dr_cons hlt]; show tPl _ k (match pFlag _ _ with | some f' => pFlags _ f' | none => (f1, _) : fl4 × List Nat).1 w kd bh; rw [hn]; exact hL1, hs1⟩) dX1_readFlags_49
        · skip
          obtain ⟨f2, hf2, -, hL2, hs2⟩ := hw.resolve_right (fun h => hc2 h.2.1)
          refine lv_iinc (v := nI (i + 1)) (lv' := [(3, .int (nI (i + 1))), (0, .ref (ad k)), (1, .ref (ad k2)), (2, .int x)]) hx hb dX1_readFlags_42 hl (k := 0) rfl (nI_1 i) (by decide) rfl (fun ls hl => ?_)
          refine lv_goto (tgt := 22) hx hb dX1_readFlags_45 (by decide) ?_
          exact ih (i + 1) f2 c2 H locs ls (by omega) (by omega) (by rw [heq, dr_cons hlt]; show (match pFlag _ _ with | some f' => pFlags _ f' | none => (f1, _) : fl4 × List Nat) = _; rw [hf2]) hL2 (fun j h => (hs2 j h).trans (hs1 j h)) hP hS (lv_sub hl [0, 1, 2, 3] rfl)
  refine lv_aload_n hx hb dX1_readFlags_0 rfl (lv_at hl 0 rfl) ?_
  refine lv_iconst (v := 0) hx hb dX1_readFlags_1 (by decide) ?_
  refine mx_i (bI false) (rfl) ?_
  refine mx_put (ci := 1) (v := .int (bI false)) (ty := .boolean) (C := RX1) (T := TX1) (N := 7) hx hb hts inX1 tyX1 tyX1_ok nmX1 hown hK hP hD hS hk hL rfl 0 (by decide) (hts _ wm_39) (fun _ h9 => h9) rfl (by decide +kernel) rfl rfl (Nat.le_of_ble_eq_true rfl) dX1_readFlags_2 (fun H locs hP hS => ?_)
  obtain ⟨a1, ea1⟩ : ∃ z : Nat → va_E, z = va_up c k (.inr (1, [.int (bI false), .int (bI f.2.1), .int (bI f.2.2.1), .int (bI f.2.2.2), .int w, .int kd, .int bh])) := ⟨_, rfl⟩
  have hP : va_P D vwCl (mw n ad a1) H := by rw [ea1]; exact hP
  have hsa1 : ∀ j, j ≠ k → a1 j = c j := fun j h => by rw [ea1]; exact va_up_ne _ _ h
  have hca1 : a1 k = .inr (1, [.int (bI false), .int (bI f.2.1), .int (bI f.2.2.1), .int (bI f.2.2.2), .int w, .int kd, .int bh]) := by rw [ea1]; exact va_up_self _ _ _
  refine lv_aload_n hx hb dX1_readFlags_5 rfl (lv_at hl 0 rfl) ?_
  refine lv_iconst (v := 0) hx hb dX1_readFlags_6 (by decide) ?_
  refine mx_i (bI false) (rfl) ?_
  refine mx_put (ci := 1) (v := .int (bI false)) (ty := .boolean) (C := RX1) (T := TX1) (N := 7) hx hb hts inX1 tyX1 tyX1_ok nmX1 hown hK hP hD hS hk hca1 rfl 1 (by decide) (hts _ wm_41) (fun _ h9 => h9) rfl (by decide +kernel) rfl rfl (Nat.le_of_ble_eq_true rfl) dX1_readFlags_7 (fun H locs hP hS => ?_)
  obtain ⟨a2, ea2⟩ : ∃ z : Nat → va_E, z = va_up a1 k (.inr (1, [.int (bI false), .int (bI false), .int (bI f.2.2.1), .int (bI f.2.2.2), .int w, .int kd, .int bh])) := ⟨_, rfl⟩
  have hP : va_P D vwCl (mw n ad a2) H := by rw [ea2]; exact hP
  have hsa2 : ∀ j, j ≠ k → a2 j = a1 j := fun j h => by rw [ea2]; exact va_up_ne _ _ h
  have hca2 : a2 k = .inr (1, [.int (bI false), .int (bI false), .int (bI f.2.2.1), .int (bI f.2.2.2), .int w, .int kd, .int bh]) := by rw [ea2]; exact va_up_self _ _ _
  refine lv_aload_n hx hb dX1_readFlags_10 rfl (lv_at hl 0 rfl) ?_
  refine lv_iconst (v := 0) hx hb dX1_readFlags_11 (by decide) ?_
  refine mx_i (bI false) (rfl) ?_
  refine mx_put (ci := 1) (v := .int (bI false)) (ty := .boolean) (C := RX1) (T := TX1) (N := 7) hx hb hts inX1 tyX1 tyX1_ok nmX1 hown hK hP hD hS hk hca2 rfl 2 (by decide) (hts _ wm_43) (fun _ h9 => h9) rfl (by decide +kernel) rfl rfl (Nat.le_of_ble_eq_true rfl) dX1_readFlags_12 (fun H locs hP hS => ?_)
  obtain ⟨a3, ea3⟩ : ∃ z : Nat → va_E, z = va_up a2 k (.inr (1, [.int (bI false), .int (bI false), .int (bI false), .int (bI f.2.2.2), .int w, .int kd, .int bh])) := ⟨_, rfl⟩
  have hP : va_P D vwCl (mw n ad a3) H := by rw [ea3]; exact hP
  have hsa3 : ∀ j, j ≠ k → a3 j = a2 j := fun j h => by rw [ea3]; exact va_up_ne _ _ h
  have hca3 : a3 k = .inr (1, [.int (bI false), .int (bI false), .int (bI false), .int (bI f.2.2.2), .int w, .int kd, .int bh]) := by rw [ea3]; exact va_up_self _ _ _
  refine lv_aload_n hx hb dX1_readFlags_15 rfl (lv_at hl 0 rfl) ?_
  refine lv_iconst (v := 0) hx hb dX1_readFlags_16 (by decide) ?_
  refine mx_i (bI false) (rfl) ?_
  refine mx_put (ci := 1) (v := .int (bI false)) (ty := .boolean) (C := RX1) (T := TX1) (N := 7) hx hb hts inX1 tyX1 tyX1_ok nmX1 hown hK hP hD hS hk hca3 rfl 3 (by decide) (hts _ wm_44) (fun _ h9 => h9) rfl (by decide +kernel) rfl rfl (Nat.le_of_ble_eq_true rfl) dX1_readFlags_17 (fun H locs hP hS => ?_)
  obtain ⟨a4, ea4⟩ : ∃ z : Nat → va_E, z = va_up a3 k (.inr (1, [.int (bI false), .int (bI false), .int (bI false), .int (bI false), .int w, .int kd, .int bh])) := ⟨_, rfl⟩
  have hP : va_P D vwCl (mw n ad a4) H := by rw [ea4]; exact hP
  have hsa4 : ∀ j, j ≠ k → a4 j = a3 j := fun j h => by rw [ea4]; exact va_up_ne _ _ h
  have hca4 : a4 k = .inr (1, [.int (bI false), .int (bI false), .int (bI false), .int (bI false), .int w, .int kd, .int bh]) := by rw [ea4]; exact va_up_self _ _ _
  refine lv_iload_n hx hb dX1_readFlags_20 rfl (lv_at hl 2 rfl) ?_
  refine lv_istore_n (lv' := [(3, .int x), (0, .ref (ad k)), (1, .ref (ad k2)), (2, .int x)]) hx hb dX1_readFlags_21 rfl hl (by decide) rfl (fun ls hl => ?_)
  exact loop (t.length + 1 - i0 + 1) i0 (false, false, false, false) a4 _ _ ls hi0 (by omega) rfl hca4 (fun j h => (hsa4 j h).trans ((hsa3 j h).trans ((hsa2 j h).trans (hsa1 j h)))) hP hS (by have h9 := (lv_sub hl [0, 1, 2, 3] rfl); rw [← hx0]; exact h9)
set_option maxHeartbeats 4000000 in
set_option maxRecDepth 100000 in
/-- Place.readWidth -/
theorem c_Place_readWidth (l : Launch) (D : va_G) (ca : Nat → ClassId) (n : Nat) (ad : Nat → Nat) (c : Nat → va_E) {k : Nat} {f : fl4} {w kd bh : Int32} (hk : k < n) (hL : tPl c k f w kd bh) {k2 cap : Nat} {t : List Nat} (hk2 : k2 + 1 < n) (hT : tTx ca ad c k2 cap t) (hd : k2 ≠ k ∧ k2 + 1 ≠ k) (x : Int32) (i0 : Nat) (hx0 : x = nI i0) (hi0 : i0 ≤ t.length) : mInt l yX1_readWidth wsX1_readWidth ({ frames := 1, cells := 0, slots := 0, locals := 21 }) [.ref (ad k), .ref (ad k2), .int x] D (tTY ca) n ad c (fun r c' => ∃ i, i ≤ t.length ∧ r = nI i ∧ t.drop i = (pWid (t.drop i0) 0).2 ∧ tPl c' k f (nI (pWid (t.drop i0) 0).1) kd bh ∧ ∀ j, j ≠ k → c' j = c j) := by
  intro sz
  refine Met.ofW (cc := cX1_readWidth) (maxL := 4) (ret := (some .int)) (by decide) rfl ?_
  intro pg9 ev9 s m args below meth cd s₁ B hml hv
  obtain ⟨rfl, hsz, hP, hK, hD0, hN⟩ := hv
  have hx := B.exec
  have hb := B.bytes
  have hr := B.returns
  have hts := fun (w : Cond) (h : w ∈ WSa) => atoms_spec (ws := wsX1_readWidth) B.pre w (List.mem_cons_of_mem _ h)
  have hown : s.vm.findClass RX1 = some m.cls := findClass_of_methodNamed B.named
  have hlocks := B.notSynchronized
  subst hsz
  have hD : ∀ c, va_D (fun _ => True) (mw n ad c) := fun c' => mw_D hD0 c'
  have hS : va_S (mA n ad s.heap.size) s.heap s.heap [] := va_S.rf
  have hl := lv_entry ([.ref (ad k), .ref (ad k2), .int x]) (n := 4) (Nat.le_of_ble_eq_true rfl)
  rw [lg_entry_eq]
  generalize (lg_sl ([.ref (ad k), .ref (ad k2), .int x]) ++ List.replicate (4 - (lg_sl ([.ref (ad k), .ref (ad k2), .int x])).length) Slot.unset).toArray = ls at hl ⊢
  have hl : lv_has ls 4 [(0, .ref (ad k)), (1, .ref (ad k2)), (2, .int x)] := hl
  have hcp := hT.cap
  have hle := hT.le
  have loop : ∀ (q1 : Nat) (i : Nat) (w1 : Nat) (c1 : Nat → va_E) (H : Heap) (locs : List Loc) (ls : Array Slot), (i ≤ t.length) → (t.length < i + q1) → (w1 ≤ 100000) → (pWid (t.drop i0) 0 = pWid (t.drop i) w1) → (tPl c1 k f (nI w1) kd bh) → (∀ j, j ≠ k → c1 j = c j) → va_P D vwCl (mw n ad c1) H → va_S (mA n ad s.heap.size) s.heap H locs → lv_has ls 4 [(3, .int (nI i)), (0, .ref (ad k)), (1, .ref (ad k2)), (2, .int x)] → W pg9 l ev9 (headSpec wsX1_readWidth ({ frames := 1, cells := 0, slots := 0, locals := 21 })).room s m ([.ref (ad k), .ref (ad k2), .int x] : List Value).toArray below meth cd H locs 0 0 (MQ below (va_Qi (fun r c' => ∃ i, i ≤ t.length ∧ r = nI i ∧ t.drop i = (pWid (t.drop i0) 0).2 ∧ tPl c' k f (nI (pWid (t.drop i0) 0).1) kd bh ∧ ∀ j, j ≠ k → c' j = c j) (mW D n ad) (mA n ad s.heap.size)) ([.ref (ad k), .ref (ad k2), .int x] : List Value).toArray s 0 0 (mA n ad s.heap.size)) (F0 m 7 ls []) := by
    intro q1
    induction q1 with
    | zero => intro i w1 c1 H locs ls hi hq hw1 heq hL1 hs1 hP hS hl; omega
    | succ q1 ih =>
      intro i w1 c1 H locs ls hi hq hw1 heq hL1 hs1 hP hS hl
      have hT1 : tTx ca ad c1 k2 cap t := hT.keep (hs1 _ hd.1) (hs1 _ hd.2)
      refine lv_iload_n hx hb dX1_readWidth_7 rfl (lv_at hl 0 rfl) ?_
      refine lv_aload_n hx hb dX1_readWidth_8 rfl (lv_at hl 2 rfl) ?_
      refine mx_getN (ci := 2) (v := .int (nI t.length)) (C := RX2) (T := TX2) (N := 2) hx hb hts inX2 hown hK hP (by omega : k2 < n) hT1.cell rfl 1 (by decide) (hN.1 _ nn_1) (fun _ h9 => h9) rfl dX1_readWidth_9 ?_
      refine lv_icmp_ge (tgt := 57) hx hb dX1_readWidth_12 (by decide) (fun hc => ?_) (fun hc => ?_)
      · skip
        have hge : t.length ≤ i := (nI_leI (by omega) (by omega)).mp hc
        refine lv_iload_n hx hb dX1_readWidth_57 rfl (lv_at hl 0 rfl) ?_
        exact mx_iret hx hb hr hlocks hP hS (⟨i, hi, rfl, by rw [heq, dr_nil hge]; rfl, by rw [heq, dr_nil hge]; exact hL1, hs1⟩) dX1_readWidth_58
      · skip
        have hlt : i < t.length := by rcases Nat.lt_or_ge i t.length with h | h; exact h; exact absurd (nI_le h (by omega)) hc
        have hb8 : t.getD i 0 < 256 := hT.b8 _ (gD_mem hlt)
        refine lv_aload_n hx hb dX1_readWidth_15 rfl (lv_at hl 2 rfl) ?_
        refine lv_iload_n hx hb dX1_readWidth_16 rfl (lv_at hl 0 rfl) ?_
        refine mx_ci (va_runV (As := [.int (nI i)]) (rest := []) ⟨hx, hb, hml, hown, hts⟩ (c_Text_at l D ca n ad c1 hk2 hT1 (nI i) _) (cwV 1 hts (gV wm_188 wm_142 wm_143 wm_2 wm_144) rfl rfl rfl (by decide +kernel) ⟨Nat.le_of_ble_eq_true rfl, Nat.le_of_ble_eq_true rfl⟩) (mx_pv (C := RX2) (T := TX2) (N := 2) (ci := 2) hK hP hD hN (by omega : k2 < n) hT1.cell rfl) rfl rfl hl.1 rfl (lv_room (Nat.le_of_ble_eq_true rfl)) dX1_readWidth_17 ⟨Nat.zero_le _, Nat.zero_le _⟩) (Nat.le_refl _) hS (fun r1 c2 H locs hw hP hS => ?_)
        obtain ⟨hr1, hcE⟩ := hw
        rw [hcE] at hP
        refine mx_i (nI (t.getD i 0)) (by rw [hr1, tAtI_nI (by omega)]; exact if_pos hlt) ?_
        refine mx_ci (va_runSN (As := [.int (nI (t.getD i 0))]) (rest := []) ⟨hx, hb, hml, hown, hts⟩ (c_isDig l D ca n ad c1 (nI (t.getD i 0)) _) ⟨va_cnB 1 hts (gW wm_199) rfl rfl rfl (hN.1 _ nn_9) (hts _ wm_1) (by decide +kernel) ⟨Nat.le_of_ble_eq_true rfl, Nat.le_of_ble_eq_true rfl⟩, hts _ wm_198, trivial⟩ (mx_ps hK hP hD hN) rfl rfl hl.1 rfl (lv_room (Nat.le_of_ble_eq_true rfl)) dX1_readWidth_20 ⟨Nat.zero_le _, Nat.zero_le _⟩) (Nat.le_refl _) hS (fun r2 c2 H locs hw hP hS => ?_)
        obtain ⟨hcE, hw⟩ := hw
        rw [hcE] at hP
        refine lv_if_eq (tgt := 57) hx hb dX1_readWidth_23 (by decide) (fun hc2 => ?_) (fun hc2 => ?_)
        · skip
          have hnd : isDg (t.getD i 0) = false := by rcases hw with h | h; exact absurd (h.2.2.symm.trans hc2) (by decide); exact isDg_f hb8 h.1
          refine lv_iload_n hx hb dX1_readWidth_57 rfl (lv_at hl 0 rfl) ?_
          exact mx_iret hx hb hr hlocks hP hS (⟨i, hi, rfl, by rw [heq, dr_cons hlt]; unfold pWid; rw [if_neg (by rw [hnd]; decide)], by rw [heq, dr_cons hlt]; unfold pWid; rw [if_neg (by rw [hnd]; decide)]; exact hL1, hs1⟩) dX1_readWidth_58
        · skip
          have hdg : isDg (t.getD i 0) = true := by rcases hw with h | h; exact isDg_t hb8 h.1 h.2.1; exact absurd h.2 hc2
          obtain ⟨hd1, hd2⟩ := isDg_le hdg
          refine lv_aload_n hx hb dX1_readWidth_26 rfl (lv_at hl 1 rfl) ?_
          refine lv_ldc (v := 100000) hx hb hown (hts _ wm_200) dX1_readWidth_27 ?_
          refine lv_aload_n hx hb dX1_readWidth_29 rfl (lv_at hl 1 rfl) ?_
          refine mx_get (ci := 1) (v := .int (nI w1)) (C := RX1) (T := TX1) (N := 7) hx hb hts inX1 hown hK hP hk hL1 rfl 4 (by decide) (hts _ wm_45) (fun _ h9 => h9) rfl dX1_readWidth_30 ?_
          refine lv_bipush (v := 10) hx hb dX1_readWidth_33 (by decide) ?_
          refine lv_imul hx hb dX1_readWidth_35 ?_
          refine lv_aload_n hx hb dX1_readWidth_36 rfl (lv_at hl 2 rfl) ?_
          refine lv_iload_n hx hb dX1_readWidth_37 rfl (lv_at hl 0 rfl) ?_
          refine mx_ci (va_runV (As := [.int (nI i)]) (rest := [.int ((nI w1) * 10), .int 100000, .ref (ad k)]) ⟨hx, hb, hml, hown, hts⟩ (c_Text_at l D ca n ad c1 hk2 hT1 (nI i) _) (cwV 1 hts (gV wm_188 wm_142 wm_143 wm_2 wm_144) rfl rfl rfl (by decide +kernel) ⟨Nat.le_of_ble_eq_true rfl, Nat.le_of_ble_eq_true rfl⟩) (mx_pv (C := RX2) (T := TX2) (N := 2) (ci := 2) hK hP hD hN (by omega : k2 < n) hT1.cell rfl) rfl rfl hl.1 rfl (lv_room (Nat.le_of_ble_eq_true rfl)) dX1_readWidth_38 ⟨Nat.zero_le _, Nat.zero_le _⟩) (Nat.le_refl _) hS (fun r3 c2 H locs hw2 hP hS => ?_)
          obtain ⟨hr3, hcE⟩ := hw2
          rw [hcE] at hP
          refine mx_i (nI (t.getD i 0)) (by rw [hr3, tAtI_nI (by omega)]; exact if_pos hlt) ?_
          refine lv_iadd hx hb dX1_readWidth_41 ?_
          refine lv_bipush (v := 48) hx hb dX1_readWidth_42 (by decide) ?_
          refine lv_isub hx hb dX1_readWidth_44 ?_
          refine mx_i (nI (w1 * 10 + (t.getD i 0 - 48))) (wd_eq hd1) ?_
          refine va_mmin hx hb (by rw [hml]; exact hl.1.symm) hown (hts _ wm_201) (hts _ wm_202) (hts _ wm_6) (hts _ wm_203) (Nat.le_of_ble_eq_true rfl) (Nat.le_of_ble_eq_true rfl) (Nat.zero_le _) (Nat.zero_le _) dX1_readWidth_45 ?_
          refine mx_i (nI (min 100000 (w1 * 10 + (t.getD i 0 - 48)))) (wd_min (by omega)) ?_
          refine mx_put (ci := 1) (v := .int (nI (min 100000 (w1 * 10 + (t.getD i 0 - 48))))) (ty := .int) (C := RX1) (T := TX1) (N := 7) hx hb hts inX1 tyX1 tyX1_ok nmX1 hown hK hP hD hS hk hL1 rfl 4 (by decide) (hts _ wm_45) (fun _ h9 => h9) rfl (by decide +kernel) rfl rfl (Nat.le_of_ble_eq_true rfl) dX1_readWidth_48 (fun H locs hP hS => ?_)
          obtain ⟨c2, ec2⟩ : ∃ z : Nat → va_E, z = va_up c1 k (.inr (1, [.int (bI f.1), .int (bI f.2.1), .int (bI f.2.2.1), .int (bI f.2.2.2), .int (nI (min 100000 (w1 * 10 + (t.getD i 0 - 48)))), .int kd, .int bh])) := ⟨_, rfl⟩
          have hP : va_P D vwCl (mw n ad c2) H := by rw [ec2]; exact hP
          have hsc2 : ∀ j, j ≠ k → c2 j = c1 j := fun j h => by rw [ec2]; exact va_up_ne _ _ h
          have hcc2 : c2 k = .inr (1, [.int (bI f.1), .int (bI f.2.1), .int (bI f.2.2.1), .int (bI f.2.2.2), .int (nI (min 100000 (w1 * 10 + (t.getD i 0 - 48)))), .int kd, .int bh]) := by rw [ec2]; exact va_up_self _ _ _
          refine lv_iinc (v := nI (i + 1)) (lv' := [(3, .int (nI (i + 1))), (0, .ref (ad k)), (1, .ref (ad k2)), (2, .int x)]) hx hb dX1_readWidth_51 hl (k := 0) rfl (nI_1 i) (by decide) rfl (fun ls hl => ?_)
          refine lv_goto (tgt := 7) hx hb dX1_readWidth_54 (by decide) ?_
          exact ih (i + 1) (min 100000 (w1 * 10 + (t.getD i 0 - 48))) c2 H locs ls (by omega) (by omega) (Nat.min_le_left _ _) (by rw [heq, dr_cons hlt]; show (if _ then _ else _) = _; rw [if_pos hdg]) hcc2 (fun j h => (hsc2 j h).trans (hs1 j h)) hP hS (lv_sub hl [0, 1, 2, 3] rfl)
  refine lv_aload_n hx hb dX1_readWidth_0 rfl (lv_at hl 0 rfl) ?_
  refine lv_iconst (v := 0) hx hb dX1_readWidth_1 (by decide) ?_
  refine mx_i (nI 0) (nI_0.symm) ?_
  refine mx_put (ci := 1) (v := .int (nI 0)) (ty := .int) (C := RX1) (T := TX1) (N := 7) hx hb hts inX1 tyX1 tyX1_ok nmX1 hown hK hP hD hS hk hL rfl 4 (by decide) (hts _ wm_45) (fun _ h9 => h9) rfl (by decide +kernel) rfl rfl (Nat.le_of_ble_eq_true rfl) dX1_readWidth_2 (fun H locs hP hS => ?_)
  obtain ⟨a1, ea1⟩ : ∃ z : Nat → va_E, z = va_up c k (.inr (1, [.int (bI f.1), .int (bI f.2.1), .int (bI f.2.2.1), .int (bI f.2.2.2), .int (nI 0), .int kd, .int bh])) := ⟨_, rfl⟩
  have hP : va_P D vwCl (mw n ad a1) H := by rw [ea1]; exact hP
  have hsa1 : ∀ j, j ≠ k → a1 j = c j := fun j h => by rw [ea1]; exact va_up_ne _ _ h
  have hca1 : a1 k = .inr (1, [.int (bI f.1), .int (bI f.2.1), .int (bI f.2.2.1), .int (bI f.2.2.2), .int (nI 0), .int kd, .int bh]) := by rw [ea1]; exact va_up_self _ _ _
  refine lv_iload_n hx hb dX1_readWidth_5 rfl (lv_at hl 2 rfl) ?_
  refine lv_istore_n (lv' := [(3, .int x), (0, .ref (ad k)), (1, .ref (ad k2)), (2, .int x)]) hx hb dX1_readWidth_6 rfl hl (by decide) rfl (fun ls hl => ?_)
  exact loop (t.length + 1 - i0 + 1) i0 0 a1 _ _ ls hi0 (by omega) (by omega) rfl hca1 hsa1 hP hS (by have h9 := (lv_sub hl [0, 1, 2, 3] rfl); rw [← hx0]; exact h9)
set_option maxHeartbeats 4000000 in
set_option maxRecDepth 100000 in
/-- Place.read -/
theorem c_Place_read (l : Launch) (D : va_G) (ca : Nat → ClassId) (n : Nat) (ad : Nat → Nat) (c : Nat → va_E) {k : Nat} {f : fl4} {w kd bh : Int32} (hk : k < n) (hL : tPl c k f w kd bh) {k2 cap : Nat} {t : List Nat} (hk2 : k2 + 1 < n) (hT : tTx ca ad c k2 cap t) (hd : k2 ≠ k ∧ k2 + 1 ≠ k) (x : Int32) (i0 : Nat) (hx0 : x = nI i0) (hi0 : i0 ≤ t.length) : mInt l yX1_read wsX1_read ({ frames := 2, cells := 0, slots := 0, locals := 44 }) [.ref (ad k), .ref (ad k2), .int x] D (tTY ca) n ad c (fun r c' => ∃ i, i ≤ t.length ∧ t.drop i = (pPlace (t.drop i0)).2.2 ∧ tPl c' k (pPlace (t.drop i0)).1 (nI (pPlace (t.drop i0)).2.1) (tAt t i) (nI (i + 1)) ∧ (∀ j, j ≠ k → c' j = c j) ∧ ((i < t.length ∧ isKd (t.getD i 0) = true ∧ r = 1) ∨ (¬ (i < t.length ∧ isKd (t.getD i 0) = true) ∧ r = 0))) := by
  intro sz
  refine Met.ofW (cc := cX1_read) (maxL := 5) (ret := (some .boolean)) (by decide) rfl ?_
  intro pg9 ev9 s m args below meth cd s₁ B hml hv
  obtain ⟨rfl, hsz, hP, hK, hD0, hN⟩ := hv
  have hx := B.exec
  have hb := B.bytes
  have hr := B.returns
  have hts := fun (w : Cond) (h : w ∈ WSa) => atoms_spec (ws := wsX1_read) B.pre w (List.mem_cons_of_mem _ h)
  have hown : s.vm.findClass RX1 = some m.cls := findClass_of_methodNamed B.named
  have hlocks := B.notSynchronized
  subst hsz
  have hD : ∀ c, va_D (fun _ => True) (mw n ad c) := fun c' => mw_D hD0 c'
  have hS : va_S (mA n ad s.heap.size) s.heap s.heap [] := va_S.rf
  have hl := lv_entry ([.ref (ad k), .ref (ad k2), .int x]) (n := 5) (Nat.le_of_ble_eq_true rfl)
  rw [lg_entry_eq]
  generalize (lg_sl ([.ref (ad k), .ref (ad k2), .int x]) ++ List.replicate (5 - (lg_sl ([.ref (ad k), .ref (ad k2), .int x])).length) Slot.unset).toArray = ls at hl ⊢
  have hl : lv_has ls 5 [(0, .ref (ad k)), (1, .ref (ad k2)), (2, .int x)] := hl
  have hcp := hT.cap
  have hle := hT.le
  refine lv_aload_n hx hb dX1_read_0 rfl (lv_at hl 0 rfl) ?_
  refine lv_aload_n hx hb dX1_read_1 rfl (lv_at hl 1 rfl) ?_
  refine lv_iload_n hx hb dX1_read_2 rfl (lv_at hl 2 rfl) ?_
  refine mx_ci (va_runV (As := [.ref (ad k2), .int x]) (rest := []) ⟨hx, hb, hml, hown, hts⟩ (c_Place_readFlags l D ca n ad c hk hL hk2 hT hd x i0 hx0 hi0 _) (cwV 2 hts (gV wm_184 wm_186 ws_2 wm_3 wm_187) rfl rfl rfl (by decide +kernel) ⟨Nat.le_of_ble_eq_true rfl, Nat.le_of_ble_eq_true rfl⟩) (mx_pv (C := RX1) (T := TX1) (N := 7) (ci := 1) hK hP hD hN hk hL rfl) rfl rfl hl.1 rfl (lv_room (Nat.le_of_ble_eq_true rfl)) dX1_read_3 ⟨Nat.zero_le _, Nat.zero_le _⟩) (Nat.le_refl _) hS (fun r1 c1 H locs hw hP hS => ?_)
  obtain ⟨i1, hi1, hr1, hd1, hL1, hs1⟩ := hw
  have hT1 : tTx ca ad c1 k2 cap t := hT.keep (hs1 _ hd.1) (hs1 _ hd.2)
  refine lv_istore_n (lv' := [(3, .int r1), (0, .ref (ad k)), (1, .ref (ad k2)), (2, .int x)]) hx hb dX1_read_6 rfl hl (by decide) rfl (fun ls hl => ?_)
  refine lv_aload_n hx hb dX1_read_7 rfl (lv_at hl 1 rfl) ?_
  refine lv_aload_n hx hb dX1_read_8 rfl (lv_at hl 2 rfl) ?_
  refine lv_iload_n hx hb dX1_read_9 rfl (lv_at hl 0 rfl) ?_
  refine mx_ci (va_runV (As := [.ref (ad k2), .int r1]) (rest := []) ⟨hx, hb, hml, hown, hts⟩ (c_Place_readWidth l D ca n ad c1 hk hL1 hk2 hT1 hd r1 i1 hr1 hi1 _) (cwV 2 hts (gV wm_193 wm_195 ws_4 wm_3 wm_196) rfl rfl rfl (by decide +kernel) ⟨Nat.le_of_ble_eq_true rfl, Nat.le_of_ble_eq_true rfl⟩) (mx_pv (C := RX1) (T := TX1) (N := 7) (ci := 1) hK hP hD hN hk hL1 rfl) rfl rfl hl.1 rfl (lv_room (Nat.le_of_ble_eq_true rfl)) dX1_read_10 ⟨Nat.zero_le _, Nat.zero_le _⟩) (Nat.le_refl _) hS (fun r2 c2 H locs hw hP hS => ?_)
  obtain ⟨i2, hi2, hr2, hd2, hL2, hs2⟩ := hw
  have hT2 : tTx ca ad c2 k2 cap t := hT1.keep (hs2 _ hd.1) (hs2 _ hd.2)
  refine lv_istore (lv' := [(4, .int r2), (3, .int r1), (0, .ref (ad k)), (1, .ref (ad k2)), (2, .int x)]) hx hb dX1_read_13 hl (by decide) rfl (fun ls hl => ?_)
  refine lv_aload_n hx hb dX1_read_15 rfl (lv_at hl 2 rfl) ?_
  refine lv_aload_n hx hb dX1_read_16 rfl (lv_at hl 3 rfl) ?_
  refine lv_iload hx hb dX1_read_17 (lv_at hl 0 rfl) ?_
  refine mx_ci (va_runV (As := [.int r2]) (rest := [.ref (ad k)]) ⟨hx, hb, hml, hown, hts⟩ (c_Text_at l D ca n ad c2 hk2 hT2 r2 _) (cwV 1 hts (gV wm_188 wm_142 wm_143 wm_2 wm_144) rfl rfl rfl (by decide +kernel) ⟨Nat.le_of_ble_eq_true rfl, Nat.le_of_ble_eq_true rfl⟩) (mx_pv (C := RX2) (T := TX2) (N := 2) (ci := 2) hK hP hD hN (by omega : k2 < n) hT2.cell rfl) rfl rfl hl.1 rfl (lv_room (Nat.le_of_ble_eq_true rfl)) dX1_read_19 ⟨Nat.zero_le _, Nat.zero_le _⟩) (Nat.le_refl _) hS (fun r3 c3 H locs hw hP hS => ?_)
  obtain ⟨hr3, hcE⟩ := hw
  rw [hcE] at hP
  refine mx_i (tAt t i2) (by rw [hr3, hr2, tAtI_nI (by omega)]) ?_
  refine mx_put (ci := 1) (v := .int (tAt t i2)) (ty := .int) (C := RX1) (T := TX1) (N := 7) hx hb hts inX1 tyX1 tyX1_ok nmX1 hown hK hP hD hS hk hL2 rfl 5 (by decide) (hts _ wm_47) (fun _ h9 => h9) rfl (by decide +kernel) rfl rfl (Nat.le_of_ble_eq_true rfl) dX1_read_22 (fun H locs hP hS => ?_)
  obtain ⟨c3, ec3⟩ : ∃ z : Nat → va_E, z = va_up c2 k (.inr (1, [.int (bI ((pFlags (t.drop i0) (false, false, false, false)).1).1), .int (bI ((pFlags (t.drop i0) (false, false, false, false)).1).2.1), .int (bI ((pFlags (t.drop i0) (false, false, false, false)).1).2.2.1), .int (bI ((pFlags (t.drop i0) (false, false, false, false)).1).2.2.2), .int (nI (pWid (t.drop i1) 0).1), .int (tAt t i2), .int bh])) := ⟨_, rfl⟩
  have hP : va_P D vwCl (mw n ad c3) H := by rw [ec3]; exact hP
  have hsc3 : ∀ j, j ≠ k → c3 j = c2 j := fun j h => by rw [ec3]; exact va_up_ne _ _ h
  have hcc3 : c3 k = .inr (1, [.int (bI ((pFlags (t.drop i0) (false, false, false, false)).1).1), .int (bI ((pFlags (t.drop i0) (false, false, false, false)).1).2.1), .int (bI ((pFlags (t.drop i0) (false, false, false, false)).1).2.2.1), .int (bI ((pFlags (t.drop i0) (false, false, false, false)).1).2.2.2), .int (nI (pWid (t.drop i1) 0).1), .int (tAt t i2), .int bh]) := by rw [ec3]; exact va_up_self _ _ _
  refine lv_aload_n hx hb dX1_read_25 rfl (lv_at hl 2 rfl) ?_
  refine lv_iload hx hb dX1_read_26 (lv_at hl 0 rfl) ?_
  refine lv_iconst (v := 1) hx hb dX1_read_28 (by decide) ?_
  refine lv_iadd hx hb dX1_read_29 ?_
  refine mx_i (nI (i2 + 1)) (by rw [hr2]; exact nI_1 i2) ?_
  refine mx_put (ci := 1) (v := .int (nI (i2 + 1))) (ty := .int) (C := RX1) (T := TX1) (N := 7) hx hb hts inX1 tyX1 tyX1_ok nmX1 hown hK hP hD hS hk hcc3 rfl 6 (by decide) (hts _ wm_49) (fun _ h9 => h9) rfl (by decide +kernel) rfl rfl (Nat.le_of_ble_eq_true rfl) dX1_read_30 (fun H locs hP hS => ?_)
  obtain ⟨c4, ec4⟩ : ∃ z : Nat → va_E, z = va_up c3 k (.inr (1, [.int (bI ((pFlags (t.drop i0) (false, false, false, false)).1).1), .int (bI ((pFlags (t.drop i0) (false, false, false, false)).1).2.1), .int (bI ((pFlags (t.drop i0) (false, false, false, false)).1).2.2.1), .int (bI ((pFlags (t.drop i0) (false, false, false, false)).1).2.2.2), .int (nI (pWid (t.drop i1) 0).1), .int (tAt t i2), .int (nI (i2 + 1))])) := ⟨_, rfl⟩
  have hP : va_P D vwCl (mw n ad c4) H := by rw [ec4]; exact hP
  have hsc4 : ∀ j, j ≠ k → c4 j = c3 j := fun j h => by rw [ec4]; exact va_up_ne _ _ h
  have hcc4 : c4 k = .inr (1, [.int (bI ((pFlags (t.drop i0) (false, false, false, false)).1).1), .int (bI ((pFlags (t.drop i0) (false, false, false, false)).1).2.1), .int (bI ((pFlags (t.drop i0) (false, false, false, false)).1).2.2.1), .int (bI ((pFlags (t.drop i0) (false, false, false, false)).1).2.2.2), .int (nI (pWid (t.drop i1) 0).1), .int (tAt t i2), .int (nI (i2 + 1))]) := by rw [ec4]; exact va_up_self _ _ _
  refine lv_aload_n hx hb dX1_read_33 rfl (lv_at hl 2 rfl) ?_
  refine mx_get (ci := 1) (v := .int (tAt t i2)) (C := RX1) (T := TX1) (N := 7) hx hb hts inX1 hown hK hP hk hcc4 rfl 5 (by decide) (hts _ wm_47) (fun _ h9 => h9) rfl dX1_read_34 ?_
  refine mx_ci (va_runS (As := [.int (tAt t i2)]) (rest := []) ⟨hx, hb, hml, hown, hts⟩ (c_isKind l D ca n ad c4 (tAt t i2) _) (cwS 1 hts (gS wm_204 wm_205 wm_3 wm_206) rfl rfl rfl (by decide +kernel) ⟨Nat.le_of_ble_eq_true rfl, Nat.le_of_ble_eq_true rfl⟩) (mx_ps hK hP hD hN) rfl rfl hl.1 rfl (lv_room (Nat.le_of_ble_eq_true rfl)) dX1_read_37 ⟨Nat.zero_le _, Nat.zero_le _⟩) (Nat.le_refl _) hS (fun r4 c5 H locs hw hP hS => ?_)
  obtain ⟨hcE, hw⟩ := hw
  rw [hcE] at hP
  have hp1 : (pPlace (t.drop i0)).1 = (pFlags (t.drop i0) (false, false, false, false)).1 := rfl
  have hp2 : (pPlace (t.drop i0)).2 = pWid (t.drop i1) 0 := by rw [hd1]; rfl
  have hq : ∃ i, i ≤ t.length ∧ t.drop i = (pPlace (t.drop i0)).2.2 ∧ tPl c4 k (pPlace (t.drop i0)).1 (nI (pPlace (t.drop i0)).2.1) (tAt t i) (nI (i + 1)) ∧ (∀ j, j ≠ k → c4 j = c j) ∧ ((i < t.length ∧ isKd (t.getD i 0) = true ∧ r4 = 1) ∨ (¬ (i < t.length ∧ isKd (t.getD i 0) = true) ∧ r4 = 0)) := by
    refine ⟨i2, hi2, by rw [hp2]; exact hd2, by rw [hp2]; exact hcc4, fun j h => (hsc4 j h).trans ((hsc3 j h).trans ((hs2 j h).trans (hs1 j h))), ?_⟩
    exact kd_cases (fun y hy => hT.b8 y hy) hw
  obtain rfl | rfl : r4 = 1 ∨ r4 = 0 := by rcases hw with h | h; exact Or.inl h.2; exact Or.inr h.2
  · skip
    exact mx_zret hx hb hr hlocks rfl hP hS (hq) dX1_read_40
  · skip
    exact mx_zret hx hb hr hlocks rfl hP hS (hq) dX1_read_40
