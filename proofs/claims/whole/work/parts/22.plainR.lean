set_option maxHeartbeats 4000000 in
set_option maxRecDepth 100000 in
/-- lay(y) -/
theorem c_lay (l : Launch) (D : va_G) (ca : Nat → ClassId) (n : Nat) (ad : Nat → Nat) (c : Nat → va_E) {x0 x1 x2 x3 x4 x5 x6 x7 x8 x9 x10 x11 x12 : Int32} {v : Int64} (hn : 59 ≤ n) (hO : c 52 = rO ad x0 x1 x2 x3 x4 x5 x6 x7 x8 x9 x10 x11 x12 v) {tp : List Nat} (hB : tB ca c 53 400 0 tp) (hx0 : x0 = nI tp.length) (hroom : tp.length + 4 ≤ 400) (y : Int32) : mVoid l yX4_lay wsX4_lay ({ frames := 0, cells := 0, slots := 0, locals := 0 }) [.ref (ad 52), .int y] D (tTY ca) n ad c (fun c' => c' 52 = rO ad (nI (tp ++ tFour y).length) x1 x2 x3 x4 x5 x6 x7 x8 x9 x10 x11 x12 v ∧ tB ca c' 53 400 0 (tp ++ tFour y) ∧ ∀ j, j ≠ 52 → j ≠ 53 → c' j = c j) := by
  intro sz
  refine Met.ofW (cc := cX4_lay) (maxL := 3) (ret := none) (by decide) rfl ?_
  intro pg9 ev9 s m args below meth cd s₁ B hml hv
  obtain ⟨rfl, hsz, hP, hK, hD0, hN⟩ := hv
  have hx := B.exec
  have hb := B.bytes
  have hr := B.returns
  have hts := fun (w : Cond) (h : w ∈ WSa) => atoms_spec (ws := wsX4_lay) B.pre w (List.mem_cons_of_mem _ h)
  have hown : s.vm.findClass RX4 = some m.cls := findClass_of_methodNamed B.named
  have hlocks := B.notSynchronized
  subst hsz
  have hD : ∀ c, va_D (fun _ => True) (mw n ad c) := fun c' => mw_D hD0 c'
  have hS : va_S (mA n ad s.heap.size) s.heap s.heap [] := va_S.rf
  have hl := lv_entry ([.ref (ad 52), .int y]) (n := 3) (Nat.le_of_ble_eq_true rfl)
  rw [lg_entry_eq]
  generalize (lg_sl ([.ref (ad 52), .int y]) ++ List.replicate (3 - (lg_sl ([.ref (ad 52), .int y])).length) Slot.unset).toArray = ls at hl ⊢
  have hl : lv_has ls 3 [(0, .ref (ad 52)), (1, .int y)] := hl
  obtain ⟨-, -, -, f, h53, -⟩ := id hB
  refine lv_bipush (v := 24) hx hb dX4_lay_0 (by decide) ?_
  refine lv_istore_n (lv' := [(2, .int 24), (0, .ref (ad 52)), (1, .int y)]) hx hb dX4_lay_2 rfl hl (by decide) rfl (fun ls hl => ?_)
  refine lv_iload_n hx hb dX4_lay_3 rfl (lv_at hl 0 rfl) ?_
  refine lv_if_lt (tgt := 36) hx hb dX4_lay_4 (by decide) (fun hc => absurd hc (by decide)) (fun hc => ?_)
  refine lv_aload_n hx hb dX4_lay_7 rfl (lv_at hl 1 rfl) ?_
  refine mx_get (ci := 4) (v := .ref (ad 53)) (C := RX4) (T := TX4) (N := 20) hx hb hts inX4 hown hK hP (by omega : 52 < n) hO rfl 0 (by decide) (hts _ wm_268) (fun _ h9 => h9) rfl dX4_lay_8 ?_
  refine lv_aload_n hx hb dX4_lay_11 rfl (lv_at hl 1 rfl) ?_
  refine mx_get (ci := 4) (v := .int x0) (C := RX4) (T := TX4) (N := 20) hx hb hts inX4 hown hK hP (by omega : 52 < n) hO rfl 4 (by decide) (hts _ wm_272) (fun _ h9 => h9) rfl dX4_lay_12 ?_
  refine lv_iload_n hx hb dX4_lay_15 rfl (lv_at hl 2 rfl) ?_
  refine lv_iload_n hx hb dX4_lay_16 rfl (lv_at hl 0 rfl) ?_
  refine lv_ishr hx hb dX4_lay_17 ?_
  refine lv_i2b (v := (y >>> (24 &&& 31)).toInt8.toInt32) hx hb dX4_lay_18 rfl ?_
  refine mx_i (sB (by8 ((y.toUInt32 >>> ((24 : Int32).toUInt32 &&& Int32.toUInt32 31)).toInt32))) (by rw [i8_by8, ly_shr y (24 &&& 31) 24 (by decide) (by decide) 24 (by decide)]) ?_
  refine mx_bast (y := sB (by8 ((y.toUInt32 >>> ((24 : Int32).toUInt32 &&& Int32.toUInt32 31)).toInt32))) hx hb hK hP hD hS (by omega : 53 < n) 2 h53 rfl (by rw [hx0]; exact vp_in_nI (by omega) (by omega)) (nar_sB _) dX4_lay_19 (fun H locs hP hS => ?_)
  obtain ⟨p0, ep0⟩ : ∃ z : Nat → va_E, z = va_up c 53 (.inl (ca 2, 400, .inl (upd f x0.toNatClampNeg (sB (by8 ((y.toUInt32 >>> ((24 : Int32).toUInt32 &&& Int32.toUInt32 31)).toInt32)))))) := ⟨_, rfl⟩
  have hP : va_P D vwCl (mw n ad p0) H := by rw [ep0]; exact hP
  have hsp0 : ∀ j, j ≠ 53 → p0 j = c j := fun j h => by rw [ep0]; exact va_up_ne _ _ h
  have hcp0 : p0 53 = .inl (ca 2, 400, .inl (upd f x0.toNatClampNeg (sB (by8 ((y.toUInt32 >>> ((24 : Int32).toUInt32 &&& Int32.toUInt32 31)).toInt32))))) := by rw [ep0]; exact va_up_self _ _ _
  rw [hx0, nI_clamp (by (try simp only [List.length_append, List.length_cons, List.length_nil]); omega)] at hcp0
  have hB0a := hB.app h53 (by8_lt ((y.toUInt32 >>> ((24 : Int32).toUInt32 &&& Int32.toUInt32 31)).toInt32)) (by (try simp only [List.length_append, List.length_cons, List.length_nil]); omega) (by rw [Nat.zero_add]; exact hcp0)
  have hO0a := (hsp0 52 (by omega)).trans hO
  refine lv_aload_n hx hb dX4_lay_20 rfl (lv_at hl 1 rfl) ?_
  refine lv_dup hx hb dX4_lay_21 rfl ?_
  refine mx_get (ci := 4) (v := .int x0) (C := RX4) (T := TX4) (N := 20) hx hb hts inX4 hown hK hP (by omega : 52 < n) hO0a rfl 4 (by decide) (hts _ wm_272) (fun _ h9 => h9) rfl dX4_lay_22 ?_
  refine lv_iconst (v := 1) hx hb dX4_lay_25 (by decide) ?_
  refine lv_iadd hx hb dX4_lay_26 ?_
  refine mx_i (nI (tp ++ [by8 ((y.toUInt32 >>> ((24 : Int32).toUInt32 &&& Int32.toUInt32 31)).toInt32)]).length) (by rw [hx0]; exact ln_1) ?_
  refine mx_put (ci := 4) (v := .int (nI (tp ++ [by8 ((y.toUInt32 >>> ((24 : Int32).toUInt32 &&& Int32.toUInt32 31)).toInt32)]).length)) (ty := .int) (C := RX4) (T := TX4) (N := 20) hx hb hts inX4 tyX4 tyX4_ok nmX4 hown hK hP hD hS (by omega : 52 < n) hO0a rfl 4 (by decide) (hts _ wm_272) (fun _ h9 => h9) rfl (by decide +kernel) rfl rfl (Nat.le_of_ble_eq_true rfl) dX4_lay_27 (fun H locs hP hS => ?_)
  obtain ⟨s0, es0⟩ : ∃ z : Nat → va_E, z = va_up p0 52 (.inr (4, [.ref (ad 53), .ref (ad 54), .ref (ad 55), .ref (ad 56), .int (nI (tp ++ [by8 ((y.toUInt32 >>> ((24 : Int32).toUInt32 &&& Int32.toUInt32 31)).toInt32)]).length), .int x1, .int x2, .int x3, .int x4, .ref (ad 57), .int x5, .int x6, .int x7, .int x8, .int x9, .int x10, .int x11, .ref (ad 58), .int x12, .long v])) := ⟨_, rfl⟩
  have hP : va_P D vwCl (mw n ad s0) H := by rw [es0]; exact hP
  have hss0 : ∀ j, j ≠ 52 → s0 j = p0 j := fun j h => by rw [es0]; exact va_up_ne _ _ h
  have hcs0 : s0 52 = .inr (4, [.ref (ad 53), .ref (ad 54), .ref (ad 55), .ref (ad 56), .int (nI (tp ++ [by8 ((y.toUInt32 >>> ((24 : Int32).toUInt32 &&& Int32.toUInt32 31)).toInt32)]).length), .int x1, .int x2, .int x3, .int x4, .ref (ad 57), .int x5, .int x6, .int x7, .int x8, .int x9, .int x10, .int x11, .ref (ad 58), .int x12, .long v]) := by rw [es0]; exact va_up_self _ _ _
  have hB0 := hB0a.keep (hss0 53 (by omega))
  obtain ⟨-, -, -, f0, h530, -⟩ := id hB0
  refine lv_iinc (v := 16) (lv' := [(2, .int 16), (0, .ref (ad 52)), (1, .int y)]) hx hb dX4_lay_30 hl (k := 0) rfl (by decide) (by decide) rfl (fun ls hl => ?_)
  refine lv_goto (tgt := 3) hx hb dX4_lay_33 (by decide) ?_
  refine lv_iload_n hx hb dX4_lay_3 rfl (lv_at hl 0 rfl) ?_
  refine lv_if_lt (tgt := 36) hx hb dX4_lay_4 (by decide) (fun hc => absurd hc (by decide)) (fun hc => ?_)
  refine lv_aload_n hx hb dX4_lay_7 rfl (lv_at hl 1 rfl) ?_
  refine mx_get (ci := 4) (v := .ref (ad 53)) (C := RX4) (T := TX4) (N := 20) hx hb hts inX4 hown hK hP (by omega : 52 < n) hcs0 rfl 0 (by decide) (hts _ wm_268) (fun _ h9 => h9) rfl dX4_lay_8 ?_
  refine lv_aload_n hx hb dX4_lay_11 rfl (lv_at hl 1 rfl) ?_
  refine mx_get (ci := 4) (v := .int (nI (tp ++ [by8 ((y.toUInt32 >>> ((24 : Int32).toUInt32 &&& Int32.toUInt32 31)).toInt32)]).length)) (C := RX4) (T := TX4) (N := 20) hx hb hts inX4 hown hK hP (by omega : 52 < n) hcs0 rfl 4 (by decide) (hts _ wm_272) (fun _ h9 => h9) rfl dX4_lay_12 ?_
  refine lv_iload_n hx hb dX4_lay_15 rfl (lv_at hl 2 rfl) ?_
  refine lv_iload_n hx hb dX4_lay_16 rfl (lv_at hl 0 rfl) ?_
  refine lv_ishr hx hb dX4_lay_17 ?_
  refine lv_i2b (v := (y >>> (16 &&& 31)).toInt8.toInt32) hx hb dX4_lay_18 rfl ?_
  refine mx_i (sB (by8 ((y.toUInt32 >>> ((16 : Int32).toUInt32 &&& Int32.toUInt32 31)).toInt32))) (by rw [i8_by8, ly_shr y (16 &&& 31) 16 (by decide) (by decide) 16 (by decide)]) ?_
  refine mx_bast (y := sB (by8 ((y.toUInt32 >>> ((16 : Int32).toUInt32 &&& Int32.toUInt32 31)).toInt32))) hx hb hK hP hD hS (by omega : 53 < n) 2 h530 rfl (vp_in_nI (by simp only [List.length_append, List.length_cons, List.length_nil] at *; omega) (by omega)) (nar_sB _) dX4_lay_19 (fun H locs hP hS => ?_)
  obtain ⟨p1, ep1⟩ : ∃ z : Nat → va_E, z = va_up s0 53 (.inl (ca 2, 400, .inl (upd f0 (nI (tp ++ [by8 ((y.toUInt32 >>> ((24 : Int32).toUInt32 &&& Int32.toUInt32 31)).toInt32)]).length).toNatClampNeg (sB (by8 ((y.toUInt32 >>> ((16 : Int32).toUInt32 &&& Int32.toUInt32 31)).toInt32)))))) := ⟨_, rfl⟩
  have hP : va_P D vwCl (mw n ad p1) H := by rw [ep1]; exact hP
  have hsp1 : ∀ j, j ≠ 53 → p1 j = s0 j := fun j h => by rw [ep1]; exact va_up_ne _ _ h
  have hcp1 : p1 53 = .inl (ca 2, 400, .inl (upd f0 (nI (tp ++ [by8 ((y.toUInt32 >>> ((24 : Int32).toUInt32 &&& Int32.toUInt32 31)).toInt32)]).length).toNatClampNeg (sB (by8 ((y.toUInt32 >>> ((16 : Int32).toUInt32 &&& Int32.toUInt32 31)).toInt32))))) := by rw [ep1]; exact va_up_self _ _ _
  rw [nI_clamp (by (try simp only [List.length_append, List.length_cons, List.length_nil]); omega)] at hcp1
  have hB1a := hB0.app h530 (by8_lt ((y.toUInt32 >>> ((16 : Int32).toUInt32 &&& Int32.toUInt32 31)).toInt32)) (by (try simp only [List.length_append, List.length_cons, List.length_nil]); omega) (by rw [Nat.zero_add]; exact hcp1)
  have hO1a := (hsp1 52 (by omega)).trans hcs0
  refine lv_aload_n hx hb dX4_lay_20 rfl (lv_at hl 1 rfl) ?_
  refine lv_dup hx hb dX4_lay_21 rfl ?_
  refine mx_get (ci := 4) (v := .int (nI (tp ++ [by8 ((y.toUInt32 >>> ((24 : Int32).toUInt32 &&& Int32.toUInt32 31)).toInt32)]).length)) (C := RX4) (T := TX4) (N := 20) hx hb hts inX4 hown hK hP (by omega : 52 < n) hO1a rfl 4 (by decide) (hts _ wm_272) (fun _ h9 => h9) rfl dX4_lay_22 ?_
  refine lv_iconst (v := 1) hx hb dX4_lay_25 (by decide) ?_
  refine lv_iadd hx hb dX4_lay_26 ?_
  refine mx_i (nI (tp ++ [by8 ((y.toUInt32 >>> ((24 : Int32).toUInt32 &&& Int32.toUInt32 31)).toInt32)] ++ [by8 ((y.toUInt32 >>> ((16 : Int32).toUInt32 &&& Int32.toUInt32 31)).toInt32)]).length) (ln_1) ?_
  refine mx_put (ci := 4) (v := .int (nI (tp ++ [by8 ((y.toUInt32 >>> ((24 : Int32).toUInt32 &&& Int32.toUInt32 31)).toInt32)] ++ [by8 ((y.toUInt32 >>> ((16 : Int32).toUInt32 &&& Int32.toUInt32 31)).toInt32)]).length)) (ty := .int) (C := RX4) (T := TX4) (N := 20) hx hb hts inX4 tyX4 tyX4_ok nmX4 hown hK hP hD hS (by omega : 52 < n) hO1a rfl 4 (by decide) (hts _ wm_272) (fun _ h9 => h9) rfl (by decide +kernel) rfl rfl (Nat.le_of_ble_eq_true rfl) dX4_lay_27 (fun H locs hP hS => ?_)
  obtain ⟨s1, es1⟩ : ∃ z : Nat → va_E, z = va_up p1 52 (.inr (4, [.ref (ad 53), .ref (ad 54), .ref (ad 55), .ref (ad 56), .int (nI (tp ++ [by8 ((y.toUInt32 >>> ((24 : Int32).toUInt32 &&& Int32.toUInt32 31)).toInt32)] ++ [by8 ((y.toUInt32 >>> ((16 : Int32).toUInt32 &&& Int32.toUInt32 31)).toInt32)]).length), .int x1, .int x2, .int x3, .int x4, .ref (ad 57), .int x5, .int x6, .int x7, .int x8, .int x9, .int x10, .int x11, .ref (ad 58), .int x12, .long v])) := ⟨_, rfl⟩
  have hP : va_P D vwCl (mw n ad s1) H := by rw [es1]; exact hP
  have hss1 : ∀ j, j ≠ 52 → s1 j = p1 j := fun j h => by rw [es1]; exact va_up_ne _ _ h
  have hcs1 : s1 52 = .inr (4, [.ref (ad 53), .ref (ad 54), .ref (ad 55), .ref (ad 56), .int (nI (tp ++ [by8 ((y.toUInt32 >>> ((24 : Int32).toUInt32 &&& Int32.toUInt32 31)).toInt32)] ++ [by8 ((y.toUInt32 >>> ((16 : Int32).toUInt32 &&& Int32.toUInt32 31)).toInt32)]).length), .int x1, .int x2, .int x3, .int x4, .ref (ad 57), .int x5, .int x6, .int x7, .int x8, .int x9, .int x10, .int x11, .ref (ad 58), .int x12, .long v]) := by rw [es1]; exact va_up_self _ _ _
  have hB1 := hB1a.keep (hss1 53 (by omega))
  obtain ⟨-, -, -, f1, h531, -⟩ := id hB1
  refine lv_iinc (v := 8) (lv' := [(2, .int 8), (0, .ref (ad 52)), (1, .int y)]) hx hb dX4_lay_30 hl (k := 0) rfl (by decide) (by decide) rfl (fun ls hl => ?_)
  refine lv_goto (tgt := 3) hx hb dX4_lay_33 (by decide) ?_
  refine lv_iload_n hx hb dX4_lay_3 rfl (lv_at hl 0 rfl) ?_
  refine lv_if_lt (tgt := 36) hx hb dX4_lay_4 (by decide) (fun hc => absurd hc (by decide)) (fun hc => ?_)
  refine lv_aload_n hx hb dX4_lay_7 rfl (lv_at hl 1 rfl) ?_
  refine mx_get (ci := 4) (v := .ref (ad 53)) (C := RX4) (T := TX4) (N := 20) hx hb hts inX4 hown hK hP (by omega : 52 < n) hcs1 rfl 0 (by decide) (hts _ wm_268) (fun _ h9 => h9) rfl dX4_lay_8 ?_
  refine lv_aload_n hx hb dX4_lay_11 rfl (lv_at hl 1 rfl) ?_
  refine mx_get (ci := 4) (v := .int (nI (tp ++ [by8 ((y.toUInt32 >>> ((24 : Int32).toUInt32 &&& Int32.toUInt32 31)).toInt32)] ++ [by8 ((y.toUInt32 >>> ((16 : Int32).toUInt32 &&& Int32.toUInt32 31)).toInt32)]).length)) (C := RX4) (T := TX4) (N := 20) hx hb hts inX4 hown hK hP (by omega : 52 < n) hcs1 rfl 4 (by decide) (hts _ wm_272) (fun _ h9 => h9) rfl dX4_lay_12 ?_
  refine lv_iload_n hx hb dX4_lay_15 rfl (lv_at hl 2 rfl) ?_
  refine lv_iload_n hx hb dX4_lay_16 rfl (lv_at hl 0 rfl) ?_
  refine lv_ishr hx hb dX4_lay_17 ?_
  refine lv_i2b (v := (y >>> (8 &&& 31)).toInt8.toInt32) hx hb dX4_lay_18 rfl ?_
  refine mx_i (sB (by8 ((y.toUInt32 >>> ((8 : Int32).toUInt32 &&& Int32.toUInt32 31)).toInt32))) (by rw [i8_by8, ly_shr y (8 &&& 31) 8 (by decide) (by decide) 8 (by decide)]) ?_
  refine mx_bast (y := sB (by8 ((y.toUInt32 >>> ((8 : Int32).toUInt32 &&& Int32.toUInt32 31)).toInt32))) hx hb hK hP hD hS (by omega : 53 < n) 2 h531 rfl (vp_in_nI (by simp only [List.length_append, List.length_cons, List.length_nil] at *; omega) (by omega)) (nar_sB _) dX4_lay_19 (fun H locs hP hS => ?_)
  obtain ⟨p2, ep2⟩ : ∃ z : Nat → va_E, z = va_up s1 53 (.inl (ca 2, 400, .inl (upd f1 (nI (tp ++ [by8 ((y.toUInt32 >>> ((24 : Int32).toUInt32 &&& Int32.toUInt32 31)).toInt32)] ++ [by8 ((y.toUInt32 >>> ((16 : Int32).toUInt32 &&& Int32.toUInt32 31)).toInt32)]).length).toNatClampNeg (sB (by8 ((y.toUInt32 >>> ((8 : Int32).toUInt32 &&& Int32.toUInt32 31)).toInt32)))))) := ⟨_, rfl⟩
  have hP : va_P D vwCl (mw n ad p2) H := by rw [ep2]; exact hP
  have hsp2 : ∀ j, j ≠ 53 → p2 j = s1 j := fun j h => by rw [ep2]; exact va_up_ne _ _ h
  have hcp2 : p2 53 = .inl (ca 2, 400, .inl (upd f1 (nI (tp ++ [by8 ((y.toUInt32 >>> ((24 : Int32).toUInt32 &&& Int32.toUInt32 31)).toInt32)] ++ [by8 ((y.toUInt32 >>> ((16 : Int32).toUInt32 &&& Int32.toUInt32 31)).toInt32)]).length).toNatClampNeg (sB (by8 ((y.toUInt32 >>> ((8 : Int32).toUInt32 &&& Int32.toUInt32 31)).toInt32))))) := by rw [ep2]; exact va_up_self _ _ _
  rw [nI_clamp (by (try simp only [List.length_append, List.length_cons, List.length_nil]); omega)] at hcp2
  have hB2a := hB1.app h531 (by8_lt ((y.toUInt32 >>> ((8 : Int32).toUInt32 &&& Int32.toUInt32 31)).toInt32)) (by (try simp only [List.length_append, List.length_cons, List.length_nil]); omega) (by rw [Nat.zero_add]; exact hcp2)
  have hO2a := (hsp2 52 (by omega)).trans hcs1
  refine lv_aload_n hx hb dX4_lay_20 rfl (lv_at hl 1 rfl) ?_
  refine lv_dup hx hb dX4_lay_21 rfl ?_
  refine mx_get (ci := 4) (v := .int (nI (tp ++ [by8 ((y.toUInt32 >>> ((24 : Int32).toUInt32 &&& Int32.toUInt32 31)).toInt32)] ++ [by8 ((y.toUInt32 >>> ((16 : Int32).toUInt32 &&& Int32.toUInt32 31)).toInt32)]).length)) (C := RX4) (T := TX4) (N := 20) hx hb hts inX4 hown hK hP (by omega : 52 < n) hO2a rfl 4 (by decide) (hts _ wm_272) (fun _ h9 => h9) rfl dX4_lay_22 ?_
  refine lv_iconst (v := 1) hx hb dX4_lay_25 (by decide) ?_
  refine lv_iadd hx hb dX4_lay_26 ?_
  refine mx_i (nI (tp ++ [by8 ((y.toUInt32 >>> ((24 : Int32).toUInt32 &&& Int32.toUInt32 31)).toInt32)] ++ [by8 ((y.toUInt32 >>> ((16 : Int32).toUInt32 &&& Int32.toUInt32 31)).toInt32)] ++ [by8 ((y.toUInt32 >>> ((8 : Int32).toUInt32 &&& Int32.toUInt32 31)).toInt32)]).length) (ln_1) ?_
  refine mx_put (ci := 4) (v := .int (nI (tp ++ [by8 ((y.toUInt32 >>> ((24 : Int32).toUInt32 &&& Int32.toUInt32 31)).toInt32)] ++ [by8 ((y.toUInt32 >>> ((16 : Int32).toUInt32 &&& Int32.toUInt32 31)).toInt32)] ++ [by8 ((y.toUInt32 >>> ((8 : Int32).toUInt32 &&& Int32.toUInt32 31)).toInt32)]).length)) (ty := .int) (C := RX4) (T := TX4) (N := 20) hx hb hts inX4 tyX4 tyX4_ok nmX4 hown hK hP hD hS (by omega : 52 < n) hO2a rfl 4 (by decide) (hts _ wm_272) (fun _ h9 => h9) rfl (by decide +kernel) rfl rfl (Nat.le_of_ble_eq_true rfl) dX4_lay_27 (fun H locs hP hS => ?_)
  obtain ⟨s2, es2⟩ : ∃ z : Nat → va_E, z = va_up p2 52 (.inr (4, [.ref (ad 53), .ref (ad 54), .ref (ad 55), .ref (ad 56), .int (nI (tp ++ [by8 ((y.toUInt32 >>> ((24 : Int32).toUInt32 &&& Int32.toUInt32 31)).toInt32)] ++ [by8 ((y.toUInt32 >>> ((16 : Int32).toUInt32 &&& Int32.toUInt32 31)).toInt32)] ++ [by8 ((y.toUInt32 >>> ((8 : Int32).toUInt32 &&& Int32.toUInt32 31)).toInt32)]).length), .int x1, .int x2, .int x3, .int x4, .ref (ad 57), .int x5, .int x6, .int x7, .int x8, .int x9, .int x10, .int x11, .ref (ad 58), .int x12, .long v])) := ⟨_, rfl⟩
  have hP : va_P D vwCl (mw n ad s2) H := by rw [es2]; exact hP
  have hss2 : ∀ j, j ≠ 52 → s2 j = p2 j := fun j h => by rw [es2]; exact va_up_ne _ _ h
  have hcs2 : s2 52 = .inr (4, [.ref (ad 53), .ref (ad 54), .ref (ad 55), .ref (ad 56), .int (nI (tp ++ [by8 ((y.toUInt32 >>> ((24 : Int32).toUInt32 &&& Int32.toUInt32 31)).toInt32)] ++ [by8 ((y.toUInt32 >>> ((16 : Int32).toUInt32 &&& Int32.toUInt32 31)).toInt32)] ++ [by8 ((y.toUInt32 >>> ((8 : Int32).toUInt32 &&& Int32.toUInt32 31)).toInt32)]).length), .int x1, .int x2, .int x3, .int x4, .ref (ad 57), .int x5, .int x6, .int x7, .int x8, .int x9, .int x10, .int x11, .ref (ad 58), .int x12, .long v]) := by rw [es2]; exact va_up_self _ _ _
  have hB2 := hB2a.keep (hss2 53 (by omega))
  obtain ⟨-, -, -, f2, h532, -⟩ := id hB2
  refine lv_iinc (v := 0) (lv' := [(2, .int 0), (0, .ref (ad 52)), (1, .int y)]) hx hb dX4_lay_30 hl (k := 0) rfl (by decide) (by decide) rfl (fun ls hl => ?_)
  refine lv_goto (tgt := 3) hx hb dX4_lay_33 (by decide) ?_
  refine lv_iload_n hx hb dX4_lay_3 rfl (lv_at hl 0 rfl) ?_
  refine lv_if_lt (tgt := 36) hx hb dX4_lay_4 (by decide) (fun hc => absurd hc (by decide)) (fun hc => ?_)
  refine lv_aload_n hx hb dX4_lay_7 rfl (lv_at hl 1 rfl) ?_
  refine mx_get (ci := 4) (v := .ref (ad 53)) (C := RX4) (T := TX4) (N := 20) hx hb hts inX4 hown hK hP (by omega : 52 < n) hcs2 rfl 0 (by decide) (hts _ wm_268) (fun _ h9 => h9) rfl dX4_lay_8 ?_
  refine lv_aload_n hx hb dX4_lay_11 rfl (lv_at hl 1 rfl) ?_
  refine mx_get (ci := 4) (v := .int (nI (tp ++ [by8 ((y.toUInt32 >>> ((24 : Int32).toUInt32 &&& Int32.toUInt32 31)).toInt32)] ++ [by8 ((y.toUInt32 >>> ((16 : Int32).toUInt32 &&& Int32.toUInt32 31)).toInt32)] ++ [by8 ((y.toUInt32 >>> ((8 : Int32).toUInt32 &&& Int32.toUInt32 31)).toInt32)]).length)) (C := RX4) (T := TX4) (N := 20) hx hb hts inX4 hown hK hP (by omega : 52 < n) hcs2 rfl 4 (by decide) (hts _ wm_272) (fun _ h9 => h9) rfl dX4_lay_12 ?_
  refine lv_iload_n hx hb dX4_lay_15 rfl (lv_at hl 2 rfl) ?_
  refine lv_iload_n hx hb dX4_lay_16 rfl (lv_at hl 0 rfl) ?_
  refine lv_ishr hx hb dX4_lay_17 ?_
  refine lv_i2b (v := (y >>> (0 &&& 31)).toInt8.toInt32) hx hb dX4_lay_18 rfl ?_
  refine mx_i (sB (by8 y)) (by rw [ly_0 y]; exact i8_by8 y) ?_
  refine mx_bast (y := sB (by8 y)) hx hb hK hP hD hS (by omega : 53 < n) 2 h532 rfl (vp_in_nI (by simp only [List.length_append, List.length_cons, List.length_nil] at *; omega) (by omega)) (nar_sB _) dX4_lay_19 (fun H locs hP hS => ?_)
  obtain ⟨p3, ep3⟩ : ∃ z : Nat → va_E, z = va_up s2 53 (.inl (ca 2, 400, .inl (upd f2 (nI (tp ++ [by8 ((y.toUInt32 >>> ((24 : Int32).toUInt32 &&& Int32.toUInt32 31)).toInt32)] ++ [by8 ((y.toUInt32 >>> ((16 : Int32).toUInt32 &&& Int32.toUInt32 31)).toInt32)] ++ [by8 ((y.toUInt32 >>> ((8 : Int32).toUInt32 &&& Int32.toUInt32 31)).toInt32)]).length).toNatClampNeg (sB (by8 y))))) := ⟨_, rfl⟩
  have hP : va_P D vwCl (mw n ad p3) H := by rw [ep3]; exact hP
  have hsp3 : ∀ j, j ≠ 53 → p3 j = s2 j := fun j h => by rw [ep3]; exact va_up_ne _ _ h
  have hcp3 : p3 53 = .inl (ca 2, 400, .inl (upd f2 (nI (tp ++ [by8 ((y.toUInt32 >>> ((24 : Int32).toUInt32 &&& Int32.toUInt32 31)).toInt32)] ++ [by8 ((y.toUInt32 >>> ((16 : Int32).toUInt32 &&& Int32.toUInt32 31)).toInt32)] ++ [by8 ((y.toUInt32 >>> ((8 : Int32).toUInt32 &&& Int32.toUInt32 31)).toInt32)]).length).toNatClampNeg (sB (by8 y)))) := by rw [ep3]; exact va_up_self _ _ _
  rw [nI_clamp (by (try simp only [List.length_append, List.length_cons, List.length_nil]); omega)] at hcp3
  have hB3a := hB2.app h532 (by8_lt y) (by (try simp only [List.length_append, List.length_cons, List.length_nil]); omega) (by rw [Nat.zero_add]; exact hcp3)
  have hO3a := (hsp3 52 (by omega)).trans hcs2
  refine lv_aload_n hx hb dX4_lay_20 rfl (lv_at hl 1 rfl) ?_
  refine lv_dup hx hb dX4_lay_21 rfl ?_
  refine mx_get (ci := 4) (v := .int (nI (tp ++ [by8 ((y.toUInt32 >>> ((24 : Int32).toUInt32 &&& Int32.toUInt32 31)).toInt32)] ++ [by8 ((y.toUInt32 >>> ((16 : Int32).toUInt32 &&& Int32.toUInt32 31)).toInt32)] ++ [by8 ((y.toUInt32 >>> ((8 : Int32).toUInt32 &&& Int32.toUInt32 31)).toInt32)]).length)) (C := RX4) (T := TX4) (N := 20) hx hb hts inX4 hown hK hP (by omega : 52 < n) hO3a rfl 4 (by decide) (hts _ wm_272) (fun _ h9 => h9) rfl dX4_lay_22 ?_
  refine lv_iconst (v := 1) hx hb dX4_lay_25 (by decide) ?_
  refine lv_iadd hx hb dX4_lay_26 ?_
  refine mx_i (nI (tp ++ [by8 ((y.toUInt32 >>> ((24 : Int32).toUInt32 &&& Int32.toUInt32 31)).toInt32)] ++ [by8 ((y.toUInt32 >>> ((16 : Int32).toUInt32 &&& Int32.toUInt32 31)).toInt32)] ++ [by8 ((y.toUInt32 >>> ((8 : Int32).toUInt32 &&& Int32.toUInt32 31)).toInt32)] ++ [by8 y]).length) (ln_1) ?_
  refine mx_put (ci := 4) (v := .int (nI (tp ++ [by8 ((y.toUInt32 >>> ((24 : Int32).toUInt32 &&& Int32.toUInt32 31)).toInt32)] ++ [by8 ((y.toUInt32 >>> ((16 : Int32).toUInt32 &&& Int32.toUInt32 31)).toInt32)] ++ [by8 ((y.toUInt32 >>> ((8 : Int32).toUInt32 &&& Int32.toUInt32 31)).toInt32)] ++ [by8 y]).length)) (ty := .int) (C := RX4) (T := TX4) (N := 20) hx hb hts inX4 tyX4 tyX4_ok nmX4 hown hK hP hD hS (by omega : 52 < n) hO3a rfl 4 (by decide) (hts _ wm_272) (fun _ h9 => h9) rfl (by decide +kernel) rfl rfl (Nat.le_of_ble_eq_true rfl) dX4_lay_27 (fun H locs hP hS => ?_)
  obtain ⟨s3, es3⟩ : ∃ z : Nat → va_E, z = va_up p3 52 (.inr (4, [.ref (ad 53), .ref (ad 54), .ref (ad 55), .ref (ad 56), .int (nI (tp ++ [by8 ((y.toUInt32 >>> ((24 : Int32).toUInt32 &&& Int32.toUInt32 31)).toInt32)] ++ [by8 ((y.toUInt32 >>> ((16 : Int32).toUInt32 &&& Int32.toUInt32 31)).toInt32)] ++ [by8 ((y.toUInt32 >>> ((8 : Int32).toUInt32 &&& Int32.toUInt32 31)).toInt32)] ++ [by8 y]).length), .int x1, .int x2, .int x3, .int x4, .ref (ad 57), .int x5, .int x6, .int x7, .int x8, .int x9, .int x10, .int x11, .ref (ad 58), .int x12, .long v])) := ⟨_, rfl⟩
  have hP : va_P D vwCl (mw n ad s3) H := by rw [es3]; exact hP
  have hss3 : ∀ j, j ≠ 52 → s3 j = p3 j := fun j h => by rw [es3]; exact va_up_ne _ _ h
  have hcs3 : s3 52 = .inr (4, [.ref (ad 53), .ref (ad 54), .ref (ad 55), .ref (ad 56), .int (nI (tp ++ [by8 ((y.toUInt32 >>> ((24 : Int32).toUInt32 &&& Int32.toUInt32 31)).toInt32)] ++ [by8 ((y.toUInt32 >>> ((16 : Int32).toUInt32 &&& Int32.toUInt32 31)).toInt32)] ++ [by8 ((y.toUInt32 >>> ((8 : Int32).toUInt32 &&& Int32.toUInt32 31)).toInt32)] ++ [by8 y]).length), .int x1, .int x2, .int x3, .int x4, .ref (ad 57), .int x5, .int x6, .int x7, .int x8, .int x9, .int x10, .int x11, .ref (ad 58), .int x12, .long v]) := by rw [es3]; exact va_up_self _ _ _
  have hB3 := hB3a.keep (hss3 53 (by omega))
  obtain ⟨-, -, -, f3, h533, -⟩ := id hB3
  refine lv_iinc (v := (-8)) (lv' := [(2, .int ((-8))), (0, .ref (ad 52)), (1, .int y)]) hx hb dX4_lay_30 hl (k := 0) rfl (by decide) (by decide) rfl (fun ls hl => ?_)
  refine lv_goto (tgt := 3) hx hb dX4_lay_33 (by decide) ?_
  refine lv_iload_n hx hb dX4_lay_3 rfl (lv_at hl 0 rfl) ?_
  refine lv_if_lt (tgt := 36) hx hb dX4_lay_4 (by decide) (fun hc => ?_) (fun hc => absurd (by decide) hc)
  have happ : tp ++ tFour y = tp ++ [by8 ((y.toUInt32 >>> ((24 : Int32).toUInt32 &&& Int32.toUInt32 31)).toInt32)] ++ [by8 ((y.toUInt32 >>> ((16 : Int32).toUInt32 &&& Int32.toUInt32 31)).toInt32)] ++ [by8 ((y.toUInt32 >>> ((8 : Int32).toUInt32 &&& Int32.toUInt32 31)).toInt32)] ++ [by8 y] := by simp only [List.append_assoc]; rfl
  exact mx_vret hx hb hr hlocks hP hS (⟨by rw [happ]; exact hcs3, by rw [happ]; exact hB3, fun j h1 h2 => (hss3 j h1).trans ((hsp3 j h2).trans ((hss2 j h1).trans ((hsp2 j h2).trans ((hss1 j h1).trans ((hsp1 j h2).trans ((hss0 j h1).trans (hsp0 j h2)))))))⟩) dX4_lay_36
set_option maxHeartbeats 4000000 in
set_option maxRecDepth 100000 in
/-- feed -/
theorem c_feedR (l : Launch) (D : va_G) (ca : Nat → ClassId) (n : Nat) (ad : Nat → Nat) (c : Nat → va_E) {tp pt md : List Nat} {ar : Nat → List Nat} {ac : Nat} {x4 x5 x6 x7 : Int32} {f : fl4} {x12 : Int32} {v : Int64} (hn : 59 ≤ n) (hM : tRF ca ad c tp pt md ar ac x4 x5 x6 x7 f x12 v) (a b x d e : Int32) : mInt l yX4_feed wsX4_feed ({ frames := 1, cells := 0, slots := 0, locals := 22 }) [.ref (ad 52), .int a, .int b, .int x, .int d, .int e] D (tTY ca) n ad c (fun r c' => ((tp.length + 20 ≤ 400 ∧ r = 1 ∧ tRF ca ad c' (tp ++ tFour a ++ tFour b ++ tFour x ++ tFour d ++ tFour e) pt md ar ac x4 x5 x6 x7 f x12 v) ∨ (¬ tp.length + 20 ≤ 400 ∧ r = 0 ∧ c' = c)) ∧ ∀ j, j < 52 → c' j = c j) := by
  intro sz
  refine Met.ofW (cc := cX4_feed) (maxL := 6) (ret := (some .boolean)) (by decide) rfl ?_
  intro pg9 ev9 s m args below meth cd s₁ B hml hv
  obtain ⟨rfl, hsz, hP, hK, hD0, hN⟩ := hv
  have hx := B.exec
  have hb := B.bytes
  have hr := B.returns
  have hts := fun (w : Cond) (h : w ∈ WSa) => atoms_spec (ws := wsX4_feed) B.pre w (List.mem_cons_of_mem _ h)
  have hown : s.vm.findClass RX4 = some m.cls := findClass_of_methodNamed B.named
  have hlocks := B.notSynchronized
  subst hsz
  have hD : ∀ c, va_D (fun _ => True) (mw n ad c) := fun c' => mw_D hD0 c'
  have hS : va_S (mA n ad s.heap.size) s.heap s.heap [] := va_S.rf
  have hl := lv_entry ([.ref (ad 52), .int a, .int b, .int x, .int d, .int e]) (n := 6) (Nat.le_of_ble_eq_true rfl)
  rw [lg_entry_eq]
  generalize (lg_sl ([.ref (ad 52), .int a, .int b, .int x, .int d, .int e]) ++ List.replicate (6 - (lg_sl ([.ref (ad 52), .int a, .int b, .int x, .int d, .int e])).length) Slot.unset).toArray = ls at hl ⊢
  have hl : lv_has ls 6 [(0, .ref (ad 52)), (1, .int a), (2, .int b), (3, .int x), (4, .int d), (5, .int e)] := hl
  obtain ⟨hO, h53, h54, hW, h56, ⟨f8, h58⟩, hac⟩ := id hM
  have hle3 := h53.le
  rw [Nat.zero_add] at hle3
  refine lv_aload_n hx hb dX4_feed_0 rfl (lv_at hl 0 rfl) ?_
  refine mx_get (ci := 4) (v := .int (nI tp.length)) (C := RX4) (T := TX4) (N := 20) hx hb hts inX4 hown hK hP (by omega : 52 < n) hO rfl 4 (by decide) (hts _ wm_272) (fun _ h9 => h9) rfl dX4_feed_1 ?_
  refine lv_bipush (v := 20) hx hb dX4_feed_4 (by decide) ?_
  refine lv_iadd hx hb dX4_feed_6 ?_
  refine mx_i (nI (tp.length + 20)) (nI_add _ 20) ?_
  refine lv_sipush (v := 400) hx hb dX4_feed_7 (by decide) ?_
  refine lv_icmp_le (tgt := 15) hx hb dX4_feed_10 (by decide) (fun hc => ?_) (fun hc => ?_)
  · skip
    have hroom : tp.length + 20 ≤ 400 := (nI_leI (b := 400) (by omega) (by omega)).mp hc
    refine lv_aload_n hx hb dX4_feed_15 rfl (lv_at hl 0 rfl) ?_
    refine lv_iload_n hx hb dX4_feed_16 rfl (lv_at hl 1 rfl) ?_
    refine mx_cv (va_runV (As := [.int a]) (rest := []) ⟨hx, hb, hml, hown, hts⟩ (c_lay l D ca n ad c hn hO h53 rfl (by (try simp only [List.length_append, tFour_len]); omega) a _) (cwV 1 hts (gV wm_334 wm_336 ws_11 wm_5 wm_337) rfl rfl rfl (by decide +kernel) ⟨Nat.le_of_ble_eq_true rfl, Nat.le_of_ble_eq_true rfl⟩) (mx_pv (C := RX4) (T := TX4) (N := 20) (ci := 4) hK hP hD hN (by omega : 52 < n) hO rfl) rfl rfl hl.1 rfl (lv_room (Nat.le_of_ble_eq_true rfl)) dX4_feed_17 ⟨Nat.zero_le _, Nat.zero_le _⟩) (Nat.le_refl _) hS (fun c1 H locs hw0 hP hS => ?_)
    obtain ⟨hO1, hB1, hs1⟩ := hw0
    refine lv_aload_n hx hb dX4_feed_20 rfl (lv_at hl 0 rfl) ?_
    refine lv_iload_n hx hb dX4_feed_21 rfl (lv_at hl 2 rfl) ?_
    refine mx_cv (va_runV (As := [.int b]) (rest := []) ⟨hx, hb, hml, hown, hts⟩ (c_lay l D ca n ad c1 hn hO1 hB1 rfl (by (try simp only [List.length_append, tFour_len]); omega) b _) (cwV 1 hts (gV wm_334 wm_336 ws_11 wm_5 wm_337) rfl rfl rfl (by decide +kernel) ⟨Nat.le_of_ble_eq_true rfl, Nat.le_of_ble_eq_true rfl⟩) (mx_pv (C := RX4) (T := TX4) (N := 20) (ci := 4) hK hP hD hN (by omega : 52 < n) hO1 rfl) rfl rfl hl.1 rfl (lv_room (Nat.le_of_ble_eq_true rfl)) dX4_feed_22 ⟨Nat.zero_le _, Nat.zero_le _⟩) (Nat.le_refl _) hS (fun c2 H locs hw1 hP hS => ?_)
    obtain ⟨hO2, hB2, hs2⟩ := hw1
    refine lv_aload_n hx hb dX4_feed_25 rfl (lv_at hl 0 rfl) ?_
    refine lv_iload_n hx hb dX4_feed_26 rfl (lv_at hl 3 rfl) ?_
    refine mx_cv (va_runV (As := [.int x]) (rest := []) ⟨hx, hb, hml, hown, hts⟩ (c_lay l D ca n ad c2 hn hO2 hB2 rfl (by (try simp only [List.length_append, tFour_len]); omega) x _) (cwV 1 hts (gV wm_334 wm_336 ws_11 wm_5 wm_337) rfl rfl rfl (by decide +kernel) ⟨Nat.le_of_ble_eq_true rfl, Nat.le_of_ble_eq_true rfl⟩) (mx_pv (C := RX4) (T := TX4) (N := 20) (ci := 4) hK hP hD hN (by omega : 52 < n) hO2 rfl) rfl rfl hl.1 rfl (lv_room (Nat.le_of_ble_eq_true rfl)) dX4_feed_27 ⟨Nat.zero_le _, Nat.zero_le _⟩) (Nat.le_refl _) hS (fun c3 H locs hw2 hP hS => ?_)
    obtain ⟨hO3, hB3, hs3⟩ := hw2
    refine lv_aload_n hx hb dX4_feed_30 rfl (lv_at hl 0 rfl) ?_
    refine lv_iload hx hb dX4_feed_31 (lv_at hl 4 rfl) ?_
    refine mx_cv (va_runV (As := [.int d]) (rest := []) ⟨hx, hb, hml, hown, hts⟩ (c_lay l D ca n ad c3 hn hO3 hB3 rfl (by (try simp only [List.length_append, tFour_len]); omega) d _) (cwV 1 hts (gV wm_334 wm_336 ws_11 wm_5 wm_337) rfl rfl rfl (by decide +kernel) ⟨Nat.le_of_ble_eq_true rfl, Nat.le_of_ble_eq_true rfl⟩) (mx_pv (C := RX4) (T := TX4) (N := 20) (ci := 4) hK hP hD hN (by omega : 52 < n) hO3 rfl) rfl rfl hl.1 rfl (lv_room (Nat.le_of_ble_eq_true rfl)) dX4_feed_33 ⟨Nat.zero_le _, Nat.zero_le _⟩) (Nat.le_refl _) hS (fun c4 H locs hw3 hP hS => ?_)
    obtain ⟨hO4, hB4, hs4⟩ := hw3
    refine lv_aload_n hx hb dX4_feed_36 rfl (lv_at hl 0 rfl) ?_
    refine lv_iload hx hb dX4_feed_37 (lv_at hl 5 rfl) ?_
    refine mx_cv (va_runV (As := [.int e]) (rest := []) ⟨hx, hb, hml, hown, hts⟩ (c_lay l D ca n ad c4 hn hO4 hB4 rfl (by (try simp only [List.length_append, tFour_len]); omega) e _) (cwV 1 hts (gV wm_334 wm_336 ws_11 wm_5 wm_337) rfl rfl rfl (by decide +kernel) ⟨Nat.le_of_ble_eq_true rfl, Nat.le_of_ble_eq_true rfl⟩) (mx_pv (C := RX4) (T := TX4) (N := 20) (ci := 4) hK hP hD hN (by omega : 52 < n) hO4 rfl) rfl rfl hl.1 rfl (lv_room (Nat.le_of_ble_eq_true rfl)) dX4_feed_39 ⟨Nat.zero_le _, Nat.zero_le _⟩) (Nat.le_refl _) hS (fun c5 H locs hw4 hP hS => ?_)
    obtain ⟨hO5, hB5, hs5⟩ := hw4
    refine lv_iconst (v := 1) hx hb dX4_feed_42 (by decide) ?_
    have hss : ∀ j, j ≠ 52 → j ≠ 53 → c5 j = c j := fun j h1 h2 => (hs5 j h1 h2).trans ((hs4 j h1 h2).trans ((hs3 j h1 h2).trans ((hs2 j h1 h2).trans (hs1 j h1 h2))))
    exact mx_zret hx hb hr hlocks rfl hP hS (⟨Or.inl ⟨hroom, rfl, hO5, hB5, h54.keep (hss 54 (by omega) (by omega)), hW.keep (hss 55 (by omega) (by omega)) (hss 57 (by omega) (by omega)), h56.keep (hss 56 (by omega) (by omega)), ⟨_, (hss 58 (by omega) (by omega)).trans h58⟩, hac⟩, fun j h => hss j (by omega) (by omega)⟩) dX4_feed_43
  · skip
    refine lv_iconst (v := 0) hx hb dX4_feed_13 (by decide) ?_
    exact mx_zret hx hb hr hlocks rfl hP hS (⟨Or.inr ⟨fun h => hc (nI_le (b := 400) h (by omega)), rfl, rfl⟩, fun j h => rfl⟩) dX4_feed_14
set_option maxHeartbeats 4000000 in
set_option maxRecDepth 100000 in
/-- end -/
theorem c_endR (l : Launch) (D : va_G) (ca : Nat → ClassId) (n : Nat) (ad : Nat → Nat) (c : Nat → va_E) {tp pt md : List Nat} {ar : Nat → List Nat} {ac : Nat} {x4 x5 x6 x7 : Int32} {f : fl4} {x12 : Int32} {v : Int64} (hn : 59 ≤ n) (hM : tRF ca ad c tp pt md ar ac x4 x5 x6 x7 f x12 v) (x : Int32) : mInt l yX4_end wsX4_end ({ frames := 0, cells := 0, slots := 0, locals := 0 }) [.ref (ad 52), .int x] D (tTY ca) n ad c (fun r c' => (((x < 0 ∨ nI tp.length < x) ∧ r = 0 ∧ c' = c) ∨ ∃ j, j ≤ tp.length ∧ x = nI j ∧ r = 1 ∧ tRF ca ad c' (tp.take j) pt md ar ac x4 x5 x6 x7 f x12 v) ∧ ∀ j, j < 52 → c' j = c j) := by
  intro sz
  refine Met.ofW (cc := cX4_end) (maxL := 2) (ret := (some .boolean)) (by decide) rfl ?_
  intro pg9 ev9 s m args below meth cd s₁ B hml hv
  obtain ⟨rfl, hsz, hP, hK, hD0, hN⟩ := hv
  have hx := B.exec
  have hb := B.bytes
  have hr := B.returns
  have hts := fun (w : Cond) (h : w ∈ WSa) => atoms_spec (ws := wsX4_end) B.pre w (List.mem_cons_of_mem _ h)
  have hown : s.vm.findClass RX4 = some m.cls := findClass_of_methodNamed B.named
  have hlocks := B.notSynchronized
  subst hsz
  have hD : ∀ c, va_D (fun _ => True) (mw n ad c) := fun c' => mw_D hD0 c'
  have hS : va_S (mA n ad s.heap.size) s.heap s.heap [] := va_S.rf
  have hl := lv_entry ([.ref (ad 52), .int x]) (n := 2) (Nat.le_of_ble_eq_true rfl)
  rw [lg_entry_eq]
  generalize (lg_sl ([.ref (ad 52), .int x]) ++ List.replicate (2 - (lg_sl ([.ref (ad 52), .int x])).length) Slot.unset).toArray = ls at hl ⊢
  have hl : lv_has ls 2 [(0, .ref (ad 52)), (1, .int x)] := hl
  obtain ⟨hO, h53, h54, hW, h56, ⟨f8, h58⟩, hac⟩ := id hM
  have hle3 := h53.le
  rw [Nat.zero_add] at hle3
  refine lv_iload_n hx hb dX4_end_0 rfl (lv_at hl 1 rfl) ?_
  refine lv_if_lt (tgt := 12) hx hb dX4_end_1 (by decide) (fun hc => ?_) (fun hc => ?_)
  · skip
    refine lv_iconst (v := 0) hx hb dX4_end_12 (by decide) ?_
    exact mx_zret hx hb hr hlocks rfl hP hS (⟨Or.inl ⟨Or.inl hc, rfl, rfl⟩, fun j h => rfl⟩) dX4_end_13
  · skip
    refine lv_iload_n hx hb dX4_end_4 rfl (lv_at hl 1 rfl) ?_
    refine lv_aload_n hx hb dX4_end_5 rfl (lv_at hl 0 rfl) ?_
    refine mx_get (ci := 4) (v := .int (nI tp.length)) (C := RX4) (T := TX4) (N := 20) hx hb hts inX4 hown hK hP (by omega : 52 < n) hO rfl 4 (by decide) (hts _ wm_272) (fun _ h9 => h9) rfl dX4_end_6 ?_
    refine lv_icmp_le (tgt := 14) hx hb dX4_end_9 (by decide) (fun hc2 => ?_) (fun hc2 => ?_)
    · skip
      obtain ⟨j, hj, hxj⟩ := nI_of2 (nI_toInt (by omega : tp.length < 2 ^ 31)) hc hc2
      refine lv_aload_n hx hb dX4_end_14 rfl (lv_at hl 0 rfl) ?_
      refine lv_iload_n hx hb dX4_end_15 rfl (lv_at hl 1 rfl) ?_
      refine mx_i (nI (tp.take j).length) (by rw [hxj, List.length_take, Nat.min_eq_left hj]) ?_
      refine mx_put (ci := 4) (v := .int (nI (tp.take j).length)) (ty := .int) (C := RX4) (T := TX4) (N := 20) hx hb hts inX4 tyX4 tyX4_ok nmX4 hown hK hP hD hS (by omega : 52 < n) hO rfl 4 (by decide) (hts _ wm_272) (fun _ h9 => h9) rfl (by decide +kernel) rfl rfl (Nat.le_of_ble_eq_true rfl) dX4_end_16 (fun H locs hP hS => ?_)
      obtain ⟨c1, ec1⟩ : ∃ z : Nat → va_E, z = va_up c 52 (.inr (4, [.ref (ad 53), .ref (ad 54), .ref (ad 55), .ref (ad 56), .int (nI (tp.take j).length), .int (nI pt.length), .int (nI ac), .int (nI md.length), .int x4, .ref (ad 57), .int x5, .int x6, .int x7, .int (bI f.1), .int (bI f.2.1), .int (bI f.2.2.1), .int (bI f.2.2.2), .ref (ad 58), .int x12, .long v])) := ⟨_, rfl⟩
      have hP : va_P D vwCl (mw n ad c1) H := by rw [ec1]; exact hP
      have hsc1 : ∀ j, j ≠ 52 → c1 j = c j := fun j h => by rw [ec1]; exact va_up_ne _ _ h
      have hcc1 : c1 52 = .inr (4, [.ref (ad 53), .ref (ad 54), .ref (ad 55), .ref (ad 56), .int (nI (tp.take j).length), .int (nI pt.length), .int (nI ac), .int (nI md.length), .int x4, .ref (ad 57), .int x5, .int x6, .int x7, .int (bI f.1), .int (bI f.2.1), .int (bI f.2.2.1), .int (bI f.2.2.2), .ref (ad 58), .int x12, .long v]) := by rw [ec1]; exact va_up_self _ _ _
      refine lv_iconst (v := 1) hx hb dX4_end_19 (by decide) ?_
      have hs := hsc1
      exact mx_zret hx hb hr hlocks rfl hP hS (⟨Or.inr ⟨j, hj, hxj, rfl, ⟨hcc1, (h53.keep (hs 53 (by omega))).take, h54.keep (hs 54 (by omega)), hW.keep (hs 55 (by omega)) (hs 57 (by omega)), h56.keep (hs 56 (by omega)), ⟨_, (hs 58 (by omega)).trans h58⟩, hac⟩⟩, fun j h => hs j (by omega)⟩) dX4_end_20
    · skip
      refine lv_iconst (v := 0) hx hb dX4_end_12 (by decide) ?_
      exact mx_zret hx hb hr hlocks rfl hP hS (⟨Or.inl ⟨Or.inr (Int32.not_le.mp hc2), rfl, rfl⟩, fun j h => rfl⟩) dX4_end_13
set_option maxHeartbeats 4000000 in
set_option maxRecDepth 100000 in
/-- clear -/
theorem c_clearR (l : Launch) (D : va_G) (ca : Nat → ClassId) (n : Nat) (ad : Nat → Nat) (c : Nat → va_E) {tp pt md : List Nat} {ar : Nat → List Nat} {ac : Nat} {x4 x5 x6 x7 : Int32} {f : fl4} {x12 : Int32} {v : Int64} (hn : 59 ≤ n) (hM : tRF ca ad c tp pt md ar ac x4 x5 x6 x7 f x12 v) : mVoid l yX4_clear wsX4_clear ({ frames := 0, cells := 0, slots := 0, locals := 0 }) [.ref (ad 52)] D (tTY ca) n ad c (fun c' => tRF ca ad c' tp pt md ar 0 x4 x5 x6 x7 f x12 v ∧ ∀ j, j < 52 → c' j = c j) := by
  intro sz
  refine Met.ofW (cc := cX4_clear) (maxL := 1) (ret := none) (by decide) rfl ?_
  intro pg9 ev9 s m args below meth cd s₁ B hml hv
  obtain ⟨rfl, hsz, hP, hK, hD0, hN⟩ := hv
  have hx := B.exec
  have hb := B.bytes
  have hr := B.returns
  have hts := fun (w : Cond) (h : w ∈ WSa) => atoms_spec (ws := wsX4_clear) B.pre w (List.mem_cons_of_mem _ h)
  have hown : s.vm.findClass RX4 = some m.cls := findClass_of_methodNamed B.named
  have hlocks := B.notSynchronized
  subst hsz
  have hD : ∀ c, va_D (fun _ => True) (mw n ad c) := fun c' => mw_D hD0 c'
  have hS : va_S (mA n ad s.heap.size) s.heap s.heap [] := va_S.rf
  have hl := lv_entry ([.ref (ad 52)]) (n := 1) (Nat.le_of_ble_eq_true rfl)
  rw [lg_entry_eq]
  generalize (lg_sl ([.ref (ad 52)]) ++ List.replicate (1 - (lg_sl ([.ref (ad 52)])).length) Slot.unset).toArray = ls at hl ⊢
  have hl : lv_has ls 1 [(0, .ref (ad 52))] := hl
  obtain ⟨hO, h53, h54, hW, h56, ⟨f8, h58⟩, hac⟩ := id hM
  refine lv_aload_n hx hb dX4_clear_0 rfl (lv_at hl 0 rfl) ?_
  refine lv_iconst (v := 0) hx hb dX4_clear_1 (by decide) ?_
  refine mx_i (nI 0) (nI_0.symm) ?_
  refine mx_put (ci := 4) (v := .int (nI 0)) (ty := .int) (C := RX4) (T := TX4) (N := 20) hx hb hts inX4 tyX4 tyX4_ok nmX4 hown hK hP hD hS (by omega : 52 < n) hO rfl 6 (by decide) (hts _ wm_274) (fun _ h9 => h9) rfl (by decide +kernel) rfl rfl (Nat.le_of_ble_eq_true rfl) dX4_clear_2 (fun H locs hP hS => ?_)
  obtain ⟨c1, ec1⟩ : ∃ z : Nat → va_E, z = va_up c 52 (.inr (4, [.ref (ad 53), .ref (ad 54), .ref (ad 55), .ref (ad 56), .int (nI tp.length), .int (nI pt.length), .int (nI 0), .int (nI md.length), .int x4, .ref (ad 57), .int x5, .int x6, .int x7, .int (bI f.1), .int (bI f.2.1), .int (bI f.2.2.1), .int (bI f.2.2.2), .ref (ad 58), .int x12, .long v])) := ⟨_, rfl⟩
  have hP : va_P D vwCl (mw n ad c1) H := by rw [ec1]; exact hP
  have hsc1 : ∀ j, j ≠ 52 → c1 j = c j := fun j h => by rw [ec1]; exact va_up_ne _ _ h
  have hcc1 : c1 52 = .inr (4, [.ref (ad 53), .ref (ad 54), .ref (ad 55), .ref (ad 56), .int (nI tp.length), .int (nI pt.length), .int (nI 0), .int (nI md.length), .int x4, .ref (ad 57), .int x5, .int x6, .int x7, .int (bI f.1), .int (bI f.2.1), .int (bI f.2.2.1), .int (bI f.2.2.2), .ref (ad 58), .int x12, .long v]) := by rw [ec1]; exact va_up_self _ _ _
  have hs := hsc1
  have hW0 : tWd ca c1 ar 0 := by obtain ⟨q1, q2, q3, q4, -⟩ := hW; exact ⟨q1, q2, (hs 55 (by omega)).trans q3, (hs 57 (by omega)).trans q4, fun i hi => absurd hi (by omega)⟩
  exact mx_vret hx hb hr hlocks hP hS (⟨⟨hcc1, h53.keep (hs 53 (by omega)), h54.keep (hs 54 (by omega)), hW0, h56.keep (hs 56 (by omega)), ⟨_, (hs 58 (by omega)).trans h58⟩, by omega⟩, fun j h => hs j (by omega)⟩) dX4_clear_5
set_option maxHeartbeats 4000000 in
set_option maxRecDepth 100000 in
/-- madeAt -/
theorem c_madeAtR (l : Launch) (D : va_G) (ca : Nat → ClassId) (n : Nat) (ad : Nat → Nat) (c : Nat → va_E) {tp pt md : List Nat} {ar : Nat → List Nat} {ac : Nat} {x4 x5 x6 x7 : Int32} {f : fl4} {x12 : Int32} {v : Int64} (hn : 59 ≤ n) (hM : tRF ca ad c tp pt md ar ac x4 x5 x6 x7 f x12 v) (x : Int32) : mInt l yX4_madeAt wsX4_madeAt ({ frames := 0, cells := 0, slots := 0, locals := 0 }) [.ref (ad 52), .int x] D (tTY ca) n ad c (fun r c' => r = tAtI md x ∧ c' = c) := by
  intro sz
  refine Met.ofW (cc := cX4_madeAt) (maxL := 2) (ret := (some .int)) (by decide) rfl ?_
  intro pg9 ev9 s m args below meth cd s₁ B hml hv
  obtain ⟨rfl, hsz, hP, hK, hD0, hN⟩ := hv
  have hx := B.exec
  have hb := B.bytes
  have hr := B.returns
  have hts := fun (w : Cond) (h : w ∈ WSa) => atoms_spec (ws := wsX4_madeAt) B.pre w (List.mem_cons_of_mem _ h)
  have hown : s.vm.findClass RX4 = some m.cls := findClass_of_methodNamed B.named
  have hlocks := B.notSynchronized
  subst hsz
  have hD : ∀ c, va_D (fun _ => True) (mw n ad c) := fun c' => mw_D hD0 c'
  have hS : va_S (mA n ad s.heap.size) s.heap s.heap [] := va_S.rf
  have hl := lv_entry ([.ref (ad 52), .int x]) (n := 2) (Nat.le_of_ble_eq_true rfl)
  rw [lg_entry_eq]
  generalize (lg_sl ([.ref (ad 52), .int x]) ++ List.replicate (2 - (lg_sl ([.ref (ad 52), .int x])).length) Slot.unset).toArray = ls at hl ⊢
  have hl : lv_has ls 2 [(0, .ref (ad 52)), (1, .int x)] := hl
  obtain ⟨hO, h53, h54, hW, h56, ⟨f8, h58⟩, hac⟩ := id hM
  obtain ⟨hle6, -, hb6, g6, hk6, hg6⟩ := id h56
  rw [Nat.zero_add] at hle6
  refine lv_iload_n hx hb dX4_madeAt_0 rfl (lv_at hl 1 rfl) ?_
  refine lv_if_lt (tgt := 25) hx hb dX4_madeAt_1 (by decide) (fun hc => ?_) (fun hc => ?_)
  · skip
    refine lv_iconst (v := (-1)) hx hb dX4_madeAt_25 (by decide) ?_
    exact mx_iret hx hb hr hlocks hP hS (⟨(tAtI_neg hc).symm, rfl⟩) dX4_madeAt_26
  · skip
    refine lv_iload_n hx hb dX4_madeAt_4 rfl (lv_at hl 1 rfl) ?_
    refine lv_aload_n hx hb dX4_madeAt_5 rfl (lv_at hl 0 rfl) ?_
    refine mx_get (ci := 4) (v := .int (nI md.length)) (C := RX4) (T := TX4) (N := 20) hx hb hts inX4 hown hK hP (by omega : 52 < n) hO rfl 7 (by decide) (hts _ wm_275) (fun _ h9 => h9) rfl dX4_madeAt_6 ?_
    refine lv_icmp_ge (tgt := 25) hx hb dX4_madeAt_9 (by decide) (fun hc2 => ?_) (fun hc2 => ?_)
    · skip
      refine lv_iconst (v := (-1)) hx hb dX4_madeAt_25 (by decide) ?_
      exact mx_iret hx hb hr hlocks hP hS (⟨(tAtI_big hc hc2 (by omega)).symm, rfl⟩) dX4_madeAt_26
    · skip
      obtain ⟨j, hj, hxj, hjv⟩ := tAtI_in hc hc2 (by omega)
      refine lv_aload_n hx hb dX4_madeAt_12 rfl (lv_at hl 0 rfl) ?_
      refine mx_get (ci := 4) (v := .ref (ad 56)) (C := RX4) (T := TX4) (N := 20) hx hb hts inX4 hown hK hP (by omega : 52 < n) hO rfl 3 (by decide) (hts _ wm_271) (fun _ h9 => h9) rfl dX4_madeAt_13 ?_
      refine lv_iload_n hx hb dX4_madeAt_16 rfl (lv_at hl 1 rfl) ?_
      refine mx_bald hx hb hK hP (by omega : 56 < n) 2 hk6 rfl (by rw [hxj]; exact vp_in_nI (by omega) (by omega)) dX4_madeAt_17 ?_
      refine mx_i (sB (md.getD j 0)) (by rw [hxj, nI_clamp (by omega)]; have h9 := hg6 j hj; rw [Nat.zero_add] at h9; exact h9) ?_
      refine lv_sipush (v := 255) hx hb dX4_madeAt_18 (by decide) ?_
      refine lv_iand hx hb dX4_madeAt_21 ?_
      refine mx_i (tAtI md x) (by rw [hjv]; exact sB_and _ (hb6 _ (gD_mem hj))) ?_
      refine lv_goto (tgt := 26) hx hb dX4_madeAt_22 (by decide) ?_
      exact mx_iret hx hb hr hlocks hP hS (⟨rfl, rfl⟩) dX4_madeAt_26
set_option maxHeartbeats 4000000 in
set_option maxRecDepth 100000 in
/-- format -/
theorem c_formatR (l : Launch) (D : va_G) (ca : Nat → ClassId) (n : Nat) (ad : Nat → Nat) (c : Nat → va_E) {tp pt md : List Nat} {ar : Nat → List Nat} {ac : Nat} {x4 x5 x6 x7 : Int32} {f : fl4} {x12 : Int32} {v : Int64} (hn : 59 ≤ n) (hM : tRF ca ad c tp pt md ar ac x4 x5 x6 x7 f x12 v) : mInt l yX4_format wsX4_format ({ frames := 0, cells := 0, slots := 0, locals := 0 }) [.ref (ad 52)] D (tTY ca) n ad c (fun r c' => r = nI tp.length ∧ tRF ca ad c' [] tp md ar ac x4 x5 x6 x7 f x12 v ∧ ∀ j, j < 52 → c' j = c j) := by
  intro sz
  refine Met.ofW (cc := cX4_format) (maxL := 2) (ret := (some .int)) (by decide) rfl ?_
  intro pg9 ev9 s m args below meth cd s₁ B hml hv
  obtain ⟨rfl, hsz, hP, hK, hD0, hN⟩ := hv
  have hx := B.exec
  have hb := B.bytes
  have hr := B.returns
  have hts := fun (w : Cond) (h : w ∈ WSa) => atoms_spec (ws := wsX4_format) B.pre w (List.mem_cons_of_mem _ h)
  have hown : s.vm.findClass RX4 = some m.cls := findClass_of_methodNamed B.named
  have hlocks := B.notSynchronized
  subst hsz
  have hD : ∀ c, va_D (fun _ => True) (mw n ad c) := fun c' => mw_D hD0 c'
  have hS : va_S (mA n ad s.heap.size) s.heap s.heap [] := va_S.rf
  have hl := lv_entry ([.ref (ad 52)]) (n := 2) (Nat.le_of_ble_eq_true rfl)
  rw [lg_entry_eq]
  generalize (lg_sl ([.ref (ad 52)]) ++ List.replicate (2 - (lg_sl ([.ref (ad 52)])).length) Slot.unset).toArray = ls at hl ⊢
  have hl : lv_has ls 2 [(0, .ref (ad 52))] := hl
  obtain ⟨hO, h53, h54, hW, h56, ⟨f8, h58⟩, hac⟩ := id hM
  obtain ⟨hle3, -, hb3, g3, hk3, hg3⟩ := id h53
  rw [Nat.zero_add] at hle3
  obtain ⟨-, -, -, g4, hk4, -⟩ := id h54
  have loop : ∀ (q1 : Nat) (i : Nat) (c1 : Nat → va_E) (H : Heap) (locs : List Loc) (ls : Array Slot), (i ≤ tp.length) → (tp.length < i + q1) → (c1 52 = rO ad (nI tp.length) (nI tp.length) (nI ac) (nI md.length) x4 x5 x6 x7 (bI f.1) (bI f.2.1) (bI f.2.2.1) (bI f.2.2.2) x12 v) → (tB ca c1 54 400 0 (tp.take i)) → (∀ j, j ≠ 52 → j ≠ 54 → c1 j = c j) → va_P D vwCl (mw n ad c1) H → va_S (mA n ad s.heap.size) s.heap H locs → lv_has ls 2 [(1, .int (nI i)), (0, .ref (ad 52))] → W pg9 l ev9 (headSpec wsX4_format ({ frames := 0, cells := 0, slots := 0, locals := 0 })).room s m ([.ref (ad 52)] : List Value).toArray below meth cd H locs 0 0 (MQ below (va_Qi (fun r c' => r = nI tp.length ∧ tRF ca ad c' [] tp md ar ac x4 x5 x6 x7 f x12 v ∧ ∀ j, j < 52 → c' j = c j) (mW D n ad) (mA n ad s.heap.size)) ([.ref (ad 52)] : List Value).toArray s 0 0 (mA n ad s.heap.size)) (F0 m 10 ls []) := by
    intro q1
    induction q1 with
    | zero => intro i c1 H locs ls hi hq hO1 hB1 hs1 hP hS hl; omega
    | succ q1 ih =>
      intro i c1 H locs ls hi hq hO1 hB1 hs1 hP hS hl
      have hk31 := (hs1 53 (by omega) (by omega)).trans hk3
      obtain ⟨-, -, -, g5, hk5, -⟩ := id hB1
      refine lv_iload_n hx hb dX4_format_10 rfl (lv_at hl 0 rfl) ?_
      refine lv_aload_n hx hb dX4_format_11 rfl (lv_at hl 1 rfl) ?_
      refine mx_get (ci := 4) (v := .int (nI tp.length)) (C := RX4) (T := TX4) (N := 20) hx hb hts inX4 hown hK hP (by omega : 52 < n) hO1 rfl 5 (by decide) (hts _ wm_273) (fun _ h9 => h9) rfl dX4_format_12 ?_
      refine lv_icmp_ge (tgt := 36) hx hb dX4_format_15 (by decide) (fun hc => ?_) (fun hc => ?_)
      · skip
        have hge : tp.length ≤ i := (nI_leI (by omega) (by omega)).mp hc
        rw [List.take_of_length_le hge] at hB1
        refine lv_aload_n hx hb dX4_format_36 rfl (lv_at hl 1 rfl) ?_
        refine lv_iconst (v := 0) hx hb dX4_format_37 (by decide) ?_
        refine mx_i (nI ([] : List Nat).length) (nI_0.symm) ?_
        refine mx_put (ci := 4) (v := .int (nI ([] : List Nat).length)) (ty := .int) (C := RX4) (T := TX4) (N := 20) hx hb hts inX4 tyX4 tyX4_ok nmX4 hown hK hP hD hS (by omega : 52 < n) hO1 rfl 4 (by decide) (hts _ wm_272) (fun _ h9 => h9) rfl (by decide +kernel) rfl rfl (Nat.le_of_ble_eq_true rfl) dX4_format_38 (fun H locs hP hS => ?_)
        obtain ⟨c2, ec2⟩ : ∃ z : Nat → va_E, z = va_up c1 52 (.inr (4, [.ref (ad 53), .ref (ad 54), .ref (ad 55), .ref (ad 56), .int (nI ([] : List Nat).length), .int (nI tp.length), .int (nI ac), .int (nI md.length), .int x4, .ref (ad 57), .int x5, .int x6, .int x7, .int (bI f.1), .int (bI f.2.1), .int (bI f.2.2.1), .int (bI f.2.2.2), .ref (ad 58), .int x12, .long v])) := ⟨_, rfl⟩
        have hP : va_P D vwCl (mw n ad c2) H := by rw [ec2]; exact hP
        have hsc2 : ∀ j, j ≠ 52 → c2 j = c1 j := fun j h => by rw [ec2]; exact va_up_ne _ _ h
        have hcc2 : c2 52 = .inr (4, [.ref (ad 53), .ref (ad 54), .ref (ad 55), .ref (ad 56), .int (nI ([] : List Nat).length), .int (nI tp.length), .int (nI ac), .int (nI md.length), .int x4, .ref (ad 57), .int x5, .int x6, .int x7, .int (bI f.1), .int (bI f.2.1), .int (bI f.2.2.1), .int (bI f.2.2.2), .ref (ad 58), .int x12, .long v]) := by rw [ec2]; exact va_up_self _ _ _
        refine lv_aload_n hx hb dX4_format_41 rfl (lv_at hl 1 rfl) ?_
        refine mx_get (ci := 4) (v := .int (nI tp.length)) (C := RX4) (T := TX4) (N := 20) hx hb hts inX4 hown hK hP (by omega : 52 < n) hcc2 rfl 5 (by decide) (hts _ wm_273) (fun _ h9 => h9) rfl dX4_format_42 ?_
        have hs2 : ∀ j, j ≠ 52 → j ≠ 54 → c2 j = c j := fun j h1 h2 => (hsc2 j h1).trans (hs1 j h1 h2)
        exact mx_iret hx hb hr hlocks hP hS (⟨rfl, ⟨hcc2, tB.nil ((hs2 53 (by omega) (by omega)).trans hk3) (by omega) (by omega), hB1.keep (hsc2 54 (by omega)), hW.keep (hs2 55 (by omega) (by omega)) (hs2 57 (by omega) (by omega)), h56.keep (hs2 56 (by omega) (by omega)), ⟨_, (hs2 58 (by omega) (by omega)).trans h58⟩, hac⟩, fun j h => hs2 j (by omega) (by omega)⟩) dX4_format_45
      · skip
        have hlt : i < tp.length := by have := (not_congr (nI_leI (a := tp.length) (b := i) (by omega) (by omega))).mp hc; omega
        refine lv_aload_n hx hb dX4_format_18 rfl (lv_at hl 1 rfl) ?_
        refine mx_get (ci := 4) (v := .ref (ad 54)) (C := RX4) (T := TX4) (N := 20) hx hb hts inX4 hown hK hP (by omega : 52 < n) hO1 rfl 1 (by decide) (hts _ wm_269) (fun _ h9 => h9) rfl dX4_format_19 ?_
        refine lv_iload_n hx hb dX4_format_22 rfl (lv_at hl 0 rfl) ?_
        refine lv_aload_n hx hb dX4_format_23 rfl (lv_at hl 1 rfl) ?_
        refine mx_get (ci := 4) (v := .ref (ad 53)) (C := RX4) (T := TX4) (N := 20) hx hb hts inX4 hown hK hP (by omega : 52 < n) hO1 rfl 0 (by decide) (hts _ wm_268) (fun _ h9 => h9) rfl dX4_format_24 ?_
        refine lv_iload_n hx hb dX4_format_27 rfl (lv_at hl 0 rfl) ?_
        refine mx_bald hx hb hK hP (by omega : 53 < n) 2 hk31 rfl (vp_in_nI (by omega) (by omega)) dX4_format_28 ?_
        refine mx_i (sB (tp.getD i 0)) (by rw [nI_clamp (by omega)]; have h9 := hg3 i hlt; rw [Nat.zero_add] at h9; exact h9) ?_
        refine mx_bast (y := sB (tp.getD i 0)) hx hb hK hP hD hS (by omega : 54 < n) 2 hk5 rfl (vp_in_nI (by omega) (by omega)) (nar_sB _) dX4_format_29 (fun H locs hP hS => ?_)
        obtain ⟨c2, ec2⟩ : ∃ z : Nat → va_E, z = va_up c1 54 (.inl (ca 2, 400, .inl (upd g5 (nI i).toNatClampNeg (sB (tp.getD i 0))))) := ⟨_, rfl⟩
        have hP : va_P D vwCl (mw n ad c2) H := by rw [ec2]; exact hP
        have hsc2 : ∀ j, j ≠ 54 → c2 j = c1 j := fun j h => by rw [ec2]; exact va_up_ne _ _ h
        have hcc2 : c2 54 = .inl (ca 2, 400, .inl (upd g5 (nI i).toNatClampNeg (sB (tp.getD i 0)))) := by rw [ec2]; exact va_up_self _ _ _
        rw [nI_clamp (by omega)] at hcc2
        have hB2 : tB ca c2 54 400 0 (tp.take (i + 1)) := by rw [tk_succ hlt]; exact hB1.app hk5 (hb3 _ (gD_mem hlt)) (by rw [List.length_take]; omega) (by rw [List.length_take, Nat.min_eq_left (by omega), Nat.zero_add]; exact hcc2)
        refine lv_iinc (v := nI (i + 1)) (lv' := [(1, .int (nI (i + 1))), (0, .ref (ad 52))]) hx hb dX4_format_30 hl (k := 0) rfl (nI_1 i) (by decide) rfl (fun ls hl => ?_)
        refine lv_goto (tgt := 10) hx hb dX4_format_33 (by decide) ?_
        exact ih (i + 1) c2 H locs ls (by omega) (by omega) ((hsc2 52 (by omega)).trans hO1) hB2 (fun j h1 h2 => (hsc2 j h2).trans (hs1 j h1 h2)) hP hS (lv_sub hl [0, 1] rfl)
  refine lv_aload_n hx hb dX4_format_0 rfl (lv_at hl 0 rfl) ?_
  refine lv_aload_n hx hb dX4_format_1 rfl (lv_at hl 0 rfl) ?_
  refine mx_get (ci := 4) (v := .int (nI tp.length)) (C := RX4) (T := TX4) (N := 20) hx hb hts inX4 hown hK hP (by omega : 52 < n) hO rfl 4 (by decide) (hts _ wm_272) (fun _ h9 => h9) rfl dX4_format_2 ?_
  refine mx_put (ci := 4) (v := .int (nI tp.length)) (ty := .int) (C := RX4) (T := TX4) (N := 20) hx hb hts inX4 tyX4 tyX4_ok nmX4 hown hK hP hD hS (by omega : 52 < n) hO rfl 5 (by decide) (hts _ wm_273) (fun _ h9 => h9) rfl (by decide +kernel) rfl rfl (Nat.le_of_ble_eq_true rfl) dX4_format_5 (fun H locs hP hS => ?_)
  obtain ⟨a1, ea1⟩ : ∃ z : Nat → va_E, z = va_up c 52 (.inr (4, [.ref (ad 53), .ref (ad 54), .ref (ad 55), .ref (ad 56), .int (nI tp.length), .int (nI tp.length), .int (nI ac), .int (nI md.length), .int x4, .ref (ad 57), .int x5, .int x6, .int x7, .int (bI f.1), .int (bI f.2.1), .int (bI f.2.2.1), .int (bI f.2.2.2), .ref (ad 58), .int x12, .long v])) := ⟨_, rfl⟩
  have hP : va_P D vwCl (mw n ad a1) H := by rw [ea1]; exact hP
  have hsa1 : ∀ j, j ≠ 52 → a1 j = c j := fun j h => by rw [ea1]; exact va_up_ne _ _ h
  have hca1 : a1 52 = .inr (4, [.ref (ad 53), .ref (ad 54), .ref (ad 55), .ref (ad 56), .int (nI tp.length), .int (nI tp.length), .int (nI ac), .int (nI md.length), .int x4, .ref (ad 57), .int x5, .int x6, .int x7, .int (bI f.1), .int (bI f.2.1), .int (bI f.2.2.1), .int (bI f.2.2.2), .ref (ad 58), .int x12, .long v]) := by rw [ea1]; exact va_up_self _ _ _
  refine lv_iconst (v := 0) hx hb dX4_format_8 (by decide) ?_
  refine lv_istore_n (lv' := [(1, .int 0), (0, .ref (ad 52))]) hx hb dX4_format_9 rfl hl (by decide) rfl (fun ls hl => ?_)
  exact loop (tp.length + 1) 0 a1 _ _ ls (by omega) (by omega) hca1 (tB.nil ((hsa1 54 (by omega)).trans hk4) (by omega) (by omega)) (fun j h1 h2 => hsa1 j h1) hP hS (by have h9 := (lv_sub hl [0, 1] rfl); rw [nI_0]; exact h9)
set_option maxHeartbeats 4000000 in
set_option maxRecDepth 100000 in
/-- argument -/
theorem c_argumentR (l : Launch) (D : va_G) (ca : Nat → ClassId) (n : Nat) (ad : Nat → Nat) (c : Nat → va_E) {tp pt md : List Nat} {ar : Nat → List Nat} {ac : Nat} {x4 x5 x6 x7 : Int32} {f : fl4} {x12 : Int32} {v : Int64} (hn : 59 ≤ n) (hM : tRF ca ad c tp pt md ar ac x4 x5 x6 x7 f x12 v) : mInt l yX4_argument wsX4_argument ({ frames := 0, cells := 0, slots := 0, locals := 0 }) [.ref (ad 52)] D (tTY ca) n ad c (fun r c' => ((tp.length ≤ 40 ∧ ac < 20 ∧ r = nI ac ∧ tRF ca ad c' [] pt md (va_up ar ac tp) (ac + 1) x4 x5 x6 x7 f x12 v) ∨ (¬ (tp.length ≤ 40 ∧ ac < 20) ∧ r = -1 ∧ tRF ca ad c' [] pt md ar ac x4 x5 x6 x7 f x12 v)) ∧ ∀ j, j < 52 → c' j = c j) := by
  intro sz
  refine Met.ofW (cc := cX4_argument) (maxL := 3) (ret := (some .int)) (by decide) rfl ?_
  intro pg9 ev9 s m args below meth cd s₁ B hml hv
  obtain ⟨rfl, hsz, hP, hK, hD0, hN⟩ := hv
  have hx := B.exec
  have hb := B.bytes
  have hr := B.returns
  have hts := fun (w : Cond) (h : w ∈ WSa) => atoms_spec (ws := wsX4_argument) B.pre w (List.mem_cons_of_mem _ h)
  have hown : s.vm.findClass RX4 = some m.cls := findClass_of_methodNamed B.named
  have hlocks := B.notSynchronized
  subst hsz
  have hD : ∀ c, va_D (fun _ => True) (mw n ad c) := fun c' => mw_D hD0 c'
  have hS : va_S (mA n ad s.heap.size) s.heap s.heap [] := va_S.rf
  have hl := lv_entry ([.ref (ad 52)]) (n := 3) (Nat.le_of_ble_eq_true rfl)
  rw [lg_entry_eq]
  generalize (lg_sl ([.ref (ad 52)]) ++ List.replicate (3 - (lg_sl ([.ref (ad 52)])).length) Slot.unset).toArray = ls at hl ⊢
  have hl : lv_has ls 3 [(0, .ref (ad 52))] := hl
  obtain ⟨hO, h53, h54, hW, h56, ⟨f8, h58⟩, hac⟩ := id hM
  obtain ⟨hle3, -, hb3, g3, hk3, hg3⟩ := id h53
  rw [Nat.zero_add] at hle3
  obtain ⟨f5, g7, hk5, hk7, hWq⟩ := id hW
  refine lv_aload_n hx hb dX4_argument_0 rfl (lv_at hl 0 rfl) ?_
  refine mx_get (ci := 4) (v := .int (nI tp.length)) (C := RX4) (T := TX4) (N := 20) hx hb hts inX4 hown hK hP (by omega : 52 < n) hO rfl 4 (by decide) (hts _ wm_272) (fun _ h9 => h9) rfl dX4_argument_1 ?_
  refine lv_istore_n (lv' := [(1, .int (nI tp.length)), (0, .ref (ad 52))]) hx hb dX4_argument_4 rfl hl (by decide) rfl (fun ls hl => ?_)
  refine lv_aload_n hx hb dX4_argument_5 rfl (lv_at hl 1 rfl) ?_
  refine lv_iconst (v := 0) hx hb dX4_argument_6 (by decide) ?_
  refine mx_i (nI ([] : List Nat).length) (nI_0.symm) ?_
  refine mx_put (ci := 4) (v := .int (nI ([] : List Nat).length)) (ty := .int) (C := RX4) (T := TX4) (N := 20) hx hb hts inX4 tyX4 tyX4_ok nmX4 hown hK hP hD hS (by omega : 52 < n) hO rfl 4 (by decide) (hts _ wm_272) (fun _ h9 => h9) rfl (by decide +kernel) rfl rfl (Nat.le_of_ble_eq_true rfl) dX4_argument_7 (fun H locs hP hS => ?_)
  obtain ⟨a1, ea1⟩ : ∃ z : Nat → va_E, z = va_up c 52 (.inr (4, [.ref (ad 53), .ref (ad 54), .ref (ad 55), .ref (ad 56), .int (nI ([] : List Nat).length), .int (nI pt.length), .int (nI ac), .int (nI md.length), .int x4, .ref (ad 57), .int x5, .int x6, .int x7, .int (bI f.1), .int (bI f.2.1), .int (bI f.2.2.1), .int (bI f.2.2.2), .ref (ad 58), .int x12, .long v])) := ⟨_, rfl⟩
  have hP : va_P D vwCl (mw n ad a1) H := by rw [ea1]; exact hP
  have hsa1 : ∀ j, j ≠ 52 → a1 j = c j := fun j h => by rw [ea1]; exact va_up_ne _ _ h
  have hca1 : a1 52 = .inr (4, [.ref (ad 53), .ref (ad 54), .ref (ad 55), .ref (ad 56), .int (nI ([] : List Nat).length), .int (nI pt.length), .int (nI ac), .int (nI md.length), .int x4, .ref (ad 57), .int x5, .int x6, .int x7, .int (bI f.1), .int (bI f.2.1), .int (bI f.2.2.1), .int (bI f.2.2.2), .ref (ad 58), .int x12, .long v]) := by rw [ea1]; exact va_up_self _ _ _
  have hs := hsa1
  refine lv_iload_n hx hb dX4_argument_10 rfl (lv_at hl 0 rfl) ?_
  refine lv_bipush (v := 40) hx hb dX4_argument_11 (by decide) ?_
  refine lv_icmp_gt (tgt := 25) hx hb dX4_argument_13 (by decide) (fun hc => ?_) (fun hc => ?_)
  · skip
    refine lv_iconst (v := (-1)) hx hb dX4_argument_25 (by decide) ?_
    exact mx_iret hx hb hr hlocks hP hS (⟨Or.inr ⟨fun h => absurd h.1 (by have := (nI_ltI (a := 40) (by omega) (by omega)).mp hc; omega), rfl, ⟨hca1, tB.nil ((hs 53 (by omega)).trans hk3) (by omega) (by omega), h54.keep (hs 54 (by omega)), hW.keep (hs 55 (by omega)) (hs 57 (by omega)), h56.keep (hs 56 (by omega)), ⟨_, (hs 58 (by omega)).trans h58⟩, hac⟩⟩, fun j h => hs j (by omega)⟩) dX4_argument_26
  · skip
    have h40 : tp.length ≤ 40 := by have := (not_congr (nI_ltI (a := 40) (b := tp.length) (by omega) (by omega))).mp hc; omega
    refine lv_aload_n hx hb dX4_argument_16 rfl (lv_at hl 1 rfl) ?_
    refine mx_get (ci := 4) (v := .int (nI ac)) (C := RX4) (T := TX4) (N := 20) hx hb hts inX4 hown hK hP (by omega : 52 < n) hca1 rfl 6 (by decide) (hts _ wm_274) (fun _ h9 => h9) rfl dX4_argument_17 ?_
    refine lv_bipush (v := 20) hx hb dX4_argument_20 (by decide) ?_
    refine lv_icmp_ne (tgt := 27) hx hb dX4_argument_22 (by decide) (fun hc2 => ?_) (fun hc2 => ?_)
    · skip
      have hlt : ac < 20 := by rcases Nat.lt_or_ge ac 20 with h | h; exact h; exact absurd (by rw [show ac = 20 by omega]; rfl) hc2
      have hk70 : a1 57 = .inl (ca 0, 20, .inl g7) := (hs 57 (by omega)).trans hk7
      have loop : ∀ (q1 : Nat) (i : Nat) (fi : Nat → Int32) (c1 : Nat → va_E) (H : Heap) (locs : List Loc) (ls : Array Slot), (i ≤ tp.length) → (tp.length < i + q1) → (c1 52 = rO ad (nI ([] : List Nat).length) (nI pt.length) (nI ac) (nI md.length) x4 x5 x6 x7 (bI f.1) (bI f.2.1) (bI f.2.2.1) (bI f.2.2.2) x12 v) → (c1 55 = .inl (ca 2, 800, .inl fi)) → (∀ j, j < i → fi (40 * ac + j) = sB (tp.getD j 0)) → (∀ j, j < 40 * ac → fi j = f5 j) → (∀ j, j ≠ 52 → j ≠ 55 → c1 j = a1 j) → va_P D vwCl (mw n ad c1) H → va_S (mA n ad s.heap.size) s.heap H locs → lv_has ls 3 [(2, .int (nI i)), (1, .int (nI tp.length)), (0, .ref (ad 52))] → W pg9 l ev9 (headSpec wsX4_argument ({ frames := 0, cells := 0, slots := 0, locals := 0 })).room s m ([.ref (ad 52)] : List Value).toArray below meth cd H locs 0 0 (MQ below (va_Qi (fun r c' => ((tp.length ≤ 40 ∧ ac < 20 ∧ r = nI ac ∧ tRF ca ad c' [] pt md (va_up ar ac tp) (ac + 1) x4 x5 x6 x7 f x12 v) ∨ (¬ (tp.length ≤ 40 ∧ ac < 20) ∧ r = -1 ∧ tRF ca ad c' [] pt md ar ac x4 x5 x6 x7 f x12 v)) ∧ ∀ j, j < 52 → c' j = c j) (mW D n ad) (mA n ad s.heap.size)) ([.ref (ad 52)] : List Value).toArray s 0 0 (mA n ad s.heap.size)) (F0 m 29 ls []) := by
        intro q1
        induction q1 with
        | zero => intro i fi c1 H locs ls hi hq hO1 h551 hnew hold hs1 hP hS hl; omega
        | succ q1 ih =>
          intro i fi c1 H locs ls hi hq hO1 h551 hnew hold hs1 hP hS hl
          have hk31 := (hs1 53 (by omega) (by omega)).trans ((hs 53 (by omega)).trans hk3)
          refine lv_iload_n hx hb dX4_argument_29 rfl (lv_at hl 0 rfl) ?_
          refine lv_iload_n hx hb dX4_argument_30 rfl (lv_at hl 1 rfl) ?_
          refine lv_icmp_ge (tgt := 60) hx hb dX4_argument_31 (by decide) (fun hc3 => ?_) (fun hc3 => ?_)
          · skip
            have hge : tp.length ≤ i := (nI_leI (by omega) (by omega)).mp hc3
            have hk71 := (hs1 57 (by omega) (by omega)).trans hk70
            refine lv_aload_n hx hb dX4_argument_60 rfl (lv_at hl 2 rfl) ?_
            refine mx_get (ci := 4) (v := .ref (ad 57)) (C := RX4) (T := TX4) (N := 20) hx hb hts inX4 hown hK hP (by omega : 52 < n) hO1 rfl 9 (by decide) (hts _ wm_277) (fun _ h9 => h9) rfl dX4_argument_61 ?_
            refine lv_aload_n hx hb dX4_argument_64 rfl (lv_at hl 2 rfl) ?_
            refine mx_get (ci := 4) (v := .int (nI ac)) (C := RX4) (T := TX4) (N := 20) hx hb hts inX4 hown hK hP (by omega : 52 < n) hO1 rfl 6 (by decide) (hts _ wm_274) (fun _ h9 => h9) rfl dX4_argument_65 ?_
            refine lv_iload_n hx hb dX4_argument_68 rfl (lv_at hl 1 rfl) ?_
            refine mx_iast hx hb hK hP hD hS (by omega : 57 < n) 0 hk71 rfl (vp_in_nI (by omega) (by omega)) dX4_argument_69 (fun H locs hP hS => ?_)
            obtain ⟨c2, ec2⟩ : ∃ z : Nat → va_E, z = va_up c1 57 (.inl (ca 0, 20, .inl (upd g7 (nI ac).toNatClampNeg (nI tp.length)))) := ⟨_, rfl⟩
            have hP : va_P D vwCl (mw n ad c2) H := by rw [ec2]; exact hP
            have hsc2 : ∀ j, j ≠ 57 → c2 j = c1 j := fun j h => by rw [ec2]; exact va_up_ne _ _ h
            have hcc2 : c2 57 = .inl (ca 0, 20, .inl (upd g7 (nI ac).toNatClampNeg (nI tp.length))) := by rw [ec2]; exact va_up_self _ _ _
            rw [nI_clamp (by omega)] at hcc2
            have hO2 := (hsc2 52 (by omega)).trans hO1
            refine lv_aload_n hx hb dX4_argument_70 rfl (lv_at hl 2 rfl) ?_
            refine lv_dup hx hb dX4_argument_71 rfl ?_
            refine mx_get (ci := 4) (v := .int (nI ac)) (C := RX4) (T := TX4) (N := 20) hx hb hts inX4 hown hK hP (by omega : 52 < n) hO2 rfl 6 (by decide) (hts _ wm_274) (fun _ h9 => h9) rfl dX4_argument_72 ?_
            refine lv_iconst (v := 1) hx hb dX4_argument_75 (by decide) ?_
            refine lv_iadd hx hb dX4_argument_76 ?_
            refine mx_i (nI (ac + 1)) (nI_1 ac) ?_
            refine mx_put (ci := 4) (v := .int (nI (ac + 1))) (ty := .int) (C := RX4) (T := TX4) (N := 20) hx hb hts inX4 tyX4 tyX4_ok nmX4 hown hK hP hD hS (by omega : 52 < n) hO2 rfl 6 (by decide) (hts _ wm_274) (fun _ h9 => h9) rfl (by decide +kernel) rfl rfl (Nat.le_of_ble_eq_true rfl) dX4_argument_77 (fun H locs hP hS => ?_)
            obtain ⟨c3, ec3⟩ : ∃ z : Nat → va_E, z = va_up c2 52 (.inr (4, [.ref (ad 53), .ref (ad 54), .ref (ad 55), .ref (ad 56), .int (nI ([] : List Nat).length), .int (nI pt.length), .int (nI (ac + 1)), .int (nI md.length), .int x4, .ref (ad 57), .int x5, .int x6, .int x7, .int (bI f.1), .int (bI f.2.1), .int (bI f.2.2.1), .int (bI f.2.2.2), .ref (ad 58), .int x12, .long v])) := ⟨_, rfl⟩
            have hP : va_P D vwCl (mw n ad c3) H := by rw [ec3]; exact hP
            have hsc3 : ∀ j, j ≠ 52 → c3 j = c2 j := fun j h => by rw [ec3]; exact va_up_ne _ _ h
            have hcc3 : c3 52 = .inr (4, [.ref (ad 53), .ref (ad 54), .ref (ad 55), .ref (ad 56), .int (nI ([] : List Nat).length), .int (nI pt.length), .int (nI (ac + 1)), .int (nI md.length), .int x4, .ref (ad 57), .int x5, .int x6, .int x7, .int (bI f.1), .int (bI f.2.1), .int (bI f.2.2.1), .int (bI f.2.2.2), .ref (ad 58), .int x12, .long v]) := by rw [ec3]; exact va_up_self _ _ _
            refine lv_aload_n hx hb dX4_argument_80 rfl (lv_at hl 2 rfl) ?_
            refine mx_get (ci := 4) (v := .int (nI (ac + 1))) (C := RX4) (T := TX4) (N := 20) hx hb hts inX4 hown hK hP (by omega : 52 < n) hcc3 rfl 6 (by decide) (hts _ wm_274) (fun _ h9 => h9) rfl dX4_argument_81 ?_
            refine lv_iconst (v := 1) hx hb dX4_argument_84 (by decide) ?_
            refine lv_isub hx hb dX4_argument_85 ?_
            refine mx_i (nI ac) (nI_pred ac) ?_
            have hW9 : tWd ca c3 (va_up ar ac tp) (ac + 1) := hW.put hk5 hk7 ((hsc3 55 (by omega)).trans ((hsc2 55 (by omega)).trans h551)) ((hsc3 57 (by omega)).trans hcc2) h40 hb3 (fun j hj => hnew j (by omega)) hold
            have hs9 : ∀ j, j ≠ 52 → j ≠ 55 → j ≠ 57 → c3 j = a1 j := fun j h1 h2 h3 => (hsc3 j h1).trans ((hsc2 j h3).trans (hs1 j h1 h2))
            have hsz : ∀ j, j ≠ 52 → j ≠ 55 → j ≠ 57 → c3 j = c j := fun j h1 h2 h3 => (hs9 j h1 h2 h3).trans (hs j h1)
            exact mx_iret hx hb hr hlocks hP hS (⟨Or.inl ⟨h40, hlt, rfl, hcc3, tB.nil ((hsz 53 (by omega) (by omega) (by omega)).trans hk3) (by omega) (by omega), h54.keep (hsz 54 (by omega) (by omega) (by omega)), hW9, h56.keep (hsz 56 (by omega) (by omega) (by omega)), ⟨_, (hsz 58 (by omega) (by omega) (by omega)).trans h58⟩, by omega⟩, fun j h => hsz j (by omega) (by omega) (by omega)⟩) dX4_argument_86
          · skip
            have hlt3 : i < tp.length := by have := (not_congr (nI_leI (a := tp.length) (b := i) (by omega) (by omega))).mp hc3; omega
            refine lv_aload_n hx hb dX4_argument_34 rfl (lv_at hl 2 rfl) ?_
            refine mx_get (ci := 4) (v := .ref (ad 55)) (C := RX4) (T := TX4) (N := 20) hx hb hts inX4 hown hK hP (by omega : 52 < n) hO1 rfl 2 (by decide) (hts _ wm_270) (fun _ h9 => h9) rfl dX4_argument_35 ?_
            refine lv_bipush (v := 40) hx hb dX4_argument_38 (by decide) ?_
            refine lv_aload_n hx hb dX4_argument_40 rfl (lv_at hl 2 rfl) ?_
            refine mx_get (ci := 4) (v := .int (nI ac)) (C := RX4) (T := TX4) (N := 20) hx hb hts inX4 hown hK hP (by omega : 52 < n) hO1 rfl 6 (by decide) (hts _ wm_274) (fun _ h9 => h9) rfl dX4_argument_41 ?_
            refine lv_imul hx hb dX4_argument_44 ?_
            refine mx_i (nI (40 * ac)) (pk_mul 40 ac) ?_
            refine lv_iload_n hx hb dX4_argument_45 rfl (lv_at hl 0 rfl) ?_
            refine lv_iadd hx hb dX4_argument_46 ?_
            refine mx_i (nI (40 * ac + i)) (nI_add _ _) ?_
            refine lv_aload_n hx hb dX4_argument_47 rfl (lv_at hl 2 rfl) ?_
            refine mx_get (ci := 4) (v := .ref (ad 53)) (C := RX4) (T := TX4) (N := 20) hx hb hts inX4 hown hK hP (by omega : 52 < n) hO1 rfl 0 (by decide) (hts _ wm_268) (fun _ h9 => h9) rfl dX4_argument_48 ?_
            refine lv_iload_n hx hb dX4_argument_51 rfl (lv_at hl 0 rfl) ?_
            refine mx_bald hx hb hK hP (by omega : 53 < n) 2 hk31 rfl (vp_in_nI (by omega) (by omega)) dX4_argument_52 ?_
            refine mx_i (sB (tp.getD i 0)) (by rw [nI_clamp (by omega)]; have h9 := hg3 i hlt3; rw [Nat.zero_add] at h9; exact h9) ?_
            refine mx_bast (y := sB (tp.getD i 0)) hx hb hK hP hD hS (by omega : 55 < n) 2 h551 rfl (vp_in_nI (by omega) (by omega)) (nar_sB _) dX4_argument_53 (fun H locs hP hS => ?_)
            obtain ⟨c2, ec2⟩ : ∃ z : Nat → va_E, z = va_up c1 55 (.inl (ca 2, 800, .inl (upd fi (nI (40 * ac + i)).toNatClampNeg (sB (tp.getD i 0))))) := ⟨_, rfl⟩
            have hP : va_P D vwCl (mw n ad c2) H := by rw [ec2]; exact hP
            have hsc2 : ∀ j, j ≠ 55 → c2 j = c1 j := fun j h => by rw [ec2]; exact va_up_ne _ _ h
            have hcc2 : c2 55 = .inl (ca 2, 800, .inl (upd fi (nI (40 * ac + i)).toNatClampNeg (sB (tp.getD i 0)))) := by rw [ec2]; exact va_up_self _ _ _
            rw [nI_clamp (by omega)] at hcc2
            have hnew2 : ∀ j, j < i + 1 → upd fi (40 * ac + i) (sB (tp.getD i 0)) (40 * ac + j) = sB (tp.getD j 0) := fun j hj => by
              by_cases h : j = i
              · subst h; exact pk_us
              · rw [pk_un (by omega)]; exact hnew j (by omega)
            have hold2 : ∀ j, j < 40 * ac → upd fi (40 * ac + i) (sB (tp.getD i 0)) j = f5 j := fun j hj => by rw [pk_un (by omega)]; exact hold j hj
            refine lv_iinc (v := nI (i + 1)) (lv' := [(2, .int (nI (i + 1))), (1, .int (nI tp.length)), (0, .ref (ad 52))]) hx hb dX4_argument_54 hl (k := 0) rfl (nI_1 i) (by decide) rfl (fun ls hl => ?_)
            refine lv_goto (tgt := 29) hx hb dX4_argument_57 (by decide) ?_
            exact ih (i + 1) _ c2 H locs ls (by omega) (by omega) ((hsc2 52 (by omega)).trans hO1) hcc2 hnew2 hold2 (fun j h1 h2 => (hsc2 j h2).trans (hs1 j h1 h2)) hP hS (lv_sub hl [0, 1, 2] rfl)
      refine lv_iconst (v := 0) hx hb dX4_argument_27 (by decide) ?_
      refine lv_istore_n (lv' := [(2, .int 0), (1, .int (nI tp.length)), (0, .ref (ad 52))]) hx hb dX4_argument_28 rfl hl (by decide) rfl (fun ls hl => ?_)
      exact loop (tp.length + 1) 0 f5 a1 _ _ ls (by omega) (by omega) hca1 ((hs 55 (by omega)).trans hk5) (fun j hj => absurd hj (by omega)) (fun j hj => rfl) (fun j h1 h2 => rfl) hP hS (by have h9 := (lv_sub hl [0, 1, 2] rfl); rw [nI_0]; exact h9)
    · skip
      refine lv_iconst (v := (-1)) hx hb dX4_argument_25 (by decide) ?_
      exact mx_iret hx hb hr hlocks hP hS (⟨Or.inr ⟨fun h => absurd h.2 (by have := (nI_eq (a := ac) (b := 20) (by omega) (by omega)).mp hc2; omega), rfl, ⟨hca1, tB.nil ((hs 53 (by omega)).trans hk3) (by omega) (by omega), h54.keep (hs 54 (by omega)), hW.keep (hs 55 (by omega)) (hs 57 (by omega)), h56.keep (hs 56 (by omega)), ⟨_, (hs 58 (by omega)).trans h58⟩, hac⟩⟩, fun j h => hs j (by omega)⟩) dX4_argument_26
set_option maxHeartbeats 4000000 in
set_option maxRecDepth 100000 in
/-- number -/
theorem c_numberR (l : Launch) (D : va_G) (ca : Nat → ClassId) (n : Nat) (ad : Nat → Nat) (c : Nat → va_E) {tp pt md : List Nat} {ar : Nat → List Nat} {ac : Nat} {x4 x5 x6 x7 : Int32} {f : fl4} {x12 : Int32} {v : Int64} (hn : 59 ≤ n) (hM : tRF ca ad c tp pt md ar ac x4 x5 x6 x7 f x12 v) (x : Int64) : mInt l yX4_number wsX4_number ({ frames := 3, cells := 0, slots := 0, locals := 69 }) [.ref (ad 52), .long x] D (tTY ca) n ad c (fun r c' => ((ac < 20 ∧ r = nI ac ∧ ∃ y12, tRF ca ad c' tp pt md (va_up ar ac (tNum x)) (ac + 1) x4 x5 x6 x7 f y12 v) ∨ (20 ≤ ac ∧ r = -1 ∧ c' = c)) ∧ ∀ j, j < 52 → c' j = c j) := by
  intro sz
  refine Met.ofW (cc := cX4_number) (maxL := 5) (ret := (some .int)) (by decide) rfl ?_
  intro pg9 ev9 s m args below meth cd s₁ B hml hv
  obtain ⟨rfl, hsz, hP, hK, hD0, hN⟩ := hv
  have hx := B.exec
  have hb := B.bytes
  have hr := B.returns
  have hts := fun (w : Cond) (h : w ∈ WSa) => atoms_spec (ws := wsX4_number) B.pre w (List.mem_cons_of_mem _ h)
  have hown : s.vm.findClass RX4 = some m.cls := findClass_of_methodNamed B.named
  have hlocks := B.notSynchronized
  subst hsz
  have hD : ∀ c, va_D (fun _ => True) (mw n ad c) := fun c' => mw_D hD0 c'
  have hS : va_S (mA n ad s.heap.size) s.heap s.heap [] := va_S.rf
  have hl := lv_entry ([.ref (ad 52), .long x]) (n := 5) (Nat.le_of_ble_eq_true rfl)
  rw [lg_entry_eq]
  generalize (lg_sl ([.ref (ad 52), .long x]) ++ List.replicate (5 - (lg_sl ([.ref (ad 52), .long x])).length) Slot.unset).toArray = ls at hl ⊢
  have hl : lv_has ls 5 [(0, .ref (ad 52)), (1, .long x)] := hl
  obtain ⟨hO, h53, h54, hW, h56, ⟨f8, h58⟩, hac⟩ := id hM
  obtain ⟨f5, g7, hk5, hk7, hWq⟩ := id hW
  refine lv_aload_n hx hb dX4_number_0 rfl (lv_at hl 0 rfl) ?_
  refine mx_get (ci := 4) (v := .int (nI ac)) (C := RX4) (T := TX4) (N := 20) hx hb hts inX4 hown hK hP (by omega : 52 < n) hO rfl 6 (by decide) (hts _ wm_274) (fun _ h9 => h9) rfl dX4_number_1 ?_
  refine lv_bipush (v := 20) hx hb dX4_number_4 (by decide) ?_
  refine lv_icmp_ne (tgt := 11) hx hb dX4_number_6 (by decide) (fun hc => ?_) (fun hc => ?_)
  · skip
    have hlt : ac < 20 := by rcases Nat.lt_or_ge ac 20 with h | h; exact h; exact absurd (by rw [show ac = 20 by omega]; rfl) hc
    refine lv_aload_n hx hb dX4_number_11 rfl (lv_at hl 0 rfl) ?_
    refine lv_lload_n hx hb dX4_number_12 rfl (lv_at hl 1 rfl) ?_
    refine mx_cv (va_runV (As := [.long x]) (rest := []) ⟨hx, hb, hml, hown, hts⟩ (c_decimal l D ca n ad c hn hO x h58 _) (cwV 1 hts (gV wm_354 wm_356 ws_12 wm_5 wm_357) rfl rfl rfl (by decide +kernel) ⟨Nat.le_of_ble_eq_true rfl, Nat.le_of_ble_eq_true rfl⟩) (mx_pv (C := RX4) (T := TX4) (N := 20) (ci := 4) hK hP hD hN (by omega : 52 < n) hO rfl) rfl rfl hl.1 rfl (lv_room (Nat.le_of_ble_eq_true rfl)) dX4_number_13 ⟨Nat.zero_le _, Nat.zero_le _⟩) (Nat.le_refl _) hS (fun c0 H locs hw hP hS => ?_)
    obtain ⟨p, hp, hO0, hB0, hs0⟩ := hw
    obtain ⟨hpl, -, hb3, gp, hkp, hgp⟩ := id hB0
    have hN20 : (tNum x).length ≤ 20 := tNum_len x
    refine lv_bipush (v := 72) hx hb dX4_number_16 (by decide) ?_
    refine lv_aload_n hx hb dX4_number_18 rfl (lv_at hl 0 rfl) ?_
    refine mx_get (ci := 4) (v := .int (nI p)) (C := RX4) (T := TX4) (N := 20) hx hb hts inX4 hown hK hP (by omega : 52 < n) hO0 rfl 18 (by decide) (hts _ wm_286) (fun _ h9 => h9) rfl dX4_number_19 ?_
    refine lv_isub hx hb dX4_number_22 ?_
    refine mx_i (nI (tNum x).length) (by rw [show (72 : Int32) = nI 72 from rfl, pk_sub (by omega)]; congr 1; omega) ?_
    have hk70 : c0 57 = .inl (ca 0, 20, .inl g7) := (hs0 57 (by omega) (by omega)).trans hk7
    have loop : ∀ (q1 : Nat) (i : Nat) (fi : Nat → Int32) (c1 : Nat → va_E) (H : Heap) (locs : List Loc) (ls : Array Slot), (i ≤ (tNum x).length) → ((tNum x).length < i + q1) → (c1 52 = rO ad (nI tp.length) (nI pt.length) (nI ac) (nI md.length) x4 x5 x6 x7 (bI f.1) (bI f.2.1) (bI f.2.2.1) (bI f.2.2.2) (nI p) v) → (c1 55 = .inl (ca 2, 800, .inl fi)) → (∀ j, j < i → fi (40 * ac + j) = sB ((tNum x).getD j 0)) → (∀ j, j < 40 * ac → fi j = f5 j) → (∀ j, j ≠ 52 → j ≠ 55 → c1 j = c0 j) → va_P D vwCl (mw n ad c1) H → va_S (mA n ad s.heap.size) s.heap H locs → lv_has ls 5 [(4, .int (nI i)), (3, .int (nI (tNum x).length)), (0, .ref (ad 52))] → W pg9 l ev9 (headSpec wsX4_number ({ frames := 3, cells := 0, slots := 0, locals := 69 })).room s m ([.ref (ad 52), .long x] : List Value).toArray below meth cd H locs 0 0 (MQ below (va_Qi (fun r c' => ((ac < 20 ∧ r = nI ac ∧ ∃ y12, tRF ca ad c' tp pt md (va_up ar ac (tNum x)) (ac + 1) x4 x5 x6 x7 f y12 v) ∨ (20 ≤ ac ∧ r = -1 ∧ c' = c)) ∧ ∀ j, j < 52 → c' j = c j) (mW D n ad) (mA n ad s.heap.size)) ([.ref (ad 52), .long x] : List Value).toArray s 0 0 (mA n ad s.heap.size)) (F0 m 27 ls []) := by
      intro q1
      induction q1 with
      | zero => intro i fi c1 H locs ls hi hq hO1 h551 hnew hold hs1 hP hS hl; omega
      | succ q1 ih =>
        intro i fi c1 H locs ls hi hq hO1 h551 hnew hold hs1 hP hS hl
        have hk31 := (hs1 58 (by omega) (by omega)).trans (hkp)
        refine lv_iload hx hb dX4_number_27 (lv_at hl 0 rfl) ?_
        refine lv_iload_n hx hb dX4_number_29 rfl (lv_at hl 1 rfl) ?_
        refine lv_icmp_ge (tgt := 66) hx hb dX4_number_30 (by decide) (fun hc3 => ?_) (fun hc3 => ?_)
        · skip
          have hge : (tNum x).length ≤ i := (nI_leI (by omega) (by omega)).mp hc3
          have hk71 := (hs1 57 (by omega) (by omega)).trans hk70
          refine lv_aload_n hx hb dX4_number_66 rfl (lv_at hl 2 rfl) ?_
          refine mx_get (ci := 4) (v := .ref (ad 57)) (C := RX4) (T := TX4) (N := 20) hx hb hts inX4 hown hK hP (by omega : 52 < n) hO1 rfl 9 (by decide) (hts _ wm_277) (fun _ h9 => h9) rfl dX4_number_67 ?_
          refine lv_aload_n hx hb dX4_number_70 rfl (lv_at hl 2 rfl) ?_
          refine mx_get (ci := 4) (v := .int (nI ac)) (C := RX4) (T := TX4) (N := 20) hx hb hts inX4 hown hK hP (by omega : 52 < n) hO1 rfl 6 (by decide) (hts _ wm_274) (fun _ h9 => h9) rfl dX4_number_71 ?_
          refine lv_iload_n hx hb dX4_number_74 rfl (lv_at hl 1 rfl) ?_
          refine mx_iast hx hb hK hP hD hS (by omega : 57 < n) 0 hk71 rfl (vp_in_nI (by omega) (by omega)) dX4_number_75 (fun H locs hP hS => ?_)
          obtain ⟨c2, ec2⟩ : ∃ z : Nat → va_E, z = va_up c1 57 (.inl (ca 0, 20, .inl (upd g7 (nI ac).toNatClampNeg (nI (tNum x).length)))) := ⟨_, rfl⟩
          have hP : va_P D vwCl (mw n ad c2) H := by rw [ec2]; exact hP
          have hsc2 : ∀ j, j ≠ 57 → c2 j = c1 j := fun j h => by rw [ec2]; exact va_up_ne _ _ h
          have hcc2 : c2 57 = .inl (ca 0, 20, .inl (upd g7 (nI ac).toNatClampNeg (nI (tNum x).length))) := by rw [ec2]; exact va_up_self _ _ _
          rw [nI_clamp (by omega)] at hcc2
          have hO2 := (hsc2 52 (by omega)).trans hO1
          refine lv_aload_n hx hb dX4_number_76 rfl (lv_at hl 2 rfl) ?_
          refine lv_dup hx hb dX4_number_77 rfl ?_
          refine mx_get (ci := 4) (v := .int (nI ac)) (C := RX4) (T := TX4) (N := 20) hx hb hts inX4 hown hK hP (by omega : 52 < n) hO2 rfl 6 (by decide) (hts _ wm_274) (fun _ h9 => h9) rfl dX4_number_78 ?_
          refine lv_iconst (v := 1) hx hb dX4_number_81 (by decide) ?_
          refine lv_iadd hx hb dX4_number_82 ?_
          refine mx_i (nI (ac + 1)) (nI_1 ac) ?_
          refine mx_put (ci := 4) (v := .int (nI (ac + 1))) (ty := .int) (C := RX4) (T := TX4) (N := 20) hx hb hts inX4 tyX4 tyX4_ok nmX4 hown hK hP hD hS (by omega : 52 < n) hO2 rfl 6 (by decide) (hts _ wm_274) (fun _ h9 => h9) rfl (by decide +kernel) rfl rfl (Nat.le_of_ble_eq_true rfl) dX4_number_83 (fun H locs hP hS => ?_)
          obtain ⟨c3, ec3⟩ : ∃ z : Nat → va_E, z = va_up c2 52 (.inr (4, [.ref (ad 53), .ref (ad 54), .ref (ad 55), .ref (ad 56), .int (nI tp.length), .int (nI pt.length), .int (nI (ac + 1)), .int (nI md.length), .int x4, .ref (ad 57), .int x5, .int x6, .int x7, .int (bI f.1), .int (bI f.2.1), .int (bI f.2.2.1), .int (bI f.2.2.2), .ref (ad 58), .int (nI p), .long v])) := ⟨_, rfl⟩
          have hP : va_P D vwCl (mw n ad c3) H := by rw [ec3]; exact hP
          have hsc3 : ∀ j, j ≠ 52 → c3 j = c2 j := fun j h => by rw [ec3]; exact va_up_ne _ _ h
          have hcc3 : c3 52 = .inr (4, [.ref (ad 53), .ref (ad 54), .ref (ad 55), .ref (ad 56), .int (nI tp.length), .int (nI pt.length), .int (nI (ac + 1)), .int (nI md.length), .int x4, .ref (ad 57), .int x5, .int x6, .int x7, .int (bI f.1), .int (bI f.2.1), .int (bI f.2.2.1), .int (bI f.2.2.2), .ref (ad 58), .int (nI p), .long v]) := by rw [ec3]; exact va_up_self _ _ _
          refine lv_aload_n hx hb dX4_number_86 rfl (lv_at hl 2 rfl) ?_
          refine mx_get (ci := 4) (v := .int (nI (ac + 1))) (C := RX4) (T := TX4) (N := 20) hx hb hts inX4 hown hK hP (by omega : 52 < n) hcc3 rfl 6 (by decide) (hts _ wm_274) (fun _ h9 => h9) rfl dX4_number_87 ?_
          refine lv_iconst (v := 1) hx hb dX4_number_90 (by decide) ?_
          refine lv_isub hx hb dX4_number_91 ?_
          refine mx_i (nI ac) (nI_pred ac) ?_
          have hW9 : tWd ca c3 (va_up ar ac (tNum x)) (ac + 1) := hW.put hk5 hk7 ((hsc3 55 (by omega)).trans ((hsc2 55 (by omega)).trans h551)) ((hsc3 57 (by omega)).trans hcc2) (by omega) hb3 (fun j hj => hnew j (by omega)) hold
          have hs9 : ∀ j, j ≠ 52 → j ≠ 55 → j ≠ 57 → c3 j = c0 j := fun j h1 h2 h3 => (hsc3 j h1).trans ((hsc2 j h3).trans (hs1 j h1 h2))
          have hsz : ∀ j, j ≠ 52 → j ≠ 55 → j ≠ 57 → j ≠ 58 → c3 j = c j := fun j h1 h2 h3 h4 => (hs9 j h1 h2 h3).trans (hs0 j h1 h4)
          exact mx_iret hx hb hr hlocks hP hS (⟨Or.inl ⟨hlt, rfl, _, hcc3, h53.keep (hsz 53 (by omega) (by omega) (by omega) (by omega)), h54.keep (hsz 54 (by omega) (by omega) (by omega) (by omega)), hW9, h56.keep (hsz 56 (by omega) (by omega) (by omega) (by omega)), ⟨_, (hs9 58 (by omega) (by omega) (by omega)).trans hkp⟩, by omega⟩, fun j h => hsz j (by omega) (by omega) (by omega) (by omega)⟩) dX4_number_92
        · skip
          have hlt3 : i < (tNum x).length := by have := (not_congr (nI_leI (a := (tNum x).length) (b := i) (by omega) (by omega))).mp hc3; omega
          refine lv_aload_n hx hb dX4_number_33 rfl (lv_at hl 2 rfl) ?_
          refine mx_get (ci := 4) (v := .ref (ad 55)) (C := RX4) (T := TX4) (N := 20) hx hb hts inX4 hown hK hP (by omega : 52 < n) hO1 rfl 2 (by decide) (hts _ wm_270) (fun _ h9 => h9) rfl dX4_number_34 ?_
          refine lv_bipush (v := 40) hx hb dX4_number_37 (by decide) ?_
          refine lv_aload_n hx hb dX4_number_39 rfl (lv_at hl 2 rfl) ?_
          refine mx_get (ci := 4) (v := .int (nI ac)) (C := RX4) (T := TX4) (N := 20) hx hb hts inX4 hown hK hP (by omega : 52 < n) hO1 rfl 6 (by decide) (hts _ wm_274) (fun _ h9 => h9) rfl dX4_number_40 ?_
          refine lv_imul hx hb dX4_number_43 ?_
          refine mx_i (nI (40 * ac)) (pk_mul 40 ac) ?_
          refine lv_iload hx hb dX4_number_44 (lv_at hl 0 rfl) ?_
          refine lv_iadd hx hb dX4_number_46 ?_
          refine mx_i (nI (40 * ac + i)) (nI_add _ _) ?_
          refine lv_aload_n hx hb dX4_number_47 rfl (lv_at hl 2 rfl) ?_
          refine mx_get (ci := 4) (v := .ref (ad 58)) (C := RX4) (T := TX4) (N := 20) hx hb hts inX4 hown hK hP (by omega : 52 < n) hO1 rfl 17 (by decide) (hts _ wm_285) (fun _ h9 => h9) rfl dX4_number_48 ?_
          refine lv_aload_n hx hb dX4_number_51 rfl (lv_at hl 2 rfl) ?_
          refine mx_get (ci := 4) (v := .int (nI p)) (C := RX4) (T := TX4) (N := 20) hx hb hts inX4 hown hK hP (by omega : 52 < n) hO1 rfl 18 (by decide) (hts _ wm_286) (fun _ h9 => h9) rfl dX4_number_52 ?_
          refine lv_iload hx hb dX4_number_55 (lv_at hl 0 rfl) ?_
          refine lv_iadd hx hb dX4_number_57 ?_
          refine mx_i (nI (p + i)) (nI_add _ _) ?_
          refine mx_bald hx hb hK hP (by omega : 58 < n) 2 hk31 rfl (vp_in_nI (by omega) (by omega)) dX4_number_58 ?_
          refine mx_i (sB ((tNum x).getD i 0)) (by rw [nI_clamp (by omega)]; exact hgp i hlt3) ?_
          refine mx_bast (y := sB ((tNum x).getD i 0)) hx hb hK hP hD hS (by omega : 55 < n) 2 h551 rfl (vp_in_nI (by omega) (by omega)) (nar_sB _) dX4_number_59 (fun H locs hP hS => ?_)
          obtain ⟨c2, ec2⟩ : ∃ z : Nat → va_E, z = va_up c1 55 (.inl (ca 2, 800, .inl (upd fi (nI (40 * ac + i)).toNatClampNeg (sB ((tNum x).getD i 0))))) := ⟨_, rfl⟩
          have hP : va_P D vwCl (mw n ad c2) H := by rw [ec2]; exact hP
          have hsc2 : ∀ j, j ≠ 55 → c2 j = c1 j := fun j h => by rw [ec2]; exact va_up_ne _ _ h
          have hcc2 : c2 55 = .inl (ca 2, 800, .inl (upd fi (nI (40 * ac + i)).toNatClampNeg (sB ((tNum x).getD i 0)))) := by rw [ec2]; exact va_up_self _ _ _
          rw [nI_clamp (by omega)] at hcc2
          have hnew2 : ∀ j, j < i + 1 → upd fi (40 * ac + i) (sB ((tNum x).getD i 0)) (40 * ac + j) = sB ((tNum x).getD j 0) := fun j hj => by
            by_cases h : j = i
            · subst h; exact pk_us
            · rw [pk_un (by omega)]; exact hnew j (by omega)
          have hold2 : ∀ j, j < 40 * ac → upd fi (40 * ac + i) (sB ((tNum x).getD i 0)) j = f5 j := fun j hj => by rw [pk_un (by omega)]; exact hold j hj
          refine lv_iinc (v := nI (i + 1)) (lv' := [(4, .int (nI (i + 1))), (3, .int (nI (tNum x).length)), (0, .ref (ad 52))]) hx hb dX4_number_60 hl (k := 0) rfl (nI_1 i) (by decide) rfl (fun ls hl => ?_)
          refine lv_goto (tgt := 27) hx hb dX4_number_63 (by decide) ?_
          exact ih (i + 1) _ c2 H locs ls (by omega) (by omega) ((hsc2 52 (by omega)).trans hO1) hcc2 hnew2 hold2 (fun j h1 h2 => (hsc2 j h2).trans (hs1 j h1 h2)) hP hS (lv_sub hl [0, 1, 2] rfl)
    refine lv_istore_n (lv' := [(3, .int (nI (tNum x).length)), (0, .ref (ad 52)), (1, .long x)]) hx hb dX4_number_23 rfl hl (by decide) rfl (fun ls hl => ?_)
    refine lv_iconst (v := 0) hx hb dX4_number_24 (by decide) ?_
    refine lv_istore (lv' := [(4, .int 0), (3, .int (nI (tNum x).length)), (0, .ref (ad 52)), (1, .long x)]) hx hb dX4_number_25 hl (by decide) rfl (fun ls hl => ?_)
    exact loop ((tNum x).length + 1) 0 f5 c0 _ _ ls (by omega) (by omega) hO0 ((hs0 55 (by omega) (by omega)).trans hk5) (fun j hj => absurd hj (by omega)) (fun j hj => rfl) (fun j h1 h2 => rfl) hP hS (by have h9 := (lv_sub hl [0, 1, 2] rfl); rw [nI_0]; exact h9)
  · skip
    refine lv_iconst (v := (-1)) hx hb dX4_number_9 (by decide) ?_
    exact mx_iret hx hb hr hlocks hP hS (⟨Or.inr ⟨by have := (nI_eq (a := ac) (b := 20) (by omega) (by omega)).mp hc; omega, rfl, rfl⟩, fun j h => rfl⟩) dX4_number_10
