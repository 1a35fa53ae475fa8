set_option maxHeartbeats 4000000 in
set_option maxRecDepth 100000 in
/-- Place() -/
theorem c_Place_init (l : Launch) (D : va_G) (ca : Nat → ClassId) (n : Nat) (ad : Nat → Nat) (c : Nat → va_E) {k : Nat} (hk : k < n) (hL : tPl c k (false, false, false, false) 0 0 0) : mVoid l yX1_init wsX1_init ({ frames := 1, cells := 0, slots := 0, locals := 12 }) [.ref (ad k)] D (tTY ca) n ad c (fun c' => tPl c' k (false, false, false, false) 0 (-1) 0 ∧ ∀ j, j ≠ k → c' j = c j) := by
  intro sz
  refine Met.ofW (cc := cX1_init) (maxL := 1) (ret := none) (by decide) rfl ?_
  intro pg9 ev9 s m args below meth cd s₁ B hml hv
  obtain ⟨rfl, hsz, hP, hK, hD0, hN⟩ := hv
  have hx := B.exec
  have hb := B.bytes
  have hr := B.returns
  have hts := fun (w : Cond) (h : w ∈ WSa) => atoms_spec (ws := wsX1_init) B.pre w (List.mem_cons_of_mem _ h)
  have hown : s.vm.findClass RX1 = some m.cls := findClass_of_methodNamed B.named
  have hlocks := B.notSynchronized
  subst hsz
  have hD : ∀ c, va_D (fun _ => True) (mw n ad c) := fun c' => mw_D hD0 c'
  have hS : va_S (mA n ad s.heap.size) s.heap s.heap [] := va_S.rf
  have hl := lv_entry ([.ref (ad k)]) (n := 1) (Nat.le_of_ble_eq_true rfl)
  rw [lg_entry_eq]
  generalize (lg_sl ([.ref (ad k)]) ++ List.replicate (1 - (lg_sl ([.ref (ad k)])).length) Slot.unset).toArray = ls at hl ⊢
  have hl : lv_has ls 1 [(0, .ref (ad k))] := hl
  refine lv_aload_n hx hb dX1_init_0 rfl (lv_at hl 0 rfl) ?_
  refine W.objInit hx hb hown (hts _ wm_38) (hts _ wm_13) (hts _ wm_14) rfl (by rw [hml]; exact hl.1) rfl dX1_init_1 (Nat.le_of_ble_eq_true rfl) (Nat.le_of_ble_eq_true rfl) ?_
  refine W.eq (g2 := F0 m 4 ls []) rfl ?_
  refine lv_aload_n hx hb dX1_init_4 rfl (lv_at hl 0 rfl) ?_
  refine lv_iconst (v := (-1)) hx hb dX1_init_5 (by decide) ?_
  refine mx_put (ci := 1) (v := .int ((-1))) (ty := .int) (C := RX1) (T := TX1) (N := 7) hx hb hts inX1 tyX1 tyX1_ok nmX1 hown hK hP hD hS hk hL rfl 5 (by decide) (hts _ wm_47) (fun _ h9 => h9) rfl (by decide +kernel) rfl rfl (Nat.le_of_ble_eq_true rfl) dX1_init_6 (fun H locs hP hS => ?_)
  obtain ⟨c1, ec1⟩ : ∃ z : Nat → va_E, z = va_up c k (.inr (1, [.int (bI false), .int (bI false), .int (bI false), .int (bI false), .int 0, .int ((-1)), .int 0])) := ⟨_, rfl⟩
  have hP : va_P D vwCl (mw n ad c1) H := by rw [ec1]; exact hP
  have hsc1 : ∀ j, j ≠ k → c1 j = c j := fun j h => by rw [ec1]; exact va_up_ne _ _ h
  have hcc1 : c1 k = .inr (1, [.int (bI false), .int (bI false), .int (bI false), .int (bI false), .int 0, .int ((-1)), .int 0]) := by rw [ec1]; exact va_up_self _ _ _
  exact mx_vret hx hb hr hlocks hP hS (⟨hcc1, hsc1⟩) dX1_init_9
set_option maxHeartbeats 4000000 in
set_option maxRecDepth 100000 in
/-- Numeral() -/
theorem c_Num_init (l : Launch) (D : va_G) (ca : Nat → ClassId) (n : Nat) (ad : Nat → Nat) (c : Nat → va_E) {k : Nat} {v : Int64} (hk : k < n) (hV : tNm c k v) : mVoid l yX0_init wsX0_init ({ frames := 1, cells := 0, slots := 0, locals := 12 }) [.ref (ad k)] D (tTY ca) n ad c (fun c' => tNm c' k 0 ∧ ∀ j, j ≠ k → c' j = c j) := by
  intro sz
  refine Met.ofW (cc := cX0_init) (maxL := 1) (ret := none) (by decide) rfl ?_
  intro pg9 ev9 s m args below meth cd s₁ B hml hv
  obtain ⟨rfl, hsz, hP, hK, hD0, hN⟩ := hv
  have hx := B.exec
  have hb := B.bytes
  have hr := B.returns
  have hts := fun (w : Cond) (h : w ∈ WSa) => atoms_spec (ws := wsX0_init) B.pre w (List.mem_cons_of_mem _ h)
  have hown : s.vm.findClass RX0 = some m.cls := findClass_of_methodNamed B.named
  have hlocks := B.notSynchronized
  subst hsz
  have hD : ∀ c, va_D (fun _ => True) (mw n ad c) := fun c' => mw_D hD0 c'
  have hS : va_S (mA n ad s.heap.size) s.heap s.heap [] := va_S.rf
  have hl := lv_entry ([.ref (ad k)]) (n := 1) (Nat.le_of_ble_eq_true rfl)
  rw [lg_entry_eq]
  generalize (lg_sl ([.ref (ad k)]) ++ List.replicate (1 - (lg_sl ([.ref (ad k)])).length) Slot.unset).toArray = ls at hl ⊢
  have hl : lv_has ls 1 [(0, .ref (ad k))] := hl
  refine lv_aload_n hx hb dX0_init_0 rfl (lv_at hl 0 rfl) ?_
  refine W.objInit hx hb hown (hts _ wm_71) (hts _ wm_13) (hts _ wm_14) rfl (by rw [hml]; exact hl.1) rfl dX0_init_1 (Nat.le_of_ble_eq_true rfl) (Nat.le_of_ble_eq_true rfl) ?_
  refine W.eq (g2 := F0 m 4 ls []) rfl ?_
  refine lv_aload_n hx hb dX0_init_4 rfl (lv_at hl 0 rfl) ?_
  refine lv_lconst (v := 0) hx hb dX0_init_5 (by decide) ?_
  refine mx_put (ci := 0) (v := .long 0) (ty := .long) (C := RX0) (T := TX0) (N := 1) hx hb hts inX0 tyX0 tyX0_ok nmX0 hown hK hP hD hS hk hV rfl 0 (by decide) (hts _ wm_72) (fun _ h9 => h9) rfl (by decide +kernel) rfl rfl (Nat.le_of_ble_eq_true rfl) dX0_init_6 (fun H locs hP hS => ?_)
  obtain ⟨c1, ec1⟩ : ∃ z : Nat → va_E, z = va_up c k (.inr (0, [.long 0])) := ⟨_, rfl⟩
  have hP : va_P D vwCl (mw n ad c1) H := by rw [ec1]; exact hP
  have hsc1 : ∀ j, j ≠ k → c1 j = c j := fun j h => by rw [ec1]; exact va_up_ne _ _ h
  have hcc1 : c1 k = .inr (0, [.long 0]) := by rw [ec1]; exact va_up_self _ _ _
  exact mx_vret hx hb hr hlocks hP hS (⟨hcc1, hsc1⟩) dX0_init_9
set_option maxHeartbeats 4000000 in
set_option maxRecDepth 100000 in
/-- Text(x) -/
theorem c_Text_init (l : Launch) (D : va_G) (ca : Nat → ClassId) (n : Nat) (ad : Nat → Nat) (c : Nat → va_E) {k cap : Nat} (hk : k + 1 = n) (h0 : c k = .inr (tCT, [.null, .int 0])) (x : Int32) (hx0 : x = nI cap) (hcap : cap < 1048576) : mNew l yX2_init wsX2_init ({ frames := 1, cells := 1, slots := cap, locals := 12 }) [.ref (ad k), .int x] D (tTY ca) n ad c (n + 1) (fun ad1 c1 => (∀ j, j < n → ad1 j = ad j) ∧ (∀ j, j < k → c1 j = c j) ∧ tTx ca ad1 c1 k cap []) 1 cap := by
  intro sz
  refine Met.ofW (cc := cX2_init) (maxL := 2) (ret := none) (by decide) rfl ?_
  intro pg9 ev9 s m args below meth cd s₁ B hml hv
  obtain ⟨rfl, hsz, hP, hK, hD0, hN⟩ := hv
  have hx := B.exec
  have hb := B.bytes
  have hr := B.returns
  have hts := fun (w : Cond) (h : w ∈ WSa) => atoms_spec (ws := wsX2_init) B.pre w (List.mem_cons_of_mem _ h)
  have hown : s.vm.findClass RX2 = some m.cls := findClass_of_methodNamed B.named
  have hlocks := B.notSynchronized
  subst hsz
  have hD : ∀ c, va_D (fun _ => True) (mw n ad c) := fun c' => mw_D hD0 c'
  have hS : va_S (mA n ad s.heap.size) s.heap s.heap [] := va_S.rf
  have hl := lv_entry ([.ref (ad k), .int x]) (n := 2) (Nat.le_of_ble_eq_true rfl)
  rw [lg_entry_eq]
  generalize (lg_sl ([.ref (ad k), .int x]) ++ List.replicate (2 - (lg_sl ([.ref (ad k), .int x])).length) Slot.unset).toArray = ls at hl ⊢
  have hin : meth.name = "<init>" := (name_of_methodNamed B.named B.method).1
  have hA : ∀ q, s.heap.size ≤ q → mA n ad s.heap.size q := fun q h => Or.inr h
  have hD : va_D (mA n ad s.heap.size) (mw n ad c) := mw_DA hD0 c
  have hl : lv_has ls 2 [(0, .ref (ad k)), (1, .int x)] := hl
  refine lv_aload_n hx hb dX2_init_0 rfl (lv_at hl 0 rfl) ?_
  refine W.objInit hx hb hown (hts _ wm_20) (hts _ wm_13) (hts _ wm_14) rfl (by rw [hml]; exact hl.1) rfl dX2_init_1 (Nat.le_of_ble_eq_true rfl) (Nat.le_of_ble_eq_true rfl) ?_
  refine W.eq (g2 := F0 m 4 ls []) rfl ?_
  refine lv_aload_n hx hb dX2_init_4 rfl (lv_at hl 0 rfl) ?_
  refine lv_iload_n hx hb dX2_init_5 rfl (lv_at hl 1 rfl) ?_
  refine lv_if_ge (tgt := 13) hx hb dX2_init_6 (by decide) (fun hc => ?_) (fun hc => ?_)
  · skip
    refine lv_iload_n hx hb dX2_init_13 rfl (lv_at hl 1 rfl) ?_
    refine mg_newi (atype := .int) hx hb (hts _ wm_31) rfl hK hP hD hS hA 0 rfl (N' := cap) (by rw [hx0]; exact nI_pos (by omega)) (by rw [hx0]; exact nI_clamp (by omega)) (by show cap * 4 ≤ _; omega) (Nat.le_of_ble_eq_true rfl) (by show 0 + cap ≤ cap; omega) dX2_init_14 (fun ad1 c1 H ha1 hc1 hcn hP hD hS => ?_)
    refine mg_putF (ci := 2) (v := .ref (ad1 n)) (ty := (.array .int)) (C := RX2) (T := TX2) (N := 2) hx hb hts inX2 tyX2 tyX2_ok nmX2 hown hK hP hD hS (by omega : k < n + 1) (ha1 k (by omega)) ((hc1 k (by omega)).trans h0) rfl 0 (by decide) (hts _ wm_21) (fun _ h9 => h9) rfl hin rfl (by decide +kernel) rfl rfl (Nat.le_of_ble_eq_true rfl) dX2_init_16 (fun c2 H locs hsc2 hcc2 hP hD hS => ?_)
    have hcc2 : c2 k = .inr (2, [.ref (ad1 n), .int 0]) := hcc2
    refine lv_aload_n hx hb dX2_init_19 rfl (lv_at hl 0 rfl) ?_
    refine lv_iconst (v := 0) hx hb dX2_init_20 (by decide) ?_
    refine mg_put (ci := 2) (v := .int 0) (ty := .int) (C := RX2) (T := TX2) (N := 2) hx hb hts inX2 tyX2 tyX2_ok nmX2 hown hK hP hD hS (by omega : k < n + 1) (ha1 k (by omega)) hcc2 rfl 1 (by decide) (hts _ wm_22) (fun _ h9 => h9) rfl (by decide +kernel) rfl rfl (Nat.le_of_ble_eq_true rfl) dX2_init_21 (fun c3 H locs hsc3 hcc3 hP hD hS => ?_)
    have hcc3 : c3 k = .inr (2, [.ref (ad1 n), .int 0]) := hcc3
    refine W.widen (k := 1) (n := cap) (by omega) (by omega) ?_
    have hkn : n = k + 1 := hk.symm
    have hpost : (∀ j, j < n → ad1 j = ad j) ∧ (∀ j, j < k → c3 j = c j) ∧ tTx ca ad1 c3 k cap [] := by
      refine ⟨ha1, fun j hj => (hsc3 j (by omega)).trans ((hsc2 j (by omega)).trans (hc1 j (by omega))), Nat.zero_le _, hcap, by simp, ?_, fun _ => 0, ?_, by simp⟩
      · rw [hcc3, hkn]; rfl
      · rw [← hkn, hsc3 _ (by omega), hsc2 _ (by omega)]; exact hcn
    exact mg_vret (post := fun ad1 c1 => (∀ j, j < n → ad1 j = ad j) ∧ (∀ j, j < k → c1 j = c j) ∧ tTx ca ad1 c1 k cap []) hx hb hr hlocks hP hD hS hpost dX2_init_24
  · skip
    exact absurd (by rw [hx0]; exact nI_pos' (by omega)) hc
set_option maxHeartbeats 4000000 in
set_option maxRecDepth 100000 in
/-- FormatMill() -/
theorem c_Mill_init (l : Launch) (D : va_G) (ca : Nat → ClassId) (n : Nat) (ad : Nat → Nat) (c : Nat → va_E) (hn1 : 1 = n) (h0 : c 0 = .inr (tCM, [.null, .null, .null, .null, .int 0, .int 0, .null, .null, .null])) : mNew l yX3_init wsX3_init ({ frames := 2, cells := 51, slots := 2740, locals := 33 }) [.ref (ad 0)] D (tTY ca) n ad c (52) (fun ad1 c1 => ad1 0 = ad 0 ∧ tMF ca ad1 c1 [] [] [] (fun _ => []) 0 0 (false, false, false, false) 0 (-1) 0 0 []) 51 2740 := by
  intro sz
  refine Met.ofW (cc := cX3_init) (maxL := 2) (ret := none) (by decide) rfl ?_
  intro pg9 ev9 s m args below meth cd s₁ B hml hv
  obtain ⟨rfl, hsz, hP, hK, hD0, hN⟩ := hv
  have hx := B.exec
  have hb := B.bytes
  have hr := B.returns
  have hts := fun (w : Cond) (h : w ∈ WSa) => atoms_spec (ws := wsX3_init) B.pre w (List.mem_cons_of_mem _ h)
  have hown : s.vm.findClass RX3 = some m.cls := findClass_of_methodNamed B.named
  have hlocks := B.notSynchronized
  subst hsz
  have hD : ∀ c, va_D (fun _ => True) (mw n ad c) := fun c' => mw_D hD0 c'
  have hS : va_S (mA n ad s.heap.size) s.heap s.heap [] := va_S.rf
  have hl := lv_entry ([.ref (ad 0)]) (n := 2) (Nat.le_of_ble_eq_true rfl)
  rw [lg_entry_eq]
  generalize (lg_sl ([.ref (ad 0)]) ++ List.replicate (2 - (lg_sl ([.ref (ad 0)])).length) Slot.unset).toArray = ls at hl ⊢
  have hin : meth.name = "<init>" := (name_of_methodNamed B.named B.method).1
  have hA : ∀ q, s.heap.size ≤ q → mA n ad s.heap.size q := fun q h => Or.inr h
  have hD : va_D (mA n ad s.heap.size) (mw n ad c) := mw_DA hD0 c
  have hl : lv_has ls 2 [(0, .ref (ad 0))] := hl
  subst hn1
  refine lv_aload_n hx hb dX3_init_0 rfl (lv_at hl 0 rfl) ?_
  refine W.objInit hx hb hown (hts _ wm_12) (hts _ wm_13) (hts _ wm_14) rfl (by rw [hml]; exact hl.1) rfl dX3_init_1 (Nat.le_of_ble_eq_true rfl) (Nat.le_of_ble_eq_true rfl) ?_
  refine W.eq (g2 := F0 m 4 ls []) rfl ?_
  refine lv_aload_n hx hb dX3_init_4 rfl (lv_at hl 0 rfl) ?_
  refine mg_new (n := 1) (ci := 2) (fs := [.null, .int 0]) (C := RX2) (T := TX2) (N := 2) hx hb hts inX2 tyX2 tyX2_ok hown (hts _ wm_15) (hts _ wm_16) (hts _ wm_2) hK hP hD hS hA rfl (fun j hj => by (match j, hj with | 0, _ => rfl | 1, _ => rfl)) (Nat.le_of_ble_eq_true rfl) (Nat.le_of_ble_eq_true rfl) dX3_init_5 (fun au1 cu1 H hau1 hcu1 hnu1 hP hD hS => ?_)
  have hmu1 : cu1 0 = .inr (3, [.null, .null, .null, .null, .int 0, .int 0, .null, .null, .null]) := ((hcu1 0 (by omega)).trans h0)
  have ha0_1 : au1 0 = ad 0 := (hau1 (0) (by omega)).trans (rfl)
  refine lv_dup hx hb dX3_init_8 rfl ?_
  refine lv_sipush (v := 400) hx hb dX3_init_9 (by decide) ?_
  refine mg_ci (As := [.int 400]) (rest := [.ref (au1 1), .ref (ad 0)]) ⟨hx, hb, hml, hown, hts⟩ (c_Text_init l D ca (2) au1 cu1 (k := 1) (cap := 400) (by omega) hnu1 400 rfl (by decide)) (cwI 1 hts (gW wm_19) rfl rfl rfl (hts _ wm_2) (hts _ wm_17) (hts _ wm_18) rfl (by decide +kernel) ⟨Nat.le_of_ble_eq_true rfl, Nat.le_of_ble_eq_true rfl⟩) hK hP hD hN hS hA rfl hl.1 rfl (lv_room (Nat.le_of_ble_eq_true rfl)) dX3_init_12 (⟨by exact Nat.le_of_ble_eq_true rfl, by exact Nat.le_of_ble_eq_true rfl⟩) (fun au2 cu2 H locs hwu2 hP hD hS => ?_)
  obtain ⟨hau2, hcu2, htu2⟩ := hwu2
  have hmu2 : cu2 0 = .inr (3, [.null, .null, .null, .null, .int 0, .int 0, .null, .null, .null]) := (hcu2 0 (by omega)).trans hmu1
  have ha0_2 : au2 0 = ad 0 := (hau2 (0) (by omega)).trans (ha0_1)
  have hk1 : au2 1 = au1 1 := hau2 1 (by omega)
  refine mg_putF (ci := 3) (v := .ref (au1 1)) (ty := (.object "FormatMill$Text")) (C := RX3) (T := TX3) (N := 9) hx hb hts inX3 tyX3 tyX3_ok nmX3 hown hK hP hD hS (by omega : 0 < 3) ha0_2 hmu2 rfl 0 (by decide) (hts _ wm_77) (fun _ h9 => h9) rfl hin rfl (by decide +kernel) rfl rfl (Nat.le_of_ble_eq_true rfl) dX3_init_15 (fun cu3 H locs hscu3 hccu3 hP hD hS => ?_)
  have hccu3 : cu3 0 = .inr (3, [.ref (au1 1), .null, .null, .null, .int 0, .int 0, .null, .null, .null]) := hccu3
  have t1_3 : tTx ca au2 cu3 1 400 [] := htu2.mv rfl (hscu3 (1) (by omega)) (hscu3 (1 + 1) (by omega))
  have e1_3 : au2 1 = au1 1 := hk1
  refine lv_aload_n hx hb dX3_init_18 rfl (lv_at hl 0 rfl) ?_
  refine mg_new (n := 3) (ci := 2) (fs := [.null, .int 0]) (C := RX2) (T := TX2) (N := 2) hx hb hts inX2 tyX2 tyX2_ok hown (hts _ wm_15) (hts _ wm_16) (hts _ wm_2) hK hP hD hS hA rfl (fun j hj => by (match j, hj with | 0, _ => rfl | 1, _ => rfl)) (Nat.le_of_ble_eq_true rfl) (Nat.le_of_ble_eq_true rfl) dX3_init_19 (fun au4 cu4 H hau4 hcu4 hnu4 hP hD hS => ?_)
  have hmu4 : cu4 0 = .inr (3, [.ref (au1 1), .null, .null, .null, .int 0, .int 0, .null, .null, .null]) := ((hcu4 0 (by omega)).trans hccu3)
  have ha0_4 : au4 0 = ad 0 := (hau4 (0) (by omega)).trans (ha0_2)
  have t1_4 : tTx ca au4 cu4 1 400 [] := t1_3.mv (hau4 (1 + 1) (by omega)) (hcu4 (1) (by omega)) (hcu4 (1 + 1) (by omega))
  have e1_4 : au4 1 = au1 1 := (hau4 (1) (by omega)).trans e1_3
  refine lv_dup hx hb dX3_init_22 rfl ?_
  refine lv_sipush (v := 400) hx hb dX3_init_23 (by decide) ?_
  refine mg_ci (As := [.int 400]) (rest := [.ref (au4 3), .ref (ad 0)]) ⟨hx, hb, hml, hown, hts⟩ (c_Text_init l D ca (4) au4 cu4 (k := 3) (cap := 400) (by omega) hnu4 400 rfl (by decide)) (cwI 1 hts (gW wm_19) rfl rfl rfl (hts _ wm_2) (hts _ wm_17) (hts _ wm_18) rfl (by decide +kernel) ⟨Nat.le_of_ble_eq_true rfl, Nat.le_of_ble_eq_true rfl⟩) hK hP hD hN hS hA rfl hl.1 rfl (lv_room (Nat.le_of_ble_eq_true rfl)) dX3_init_26 (⟨by exact Nat.le_of_ble_eq_true rfl, by exact Nat.le_of_ble_eq_true rfl⟩) (fun au5 cu5 H locs hwu5 hP hD hS => ?_)
  obtain ⟨hau5, hcu5, htu5⟩ := hwu5
  have hmu5 : cu5 0 = .inr (3, [.ref (au1 1), .null, .null, .null, .int 0, .int 0, .null, .null, .null]) := (hcu5 0 (by omega)).trans hmu4
  have ha0_5 : au5 0 = ad 0 := (hau5 (0) (by omega)).trans (ha0_4)
  have t1_5 : tTx ca au5 cu5 1 400 [] := t1_4.mv (hau5 (1 + 1) (by omega)) (hcu5 (1) (by omega)) (hcu5 (1 + 1) (by omega))
  have e1_5 : au5 1 = au1 1 := (hau5 (1) (by omega)).trans e1_4
  have hk3 : au5 3 = au4 3 := hau5 3 (by omega)
  refine mg_putF (ci := 3) (v := .ref (au4 3)) (ty := (.object "FormatMill$Text")) (C := RX3) (T := TX3) (N := 9) hx hb hts inX3 tyX3 tyX3_ok nmX3 hown hK hP hD hS (by omega : 0 < 5) ha0_5 hmu5 rfl 1 (by decide) (hts _ wm_78) (fun _ h9 => h9) rfl hin rfl (by decide +kernel) rfl rfl (Nat.le_of_ble_eq_true rfl) dX3_init_29 (fun cu6 H locs hscu6 hccu6 hP hD hS => ?_)
  have hccu6 : cu6 0 = .inr (3, [.ref (au1 1), .ref (au4 3), .null, .null, .int 0, .int 0, .null, .null, .null]) := hccu6
  have t1_6 : tTx ca au5 cu6 1 400 [] := t1_5.mv rfl (hscu6 (1) (by omega)) (hscu6 (1 + 1) (by omega))
  have t3_6 : tTx ca au5 cu6 3 400 [] := htu5.mv rfl (hscu6 (3) (by omega)) (hscu6 (3 + 1) (by omega))
  have e1_6 : au5 1 = au1 1 := e1_5
  have e3_6 : au5 3 = au4 3 := hk3
  refine lv_aload_n hx hb dX3_init_32 rfl (lv_at hl 0 rfl) ?_
  refine mg_new (n := 5) (ci := 2) (fs := [.null, .int 0]) (C := RX2) (T := TX2) (N := 2) hx hb hts inX2 tyX2 tyX2_ok hown (hts _ wm_15) (hts _ wm_16) (hts _ wm_2) hK hP hD hS hA rfl (fun j hj => by (match j, hj with | 0, _ => rfl | 1, _ => rfl)) (Nat.le_of_ble_eq_true rfl) (Nat.le_of_ble_eq_true rfl) dX3_init_33 (fun au7 cu7 H hau7 hcu7 hnu7 hP hD hS => ?_)
  have hmu7 : cu7 0 = .inr (3, [.ref (au1 1), .ref (au4 3), .null, .null, .int 0, .int 0, .null, .null, .null]) := ((hcu7 0 (by omega)).trans hccu6)
  have ha0_7 : au7 0 = ad 0 := (hau7 (0) (by omega)).trans (ha0_5)
  have t1_7 : tTx ca au7 cu7 1 400 [] := t1_6.mv (hau7 (1 + 1) (by omega)) (hcu7 (1) (by omega)) (hcu7 (1 + 1) (by omega))
  have t3_7 : tTx ca au7 cu7 3 400 [] := t3_6.mv (hau7 (3 + 1) (by omega)) (hcu7 (3) (by omega)) (hcu7 (3 + 1) (by omega))
  have e1_7 : au7 1 = au1 1 := (hau7 (1) (by omega)).trans e1_6
  have e3_7 : au7 3 = au4 3 := (hau7 (3) (by omega)).trans e3_6
  refine lv_dup hx hb dX3_init_36 rfl ?_
  refine lv_sipush (v := 1024) hx hb dX3_init_37 (by decide) ?_
  refine mg_ci (As := [.int 1024]) (rest := [.ref (au7 5), .ref (ad 0)]) ⟨hx, hb, hml, hown, hts⟩ (c_Text_init l D ca (6) au7 cu7 (k := 5) (cap := 1024) (by omega) hnu7 1024 rfl (by decide)) (cwI 1 hts (gW wm_19) rfl rfl rfl (hts _ wm_2) (hts _ wm_17) (hts _ wm_18) rfl (by decide +kernel) ⟨Nat.le_of_ble_eq_true rfl, Nat.le_of_ble_eq_true rfl⟩) hK hP hD hN hS hA rfl hl.1 rfl (lv_room (Nat.le_of_ble_eq_true rfl)) dX3_init_40 (⟨by exact Nat.le_of_ble_eq_true rfl, by exact Nat.le_of_ble_eq_true rfl⟩) (fun au8 cu8 H locs hwu8 hP hD hS => ?_)
  obtain ⟨hau8, hcu8, htu8⟩ := hwu8
  have hmu8 : cu8 0 = .inr (3, [.ref (au1 1), .ref (au4 3), .null, .null, .int 0, .int 0, .null, .null, .null]) := (hcu8 0 (by omega)).trans hmu7
  have ha0_8 : au8 0 = ad 0 := (hau8 (0) (by omega)).trans (ha0_7)
  have t1_8 : tTx ca au8 cu8 1 400 [] := t1_7.mv (hau8 (1 + 1) (by omega)) (hcu8 (1) (by omega)) (hcu8 (1 + 1) (by omega))
  have t3_8 : tTx ca au8 cu8 3 400 [] := t3_7.mv (hau8 (3 + 1) (by omega)) (hcu8 (3) (by omega)) (hcu8 (3 + 1) (by omega))
  have e1_8 : au8 1 = au1 1 := (hau8 (1) (by omega)).trans e1_7
  have e3_8 : au8 3 = au4 3 := (hau8 (3) (by omega)).trans e3_7
  have hk5 : au8 5 = au7 5 := hau8 5 (by omega)
  refine mg_putF (ci := 3) (v := .ref (au7 5)) (ty := (.object "FormatMill$Text")) (C := RX3) (T := TX3) (N := 9) hx hb hts inX3 tyX3 tyX3_ok nmX3 hown hK hP hD hS (by omega : 0 < 7) ha0_8 hmu8 rfl 2 (by decide) (hts _ wm_79) (fun _ h9 => h9) rfl hin rfl (by decide +kernel) rfl rfl (Nat.le_of_ble_eq_true rfl) dX3_init_43 (fun cu9 H locs hscu9 hccu9 hP hD hS => ?_)
  have hccu9 : cu9 0 = .inr (3, [.ref (au1 1), .ref (au4 3), .ref (au7 5), .null, .int 0, .int 0, .null, .null, .null]) := hccu9
  have t1_9 : tTx ca au8 cu9 1 400 [] := t1_8.mv rfl (hscu9 (1) (by omega)) (hscu9 (1 + 1) (by omega))
  have t3_9 : tTx ca au8 cu9 3 400 [] := t3_8.mv rfl (hscu9 (3) (by omega)) (hscu9 (3 + 1) (by omega))
  have t5_9 : tTx ca au8 cu9 5 1024 [] := htu8.mv rfl (hscu9 (5) (by omega)) (hscu9 (5 + 1) (by omega))
  have e1_9 : au8 1 = au1 1 := e1_8
  have e3_9 : au8 3 = au4 3 := e3_8
  have e5_9 : au8 5 = au7 5 := hk5
  refine lv_aload_n hx hb dX3_init_46 rfl (lv_at hl 0 rfl) ?_
  refine lv_bipush (v := 20) hx hb dX3_init_47 (by decide) ?_
  refine mg_newq (n := 7) (C := RX2) hx hb hown (hts _ wm_15) hN.2 hK hP hD hS hA 1 rfl (N' := 20) (by decide) (by decide) (by decide) (Nat.le_of_ble_eq_true rfl) (Nat.le_of_ble_eq_true rfl) dX3_init_49 (fun au10 cu10 H hau10 hcu10 hnu10 hP hD hS => ?_)
  have hmu10 : cu10 0 = .inr (3, [.ref (au1 1), .ref (au4 3), .ref (au7 5), .null, .int 0, .int 0, .null, .null, .null]) := (hcu10 0 (by omega)).trans hccu9
  have ha0_10 : au10 0 = ad 0 := (hau10 (0) (by omega)).trans (ha0_8)
  have t1_10 : tTx ca au10 cu10 1 400 [] := t1_9.mv (hau10 (1 + 1) (by omega)) (hcu10 (1) (by omega)) (hcu10 (1 + 1) (by omega))
  have t3_10 : tTx ca au10 cu10 3 400 [] := t3_9.mv (hau10 (3 + 1) (by omega)) (hcu10 (3) (by omega)) (hcu10 (3 + 1) (by omega))
  have t5_10 : tTx ca au10 cu10 5 1024 [] := t5_9.mv (hau10 (5 + 1) (by omega)) (hcu10 (5) (by omega)) (hcu10 (5 + 1) (by omega))
  have e1_10 : au10 1 = au1 1 := (hau10 (1) (by omega)).trans e1_9
  have e3_10 : au10 3 = au4 3 := (hau10 (3) (by omega)).trans e3_9
  have e5_10 : au10 5 = au7 5 := (hau10 (5) (by omega)).trans e5_9
  have g7_0 : cu10 7 = .inl (ca 1, 20, .inr (.inr (.inr (.inr (fun _ => none))))) := hnu10
  have hk7 : au10 7 = au10 7 := rfl
  refine mg_putF (ci := 3) (v := .ref (au10 7)) (ty := (.array (.object "FormatMill$Text"))) (C := RX3) (T := TX3) (N := 9) hx hb hts inX3 tyX3 tyX3_ok nmX3 hown hK hP hD hS (by omega : 0 < 8) ha0_10 hmu10 rfl 3 (by decide) (hts _ wm_80) (fun _ h9 => h9) rfl hin rfl (by decide +kernel) rfl rfl (Nat.le_of_ble_eq_true rfl) dX3_init_52 (fun cu11 H locs hscu11 hccu11 hP hD hS => ?_)
  have hccu11 : cu11 0 = .inr (3, [.ref (au1 1), .ref (au4 3), .ref (au7 5), .ref (au10 7), .int 0, .int 0, .null, .null, .null]) := hccu11
  have t1_11 : tTx ca au10 cu11 1 400 [] := t1_10.mv rfl (hscu11 (1) (by omega)) (hscu11 (1 + 1) (by omega))
  have t3_11 : tTx ca au10 cu11 3 400 [] := t3_10.mv rfl (hscu11 (3) (by omega)) (hscu11 (3 + 1) (by omega))
  have t5_11 : tTx ca au10 cu11 5 1024 [] := t5_10.mv rfl (hscu11 (5) (by omega)) (hscu11 (5 + 1) (by omega))
  have e1_11 : au10 1 = au1 1 := e1_10
  have e3_11 : au10 3 = au4 3 := e3_10
  have e5_11 : au10 5 = au7 5 := e5_10
  have g7_11 : cu11 7 = .inl (ca 1, 20, .inr (.inr (.inr (.inr (fun _ => none))))) := (hscu11 (7) (by omega)).trans g7_0
  have e7_11 : au10 7 = au10 7 := hk7
  refine lv_iconst (v := 0) hx hb dX3_init_55 (by decide) ?_
  refine lv_istore_n (lv' := [(1, .int 0), (0, .ref (ad 0))]) hx hb dX3_init_56 rfl hl (by decide) rfl (fun ls hl => ?_)
  have loop : ∀ (q i : Nat) (ad1 : Nat → Nat) (c1 : Nat → va_E) (H : Heap) (locs : List Loc) (ls : Array Slot), i ≤ 20 → 20 < i + q → (c1 0 = .inr (3, [.ref (au1 1), .ref (au4 3), .ref (au7 5), .ref (au10 7), .int 0, .int 0, .null, .null, .null])) → (ad1 0 = ad 0) → (tTx ca ad1 c1 1 400 []) → (tTx ca ad1 c1 3 400 []) → (tTx ca ad1 c1 5 1024 []) → (∃ g : Nat → Option Nat, c1 7 = .inl (ca 1, 20, .inr (.inr (.inr (.inr g)))) ∧ ∀ j, j < i → g j = some (ad1 (8 + 2 * j))) → (∀ j, j < i → tTx ca ad1 c1 (8 + 2 * j) 40 []) → (ad1 1 = (au1 1)) → (ad1 3 = (au4 3)) → (ad1 5 = (au7 5)) → (ad1 7 = (au10 7)) → va_P D vwCl (mw (8 + 2 * i) ad1 c1) H → va_D (mA 1 ad s.heap.size) (mw (8 + 2 * i) ad1 c1) → va_S (mA 1 ad s.heap.size) s.heap H locs → lv_has ls 2 [(1, .int (nI i)), (0, .ref (ad 0))] → W pg9 l ev9 (headSpec wsX3_init ({ frames := 2, cells := 51, slots := 2740, locals := 33 })).room s m ([.ref (ad 0)] : List Value).toArray below meth cd H locs (7 + 2 * i) (1850 + 42 * i) (MQ below (va_Qv (fun u : (Nat → Nat) × (Nat → va_E) => (fun ad1 c1 => ad1 0 = ad 0 ∧ tMF ca ad1 c1 [] [] [] (fun _ => []) 0 0 (false, false, false, false) 0 (-1) 0 0 []) u.1 u.2) (fun u t => va_P D vwCl (mw (52) u.1 u.2) t.heap ∧ va_D (mA 1 ad s.heap.size) (mw (52) u.1 u.2)) (mA 1 ad s.heap.size)) ([.ref (ad 0)] : List Value).toArray s 51 2740 (mA 1 ad s.heap.size)) (F0 m 57 ls []) := by
    intro q
    induction q with
    | zero => intro i ad1 c1 H locs ls hi hq; omega
    | succ q ih =>
      intro i ad1 c1 H locs ls hi hq hm ha0 ht1 ht3 ht5 hg htA he1 he3 he5 he7 hP hD hS hl
      obtain ⟨g, h7, hg⟩ := hg
      refine lv_iload_n hx hb dX3_init_57 rfl (lv_at hl 0 rfl) ?_
      refine lv_aload_n hx hb dX3_init_58 rfl (lv_at hl 1 rfl) ?_
      refine mx_r (.ref (ad1 0)) (by rw [ha0]) ?_
      refine mx_get (ci := 3) (v := .ref (au10 7)) (C := RX3) (T := TX3) (N := 9) hx hb hts inX3 hown hK hP (by omega : 0 < _) hm rfl 3 (by decide) (hts _ wm_80) (fun _ h9 => h9) rfl dX3_init_59 ?_
      refine mx_r (.ref (ad1 7)) (by rw [he7]) ?_
      refine mx_alen (v := nI 20) hx hb hK hP (by omega : 7 < _) 1 h7 rfl rfl dX3_init_62 ?_
      refine lv_icmp_ge (tgt := 87) hx hb dX3_init_63 (by decide) (fun hc => ?_) (fun hc => ?_)
      · skip
        obtain rfl : i = 20 := by have := (nI_leI (by omega) (by omega)).mp hc; omega
        refine lv_aload_n hx hb dX3_init_87 rfl (lv_at hl 1 rfl) ?_
        refine lv_iconst (v := 0) hx hb dX3_init_88 (by decide) ?_
        refine mg_put (ci := 3) (v := .int 0) (ty := .int) (C := RX3) (T := TX3) (N := 9) hx hb hts inX3 tyX3 tyX3_ok nmX3 hown hK hP hD hS (by omega : 0 < 8 + 2 * 20) ha0 hm rfl 4 (by decide) (hts _ wm_81) (fun _ h9 => h9) rfl (by decide +kernel) rfl rfl (Nat.le_of_ble_eq_true rfl) dX3_init_89 (fun c2 H locs hsc2 hcc2 hP hD hS => ?_)
        have hcc2 : c2 0 = .inr (3, [.ref (au1 1), .ref (au4 3), .ref (au7 5), .ref (au10 7), .int 0, .int 0, .null, .null, .null]) := hcc2
        have hm := hcc2
        have ha0 : ad1 0 = ad 0 := ha0
        have ht1 : tTx ca ad1 c2 1 400 [] := ht1.mv rfl (hsc2 (1) (by omega)) (hsc2 (1 + 1) (by omega))
        have ht3 : tTx ca ad1 c2 3 400 [] := ht3.mv rfl (hsc2 (3) (by omega)) (hsc2 (3 + 1) (by omega))
        have ht5 : tTx ca ad1 c2 5 1024 [] := ht5.mv rfl (hsc2 (5) (by omega)) (hsc2 (5 + 1) (by omega))
        have htA : ∀ j, j < 20 → tTx ca ad1 c2 (8 + 2 * j) 40 [] := fun j hj => (htA j hj).mv rfl (hsc2 (8 + 2 * j) (by omega)) (hsc2 (8 + 2 * j + 1) (by omega))
        have h7 : c2 7 = .inl (ca 1, 20, .inr (.inr (.inr (.inr g)))) := (hsc2 (7) (by omega)).trans h7
        refine lv_aload_n hx hb dX3_init_92 rfl (lv_at hl 1 rfl) ?_
        refine lv_iconst (v := 0) hx hb dX3_init_93 (by decide) ?_
        refine mg_put (ci := 3) (v := .int 0) (ty := .int) (C := RX3) (T := TX3) (N := 9) hx hb hts inX3 tyX3 tyX3_ok nmX3 hown hK hP hD hS (by omega : 0 < 8 + 2 * 20) ha0 hm rfl 5 (by decide) (hts _ wm_82) (fun _ h9 => h9) rfl (by decide +kernel) rfl rfl (Nat.le_of_ble_eq_true rfl) dX3_init_94 (fun c3 H locs hsc3 hcc3 hP hD hS => ?_)
        have hcc3 : c3 0 = .inr (3, [.ref (au1 1), .ref (au4 3), .ref (au7 5), .ref (au10 7), .int 0, .int 0, .null, .null, .null]) := hcc3
        have hm := hcc3
        have ha0 : ad1 0 = ad 0 := ha0
        have ht1 : tTx ca ad1 c3 1 400 [] := ht1.mv rfl (hsc3 (1) (by omega)) (hsc3 (1 + 1) (by omega))
        have ht3 : tTx ca ad1 c3 3 400 [] := ht3.mv rfl (hsc3 (3) (by omega)) (hsc3 (3 + 1) (by omega))
        have ht5 : tTx ca ad1 c3 5 1024 [] := ht5.mv rfl (hsc3 (5) (by omega)) (hsc3 (5 + 1) (by omega))
        have htA : ∀ j, j < 20 → tTx ca ad1 c3 (8 + 2 * j) 40 [] := fun j hj => (htA j hj).mv rfl (hsc3 (8 + 2 * j) (by omega)) (hsc3 (8 + 2 * j + 1) (by omega))
        have h7 : c3 7 = .inl (ca 1, 20, .inr (.inr (.inr (.inr g)))) := (hsc3 (7) (by omega)).trans h7
        refine W.cs (cells' := 47) (slots' := 2690) rfl rfl ?_
        refine lv_aload_n hx hb dX3_init_97 rfl (lv_at hl 1 rfl) ?_
        refine mg_new (n := 48) (ci := 1) (fs := [.int 0, .int 0, .int 0, .int 0, .int 0, .int 0, .int 0]) (C := RX1) (T := TX1) (N := 7) hx hb hts inX1 tyX1 tyX1_ok hown (hts _ wm_33) (hts _ wm_34) (hts _ wm_3) hK hP hD hS hA rfl (fun j hj => by (match j, hj with | 0, _ => rfl | 1, _ => rfl | 2, _ => rfl | 3, _ => rfl | 4, _ => rfl | 5, _ => rfl | 6, _ => rfl)) (Nat.le_of_ble_eq_true rfl) (Nat.le_of_ble_eq_true rfl) dX3_init_98 (fun ad4 c4 H ha4 hc4 hn4 hP hD hS => ?_)
        have hm : c4 0 = .inr (3, [.ref (au1 1), .ref (au4 3), .ref (au7 5), .ref (au10 7), .int 0, .int 0, .null, .null, .null]) := (hc4 0 (by omega)).trans hm
        have ha0 : ad4 0 = ad 0 := (ha4 (0) (by omega)).trans ha0
        have ht1 : tTx ca ad4 c4 1 400 [] := ht1.mv (ha4 (1 + 1) (by omega)) (hc4 (1) (by omega)) (hc4 (1 + 1) (by omega))
        have he1 : ad4 1 = (au1 1) := (ha4 (1) (by omega)).trans he1
        have ht3 : tTx ca ad4 c4 3 400 [] := ht3.mv (ha4 (3 + 1) (by omega)) (hc4 (3) (by omega)) (hc4 (3 + 1) (by omega))
        have he3 : ad4 3 = (au4 3) := (ha4 (3) (by omega)).trans he3
        have ht5 : tTx ca ad4 c4 5 1024 [] := ht5.mv (ha4 (5 + 1) (by omega)) (hc4 (5) (by omega)) (hc4 (5 + 1) (by omega))
        have he5 : ad4 5 = (au7 5) := (ha4 (5) (by omega)).trans he5
        have he7 : ad4 7 = (au10 7) := (ha4 (7) (by omega)).trans he7
        have htA : ∀ j, j < 20 → tTx ca ad4 c4 (8 + 2 * j) 40 [] := fun j hj => (htA j hj).mv (ha4 (8 + 2 * j + 1) (by omega)) (hc4 (8 + 2 * j) (by omega)) (hc4 (8 + 2 * j + 1) (by omega))
        have hg : ∀ j, j < 20 → g j = some (ad4 (8 + 2 * j)) := fun j hj => by rw [ha4 (8 + 2 * j) (by omega)]; exact hg j hj
        have h7 : c4 7 = .inl (ca 1, 20, .inr (.inr (.inr (.inr g)))) := (hc4 (7) (by omega)).trans h7
        refine lv_dup hx hb dX3_init_101 rfl ?_
        refine mg_c0 (va_runI (As := []) (rest := [.ref (ad4 48), .ref (ad 0)]) ⟨hx, hb, hml, hown, hts⟩ (c_Place_init l D ca (49) ad4 c4 (k := 48) (by omega) hn4 _) (cwI 0 hts (gW wm_37) rfl rfl rfl (hts _ wm_3) (hts _ wm_35) (hts _ wm_36) rfl (by decide +kernel) ⟨Nat.le_of_ble_eq_true rfl, Nat.le_of_ble_eq_true rfl⟩) (mg_ps hK hP hD hN) rfl rfl hl.1 rfl (lv_room (Nat.le_of_ble_eq_true rfl)) dX3_init_102 ⟨by exact Nat.le_of_ble_eq_true rfl, by exact Nat.le_of_ble_eq_true rfl⟩) hS hA hD (fun c5 H locs hw hP hD hS => ?_)
        obtain ⟨hrc5, hsc5⟩ := hw
        have hm : c5 0 = .inr (3, [.ref (au1 1), .ref (au4 3), .ref (au7 5), .ref (au10 7), .int 0, .int 0, .null, .null, .null]) := (hsc5 0 (by omega)).trans hm
        have ha0 : ad4 0 = ad 0 := ha0
        have ht1 : tTx ca ad4 c5 1 400 [] := ht1.mv rfl (hsc5 (1) (by omega)) (hsc5 (1 + 1) (by omega))
        have ht3 : tTx ca ad4 c5 3 400 [] := ht3.mv rfl (hsc5 (3) (by omega)) (hsc5 (3 + 1) (by omega))
        have ht5 : tTx ca ad4 c5 5 1024 [] := ht5.mv rfl (hsc5 (5) (by omega)) (hsc5 (5 + 1) (by omega))
        have htA : ∀ j, j < 20 → tTx ca ad4 c5 (8 + 2 * j) 40 [] := fun j hj => (htA j hj).mv rfl (hsc5 (8 + 2 * j) (by omega)) (hsc5 (8 + 2 * j + 1) (by omega))
        have h7 : c5 7 = .inl (ca 1, 20, .inr (.inr (.inr (.inr g)))) := (hsc5 (7) (by omega)).trans h7
        have hp48 : c5 48 = .inr (1, [.int (bI false), .int (bI false), .int (bI false), .int (bI false), .int 0, .int (-1), .int 0]) := hrc5
        have hp48e : ad4 48 = ad4 48 := rfl
        refine mg_putF (ci := 3) (v := .ref (ad4 48)) (ty := (.object "FormatMill$Place")) (C := RX3) (T := TX3) (N := 9) hx hb hts inX3 tyX3 tyX3_ok nmX3 hown hK hP hD hS (by omega : 0 < 49) ha0 hm rfl 6 (by decide) (hts _ wm_83) (fun _ h9 => h9) rfl hin rfl (by decide +kernel) rfl rfl (Nat.le_of_ble_eq_true rfl) dX3_init_105 (fun c6 H locs hsc6 hcc6 hP hD hS => ?_)
        have hcc6 : c6 0 = .inr (3, [.ref (au1 1), .ref (au4 3), .ref (au7 5), .ref (au10 7), .int 0, .int 0, .ref (ad4 48), .null, .null]) := hcc6
        have hm := hcc6
        have ha0 : ad4 0 = ad 0 := ha0
        have ht1 : tTx ca ad4 c6 1 400 [] := ht1.mv rfl (hsc6 (1) (by omega)) (hsc6 (1 + 1) (by omega))
        have ht3 : tTx ca ad4 c6 3 400 [] := ht3.mv rfl (hsc6 (3) (by omega)) (hsc6 (3 + 1) (by omega))
        have ht5 : tTx ca ad4 c6 5 1024 [] := ht5.mv rfl (hsc6 (5) (by omega)) (hsc6 (5 + 1) (by omega))
        have htA : ∀ j, j < 20 → tTx ca ad4 c6 (8 + 2 * j) 40 [] := fun j hj => (htA j hj).mv rfl (hsc6 (8 + 2 * j) (by omega)) (hsc6 (8 + 2 * j + 1) (by omega))
        have h7 : c6 7 = .inl (ca 1, 20, .inr (.inr (.inr (.inr g)))) := (hsc6 (7) (by omega)).trans h7
        have hp48 : c6 48 = .inr (1, [.int (bI false), .int (bI false), .int (bI false), .int (bI false), .int 0, .int (-1), .int 0]) := (hsc6 (48) (by omega)).trans hp48
        refine lv_aload_n hx hb dX3_init_108 rfl (lv_at hl 1 rfl) ?_
        refine mg_new (n := 49) (ci := 0) (fs := [.long 0]) (C := RX0) (T := TX0) (N := 1) hx hb hts inX0 tyX0 tyX0_ok hown (hts _ wm_66) (hts _ wm_67) (hts _ wm_4) hK hP hD hS hA rfl (fun j hj => by (match j, hj with | 0, _ => rfl)) (Nat.le_of_ble_eq_true rfl) (Nat.le_of_ble_eq_true rfl) dX3_init_109 (fun ad7 c7 H ha7 hc7 hn7 hP hD hS => ?_)
        have hm : c7 0 = .inr (3, [.ref (au1 1), .ref (au4 3), .ref (au7 5), .ref (au10 7), .int 0, .int 0, .ref (ad4 48), .null, .null]) := (hc7 0 (by omega)).trans hm
        have ha0 : ad7 0 = ad 0 := (ha7 (0) (by omega)).trans ha0
        have ht1 : tTx ca ad7 c7 1 400 [] := ht1.mv (ha7 (1 + 1) (by omega)) (hc7 (1) (by omega)) (hc7 (1 + 1) (by omega))
        have he1 : ad7 1 = (au1 1) := (ha7 (1) (by omega)).trans he1
        have ht3 : tTx ca ad7 c7 3 400 [] := ht3.mv (ha7 (3 + 1) (by omega)) (hc7 (3) (by omega)) (hc7 (3 + 1) (by omega))
        have he3 : ad7 3 = (au4 3) := (ha7 (3) (by omega)).trans he3
        have ht5 : tTx ca ad7 c7 5 1024 [] := ht5.mv (ha7 (5 + 1) (by omega)) (hc7 (5) (by omega)) (hc7 (5 + 1) (by omega))
        have he5 : ad7 5 = (au7 5) := (ha7 (5) (by omega)).trans he5
        have he7 : ad7 7 = (au10 7) := (ha7 (7) (by omega)).trans he7
        have htA : ∀ j, j < 20 → tTx ca ad7 c7 (8 + 2 * j) 40 [] := fun j hj => (htA j hj).mv (ha7 (8 + 2 * j + 1) (by omega)) (hc7 (8 + 2 * j) (by omega)) (hc7 (8 + 2 * j + 1) (by omega))
        have hg : ∀ j, j < 20 → g j = some (ad7 (8 + 2 * j)) := fun j hj => by rw [ha7 (8 + 2 * j) (by omega)]; exact hg j hj
        have h7 : c7 7 = .inl (ca 1, 20, .inr (.inr (.inr (.inr g)))) := (hc7 (7) (by omega)).trans h7
        have hp48 : c7 48 = .inr (1, [.int (bI false), .int (bI false), .int (bI false), .int (bI false), .int 0, .int (-1), .int 0]) := (hc7 (48) (by omega)).trans hp48
        have hp48e : ad7 48 = ad4 48 := (ha7 (48) (by omega)).trans hp48e
        refine lv_dup hx hb dX3_init_112 rfl ?_
        refine mg_c0 (va_runI (As := []) (rest := [.ref (ad7 49), .ref (ad 0)]) ⟨hx, hb, hml, hown, hts⟩ (c_Num_init l D ca (50) ad7 c7 (k := 49) (by omega) hn7 _) (cwI 0 hts (gW wm_70) rfl rfl rfl (hts _ wm_4) (hts _ wm_68) (hts _ wm_69) rfl (by decide +kernel) ⟨Nat.le_of_ble_eq_true rfl, Nat.le_of_ble_eq_true rfl⟩) (mg_ps hK hP hD hN) rfl rfl hl.1 rfl (lv_room (Nat.le_of_ble_eq_true rfl)) dX3_init_113 ⟨by exact Nat.le_of_ble_eq_true rfl, by exact Nat.le_of_ble_eq_true rfl⟩) hS hA hD (fun c8 H locs hw hP hD hS => ?_)
        obtain ⟨hrc8, hsc8⟩ := hw
        have hm : c8 0 = .inr (3, [.ref (au1 1), .ref (au4 3), .ref (au7 5), .ref (au10 7), .int 0, .int 0, .ref (ad4 48), .null, .null]) := (hsc8 0 (by omega)).trans hm
        have ha0 : ad7 0 = ad 0 := ha0
        have ht1 : tTx ca ad7 c8 1 400 [] := ht1.mv rfl (hsc8 (1) (by omega)) (hsc8 (1 + 1) (by omega))
        have ht3 : tTx ca ad7 c8 3 400 [] := ht3.mv rfl (hsc8 (3) (by omega)) (hsc8 (3 + 1) (by omega))
        have ht5 : tTx ca ad7 c8 5 1024 [] := ht5.mv rfl (hsc8 (5) (by omega)) (hsc8 (5 + 1) (by omega))
        have htA : ∀ j, j < 20 → tTx ca ad7 c8 (8 + 2 * j) 40 [] := fun j hj => (htA j hj).mv rfl (hsc8 (8 + 2 * j) (by omega)) (hsc8 (8 + 2 * j + 1) (by omega))
        have h7 : c8 7 = .inl (ca 1, 20, .inr (.inr (.inr (.inr g)))) := (hsc8 (7) (by omega)).trans h7
        have hp48 : c8 48 = .inr (1, [.int (bI false), .int (bI false), .int (bI false), .int (bI false), .int 0, .int (-1), .int 0]) := (hsc8 (48) (by omega)).trans hp48
        have hp49 : c8 49 = .inr (0, [.long 0]) := hrc8
        have hp49e : ad7 49 = ad7 49 := rfl
        refine mg_putF (ci := 3) (v := .ref (ad7 49)) (ty := (.object "FormatMill$Numeral")) (C := RX3) (T := TX3) (N := 9) hx hb hts inX3 tyX3 tyX3_ok nmX3 hown hK hP hD hS (by omega : 0 < 50) ha0 hm rfl 7 (by decide) (hts _ wm_84) (fun _ h9 => h9) rfl hin rfl (by decide +kernel) rfl rfl (Nat.le_of_ble_eq_true rfl) dX3_init_116 (fun c9 H locs hsc9 hcc9 hP hD hS => ?_)
        have hcc9 : c9 0 = .inr (3, [.ref (au1 1), .ref (au4 3), .ref (au7 5), .ref (au10 7), .int 0, .int 0, .ref (ad4 48), .ref (ad7 49), .null]) := hcc9
        have hm := hcc9
        have ha0 : ad7 0 = ad 0 := ha0
        have ht1 : tTx ca ad7 c9 1 400 [] := ht1.mv rfl (hsc9 (1) (by omega)) (hsc9 (1 + 1) (by omega))
        have ht3 : tTx ca ad7 c9 3 400 [] := ht3.mv rfl (hsc9 (3) (by omega)) (hsc9 (3 + 1) (by omega))
        have ht5 : tTx ca ad7 c9 5 1024 [] := ht5.mv rfl (hsc9 (5) (by omega)) (hsc9 (5 + 1) (by omega))
        have htA : ∀ j, j < 20 → tTx ca ad7 c9 (8 + 2 * j) 40 [] := fun j hj => (htA j hj).mv rfl (hsc9 (8 + 2 * j) (by omega)) (hsc9 (8 + 2 * j + 1) (by omega))
        have h7 : c9 7 = .inl (ca 1, 20, .inr (.inr (.inr (.inr g)))) := (hsc9 (7) (by omega)).trans h7
        have hp48 : c9 48 = .inr (1, [.int (bI false), .int (bI false), .int (bI false), .int (bI false), .int 0, .int (-1), .int 0]) := (hsc9 (48) (by omega)).trans hp48
        have hp49 : c9 49 = .inr (0, [.long 0]) := (hsc9 (49) (by omega)).trans hp49
        refine lv_aload_n hx hb dX3_init_119 rfl (lv_at hl 1 rfl) ?_
        refine mg_new (n := 50) (ci := 2) (fs := [.null, .int 0]) (C := RX2) (T := TX2) (N := 2) hx hb hts inX2 tyX2 tyX2_ok hown (hts _ wm_15) (hts _ wm_16) (hts _ wm_2) hK hP hD hS hA rfl (fun j hj => by (match j, hj with | 0, _ => rfl | 1, _ => rfl)) (Nat.le_of_ble_eq_true rfl) (Nat.le_of_ble_eq_true rfl) dX3_init_120 (fun ad10 c10 H ha10 hc10 hn10 hP hD hS => ?_)
        have hm : c10 0 = .inr (3, [.ref (au1 1), .ref (au4 3), .ref (au7 5), .ref (au10 7), .int 0, .int 0, .ref (ad4 48), .ref (ad7 49), .null]) := (hc10 0 (by omega)).trans hm
        have ha0 : ad10 0 = ad 0 := (ha10 (0) (by omega)).trans ha0
        have ht1 : tTx ca ad10 c10 1 400 [] := ht1.mv (ha10 (1 + 1) (by omega)) (hc10 (1) (by omega)) (hc10 (1 + 1) (by omega))
        have he1 : ad10 1 = (au1 1) := (ha10 (1) (by omega)).trans he1
        have ht3 : tTx ca ad10 c10 3 400 [] := ht3.mv (ha10 (3 + 1) (by omega)) (hc10 (3) (by omega)) (hc10 (3 + 1) (by omega))
        have he3 : ad10 3 = (au4 3) := (ha10 (3) (by omega)).trans he3
        have ht5 : tTx ca ad10 c10 5 1024 [] := ht5.mv (ha10 (5 + 1) (by omega)) (hc10 (5) (by omega)) (hc10 (5 + 1) (by omega))
        have he5 : ad10 5 = (au7 5) := (ha10 (5) (by omega)).trans he5
        have he7 : ad10 7 = (au10 7) := (ha10 (7) (by omega)).trans he7
        have htA : ∀ j, j < 20 → tTx ca ad10 c10 (8 + 2 * j) 40 [] := fun j hj => (htA j hj).mv (ha10 (8 + 2 * j + 1) (by omega)) (hc10 (8 + 2 * j) (by omega)) (hc10 (8 + 2 * j + 1) (by omega))
        have hg : ∀ j, j < 20 → g j = some (ad10 (8 + 2 * j)) := fun j hj => by rw [ha10 (8 + 2 * j) (by omega)]; exact hg j hj
        have h7 : c10 7 = .inl (ca 1, 20, .inr (.inr (.inr (.inr g)))) := (hc10 (7) (by omega)).trans h7
        have hp48 : c10 48 = .inr (1, [.int (bI false), .int (bI false), .int (bI false), .int (bI false), .int 0, .int (-1), .int 0]) := (hc10 (48) (by omega)).trans hp48
        have hp48e : ad10 48 = ad4 48 := (ha10 (48) (by omega)).trans hp48e
        have hp49 : c10 49 = .inr (0, [.long 0]) := (hc10 (49) (by omega)).trans hp49
        have hp49e : ad10 49 = ad7 49 := (ha10 (49) (by omega)).trans hp49e
        refine lv_dup hx hb dX3_init_123 rfl ?_
        refine lv_bipush (v := 40) hx hb dX3_init_124 (by decide) ?_
        refine mg_ci (As := [.int 40]) (rest := [.ref (ad10 50), .ref (ad 0)]) ⟨hx, hb, hml, hown, hts⟩ (c_Text_init l D ca 51 ad10 c10 (k := 50) (cap := 40) (by omega) hn10 40 rfl (by decide)) (cwI 1 hts (gW wm_19) rfl rfl rfl (hts _ wm_2) (hts _ wm_17) (hts _ wm_18) rfl (by decide +kernel) ⟨Nat.le_of_ble_eq_true rfl, Nat.le_of_ble_eq_true rfl⟩) hK hP hD hN hS hA rfl hl.1 rfl (lv_room (Nat.le_of_ble_eq_true rfl)) dX3_init_126 ⟨by exact Nat.le_of_ble_eq_true rfl, by exact Nat.le_of_ble_eq_true rfl⟩ (fun ad11 c11 H locs hw hP hD hS => ?_)
        obtain ⟨ha11, hc11, ht50⟩ := hw
        have hm : c11 0 = .inr (3, [.ref (au1 1), .ref (au4 3), .ref (au7 5), .ref (au10 7), .int 0, .int 0, .ref (ad4 48), .ref (ad7 49), .null]) := (hc11 0 (by omega)).trans hm
        have ha0 : ad11 0 = ad 0 := (ha11 (0) (by omega)).trans ha0
        have ht1 : tTx ca ad11 c11 1 400 [] := ht1.mv (ha11 (1 + 1) (by omega)) (hc11 (1) (by omega)) (hc11 (1 + 1) (by omega))
        have he1 : ad11 1 = (au1 1) := (ha11 (1) (by omega)).trans he1
        have ht3 : tTx ca ad11 c11 3 400 [] := ht3.mv (ha11 (3 + 1) (by omega)) (hc11 (3) (by omega)) (hc11 (3 + 1) (by omega))
        have he3 : ad11 3 = (au4 3) := (ha11 (3) (by omega)).trans he3
        have ht5 : tTx ca ad11 c11 5 1024 [] := ht5.mv (ha11 (5 + 1) (by omega)) (hc11 (5) (by omega)) (hc11 (5 + 1) (by omega))
        have he5 : ad11 5 = (au7 5) := (ha11 (5) (by omega)).trans he5
        have he7 : ad11 7 = (au10 7) := (ha11 (7) (by omega)).trans he7
        have htA : ∀ j, j < 20 → tTx ca ad11 c11 (8 + 2 * j) 40 [] := fun j hj => (htA j hj).mv (ha11 (8 + 2 * j + 1) (by omega)) (hc11 (8 + 2 * j) (by omega)) (hc11 (8 + 2 * j + 1) (by omega))
        have hg : ∀ j, j < 20 → g j = some (ad11 (8 + 2 * j)) := fun j hj => by rw [ha11 (8 + 2 * j) (by omega)]; exact hg j hj
        have h7 : c11 7 = .inl (ca 1, 20, .inr (.inr (.inr (.inr g)))) := (hc11 (7) (by omega)).trans h7
        have hp48 : c11 48 = .inr (1, [.int (bI false), .int (bI false), .int (bI false), .int (bI false), .int 0, .int (-1), .int 0]) := (hc11 (48) (by omega)).trans hp48
        have hp48e : ad11 48 = ad4 48 := (ha11 (48) (by omega)).trans hp48e
        have hp49 : c11 49 = .inr (0, [.long 0]) := (hc11 (49) (by omega)).trans hp49
        have hp49e : ad11 49 = ad7 49 := (ha11 (49) (by omega)).trans hp49e
        have he50 : ad11 50 = ad10 50 := ha11 50 (by omega)
        refine mg_putF (ci := 3) (v := .ref (ad10 50)) (ty := (.object "FormatMill$Text")) (C := RX3) (T := TX3) (N := 9) hx hb hts inX3 tyX3 tyX3_ok nmX3 hown hK hP hD hS (by omega : 0 < 52) ha0 hm rfl 8 (by decide) (hts _ wm_85) (fun _ h9 => h9) rfl hin rfl (by decide +kernel) rfl rfl (Nat.le_of_ble_eq_true rfl) dX3_init_129 (fun c12 H locs hsc12 hcc12 hP hD hS => ?_)
        have hcc12 : c12 0 = .inr (3, [.ref (au1 1), .ref (au4 3), .ref (au7 5), .ref (au10 7), .int 0, .int 0, .ref (ad4 48), .ref (ad7 49), .ref (ad10 50)]) := hcc12
        have hm := hcc12
        have ha0 : ad11 0 = ad 0 := ha0
        have ht1 : tTx ca ad11 c12 1 400 [] := ht1.mv rfl (hsc12 (1) (by omega)) (hsc12 (1 + 1) (by omega))
        have ht3 : tTx ca ad11 c12 3 400 [] := ht3.mv rfl (hsc12 (3) (by omega)) (hsc12 (3 + 1) (by omega))
        have ht5 : tTx ca ad11 c12 5 1024 [] := ht5.mv rfl (hsc12 (5) (by omega)) (hsc12 (5 + 1) (by omega))
        have htA : ∀ j, j < 20 → tTx ca ad11 c12 (8 + 2 * j) 40 [] := fun j hj => (htA j hj).mv rfl (hsc12 (8 + 2 * j) (by omega)) (hsc12 (8 + 2 * j + 1) (by omega))
        have h7 : c12 7 = .inl (ca 1, 20, .inr (.inr (.inr (.inr g)))) := (hsc12 (7) (by omega)).trans h7
        have hp48 : c12 48 = .inr (1, [.int (bI false), .int (bI false), .int (bI false), .int (bI false), .int 0, .int (-1), .int 0]) := (hsc12 (48) (by omega)).trans hp48
        have hp49 : c12 49 = .inr (0, [.long 0]) := (hsc12 (49) (by omega)).trans hp49
        have ht50 : tTx ca ad11 c12 50 40 [] := ht50.mv rfl (hsc12 50 (by omega)) (hsc12 (50 + 1) (by omega))
        have hpost : ad11 0 = ad 0 ∧ tMF ca ad11 c12 [] [] [] (fun _ => []) 0 0 (false, false, false, false) 0 (-1) 0 0 [] := by
          refine ⟨ha0, ?_, ht1, ht3, ht5, ⟨g, h7, hg⟩, htA, hp48, hp49, ht50, by omega, by omega⟩
          rw [hm, he1, he3, he5, he7, hp48e, hp49e, he50]
          rfl
        exact mg_vret (post := fun ad1 c1 => ad1 0 = ad 0 ∧ tMF ca ad1 c1 [] [] [] (fun _ => []) 0 0 (false, false, false, false) 0 (-1) 0 0 []) hx hb hr hlocks hP hD hS hpost dX3_init_132
      · skip
        have hlt : i < 20 := by rcases Nat.lt_or_ge i 20 with h | h; exact h; exact absurd (nI_le h (by omega)) hc
        refine lv_aload_n hx hb dX3_init_66 rfl (lv_at hl 1 rfl) ?_
        refine mx_r (.ref (ad1 0)) (by rw [ha0]) ?_
        refine mx_get (ci := 3) (v := .ref (au10 7)) (C := RX3) (T := TX3) (N := 9) hx hb hts inX3 hown hK hP (by omega : 0 < _) hm rfl 3 (by decide) (hts _ wm_80) (fun _ h9 => h9) rfl dX3_init_67 ?_
        refine lv_iload_n hx hb dX3_init_70 rfl (lv_at hl 0 rfl) ?_
        refine mg_new (n := 8 + 2 * i) (ci := 2) (fs := [.null, .int 0]) (C := RX2) (T := TX2) (N := 2) hx hb hts inX2 tyX2 tyX2_ok hown (hts _ wm_15) (hts _ wm_16) (hts _ wm_2) hK hP hD hS hA rfl (fun j hj => by (match j, hj with | 0, _ => rfl | 1, _ => rfl)) (by show 7 + 2 * i + 1 ≤ 51; omega) (by show 1850 + 42 * i + 2 ≤ 2740; omega) dX3_init_71 (fun ad2 c2 H ha2 hc2 hn2 hP hD hS => ?_)
        have hm : c2 0 = .inr (3, [.ref (au1 1), .ref (au4 3), .ref (au7 5), .ref (au10 7), .int 0, .int 0, .null, .null, .null]) := (hc2 0 (by omega)).trans hm
        have ha0 : ad2 0 = ad 0 := (ha2 (0) (by omega)).trans ha0
        have ht1 : tTx ca ad2 c2 1 400 [] := ht1.mv (ha2 (1 + 1) (by omega)) (hc2 (1) (by omega)) (hc2 (1 + 1) (by omega))
        have he1 : ad2 1 = (au1 1) := (ha2 (1) (by omega)).trans he1
        have ht3 : tTx ca ad2 c2 3 400 [] := ht3.mv (ha2 (3 + 1) (by omega)) (hc2 (3) (by omega)) (hc2 (3 + 1) (by omega))
        have he3 : ad2 3 = (au4 3) := (ha2 (3) (by omega)).trans he3
        have ht5 : tTx ca ad2 c2 5 1024 [] := ht5.mv (ha2 (5 + 1) (by omega)) (hc2 (5) (by omega)) (hc2 (5 + 1) (by omega))
        have he5 : ad2 5 = (au7 5) := (ha2 (5) (by omega)).trans he5
        have he7 : ad2 7 = (au10 7) := (ha2 (7) (by omega)).trans he7
        have htA : ∀ j, j < i → tTx ca ad2 c2 (8 + 2 * j) 40 [] := fun j hj => (htA j hj).mv (ha2 (8 + 2 * j + 1) (by omega)) (hc2 (8 + 2 * j) (by omega)) (hc2 (8 + 2 * j + 1) (by omega))
        have h7 := (hc2 7 (by omega)).trans h7
        have hg : ∀ j, j < i → g j = some (ad2 (8 + 2 * j)) := fun j hj => by rw [ha2 _ (by omega)]; exact hg j hj
        refine lv_dup hx hb dX3_init_74 rfl ?_
        refine lv_bipush (v := 40) hx hb dX3_init_75 (by decide) ?_
        refine mg_ci (As := [.int 40]) (rest := [.ref (ad2 (8 + 2 * i)), .int (nI i), .ref ((au10 7))]) ⟨hx, hb, hml, hown, hts⟩ (c_Text_init l D ca (8 + 2 * i + 1) ad2 c2 (k := 8 + 2 * i) (cap := 40) rfl hn2 40 rfl (by decide)) (cwI 1 hts (gW wm_19) rfl rfl rfl (hts _ wm_2) (hts _ wm_17) (hts _ wm_18) rfl (by decide +kernel) ⟨Nat.le_of_ble_eq_true rfl, Nat.le_of_ble_eq_true rfl⟩) hK hP hD hN hS hA rfl hl.1 rfl (lv_room (Nat.le_of_ble_eq_true rfl)) dX3_init_77 ⟨by show 7 + 2 * i + 1 + 1 ≤ 51; omega, by show 1850 + 42 * i + 2 + 40 ≤ 2740; omega⟩ (fun ad3 c3 H locs hw hP hD hS => ?_)
        obtain ⟨ha3, hc3, htn⟩ := hw
        have hm : c3 0 = .inr (3, [.ref (au1 1), .ref (au4 3), .ref (au7 5), .ref (au10 7), .int 0, .int 0, .null, .null, .null]) := (hc3 0 (by omega)).trans hm
        have ha0 : ad3 0 = ad 0 := (ha3 (0) (by omega)).trans ha0
        have ht1 : tTx ca ad3 c3 1 400 [] := ht1.mv (ha3 (1 + 1) (by omega)) (hc3 (1) (by omega)) (hc3 (1 + 1) (by omega))
        have he1 : ad3 1 = (au1 1) := (ha3 (1) (by omega)).trans he1
        have ht3 : tTx ca ad3 c3 3 400 [] := ht3.mv (ha3 (3 + 1) (by omega)) (hc3 (3) (by omega)) (hc3 (3 + 1) (by omega))
        have he3 : ad3 3 = (au4 3) := (ha3 (3) (by omega)).trans he3
        have ht5 : tTx ca ad3 c3 5 1024 [] := ht5.mv (ha3 (5 + 1) (by omega)) (hc3 (5) (by omega)) (hc3 (5 + 1) (by omega))
        have he5 : ad3 5 = (au7 5) := (ha3 (5) (by omega)).trans he5
        have he7 : ad3 7 = (au10 7) := (ha3 (7) (by omega)).trans he7
        have htA : ∀ j, j < i → tTx ca ad3 c3 (8 + 2 * j) 40 [] := fun j hj => (htA j hj).mv (ha3 (8 + 2 * j + 1) (by omega)) (hc3 (8 + 2 * j) (by omega)) (hc3 (8 + 2 * j + 1) (by omega))
        have h7 := (hc3 7 (by omega)).trans h7
        have hg : ∀ j, j < i → g j = some (ad3 (8 + 2 * j)) := fun j hj => by rw [ha3 _ (by omega)]; exact hg j hj
        have hvk : ad3 (8 + 2 * i) = ad2 (8 + 2 * i) := ha3 _ (by omega)
        refine mg_aast (ci := 2) hx hb hK hP hD hS 1 (by omega : 7 < _) he7 (by omega : 8 + 2 * i < _) hvk h7 rfl htn.cell rfl (vp_in_nI hlt (by omega)) dX3_init_80 (fun c4 H locs hs4 hc4 hP hD hS => ?_)
        have hm : c4 0 = .inr (3, [.ref (au1 1), .ref (au4 3), .ref (au7 5), .ref (au10 7), .int 0, .int 0, .null, .null, .null]) := (hs4 0 (by omega)).trans hm
        have ha0 : ad3 0 = ad 0 := ha0
        have ht1 : tTx ca ad3 c4 1 400 [] := ht1.mv rfl (hs4 (1) (by omega)) (hs4 (1 + 1) (by omega))
        have ht3 : tTx ca ad3 c4 3 400 [] := ht3.mv rfl (hs4 (3) (by omega)) (hs4 (3 + 1) (by omega))
        have ht5 : tTx ca ad3 c4 5 1024 [] := ht5.mv rfl (hs4 (5) (by omega)) (hs4 (5 + 1) (by omega))
        have htA : ∀ j, j < i → tTx ca ad3 c4 (8 + 2 * j) 40 [] := fun j hj => (htA j hj).mv rfl (hs4 (8 + 2 * j) (by omega)) (hs4 (8 + 2 * j + 1) (by omega))
        have htn : tTx ca ad3 c4 (8 + 2 * i) 40 [] := htn.mv rfl (hs4 _ (by omega)) (hs4 _ (by omega))
        refine lv_iinc (v := nI (i + 1)) (lv' := [(1, .int (nI (i + 1))), (0, .ref (ad 0))]) hx hb dX3_init_81 hl (k := 0) rfl (nI_1 i) (by decide) rfl (fun ls hl => ?_)
        refine lv_goto (tgt := 57) hx hb dX3_init_84 (by decide) ?_
        refine W.cs (cells' := 7 + 2 * (i + 1)) (slots' := 1850 + 42 * (i + 1)) (by omega) (by omega) ?_
        refine ih (i + 1) ad3 c4 H locs ls (by omega) (by omega) hm ha0 ht1 ht3 ht5 ⟨_, hc4, fun j hj => ?_⟩ (fun j hj => ?_) he1 he3 he5 he7 hP hD hS (lv_sub hl [0, 1] rfl)
        · rw [nI_clamp (by omega)]
          by_cases hji : j = i
          · subst hji; rw [va_up_self, hvk]
          · rw [va_up_ne _ _ hji]; exact hg j (by omega)
        · by_cases hji : j = i
          · subst hji; exact htn
          · exact htA j (by omega)
  exact loop 21 0 au10 cu11 _ _ ls (by omega) (by omega) hccu11 ha0_10 t1_11 t3_11 t5_11 ⟨_, g7_11, fun j hj => absurd hj (by omega)⟩ (fun j hj => absurd hj (by omega)) e1_11 e3_11 e5_11 e7_11 hP hD hS (by have h9 := (lv_sub hl [0, 1] rfl); rw [nI_0]; exact h9)
