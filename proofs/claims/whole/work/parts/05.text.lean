set_option maxHeartbeats 4000000 in
set_option maxRecDepth 100000 in
/-- Text.empty() -/
theorem c_Text_empty (l : Launch) (D : va_G) (ca : Nat → ClassId) (n : Nat) (ad : Nat → Nat) (c : Nat → va_E) {k cap : Nat} {t : List Nat} (hk : k + 1 < n) (hT : tTx ca ad c k cap t) : mVoid l yX2_empty wsX2_empty ({ frames := 0, cells := 0, slots := 0, locals := 0 }) [.ref (ad k)] D (tTY ca) n ad c (fun c' => tSm c c' k ∧ tTx ca ad c' k cap []) := by
  intro sz
  refine Met.ofW (cc := cX2_empty) (maxL := 1) (ret := none) (by decide) rfl ?_
  intro pg9 ev9 s m args below meth cd s₁ B hml hv
  obtain ⟨rfl, hsz, hP, hK, hD0, hN⟩ := hv
  have hx := B.exec
  have hb := B.bytes
  have hr := B.returns
  have hts := fun (w : Cond) (h : w ∈ WSa) => atoms_spec (ws := wsX2_empty) B.pre w (List.mem_cons_of_mem _ h)
  have hown : s.vm.findClass RX2 = some m.cls := findClass_of_methodNamed B.named
  have hlocks := B.notSynchronized
  subst hsz
  have hD : ∀ c, va_D (fun _ => True) (mw n ad c) := fun c' => mw_D hD0 c'
  have hS : va_S (mA n ad s.heap.size) s.heap s.heap [] := va_S.rf
  have hl := lv_entry ([.ref (ad k)]) (n := 1) (Nat.le_of_ble_eq_true rfl)
  rw [lg_entry_eq]
  generalize (lg_sl ([.ref (ad k)]) ++ List.replicate (1 - (lg_sl ([.ref (ad k)])).length) Slot.unset).toArray = ls at hl ⊢
  have hl : lv_has ls 1 [(0, .ref (ad k))] := hl
  obtain ⟨hle, hcp, hby, h0, f, h1, hf⟩ := id hT
  refine lv_aload_n hx hb dX2_empty_0 rfl (lv_at hl 0 rfl) ?_
  refine lv_iconst (v := 0) hx hb dX2_empty_1 (by decide) ?_
  refine mx_i (nI ([] : List Nat).length) (nI_0.symm) ?_
  refine mx_put (ci := 2) (v := .int (nI ([] : List Nat).length)) (ty := .int) (C := RX2) (T := TX2) (N := 2) hx hb hts inX2 tyX2 tyX2_ok nmX2 hown hK hP hD hS (by omega : k < n) h0 rfl 1 (by decide) (hts _ wm_22) (fun _ h9 => h9) rfl (by decide +kernel) rfl rfl (Nat.le_of_ble_eq_true rfl) dX2_empty_2 (fun H locs hP hS => ?_)
  obtain ⟨c1, ec1⟩ : ∃ z : Nat → va_E, z = va_up c k (.inr (2, [.ref (ad (k + 1)), .int (nI ([] : List Nat).length)])) := ⟨_, rfl⟩
  have hP : va_P D vwCl (mw n ad c1) H := by rw [ec1]; exact hP
  have hsc1 : ∀ j, j ≠ k → c1 j = c j := fun j h => by rw [ec1]; exact va_up_ne _ _ h
  have hcc1 : c1 k = .inr (2, [.ref (ad (k + 1)), .int (nI ([] : List Nat).length)]) := by rw [ec1]; exact va_up_self _ _ _
  exact mx_vret hx hb hr hlocks hP hS (⟨fun j h1 h2 => hsc1 j h1, Nat.zero_le _, hcp, by simp, hcc1, f, (hsc1 _ (by omega)).trans h1, by simp⟩) dX2_empty_5
set_option maxHeartbeats 4000000 in
set_option maxRecDepth 100000 in
/-- Text.shorten(x) -/
theorem c_Text_shorten (l : Launch) (D : va_G) (ca : Nat → ClassId) (n : Nat) (ad : Nat → Nat) (c : Nat → va_E) {k cap : Nat} {t : List Nat} (hk : k + 1 < n) (hT : tTx ca ad c k cap t) (x : Int32) : mInt l yX2_shorten wsX2_shorten ({ frames := 0, cells := 0, slots := 0, locals := 0 }) [.ref (ad k), .int x] D (tTY ca) n ad c (fun r c' => ((x < 0 ∨ nI t.length < x) ∧ r = 0 ∧ c' = c) ∨ ∃ j, j ≤ t.length ∧ x = nI j ∧ r = 1 ∧ tSm c c' k ∧ tTx ca ad c' k cap (t.take j)) := by
  intro sz
  refine Met.ofW (cc := cX2_shorten) (maxL := 2) (ret := (some .boolean)) (by decide) rfl ?_
  intro pg9 ev9 s m args below meth cd s₁ B hml hv
  obtain ⟨rfl, hsz, hP, hK, hD0, hN⟩ := hv
  have hx := B.exec
  have hb := B.bytes
  have hr := B.returns
  have hts := fun (w : Cond) (h : w ∈ WSa) => atoms_spec (ws := wsX2_shorten) B.pre w (List.mem_cons_of_mem _ h)
  have hown : s.vm.findClass RX2 = some m.cls := findClass_of_methodNamed B.named
  have hlocks := B.notSynchronized
  subst hsz
  have hD : ∀ c, va_D (fun _ => True) (mw n ad c) := fun c' => mw_D hD0 c'
  have hS : va_S (mA n ad s.heap.size) s.heap s.heap [] := va_S.rf
  have hl := lv_entry ([.ref (ad k), .int x]) (n := 2) (Nat.le_of_ble_eq_true rfl)
  rw [lg_entry_eq]
  generalize (lg_sl ([.ref (ad k), .int x]) ++ List.replicate (2 - (lg_sl ([.ref (ad k), .int x])).length) Slot.unset).toArray = ls at hl ⊢
  have hl : lv_has ls 2 [(0, .ref (ad k)), (1, .int x)] := hl
  obtain ⟨hle, hcp, hby, h0, f, h1, hf⟩ := id hT
  refine lv_iload_n hx hb dX2_shorten_0 rfl (lv_at hl 1 rfl) ?_
  refine lv_if_lt (tgt := 12) hx hb dX2_shorten_1 (by decide) (fun hc => ?_) (fun hc => ?_)
  · skip
    refine lv_iconst (v := 0) hx hb dX2_shorten_12 (by decide) ?_
    exact mx_zret hx hb hr hlocks rfl hP hS (Or.inl ⟨Or.inl hc, rfl, rfl⟩) dX2_shorten_13
  · skip
    refine lv_iload_n hx hb dX2_shorten_4 rfl (lv_at hl 1 rfl) ?_
    refine lv_aload_n hx hb dX2_shorten_5 rfl (lv_at hl 0 rfl) ?_
    refine mx_get (ci := 2) (v := .int (nI t.length)) (C := RX2) (T := TX2) (N := 2) hx hb hts inX2 hown hK hP (by omega : k < n) h0 rfl 1 (by decide) (hts _ wm_22) (fun _ h9 => h9) rfl dX2_shorten_6 ?_
    refine lv_icmp_le (tgt := 14) hx hb dX2_shorten_9 (by decide) (fun hc2 => ?_) (fun hc2 => ?_)
    · skip
      obtain ⟨j, hj, hxj⟩ := nI_of2 (nI_toInt (by omega : t.length < 2 ^ 31)) hc hc2
      refine lv_aload_n hx hb dX2_shorten_14 rfl (lv_at hl 0 rfl) ?_
      refine lv_iload_n hx hb dX2_shorten_15 rfl (lv_at hl 1 rfl) ?_
      refine mx_i (nI (t.take j).length) (by rw [hxj, List.length_take, Nat.min_eq_left hj]) ?_
      refine mx_put (ci := 2) (v := .int (nI (t.take j).length)) (ty := .int) (C := RX2) (T := TX2) (N := 2) hx hb hts inX2 tyX2 tyX2_ok nmX2 hown hK hP hD hS (by omega : k < n) h0 rfl 1 (by decide) (hts _ wm_22) (fun _ h9 => h9) rfl (by decide +kernel) rfl rfl (Nat.le_of_ble_eq_true rfl) dX2_shorten_16 (fun H locs hP hS => ?_)
      obtain ⟨c1, ec1⟩ : ∃ z : Nat → va_E, z = va_up c k (.inr (2, [.ref (ad (k + 1)), .int (nI (t.take j).length)])) := ⟨_, rfl⟩
      have hP : va_P D vwCl (mw n ad c1) H := by rw [ec1]; exact hP
      have hsc1 : ∀ j, j ≠ k → c1 j = c j := fun j h => by rw [ec1]; exact va_up_ne _ _ h
      have hcc1 : c1 k = .inr (2, [.ref (ad (k + 1)), .int (nI (t.take j).length)]) := by rw [ec1]; exact va_up_self _ _ _
      refine lv_iconst (v := 1) hx hb dX2_shorten_19 (by decide) ?_
      exact mx_zret hx hb hr hlocks rfl hP hS (Or.inr ⟨j, hj, hxj, rfl, fun i h1 h2 => hsc1 i h1, by rw [List.length_take]; omega, hcp, fun y hy => hby y (List.mem_of_mem_take hy), hcc1, f, (hsc1 _ (by omega)).trans h1, fun i hi => by rw [List.length_take] at hi; rw [hf i (by omega), tk_getD (by omega)]⟩) dX2_shorten_20
    · skip
      refine lv_iconst (v := 0) hx hb dX2_shorten_12 (by decide) ?_
      exact mx_zret hx hb hr hlocks rfl hP hS (Or.inl ⟨Or.inr (Int32.not_le.mp hc2), rfl, rfl⟩) dX2_shorten_13
set_option maxHeartbeats 4000000 in
set_option maxRecDepth 100000 in
/-- Text.at(x) -/
theorem c_Text_at (l : Launch) (D : va_G) (ca : Nat → ClassId) (n : Nat) (ad : Nat → Nat) (c : Nat → va_E) {k cap : Nat} {t : List Nat} (hk : k + 1 < n) (hT : tTx ca ad c k cap t) (x : Int32) : mInt l yX2_at wsX2_at ({ frames := 0, cells := 0, slots := 0, locals := 0 }) [.ref (ad k), .int x] D (tTY ca) n ad c (fun r c' => r = tAtI t x ∧ c' = c) := by
  intro sz
  refine Met.ofW (cc := cX2_at) (maxL := 2) (ret := (some .int)) (by decide) rfl ?_
  intro pg9 ev9 s m args below meth cd s₁ B hml hv
  obtain ⟨rfl, hsz, hP, hK, hD0, hN⟩ := hv
  have hx := B.exec
  have hb := B.bytes
  have hr := B.returns
  have hts := fun (w : Cond) (h : w ∈ WSa) => atoms_spec (ws := wsX2_at) B.pre w (List.mem_cons_of_mem _ h)
  have hown : s.vm.findClass RX2 = some m.cls := findClass_of_methodNamed B.named
  have hlocks := B.notSynchronized
  subst hsz
  have hD : ∀ c, va_D (fun _ => True) (mw n ad c) := fun c' => mw_D hD0 c'
  have hS : va_S (mA n ad s.heap.size) s.heap s.heap [] := va_S.rf
  have hl := lv_entry ([.ref (ad k), .int x]) (n := 2) (Nat.le_of_ble_eq_true rfl)
  rw [lg_entry_eq]
  generalize (lg_sl ([.ref (ad k), .int x]) ++ List.replicate (2 - (lg_sl ([.ref (ad k), .int x])).length) Slot.unset).toArray = ls at hl ⊢
  have hl : lv_has ls 2 [(0, .ref (ad k)), (1, .int x)] := hl
  obtain ⟨hle, hcp, hby, h0, f, h1, hf⟩ := id hT
  refine lv_iload_n hx hb dX2_at_0 rfl (lv_at hl 1 rfl) ?_
  refine lv_if_lt (tgt := 21) hx hb dX2_at_1 (by decide) (fun hc => ?_) (fun hc => ?_)
  · skip
    refine lv_iconst (v := (-1)) hx hb dX2_at_21 (by decide) ?_
    refine lv_goto (tgt := 31) hx hb dX2_at_22 (by decide) ?_
    exact mx_iret hx hb hr hlocks hP hS (⟨(tAtI_neg hc).symm, rfl⟩) dX2_at_31
  · skip
    refine lv_iload_n hx hb dX2_at_4 rfl (lv_at hl 1 rfl) ?_
    refine lv_aload_n hx hb dX2_at_5 rfl (lv_at hl 0 rfl) ?_
    refine mx_get (ci := 2) (v := .int (nI t.length)) (C := RX2) (T := TX2) (N := 2) hx hb hts inX2 hown hK hP (by omega : k < n) h0 rfl 1 (by decide) (hts _ wm_22) (fun _ h9 => h9) rfl dX2_at_6 ?_
    refine lv_icmp_ge (tgt := 21) hx hb dX2_at_9 (by decide) (fun hc2 => ?_) (fun hc2 => ?_)
    · skip
      refine lv_iconst (v := (-1)) hx hb dX2_at_21 (by decide) ?_
      refine lv_goto (tgt := 31) hx hb dX2_at_22 (by decide) ?_
      exact mx_iret hx hb hr hlocks hP hS (⟨(tAtI_big hc hc2 (by omega)).symm, rfl⟩) dX2_at_31
    · skip
      obtain ⟨j, hj, hxj, hjv⟩ := tAtI_in hc hc2 (by omega)
      refine lv_iload_n hx hb dX2_at_12 rfl (lv_at hl 1 rfl) ?_
      refine lv_aload_n hx hb dX2_at_13 rfl (lv_at hl 0 rfl) ?_
      refine mx_get (ci := 2) (v := .ref (ad (k + 1))) (C := RX2) (T := TX2) (N := 2) hx hb hts inX2 hown hK hP (by omega : k < n) h0 rfl 0 (by decide) (hts _ wm_21) (fun _ h9 => h9) rfl dX2_at_14 ?_
      refine mx_alen (v := nI cap) hx hb hK hP (by omega : k + 1 < n) 0 h1 rfl rfl dX2_at_17 ?_
      refine lv_icmp_lt (tgt := 25) hx hb dX2_at_18 (by decide) (fun hc3 => ?_) (fun hc3 => ?_)
      · skip
        refine lv_aload_n hx hb dX2_at_25 rfl (lv_at hl 0 rfl) ?_
        refine mx_get (ci := 2) (v := .ref (ad (k + 1))) (C := RX2) (T := TX2) (N := 2) hx hb hts inX2 hown hK hP (by omega : k < n) h0 rfl 0 (by decide) (hts _ wm_21) (fun _ h9 => h9) rfl dX2_at_26 ?_
        refine lv_iload_n hx hb dX2_at_29 rfl (lv_at hl 1 rfl) ?_
        refine mx_iald hx hb hK hP (by omega : k + 1 < n) 0 h1 rfl (by rw [hxj]; exact vp_in_nI (by omega) (by omega)) dX2_at_30 ?_
        refine mx_i (tAtI t x) (by rw [hjv, hxj, nI_clamp (by omega), hf j hj]) ?_
        exact mx_iret hx hb hr hlocks hP hS (⟨rfl, rfl⟩) dX2_at_31
      · skip
        exact absurd (by rw [hxj]; exact nI_lt (by omega) (by omega)) hc3
set_option maxHeartbeats 4000000 in
set_option maxRecDepth 100000 in
/-- Text.hasRoomFor(x) -/
theorem c_Text_has (l : Launch) (D : va_G) (ca : Nat → ClassId) (n : Nat) (ad : Nat → Nat) (c : Nat → va_E) {k cap : Nat} {t : List Nat} (hk : k + 1 < n) (hT : tTx ca ad c k cap t) (x : Int32) : mInt l yX2_hasRoomFor wsX2_hasRoomFor ({ frames := 0, cells := 0, slots := 0, locals := 0 }) [.ref (ad k), .int x] D (tTY ca) n ad c (fun r c' => c' = c ∧ ((x ≤ nI (cap - t.length) ∧ r = 1) ∨ (nI (cap - t.length) < x ∧ r = 0))) := by
  intro sz
  refine Met.ofW (cc := cX2_hasRoomFor) (maxL := 2) (ret := (some .boolean)) (by decide) rfl ?_
  intro pg9 ev9 s m args below meth cd s₁ B hml hv
  obtain ⟨rfl, hsz, hP, hK, hD0, hN⟩ := hv
  have hx := B.exec
  have hb := B.bytes
  have hr := B.returns
  have hts := fun (w : Cond) (h : w ∈ WSa) => atoms_spec (ws := wsX2_hasRoomFor) B.pre w (List.mem_cons_of_mem _ h)
  have hown : s.vm.findClass RX2 = some m.cls := findClass_of_methodNamed B.named
  have hlocks := B.notSynchronized
  subst hsz
  have hD : ∀ c, va_D (fun _ => True) (mw n ad c) := fun c' => mw_D hD0 c'
  have hS : va_S (mA n ad s.heap.size) s.heap s.heap [] := va_S.rf
  have hl := lv_entry ([.ref (ad k), .int x]) (n := 2) (Nat.le_of_ble_eq_true rfl)
  rw [lg_entry_eq]
  generalize (lg_sl ([.ref (ad k), .int x]) ++ List.replicate (2 - (lg_sl ([.ref (ad k), .int x])).length) Slot.unset).toArray = ls at hl ⊢
  have hl : lv_has ls 2 [(0, .ref (ad k)), (1, .int x)] := hl
  obtain ⟨hle, hcp, hby, h0, f, h1, hf⟩ := id hT
  refine lv_iload_n hx hb dX2_hasRoomFor_0 rfl (lv_at hl 1 rfl) ?_
  refine lv_aload_n hx hb dX2_hasRoomFor_1 rfl (lv_at hl 0 rfl) ?_
  refine mx_get (ci := 2) (v := .ref (ad (k + 1))) (C := RX2) (T := TX2) (N := 2) hx hb hts inX2 hown hK hP (by omega : k < n) h0 rfl 0 (by decide) (hts _ wm_21) (fun _ h9 => h9) rfl dX2_hasRoomFor_2 ?_
  refine mx_alen (v := nI cap) hx hb hK hP (by omega : k + 1 < n) 0 h1 rfl rfl dX2_hasRoomFor_5 ?_
  refine lv_aload_n hx hb dX2_hasRoomFor_6 rfl (lv_at hl 0 rfl) ?_
  refine mx_get (ci := 2) (v := .int (nI t.length)) (C := RX2) (T := TX2) (N := 2) hx hb hts inX2 hown hK hP (by omega : k < n) h0 rfl 1 (by decide) (hts _ wm_22) (fun _ h9 => h9) rfl dX2_hasRoomFor_7 ?_
  refine lv_isub hx hb dX2_hasRoomFor_10 ?_
  refine mx_i (nI (cap - t.length)) (pk_sub hle) ?_
  refine lv_icmp_gt (tgt := 18) hx hb dX2_hasRoomFor_11 (by decide) (fun hc => ?_) (fun hc => ?_)
  · skip
    refine lv_iconst (v := 0) hx hb dX2_hasRoomFor_18 (by decide) ?_
    exact mx_zret hx hb hr hlocks rfl hP hS (⟨rfl, Or.inr ⟨hc, rfl⟩⟩) dX2_hasRoomFor_19
  · skip
    refine lv_iconst (v := 1) hx hb dX2_hasRoomFor_14 (by decide) ?_
    refine lv_goto (tgt := 19) hx hb dX2_hasRoomFor_15 (by decide) ?_
    exact mx_zret hx hb hr hlocks rfl hP hS (⟨rfl, Or.inl ⟨Int32.not_lt.mp hc, rfl⟩⟩) dX2_hasRoomFor_19
set_option maxHeartbeats 4000000 in
set_option maxRecDepth 100000 in
/-- Text.add(x) -/
theorem c_Text_add (l : Launch) (D : va_G) (ca : Nat → ClassId) (n : Nat) (ad : Nat → Nat) (c : Nat → va_E) {k cap : Nat} {t : List Nat} (hk : k + 1 < n) (hT : tTx ca ad c k cap t) (x : Int32) : mInt l yX2_add wsX2_add ({ frames := 0, cells := 0, slots := 0, locals := 0 }) [.ref (ad k), .int x] D (tTY ca) n ad c (fun r c' => (t.length < cap ∧ r = 1 ∧ tSm c c' k ∧ tTx ca ad c' k cap (t ++ [by8 x])) ∨ (cap ≤ t.length ∧ r = 0 ∧ c' = c)) := by
  intro sz
  refine Met.ofW (cc := cX2_add) (maxL := 2) (ret := (some .boolean)) (by decide) rfl ?_
  intro pg9 ev9 s m args below meth cd s₁ B hml hv
  obtain ⟨rfl, hsz, hP, hK, hD0, hN⟩ := hv
  have hx := B.exec
  have hb := B.bytes
  have hr := B.returns
  have hts := fun (w : Cond) (h : w ∈ WSa) => atoms_spec (ws := wsX2_add) B.pre w (List.mem_cons_of_mem _ h)
  have hown : s.vm.findClass RX2 = some m.cls := findClass_of_methodNamed B.named
  have hlocks := B.notSynchronized
  subst hsz
  have hD : ∀ c, va_D (fun _ => True) (mw n ad c) := fun c' => mw_D hD0 c'
  have hS : va_S (mA n ad s.heap.size) s.heap s.heap [] := va_S.rf
  have hl := lv_entry ([.ref (ad k), .int x]) (n := 2) (Nat.le_of_ble_eq_true rfl)
  rw [lg_entry_eq]
  generalize (lg_sl ([.ref (ad k), .int x]) ++ List.replicate (2 - (lg_sl ([.ref (ad k), .int x])).length) Slot.unset).toArray = ls at hl ⊢
  have hl : lv_has ls 2 [(0, .ref (ad k)), (1, .int x)] := hl
  obtain ⟨hle, hcp, hby, h0, f, h1, hf⟩ := id hT
  refine lv_aload_n hx hb dX2_add_0 rfl (lv_at hl 0 rfl) ?_
  refine mx_get (ci := 2) (v := .int (nI t.length)) (C := RX2) (T := TX2) (N := 2) hx hb hts inX2 hown hK hP (by omega : k < n) h0 rfl 1 (by decide) (hts _ wm_22) (fun _ h9 => h9) rfl dX2_add_1 ?_
  refine lv_if_lt (tgt := 19) hx hb dX2_add_4 (by decide) (fun hc => ?_) (fun hc => ?_)
  · skip
    exact absurd hc (nI_pos (by omega))
  · skip
    refine lv_aload_n hx hb dX2_add_7 rfl (lv_at hl 0 rfl) ?_
    refine mx_get (ci := 2) (v := .int (nI t.length)) (C := RX2) (T := TX2) (N := 2) hx hb hts inX2 hown hK hP (by omega : k < n) h0 rfl 1 (by decide) (hts _ wm_22) (fun _ h9 => h9) rfl dX2_add_8 ?_
    refine lv_aload_n hx hb dX2_add_11 rfl (lv_at hl 0 rfl) ?_
    refine mx_get (ci := 2) (v := .ref (ad (k + 1))) (C := RX2) (T := TX2) (N := 2) hx hb hts inX2 hown hK hP (by omega : k < n) h0 rfl 0 (by decide) (hts _ wm_21) (fun _ h9 => h9) rfl dX2_add_12 ?_
    refine mx_alen (v := nI cap) hx hb hK hP (by omega : k + 1 < n) 0 h1 rfl rfl dX2_add_15 ?_
    refine lv_icmp_lt (tgt := 21) hx hb dX2_add_16 (by decide) (fun hc2 => ?_) (fun hc2 => ?_)
    · skip
      have hlt : t.length < cap := (nI_ltI (by omega) (by omega)).mp hc2
      refine lv_aload_n hx hb dX2_add_21 rfl (lv_at hl 0 rfl) ?_
      refine mx_get (ci := 2) (v := .ref (ad (k + 1))) (C := RX2) (T := TX2) (N := 2) hx hb hts inX2 hown hK hP (by omega : k < n) h0 rfl 0 (by decide) (hts _ wm_21) (fun _ h9 => h9) rfl dX2_add_22 ?_
      refine lv_aload_n hx hb dX2_add_25 rfl (lv_at hl 0 rfl) ?_
      refine mx_get (ci := 2) (v := .int (nI t.length)) (C := RX2) (T := TX2) (N := 2) hx hb hts inX2 hown hK hP (by omega : k < n) h0 rfl 1 (by decide) (hts _ wm_22) (fun _ h9 => h9) rfl dX2_add_26 ?_
      refine lv_iload_n hx hb dX2_add_29 rfl (lv_at hl 1 rfl) ?_
      refine lv_sipush (v := 255) hx hb dX2_add_30 (by decide) ?_
      refine lv_iand hx hb dX2_add_33 ?_
      refine mx_i (nI (by8 x)) (by8_and x) ?_
      refine mx_iast hx hb hK hP hD hS (by omega : k + 1 < n) 0 h1 rfl (vp_in_nI hlt (by omega)) dX2_add_34 (fun H locs hP hS => ?_)
      obtain ⟨c1, ec1⟩ : ∃ z : Nat → va_E, z = va_up c (k + 1) (.inl (ca 0, cap, .inl (upd f (nI t.length).toNatClampNeg (nI (by8 x))))) := ⟨_, rfl⟩
      have hP : va_P D vwCl (mw n ad c1) H := by rw [ec1]; exact hP
      have hsc1 : ∀ j, j ≠ k + 1 → c1 j = c j := fun j h => by rw [ec1]; exact va_up_ne _ _ h
      have hcc1 : c1 (k + 1) = .inl (ca 0, cap, .inl (upd f (nI t.length).toNatClampNeg (nI (by8 x)))) := by rw [ec1]; exact va_up_self _ _ _
      have h0 := (hsc1 k (by omega)).trans h0
      refine lv_aload_n hx hb dX2_add_35 rfl (lv_at hl 0 rfl) ?_
      refine lv_dup hx hb dX2_add_36 rfl ?_
      refine mx_get (ci := 2) (v := .int (nI t.length)) (C := RX2) (T := TX2) (N := 2) hx hb hts inX2 hown hK hP (by omega : k < n) h0 rfl 1 (by decide) (hts _ wm_22) (fun _ h9 => h9) rfl dX2_add_37 ?_
      refine lv_iconst (v := 1) hx hb dX2_add_40 (by decide) ?_
      refine lv_iadd hx hb dX2_add_41 ?_
      refine mx_i (nI (t ++ [by8 x]).length) (by rw [List.length_append]; exact nI_1 _) ?_
      refine mx_put (ci := 2) (v := .int (nI (t ++ [by8 x]).length)) (ty := .int) (C := RX2) (T := TX2) (N := 2) hx hb hts inX2 tyX2 tyX2_ok nmX2 hown hK hP hD hS (by omega : k < n) h0 rfl 1 (by decide) (hts _ wm_22) (fun _ h9 => h9) rfl (by decide +kernel) rfl rfl (Nat.le_of_ble_eq_true rfl) dX2_add_42 (fun H locs hP hS => ?_)
      obtain ⟨c2, ec2⟩ : ∃ z : Nat → va_E, z = va_up c1 k (.inr (2, [.ref (ad (k + 1)), .int (nI (t ++ [by8 x]).length)])) := ⟨_, rfl⟩
      have hP : va_P D vwCl (mw n ad c2) H := by rw [ec2]; exact hP
      have hsc2 : ∀ j, j ≠ k → c2 j = c1 j := fun j h => by rw [ec2]; exact va_up_ne _ _ h
      have hcc2 : c2 k = .inr (2, [.ref (ad (k + 1)), .int (nI (t ++ [by8 x]).length)]) := by rw [ec2]; exact va_up_self _ _ _
      refine lv_iconst (v := 1) hx hb dX2_add_45 (by decide) ?_
      exact mx_zret hx hb hr hlocks rfl hP hS (Or.inl ⟨hlt, rfl, fun j h1 h2 => (hsc2 j h1).trans (hsc1 j h2), by rw [List.length_append]; exact hlt, hcp, tb_app hby (by8_lt x), hcc2, _, (hsc2 _ (by omega)).trans hcc1, tUpd hf (by omega)⟩) dX2_add_46
    · skip
      refine lv_iconst (v := 0) hx hb dX2_add_19 (by decide) ?_
      exact mx_zret hx hb hr hlocks rfl hP hS (Or.inr ⟨by have := (not_congr (nI_ltI (by omega) (by omega))).mp hc2; omega, rfl, rfl⟩) dX2_add_20
set_option maxHeartbeats 4000000 in
set_option maxRecDepth 100000 in
/-- Text.addFourBytes(x) -/
theorem c_Text_four (l : Launch) (D : va_G) (ca : Nat → ClassId) (n : Nat) (ad : Nat → Nat) (c : Nat → va_E) {k cap : Nat} {t : List Nat} (hk : k + 1 < n) (hT : tTx ca ad c k cap t) (hroom : t.length + 4 ≤ cap) (x : Int32) : mVoid l yX2_addFourBytes wsX2_addFourBytes ({ frames := 1, cells := 0, slots := 0, locals := 21 }) [.ref (ad k), .int x] D (tTY ca) n ad c (fun c' => tSm c c' k ∧ tTx ca ad c' k cap (t ++ tFour x)) := by
  intro sz
  refine Met.ofW (cc := cX2_addFourBytes) (maxL := 2) (ret := none) (by decide) rfl ?_
  intro pg9 ev9 s m args below meth cd s₁ B hml hv
  obtain ⟨rfl, hsz, hP, hK, hD0, hN⟩ := hv
  have hx := B.exec
  have hb := B.bytes
  have hr := B.returns
  have hts := fun (w : Cond) (h : w ∈ WSa) => atoms_spec (ws := wsX2_addFourBytes) B.pre w (List.mem_cons_of_mem _ h)
  have hown : s.vm.findClass RX2 = some m.cls := findClass_of_methodNamed B.named
  have hlocks := B.notSynchronized
  subst hsz
  have hD : ∀ c, va_D (fun _ => True) (mw n ad c) := fun c' => mw_D hD0 c'
  have hS : va_S (mA n ad s.heap.size) s.heap s.heap [] := va_S.rf
  have hl := lv_entry ([.ref (ad k), .int x]) (n := 2) (Nat.le_of_ble_eq_true rfl)
  rw [lg_entry_eq]
  generalize (lg_sl ([.ref (ad k), .int x]) ++ List.replicate (2 - (lg_sl ([.ref (ad k), .int x])).length) Slot.unset).toArray = ls at hl ⊢
  have hl : lv_has ls 2 [(0, .ref (ad k)), (1, .int x)] := hl
  refine lv_aload_n hx hb dX2_addFourBytes_0 rfl (lv_at hl 0 rfl) ?_
  refine lv_iload_n hx hb dX2_addFourBytes_1 rfl (lv_at hl 1 rfl) ?_
  refine lv_bipush (v := 24) hx hb dX2_addFourBytes_2 (by decide) ?_
  refine lv_iushr (v := (x.toUInt32 >>> ((24 : Int32).toUInt32 &&& Int32.toUInt32 31)).toInt32) hx hb dX2_addFourBytes_4 rfl ?_
  refine mx_ci (va_runV (As := [.int ((x.toUInt32 >>> ((24 : Int32).toUInt32 &&& Int32.toUInt32 31)).toInt32)]) (rest := []) ⟨hx, hb, hml, hown, hts⟩ (c_Text_add l D ca n ad c hk hT ((x.toUInt32 >>> ((24 : Int32).toUInt32 &&& Int32.toUInt32 31)).toInt32) _) (cwV 1 hts (gV wm_117 wm_118 wm_119 wm_2 wm_120) rfl rfl rfl (by decide +kernel) ⟨Nat.le_of_ble_eq_true rfl, Nat.le_of_ble_eq_true rfl⟩) (mx_pv (C := RX2) (T := TX2) (N := 2) (ci := 2) hK hP hD hN (by omega : k < n) hT.cell rfl) rfl rfl hl.1 rfl (lv_room (Nat.le_of_ble_eq_true rfl)) dX2_addFourBytes_5 ⟨Nat.zero_le _, Nat.zero_le _⟩) (Nat.le_refl _) hS (fun r0 c1 H locs hw hP hS => ?_)
  obtain ⟨-, -, hs1, hT1⟩ : _ ∧ _ ∧ tSm c c1 k ∧ tTx ca ad c1 k cap (t ++ [by8 ((x.toUInt32 >>> ((24 : Int32).toUInt32 &&& Int32.toUInt32 31)).toInt32)]) := hw.resolve_right (fun h => by have h9 := h.1; (try simp only [List.length_append, List.length_cons, List.length_nil] at h9); omega)
  refine lv_pop hx hb dX2_addFourBytes_8 rfl ?_
  refine lv_aload_n hx hb dX2_addFourBytes_9 rfl (lv_at hl 0 rfl) ?_
  refine lv_iload_n hx hb dX2_addFourBytes_10 rfl (lv_at hl 1 rfl) ?_
  refine lv_bipush (v := 16) hx hb dX2_addFourBytes_11 (by decide) ?_
  refine lv_iushr (v := (x.toUInt32 >>> ((16 : Int32).toUInt32 &&& Int32.toUInt32 31)).toInt32) hx hb dX2_addFourBytes_13 rfl ?_
  refine mx_ci (va_runV (As := [.int ((x.toUInt32 >>> ((16 : Int32).toUInt32 &&& Int32.toUInt32 31)).toInt32)]) (rest := []) ⟨hx, hb, hml, hown, hts⟩ (c_Text_add l D ca n ad c1 hk hT1 ((x.toUInt32 >>> ((16 : Int32).toUInt32 &&& Int32.toUInt32 31)).toInt32) _) (cwV 1 hts (gV wm_117 wm_118 wm_119 wm_2 wm_120) rfl rfl rfl (by decide +kernel) ⟨Nat.le_of_ble_eq_true rfl, Nat.le_of_ble_eq_true rfl⟩) (mx_pv (C := RX2) (T := TX2) (N := 2) (ci := 2) hK hP hD hN (by omega : k < n) hT1.cell rfl) rfl rfl hl.1 rfl (lv_room (Nat.le_of_ble_eq_true rfl)) dX2_addFourBytes_14 ⟨Nat.zero_le _, Nat.zero_le _⟩) (Nat.le_refl _) hS (fun r1 c2 H locs hw hP hS => ?_)
  obtain ⟨-, -, hs2, hT2⟩ : _ ∧ _ ∧ tSm c1 c2 k ∧ tTx ca ad c2 k cap ((t ++ [by8 ((x.toUInt32 >>> ((24 : Int32).toUInt32 &&& Int32.toUInt32 31)).toInt32)]) ++ [by8 ((x.toUInt32 >>> ((16 : Int32).toUInt32 &&& Int32.toUInt32 31)).toInt32)]) := hw.resolve_right (fun h => by have h9 := h.1; (try simp only [List.length_append, List.length_cons, List.length_nil] at h9); omega)
  refine lv_pop hx hb dX2_addFourBytes_17 rfl ?_
  refine lv_aload_n hx hb dX2_addFourBytes_18 rfl (lv_at hl 0 rfl) ?_
  refine lv_iload_n hx hb dX2_addFourBytes_19 rfl (lv_at hl 1 rfl) ?_
  refine lv_bipush (v := 8) hx hb dX2_addFourBytes_20 (by decide) ?_
  refine lv_iushr (v := (x.toUInt32 >>> ((8 : Int32).toUInt32 &&& Int32.toUInt32 31)).toInt32) hx hb dX2_addFourBytes_22 rfl ?_
  refine mx_ci (va_runV (As := [.int ((x.toUInt32 >>> ((8 : Int32).toUInt32 &&& Int32.toUInt32 31)).toInt32)]) (rest := []) ⟨hx, hb, hml, hown, hts⟩ (c_Text_add l D ca n ad c2 hk hT2 ((x.toUInt32 >>> ((8 : Int32).toUInt32 &&& Int32.toUInt32 31)).toInt32) _) (cwV 1 hts (gV wm_117 wm_118 wm_119 wm_2 wm_120) rfl rfl rfl (by decide +kernel) ⟨Nat.le_of_ble_eq_true rfl, Nat.le_of_ble_eq_true rfl⟩) (mx_pv (C := RX2) (T := TX2) (N := 2) (ci := 2) hK hP hD hN (by omega : k < n) hT2.cell rfl) rfl rfl hl.1 rfl (lv_room (Nat.le_of_ble_eq_true rfl)) dX2_addFourBytes_23 ⟨Nat.zero_le _, Nat.zero_le _⟩) (Nat.le_refl _) hS (fun r2 c3 H locs hw hP hS => ?_)
  obtain ⟨-, -, hs3, hT3⟩ : _ ∧ _ ∧ tSm c2 c3 k ∧ tTx ca ad c3 k cap ((t ++ [by8 ((x.toUInt32 >>> ((24 : Int32).toUInt32 &&& Int32.toUInt32 31)).toInt32)] ++ [by8 ((x.toUInt32 >>> ((16 : Int32).toUInt32 &&& Int32.toUInt32 31)).toInt32)]) ++ [by8 ((x.toUInt32 >>> ((8 : Int32).toUInt32 &&& Int32.toUInt32 31)).toInt32)]) := hw.resolve_right (fun h => by have h9 := h.1; (try simp only [List.length_append, List.length_cons, List.length_nil] at h9); omega)
  refine lv_pop hx hb dX2_addFourBytes_26 rfl ?_
  refine lv_aload_n hx hb dX2_addFourBytes_27 rfl (lv_at hl 0 rfl) ?_
  refine lv_iload_n hx hb dX2_addFourBytes_28 rfl (lv_at hl 1 rfl) ?_
  refine mx_ci (va_runV (As := [.int x]) (rest := []) ⟨hx, hb, hml, hown, hts⟩ (c_Text_add l D ca n ad c3 hk hT3 x _) (cwV 1 hts (gV wm_117 wm_118 wm_119 wm_2 wm_120) rfl rfl rfl (by decide +kernel) ⟨Nat.le_of_ble_eq_true rfl, Nat.le_of_ble_eq_true rfl⟩) (mx_pv (C := RX2) (T := TX2) (N := 2) (ci := 2) hK hP hD hN (by omega : k < n) hT3.cell rfl) rfl rfl hl.1 rfl (lv_room (Nat.le_of_ble_eq_true rfl)) dX2_addFourBytes_29 ⟨Nat.zero_le _, Nat.zero_le _⟩) (Nat.le_refl _) hS (fun r3 c4 H locs hw hP hS => ?_)
  obtain ⟨-, -, hs4, hT4⟩ : _ ∧ _ ∧ tSm c3 c4 k ∧ tTx ca ad c4 k cap ((t ++ [by8 ((x.toUInt32 >>> ((24 : Int32).toUInt32 &&& Int32.toUInt32 31)).toInt32)] ++ [by8 ((x.toUInt32 >>> ((16 : Int32).toUInt32 &&& Int32.toUInt32 31)).toInt32)] ++ [by8 ((x.toUInt32 >>> ((8 : Int32).toUInt32 &&& Int32.toUInt32 31)).toInt32)]) ++ [by8 x]) := hw.resolve_right (fun h => by have h9 := h.1; (try simp only [List.length_append, List.length_cons, List.length_nil] at h9); omega)
  refine lv_pop hx hb dX2_addFourBytes_32 rfl ?_
  exact mx_vret hx hb hr hlocks hP hS (⟨((hs1.tr hs2).tr hs3).tr hs4, by have h9 := hT4; simp only [List.append_assoc] at h9; exact h9⟩) dX2_addFourBytes_33
set_option maxHeartbeats 4000000 in
set_option maxRecDepth 100000 in
/-- Text.addMany(b, y) -/
theorem c_Text_many (l : Launch) (D : va_G) (ca : Nat → ClassId) (n : Nat) (ad : Nat → Nat) (c : Nat → va_E) {k cap : Nat} {t : List Nat} (hk : k + 1 < n) (hT : tTx ca ad c k cap t) (b y : Int32) (q0 : Nat) (hy : y = nI q0) (hroom : t.length + q0 ≤ cap) : mVoid l yX2_addMany wsX2_addMany ({ frames := 1, cells := 0, slots := 0, locals := 21 }) [.ref (ad k), .int b, .int y] D (tTY ca) n ad c (fun c' => tSm c c' k ∧ tTx ca ad c' k cap (t ++ List.replicate q0 (by8 b))) := by
  intro sz
  refine Met.ofW (cc := cX2_addMany) (maxL := 4) (ret := none) (by decide) rfl ?_
  intro pg9 ev9 s m args below meth cd s₁ B hml hv
  obtain ⟨rfl, hsz, hP, hK, hD0, hN⟩ := hv
  have hx := B.exec
  have hb := B.bytes
  have hr := B.returns
  have hts := fun (w : Cond) (h : w ∈ WSa) => atoms_spec (ws := wsX2_addMany) B.pre w (List.mem_cons_of_mem _ h)
  have hown : s.vm.findClass RX2 = some m.cls := findClass_of_methodNamed B.named
  have hlocks := B.notSynchronized
  subst hsz
  have hD : ∀ c, va_D (fun _ => True) (mw n ad c) := fun c' => mw_D hD0 c'
  have hS : va_S (mA n ad s.heap.size) s.heap s.heap [] := va_S.rf
  have hl := lv_entry ([.ref (ad k), .int b, .int y]) (n := 4) (Nat.le_of_ble_eq_true rfl)
  rw [lg_entry_eq]
  generalize (lg_sl ([.ref (ad k), .int b, .int y]) ++ List.replicate (4 - (lg_sl ([.ref (ad k), .int b, .int y])).length) Slot.unset).toArray = ls at hl ⊢
  have hl : lv_has ls 4 [(0, .ref (ad k)), (1, .int b), (2, .int y)] := hl
  have hcp := hT.cap
  have loop : ∀ (q1 : Nat) (i : Nat) (c1 : Nat → va_E) (H : Heap) (locs : List Loc) (ls : Array Slot), (i ≤ q0) → (q0 < i + q1) → (tSm c c1 k) → (tTx ca ad c1 k cap (t ++ List.replicate i (by8 b))) → va_P D vwCl (mw n ad c1) H → va_S (mA n ad s.heap.size) s.heap H locs → lv_has ls 4 [(3, .int (nI i)), (0, .ref (ad k)), (1, .int b), (2, .int y)] → W pg9 l ev9 (headSpec wsX2_addMany ({ frames := 1, cells := 0, slots := 0, locals := 21 })).room s m ([.ref (ad k), .int b, .int y] : List Value).toArray below meth cd H locs 0 0 (MQ below (va_Qv (fun c' => tSm c c' k ∧ tTx ca ad c' k cap (t ++ List.replicate q0 (by8 b))) (mW D n ad) (mA n ad s.heap.size)) ([.ref (ad k), .int b, .int y] : List Value).toArray s 0 0 (mA n ad s.heap.size)) (F0 m 2 ls []) := by
    intro q1
    induction q1 with
    | zero => intro i c1 H locs ls hi hq hs1 hT1 hP hS hl; omega
    | succ q1 ih =>
      intro i c1 H locs ls hi hq hs1 hT1 hP hS hl
      refine lv_iload_n hx hb dX2_addMany_2 rfl (lv_at hl 0 rfl) ?_
      refine lv_iload_n hx hb dX2_addMany_3 rfl (lv_at hl 3 rfl) ?_
      refine lv_icmp_ge (tgt := 19) hx hb dX2_addMany_4 (by decide) (fun hc => ?_) (fun hc => ?_)
      · skip
        have hge : q0 ≤ i := (nI_leI (by omega) (by omega)).mp (by rw [← hy]; exact hc)
        obtain rfl : i = q0 := by omega
        exact mx_vret hx hb hr hlocks hP hS (⟨hs1, hT1⟩) dX2_addMany_19
      · skip
        have hlt : i < q0 := by rcases Nat.lt_or_ge i q0 with h | h; exact h; exact absurd (by rw [hy]; exact nI_le h (by omega)) hc
        refine lv_aload_n hx hb dX2_addMany_7 rfl (lv_at hl 1 rfl) ?_
        refine lv_iload_n hx hb dX2_addMany_8 rfl (lv_at hl 2 rfl) ?_
        refine mx_ci (va_runV (As := [.int b]) (rest := []) ⟨hx, hb, hml, hown, hts⟩ (c_Text_add l D ca n ad c1 hk hT1 b _) (cwV 1 hts (gV wm_117 wm_118 wm_119 wm_2 wm_120) rfl rfl rfl (by decide +kernel) ⟨Nat.le_of_ble_eq_true rfl, Nat.le_of_ble_eq_true rfl⟩) (mx_pv (C := RX2) (T := TX2) (N := 2) (ci := 2) hK hP hD hN (by omega : k < n) hT1.cell rfl) rfl rfl hl.1 rfl (lv_room (Nat.le_of_ble_eq_true rfl)) dX2_addMany_9 ⟨Nat.zero_le _, Nat.zero_le _⟩) (Nat.le_refl _) hS (fun r c2 H locs hw hP hS => ?_)
        obtain ⟨-, -, hs2, hT2⟩ : _ ∧ _ ∧ tSm c1 c2 k ∧ tTx ca ad c2 k cap ((t ++ List.replicate i (by8 b)) ++ [by8 b]) := hw.resolve_right (fun h => by have h9 := h.1; simp only [List.length_append, List.length_replicate] at h9; omega)
        refine lv_pop hx hb dX2_addMany_12 rfl ?_
        refine lv_iinc (v := nI (i + 1)) (lv' := [(3, .int (nI (i + 1))), (0, .ref (ad k)), (1, .int b), (2, .int y)]) hx hb dX2_addMany_13 hl (k := 0) rfl (nI_1 i) (by decide) rfl (fun ls hl => ?_)
        refine lv_goto (tgt := 2) hx hb dX2_addMany_16 (by decide) ?_
        exact ih (i + 1) c2 H locs ls (by omega) (by omega) (hs1.tr hs2) (by rw [List.replicate_succ', ← List.append_assoc]; exact hT2) hP hS (lv_sub hl [0, 1, 2, 3] rfl)
  refine lv_iconst (v := 0) hx hb dX2_addMany_0 (by decide) ?_
  refine lv_istore_n (lv' := [(3, .int 0), (0, .ref (ad k)), (1, .int b), (2, .int y)]) hx hb dX2_addMany_1 rfl hl (by decide) rfl (fun ls hl => ?_)
  exact loop (q0 + 1) 0 c _ _ ls (Nat.zero_le _) (by omega) tSm.rf (by rw [List.replicate_zero, List.append_nil]; exact hT) hP hS (by have h9 := (lv_sub hl [0, 1, 2, 3] rfl); rw [nI_0]; exact h9)
set_option maxHeartbeats 4000000 in
set_option maxRecDepth 100000 in
/-- Text.addText(other) -/
theorem c_Text_text (l : Launch) (D : va_G) (ca : Nat → ClassId) (n : Nat) (ad : Nat → Nat) (c : Nat → va_E) {k cap : Nat} {t : List Nat} (hk : k + 1 < n) (hT : tTx ca ad c k cap t) {k2 cap2 : Nat} {t2 : List Nat} (hk2 : k2 + 1 < n) (hT2 : tTx ca ad c k2 cap2 t2) (hd : k2 ≠ k ∧ k2 ≠ k + 1 ∧ k2 + 1 ≠ k) (hroom : t.length + t2.length ≤ cap) : mVoid l yX2_addText wsX2_addText ({ frames := 1, cells := 0, slots := 0, locals := 21 }) [.ref (ad k), .ref (ad k2)] D (tTY ca) n ad c (fun c' => tSm c c' k ∧ tTx ca ad c' k cap (t ++ t2)) := by
  intro sz
  refine Met.ofW (cc := cX2_addText) (maxL := 4) (ret := none) (by decide) rfl ?_
  intro pg9 ev9 s m args below meth cd s₁ B hml hv
  obtain ⟨rfl, hsz, hP, hK, hD0, hN⟩ := hv
  have hx := B.exec
  have hb := B.bytes
  have hr := B.returns
  have hts := fun (w : Cond) (h : w ∈ WSa) => atoms_spec (ws := wsX2_addText) B.pre w (List.mem_cons_of_mem _ h)
  have hown : s.vm.findClass RX2 = some m.cls := findClass_of_methodNamed B.named
  have hlocks := B.notSynchronized
  subst hsz
  have hD : ∀ c, va_D (fun _ => True) (mw n ad c) := fun c' => mw_D hD0 c'
  have hS : va_S (mA n ad s.heap.size) s.heap s.heap [] := va_S.rf
  have hl := lv_entry ([.ref (ad k), .ref (ad k2)]) (n := 4) (Nat.le_of_ble_eq_true rfl)
  rw [lg_entry_eq]
  generalize (lg_sl ([.ref (ad k), .ref (ad k2)]) ++ List.replicate (4 - (lg_sl ([.ref (ad k), .ref (ad k2)])).length) Slot.unset).toArray = ls at hl ⊢
  have hl : lv_has ls 4 [(0, .ref (ad k)), (1, .ref (ad k2))] := hl
  have hcp := hT.cap
  have hcp2 := hT2.cap
  have hle2 := hT2.le
  have loop : ∀ (q1 : Nat) (i : Nat) (c1 : Nat → va_E) (H : Heap) (locs : List Loc) (ls : Array Slot), (i ≤ t2.length) → (t2.length < i + q1) → (tSm c c1 k) → (tTx ca ad c1 k cap (t ++ t2.take i)) → va_P D vwCl (mw n ad c1) H → va_S (mA n ad s.heap.size) s.heap H locs → lv_has ls 4 [(3, .int (nI i)), (2, .int (nI t2.length)), (0, .ref (ad k)), (1, .ref (ad k2))] → W pg9 l ev9 (headSpec wsX2_addText ({ frames := 1, cells := 0, slots := 0, locals := 21 })).room s m ([.ref (ad k), .ref (ad k2)] : List Value).toArray below meth cd H locs 0 0 (MQ below (va_Qv (fun c' => tSm c c' k ∧ tTx ca ad c' k cap (t ++ t2)) (mW D n ad) (mA n ad s.heap.size)) ([.ref (ad k), .ref (ad k2)] : List Value).toArray s 0 0 (mA n ad s.heap.size)) (F0 m 7 ls []) := by
    intro q1
    induction q1 with
    | zero => intro i c1 H locs ls hi hq hs1 hT1 hP hS hl; omega
    | succ q1 ih =>
      intro i c1 H locs ls hi hq hs1 hT1 hP hS hl
      have hT3 : tTx ca ad c1 k2 cap2 t2 := hT2.keep (hs1 _ hd.1 hd.2.1) (hs1 _ hd.2.2 (by omega))
      refine lv_iload_n hx hb dX2_addText_7 rfl (lv_at hl 0 rfl) ?_
      refine lv_iload_n hx hb dX2_addText_8 rfl (lv_at hl 1 rfl) ?_
      refine lv_icmp_ge (tgt := 28) hx hb dX2_addText_9 (by decide) (fun hc => ?_) (fun hc => ?_)
      · skip
        have hge : t2.length ≤ i := (nI_leI (by omega) (by omega)).mp hc
        exact mx_vret hx hb hr hlocks hP hS (⟨hs1, by rw [List.take_of_length_le hge] at hT1; exact hT1⟩) dX2_addText_28
      · skip
        have hlt : i < t2.length := by rcases Nat.lt_or_ge i t2.length with h | h; exact h; exact absurd (nI_le h (by omega)) hc
        refine lv_aload_n hx hb dX2_addText_12 rfl (lv_at hl 2 rfl) ?_
        refine lv_aload_n hx hb dX2_addText_13 rfl (lv_at hl 3 rfl) ?_
        refine lv_iload_n hx hb dX2_addText_14 rfl (lv_at hl 0 rfl) ?_
        refine mx_ci (va_runV (As := [.int (nI i)]) (rest := [.ref (ad k)]) ⟨hx, hb, hml, hown, hts⟩ (c_Text_at l D ca n ad c1 hk2 hT3 (nI i) _) (cwV 1 hts (gV wm_141 wm_142 wm_143 wm_2 wm_144) rfl rfl rfl (by decide +kernel) ⟨Nat.le_of_ble_eq_true rfl, Nat.le_of_ble_eq_true rfl⟩) (mx_pv (C := RX2) (T := TX2) (N := 2) (ci := 2) hK hP hD hN (by omega : k2 < n) hT3.cell rfl) rfl rfl hl.1 rfl (lv_room (Nat.le_of_ble_eq_true rfl)) dX2_addText_15 ⟨Nat.zero_le _, Nat.zero_le _⟩) (Nat.le_refl _) hS (fun r1 c2 H locs hw hP hS => ?_)
        obtain ⟨hr1, hcE⟩ := hw
        rw [hcE] at hP
        refine mx_i (nI (t2.getD i 0)) (by rw [hr1, tAtI_nI (by omega)]; exact if_pos hlt) ?_
        refine mx_ci (va_runV (As := [.int (nI (t2.getD i 0))]) (rest := []) ⟨hx, hb, hml, hown, hts⟩ (c_Text_add l D ca n ad c1 hk hT1 (nI (t2.getD i 0)) _) (cwV 1 hts (gV wm_117 wm_118 wm_119 wm_2 wm_120) rfl rfl rfl (by decide +kernel) ⟨Nat.le_of_ble_eq_true rfl, Nat.le_of_ble_eq_true rfl⟩) (mx_pv (C := RX2) (T := TX2) (N := 2) (ci := 2) hK hP hD hN (by omega : k < n) hT1.cell rfl) rfl rfl hl.1 rfl (lv_room (Nat.le_of_ble_eq_true rfl)) dX2_addText_18 ⟨Nat.zero_le _, Nat.zero_le _⟩) (Nat.le_refl _) hS (fun r c2 H locs hw hP hS => ?_)
        obtain ⟨-, -, hs2, hT4⟩ := hw.resolve_right (fun h => by have h9 := h.1; simp only [List.length_append, List.length_take] at h9; omega)
        refine lv_pop hx hb dX2_addText_21 rfl ?_
        refine lv_iinc (v := nI (i + 1)) (lv' := [(3, .int (nI (i + 1))), (2, .int (nI t2.length)), (0, .ref (ad k)), (1, .ref (ad k2))]) hx hb dX2_addText_22 hl (k := 0) rfl (nI_1 i) (by decide) rfl (fun ls hl => ?_)
        refine lv_goto (tgt := 7) hx hb dX2_addText_25 (by decide) ?_
        exact ih (i + 1) c2 H locs ls (by omega) (by omega) (hs1.tr hs2) (by rw [tk_succ hlt, ← List.append_assoc]; rw [by8_nI (hT2.b8 _ (gD_mem hlt))] at hT4; exact hT4) hP hS (lv_sub hl [0, 1, 2, 3] rfl)
  refine lv_aload_n hx hb dX2_addText_0 rfl (lv_at hl 1 rfl) ?_
  refine mx_get (ci := 2) (v := .int (nI t2.length)) (C := RX2) (T := TX2) (N := 2) hx hb hts inX2 hown hK hP (by omega : k2 < n) hT2.cell rfl 1 (by decide) (hts _ wm_22) (fun _ h9 => h9) rfl dX2_addText_1 ?_
  refine lv_istore_n (lv' := [(2, .int (nI t2.length)), (0, .ref (ad k)), (1, .ref (ad k2))]) hx hb dX2_addText_4 rfl hl (by decide) rfl (fun ls hl => ?_)
  refine lv_iconst (v := 0) hx hb dX2_addText_5 (by decide) ?_
  refine lv_istore_n (lv' := [(3, .int 0), (2, .int (nI t2.length)), (0, .ref (ad k)), (1, .ref (ad k2))]) hx hb dX2_addText_6 rfl hl (by decide) rfl (fun ls hl => ?_)
  exact loop (t2.length + 1) 0 c _ _ ls (Nat.zero_le _) (by omega) tSm.rf (by rw [List.take_zero, List.append_nil]; exact hT) hP hS (by have h9 := (lv_sub hl [0, 1, 2, 3] rfl); rw [nI_0]; exact h9)
