set_option maxHeartbeats 4000000 in
set_option maxRecDepth 100000 in
/-- put(y) -/
theorem c_put (l : Launch) (D : va_G) (ca : Nat → ClassId) (n : Nat) (ad : Nat → Nat) (c : Nat → va_E) {x0 x1 x2 x3 x4 x5 x6 x7 x8 x9 x10 x11 x12 : Int32} {v : Int64} (hn : 59 ≤ n) (hO : c 52 = rO ad x0 x1 x2 x3 x4 x5 x6 x7 x8 x9 x10 x11 x12 v) {cu : List Nat} (hB : tB ca c 56 1024 0 cu) (hx4 : x4 = nI cu.length) (y : Int32) : mInt l yX4_put wsX4_put ({ frames := 0, cells := 0, slots := 0, locals := 0 }) [.ref (ad 52), .int y] D (tTY ca) n ad c (fun r c' => (cu.length < 1024 ∧ r = 1 ∧ c' 52 = rO ad x0 x1 x2 x3 (nI (cu ++ [by8 y]).length) x5 x6 x7 x8 x9 x10 x11 x12 v ∧ tB ca c' 56 1024 0 (cu ++ [by8 y]) ∧ ∀ j, j ≠ 52 → j ≠ 56 → c' j = c j) ∨ (1024 ≤ cu.length ∧ r = 0 ∧ c' = c)) := by
  intro sz
  refine Met.ofW (cc := cX4_put) (maxL := 2) (ret := (some .boolean)) (by decide) rfl ?_
  intro pg9 ev9 s m args below meth cd s₁ B hml hv
  obtain ⟨rfl, hsz, hP, hK, hD0, hN⟩ := hv
  have hx := B.exec
  have hb := B.bytes
  have hr := B.returns
  have hts := fun (w : Cond) (h : w ∈ WSa) => atoms_spec (ws := wsX4_put) B.pre w (List.mem_cons_of_mem _ h)
  have hown : s.vm.findClass RX4 = some m.cls := findClass_of_methodNamed B.named
  have hlocks := B.notSynchronized
  subst hsz
  have hD : ∀ c, va_D (fun _ => True) (mw n ad c) := fun c' => mw_D hD0 c'
  have hS : va_S (mA n ad s.heap.size) s.heap s.heap [] := va_S.rf
  have hl := lv_entry ([.ref (ad 52), .int y]) (n := 2) (Nat.le_of_ble_eq_true rfl)
  rw [lg_entry_eq]
  generalize (lg_sl ([.ref (ad 52), .int y]) ++ List.replicate (2 - (lg_sl ([.ref (ad 52), .int y])).length) Slot.unset).toArray = ls at hl ⊢
  have hl : lv_has ls 2 [(0, .ref (ad 52)), (1, .int y)] := hl
  obtain ⟨hle, hcp, hby, f, h56, hf⟩ := id hB
  rw [Nat.zero_add] at hle
  refine lv_aload_n hx hb dX4_put_0 rfl (lv_at hl 0 rfl) ?_
  refine mx_get (ci := 4) (v := .int x4) (C := RX4) (T := TX4) (N := 20) hx hb hts inX4 hown hK hP (by omega : 52 < n) hO rfl 8 (by decide) (hts _ wm_276) (fun _ h9 => h9) rfl dX4_put_1 ?_
  refine lv_sipush (v := 1024) hx hb dX4_put_4 (by decide) ?_
  refine lv_icmp_ne (tgt := 12) hx hb dX4_put_7 (by decide) (fun hc => ?_) (fun hc => ?_)
  · skip
    have hlt : cu.length < 1024 := by rcases Nat.lt_or_ge cu.length 1024 with h | h; exact h; exact absurd (by rw [hx4, show cu.length = 1024 by omega]; rfl) hc
    refine lv_aload_n hx hb dX4_put_12 rfl (lv_at hl 0 rfl) ?_
    refine mx_get (ci := 4) (v := .ref (ad 56)) (C := RX4) (T := TX4) (N := 20) hx hb hts inX4 hown hK hP (by omega : 52 < n) hO rfl 3 (by decide) (hts _ wm_271) (fun _ h9 => h9) rfl dX4_put_13 ?_
    refine lv_aload_n hx hb dX4_put_16 rfl (lv_at hl 0 rfl) ?_
    refine mx_get (ci := 4) (v := .int x4) (C := RX4) (T := TX4) (N := 20) hx hb hts inX4 hown hK hP (by omega : 52 < n) hO rfl 8 (by decide) (hts _ wm_276) (fun _ h9 => h9) rfl dX4_put_17 ?_
    refine lv_iload_n hx hb dX4_put_20 rfl (lv_at hl 1 rfl) ?_
    refine lv_i2b (v := y.toInt8.toInt32) hx hb dX4_put_21 rfl ?_
    refine mx_i (sB (by8 y)) (i8_by8 y) ?_
    refine mx_bast (y := sB (by8 y)) hx hb hK hP hD hS (by omega : 56 < n) 2 h56 rfl (by rw [hx4]; exact vp_in_nI hlt (by omega)) (nar_sB _) dX4_put_22 (fun H locs hP hS => ?_)
    obtain ⟨c1, ec1⟩ : ∃ z : Nat → va_E, z = va_up c 56 (.inl (ca 2, 1024, .inl (upd f x4.toNatClampNeg (sB (by8 y))))) := ⟨_, rfl⟩
    have hP : va_P D vwCl (mw n ad c1) H := by rw [ec1]; exact hP
    have hsc1 : ∀ j, j ≠ 56 → c1 j = c j := fun j h => by rw [ec1]; exact va_up_ne _ _ h
    have hcc1 : c1 56 = .inl (ca 2, 1024, .inl (upd f x4.toNatClampNeg (sB (by8 y)))) := by rw [ec1]; exact va_up_self _ _ _
    rw [hx4, nI_clamp (by omega)] at hcc1
    have hO1 := (hsc1 52 (by omega)).trans hO
    have hB1 := hB.app h56 (by8_lt y) (by omega) (by rw [Nat.zero_add]; exact hcc1)
    refine lv_aload_n hx hb dX4_put_23 rfl (lv_at hl 0 rfl) ?_
    refine lv_dup hx hb dX4_put_24 rfl ?_
    refine mx_get (ci := 4) (v := .int x4) (C := RX4) (T := TX4) (N := 20) hx hb hts inX4 hown hK hP (by omega : 52 < n) hO1 rfl 8 (by decide) (hts _ wm_276) (fun _ h9 => h9) rfl dX4_put_25 ?_
    refine lv_iconst (v := 1) hx hb dX4_put_28 (by decide) ?_
    refine lv_iadd hx hb dX4_put_29 ?_
    refine mx_i (nI (cu ++ [by8 y]).length) (by rw [hx4, List.length_append]; exact nI_1 _) ?_
    refine mx_put (ci := 4) (v := .int (nI (cu ++ [by8 y]).length)) (ty := .int) (C := RX4) (T := TX4) (N := 20) hx hb hts inX4 tyX4 tyX4_ok nmX4 hown hK hP hD hS (by omega : 52 < n) hO1 rfl 8 (by decide) (hts _ wm_276) (fun _ h9 => h9) rfl (by decide +kernel) rfl rfl (Nat.le_of_ble_eq_true rfl) dX4_put_30 (fun H locs hP hS => ?_)
    obtain ⟨c2, ec2⟩ : ∃ z : Nat → va_E, z = va_up c1 52 (.inr (4, [.ref (ad 53), .ref (ad 54), .ref (ad 55), .ref (ad 56), .int x0, .int x1, .int x2, .int x3, .int (nI (cu ++ [by8 y]).length), .ref (ad 57), .int x5, .int x6, .int x7, .int x8, .int x9, .int x10, .int x11, .ref (ad 58), .int x12, .long v])) := ⟨_, rfl⟩
    have hP : va_P D vwCl (mw n ad c2) H := by rw [ec2]; exact hP
    have hsc2 : ∀ j, j ≠ 52 → c2 j = c1 j := fun j h => by rw [ec2]; exact va_up_ne _ _ h
    have hcc2 : c2 52 = .inr (4, [.ref (ad 53), .ref (ad 54), .ref (ad 55), .ref (ad 56), .int x0, .int x1, .int x2, .int x3, .int (nI (cu ++ [by8 y]).length), .ref (ad 57), .int x5, .int x6, .int x7, .int x8, .int x9, .int x10, .int x11, .ref (ad 58), .int x12, .long v]) := by rw [ec2]; exact va_up_self _ _ _
    refine lv_iconst (v := 1) hx hb dX4_put_33 (by decide) ?_
    exact mx_zret hx hb hr hlocks rfl hP hS (Or.inl ⟨hlt, rfl, hcc2, hB1.keep (hsc2 56 (by omega)), fun j h1 h2 => (hsc2 j h1).trans (hsc1 j h2)⟩) dX4_put_34
  · skip
    refine lv_iconst (v := 0) hx hb dX4_put_10 (by decide) ?_
    exact mx_zret hx hb hr hlocks rfl hP hS (Or.inr ⟨by have := (nI_eq (a := cu.length) (b := 1024) (by omega) (by omega)).mp (by rw [← hx4]; exact hc); omega, rfl, rfl⟩) dX4_put_11
set_option maxHeartbeats 4000000 in
set_option maxRecDepth 100000 in
/-- puts(y, k) -/
theorem c_puts (l : Launch) (D : va_G) (ca : Nat → ClassId) (n : Nat) (ad : Nat → Nat) (c : Nat → va_E) {x0 x1 x2 x3 x4 x5 x6 x7 x8 x9 x10 x11 x12 : Int32} {v : Int64} (hn : 59 ≤ n) (hO : c 52 = rO ad x0 x1 x2 x3 x4 x5 x6 x7 x8 x9 x10 x11 x12 v) {cu : List Nat} (hB : tB ca c 56 1024 0 cu) (hx4 : x4 = nI cu.length) (y y2 : Int32) (k : Nat) (hy2 : y2 = nI k) (hk : k ≤ 200000) : mInt l yX4_puts wsX4_puts ({ frames := 1, cells := 0, slots := 0, locals := 21 }) [.ref (ad 52), .int y, .int y2] D (tTY ca) n ad c (fun r c' => (cu.length + k ≤ 1024 ∧ r = 1 ∧ c' 52 = rO ad x0 x1 x2 x3 (nI (cu ++ List.replicate k (by8 y)).length) x5 x6 x7 x8 x9 x10 x11 x12 v ∧ tB ca c' 56 1024 0 (cu ++ List.replicate k (by8 y)) ∧ ∀ j, j ≠ 52 → j ≠ 56 → c' j = c j) ∨ (¬ cu.length + k ≤ 1024 ∧ r = 0 ∧ c' = c)) := by
  intro sz
  refine Met.ofW (cc := cX4_puts) (maxL := 5) (ret := (some .boolean)) (by decide) rfl ?_
  intro pg9 ev9 s m args below meth cd s₁ B hml hv
  obtain ⟨rfl, hsz, hP, hK, hD0, hN⟩ := hv
  have hx := B.exec
  have hb := B.bytes
  have hr := B.returns
  have hts := fun (w : Cond) (h : w ∈ WSa) => atoms_spec (ws := wsX4_puts) B.pre w (List.mem_cons_of_mem _ h)
  have hown : s.vm.findClass RX4 = some m.cls := findClass_of_methodNamed B.named
  have hlocks := B.notSynchronized
  subst hsz
  have hD : ∀ c, va_D (fun _ => True) (mw n ad c) := fun c' => mw_D hD0 c'
  have hS : va_S (mA n ad s.heap.size) s.heap s.heap [] := va_S.rf
  have hl := lv_entry ([.ref (ad 52), .int y, .int y2]) (n := 5) (Nat.le_of_ble_eq_true rfl)
  rw [lg_entry_eq]
  generalize (lg_sl ([.ref (ad 52), .int y, .int y2]) ++ List.replicate (5 - (lg_sl ([.ref (ad 52), .int y, .int y2])).length) Slot.unset).toArray = ls at hl ⊢
  have hl : lv_has ls 5 [(0, .ref (ad 52)), (1, .int y), (2, .int y2)] := hl
  have hle := hB.le
  rw [Nat.zero_add] at hle
  suffices hj17 : W pg9 l ev9 (headSpec wsX4_puts ({ frames := 1, cells := 0, slots := 0, locals := 21 })).room s m ([.ref (ad 52), .int y, .int y2] : List Value).toArray below meth cd s.heap [] 0 0 (MQ below (va_Qi (fun r c' => (cu.length + k ≤ 1024 ∧ r = 1 ∧ c' 52 = rO ad x0 x1 x2 x3 (nI (cu ++ List.replicate k (by8 y)).length) x5 x6 x7 x8 x9 x10 x11 x12 v ∧ tB ca c' 56 1024 0 (cu ++ List.replicate k (by8 y)) ∧ ∀ j, j ≠ 52 → j ≠ 56 → c' j = c j) ∨ (¬ cu.length + k ≤ 1024 ∧ r = 0 ∧ c' = c)) (mW D n ad) (mA n ad s.heap.size)) ([.ref (ad 52), .int y, .int y2] : List Value).toArray s 0 0 (mA n ad s.heap.size)) (F0 m 17 ls [.int (bI (decide (cu.length + k ≤ 1024)))]) by
    refine lv_aload_n hx hb dX4_puts_0 rfl (lv_at hl 0 rfl) ?_
    refine mx_get (ci := 4) (v := .int x4) (C := RX4) (T := TX4) (N := 20) hx hb hts inX4 hown hK hP (by omega : 52 < n) hO rfl 8 (by decide) (hts _ wm_276) (fun _ h9 => h9) rfl dX4_puts_1 ?_
    refine lv_iload_n hx hb dX4_puts_4 rfl (lv_at hl 2 rfl) ?_
    refine lv_iadd hx hb dX4_puts_5 ?_
    refine mx_i (nI (cu.length + k)) (by rw [hx4, hy2]; exact nI_add _ _) ?_
    refine lv_sipush (v := 1024) hx hb dX4_puts_6 (by decide) ?_
    refine lv_icmp_gt (tgt := 16) hx hb dX4_puts_9 (by decide) (fun hc1 => ?_) (fun hc1 => ?_)
    · skip
      refine lv_iconst (v := 0) hx hb dX4_puts_16 (by decide) ?_
      refine mx_i (bI (decide (cu.length + k ≤ 1024))) (by rw [decide_eq_false (by have := (nI_ltI (a := 1024) (b := cu.length + k) (by omega) (by omega)).mp hc1; omega)]; rfl) ?_
      exact hj17
    · skip
      refine lv_iconst (v := 1) hx hb dX4_puts_12 (by decide) ?_
      refine lv_goto (tgt := 17) hx hb dX4_puts_13 (by decide) ?_
      refine mx_i (bI (decide (cu.length + k ≤ 1024))) (by rw [decide_eq_true (by have := (not_congr (nI_ltI (a := 1024) (b := cu.length + k) (by omega) (by omega))).mp hc1; omega)]; rfl) ?_
      exact hj17
  by_cases hrm : cu.length + k ≤ 1024
  · skip
    refine mx_i 1 (by rw [decide_eq_true hrm]; rfl) ?_
    have loop : ∀ (q1 : Nat) (i : Nat) (c1 : Nat → va_E) (H : Heap) (locs : List Loc) (ls : Array Slot), (i ≤ k) → (k < i + q1) → (c1 52 = rO ad x0 x1 x2 x3 (nI (cu ++ List.replicate i (by8 y)).length) x5 x6 x7 x8 x9 x10 x11 x12 v) → (tB ca c1 56 1024 0 (cu ++ List.replicate i (by8 y))) → (∀ j, j ≠ 52 → j ≠ 56 → c1 j = c j) → va_P D vwCl (mw n ad c1) H → va_S (mA n ad s.heap.size) s.heap H locs → lv_has ls 5 [(4, .int (nI i)), (3, .int 1), (0, .ref (ad 52)), (1, .int y), (2, .int y2)] → W pg9 l ev9 (headSpec wsX4_puts ({ frames := 1, cells := 0, slots := 0, locals := 21 })).room s m ([.ref (ad 52), .int y, .int y2] : List Value).toArray below meth cd H locs 0 0 (MQ below (va_Qi (fun r c' => (cu.length + k ≤ 1024 ∧ r = 1 ∧ c' 52 = rO ad x0 x1 x2 x3 (nI (cu ++ List.replicate k (by8 y)).length) x5 x6 x7 x8 x9 x10 x11 x12 v ∧ tB ca c' 56 1024 0 (cu ++ List.replicate k (by8 y)) ∧ ∀ j, j ≠ 52 → j ≠ 56 → c' j = c j) ∨ (¬ cu.length + k ≤ 1024 ∧ r = 0 ∧ c' = c)) (mW D n ad) (mA n ad s.heap.size)) ([.ref (ad 52), .int y, .int y2] : List Value).toArray s 0 0 (mA n ad s.heap.size)) (F0 m 21 ls []) := by
      intro q1
      induction q1 with
      | zero => intro i c1 H locs ls hi hq hO1 hB1 hs1 hP hS hl; omega
      | succ q1 ih =>
        intro i c1 H locs ls hi hq hO1 hB1 hs1 hP hS hl
        refine lv_iload hx hb dX4_puts_21 (lv_at hl 0 rfl) ?_
        refine lv_iload_n hx hb dX4_puts_23 rfl (lv_at hl 4 rfl) ?_
        refine lv_icmp_ge (tgt := 43) hx hb dX4_puts_24 (by decide) (fun hc2 => ?_) (fun hc2 => ?_)
        · skip
          obtain rfl : i = k := by have := (nI_leI (a := k) (b := i) (by omega) (by omega)).mp (by rw [← hy2]; exact hc2); omega
          refine lv_iload_n hx hb dX4_puts_43 rfl (lv_at hl 1 rfl) ?_
          exact mx_zret hx hb hr hlocks rfl hP hS (Or.inl ⟨hrm, rfl, hO1, hB1, hs1⟩) dX4_puts_44
        · skip
          have hlt : i < k := by have := (not_congr (nI_leI (a := k) (b := i) (by omega) (by omega))).mp (by rw [← hy2]; exact hc2); omega
          refine lv_iload_n hx hb dX4_puts_27 rfl (lv_at hl 1 rfl) ?_
          refine lv_if_eq (tgt := 43) hx hb dX4_puts_28 (by decide) (fun hc3 => ?_) (fun hc3 => ?_)
          · skip
            exact absurd hc3 (by decide)
          · skip
            refine lv_aload_n hx hb dX4_puts_31 rfl (lv_at hl 2 rfl) ?_
            refine lv_iload_n hx hb dX4_puts_32 rfl (lv_at hl 3 rfl) ?_
            refine mx_ci (va_runV (As := [.int y]) (rest := []) ⟨hx, hb, hml, hown, hts⟩ (c_put l D ca n ad c1 hn hO1 hB1 rfl y _) (cwV 1 hts (gV wm_375 wm_377 ws_15 wm_5 wm_378) rfl rfl rfl (by decide +kernel) ⟨Nat.le_of_ble_eq_true rfl, Nat.le_of_ble_eq_true rfl⟩) (mx_pv (C := RX4) (T := TX4) (N := 20) (ci := 4) hK hP hD hN (by omega : 52 < n) hO1 rfl) rfl rfl hl.1 rfl (lv_room (Nat.le_of_ble_eq_true rfl)) dX4_puts_33 ⟨Nat.zero_le _, Nat.zero_le _⟩) (Nat.le_refl _) hS (fun r c2 H locs hw hP hS => ?_)
            obtain ⟨-, hr1, hO2, hB2, hs2⟩ := hw.resolve_right (fun h => by have h9 := h.1; simp only [List.length_append, List.length_replicate] at h9; omega)
            have hrr : cu ++ List.replicate (i + 1) (by8 y) = cu ++ List.replicate i (by8 y) ++ [by8 y] := by rw [List.replicate_succ', List.append_assoc]
            refine mx_i (1) (hr1) ?_
            refine lv_istore_n (lv' := [(3, .int 1), (4, .int (nI i)), (0, .ref (ad 52)), (1, .int y), (2, .int y2)]) hx hb dX4_puts_36 rfl hl (by decide) rfl (fun ls hl => ?_)
            refine lv_iinc (v := nI (i + 1)) (lv' := [(4, .int (nI (i + 1))), (3, .int 1), (0, .ref (ad 52)), (1, .int y), (2, .int y2)]) hx hb dX4_puts_37 hl (k := 1) rfl (nI_1 i) (by decide) rfl (fun ls hl => ?_)
            refine lv_goto (tgt := 21) hx hb dX4_puts_40 (by decide) ?_
            exact ih (i + 1) c2 H locs ls (by omega) (by omega) (by rw [hrr]; exact hO2) (by rw [hrr]; exact hB2) (fun j h1 h2 => (hs2 j h1 h2).trans (hs1 j h1 h2)) hP hS (lv_sub hl [0, 1, 2, 3, 4] rfl)
    refine lv_istore_n (lv' := [(3, .int 1), (0, .ref (ad 52)), (1, .int y), (2, .int y2)]) hx hb dX4_puts_17 rfl hl (by decide) rfl (fun ls hl => ?_)
    refine lv_iconst (v := 0) hx hb dX4_puts_18 (by decide) ?_
    refine lv_istore (lv' := [(4, .int 0), (3, .int 1), (0, .ref (ad 52)), (1, .int y), (2, .int y2)]) hx hb dX4_puts_19 hl (by decide) rfl (fun ls hl => ?_)
    exact loop (k + 1) 0 c _ _ ls (by omega) (by omega) (by rw [List.replicate_zero, List.append_nil, ← hx4]; exact hO) (by rw [List.replicate_zero, List.append_nil]; exact hB) (fun j h1 h2 => rfl) hP hS (by have h9 := (lv_sub hl [0, 1, 2, 3, 4] rfl); rw [nI_0]; exact h9)
  · skip
    refine mx_i 0 (by rw [decide_eq_false hrm]; rfl) ?_
    refine lv_istore_n (lv' := [(3, .int 0), (0, .ref (ad 52)), (1, .int y), (2, .int y2)]) hx hb dX4_puts_17 rfl hl (by decide) rfl (fun ls hl => ?_)
    refine lv_iconst (v := 0) hx hb dX4_puts_18 (by decide) ?_
    refine lv_istore (lv' := [(4, .int 0), (3, .int 0), (0, .ref (ad 52)), (1, .int y), (2, .int y2)]) hx hb dX4_puts_19 hl (by decide) rfl (fun ls hl => ?_)
    refine lv_iload hx hb dX4_puts_21 (lv_at hl 0 rfl) ?_
    refine lv_iload_n hx hb dX4_puts_23 rfl (lv_at hl 4 rfl) ?_
    refine lv_icmp_ge (tgt := 43) hx hb dX4_puts_24 (by decide) (fun hc2 => ?_) (fun hc2 => ?_)
    · skip
      refine lv_iload_n hx hb dX4_puts_43 rfl (lv_at hl 1 rfl) ?_
      exact mx_zret hx hb hr hlocks rfl hP hS (Or.inr ⟨hrm, rfl, rfl⟩) dX4_puts_44
    · skip
      refine lv_iload_n hx hb dX4_puts_27 rfl (lv_at hl 1 rfl) ?_
      refine lv_if_eq (tgt := 43) hx hb dX4_puts_28 (by decide) (fun hc3 => ?_) (fun hc3 => ?_)
      · skip
        refine lv_iload_n hx hb dX4_puts_43 rfl (lv_at hl 1 rfl) ?_
        exact mx_zret hx hb hr hlocks rfl hP hS (Or.inr ⟨hrm, rfl, rfl⟩) dX4_puts_44
      · skip
        exact absurd rfl hc3
set_option maxHeartbeats 4000000 in
set_option maxRecDepth 100000 in
/-- fill -/
theorem c_fill (l : Launch) (D : va_G) (ca : Nat → ClassId) (n : Nat) (ad : Nat → Nat) (c : Nat → va_E) {x0 x1 x2 x3 x4 x5 x7 x12 : Int32} {f : fl4} {v : Int64} {wd : Nat} (hn : 59 ≤ n) (hO : c 52 = rO ad x0 x1 x2 x3 x4 x5 (nI wd) x7 (bI f.1) (bI f.2.1) (bI f.2.2.1) (bI f.2.2.2) x12 v) {cu : List Nat} (hB : tB ca c 56 1024 0 cu) (hx4 : x4 = nI cu.length) (hwd : wd ≤ 100000) {kr cap bg : Nat} {t : List Nat} (hkr : kr < 59 ∧ kr ≠ 52 ∧ kr ≠ 56) (hR : tB ca c kr cap bg t) (y2 y3 sg : Int32) (hy2 : y2 = nI bg) (hy3 : y3 = nI t.length) (zr : Bool) (hzr : f.1 = false → zr = (f.2.1 && decide (¬ x7 = 99 ∧ ¬ x7 = 115))) : mInt l yX4_fill wsX4_fill ({ frames := 2, cells := 0, slots := 0, locals := 45 }) [.ref (ad 52), .ref (ad kr), .int y2, .int y3, .int sg] D (tTY ca) n ad c (fun r c' => ∃ cu', c' 52 = rO ad x0 x1 x2 x3 (nI cu'.length) x5 (nI wd) x7 (bI f.1) (bI f.2.1) (bI f.2.2.1) (bI f.2.2.2) x12 v ∧ tB ca c' 56 1024 0 cu' ∧ (∀ j, j ≠ 52 → j ≠ 56 → c' j = c j) ∧ ((cu.length + (pad f.1 zr wd (sgL sg) t).length ≤ 1024 ∧ r = 1 ∧ cu' = cu ++ pad f.1 zr wd (sgL sg) t) ∨ (¬ cu.length + (pad f.1 zr wd (sgL sg) t).length ≤ 1024 ∧ r = 0))) := by
  intro sz
  refine Met.ofW (cc := cX4_fill) (maxL := 10) (ret := (some .boolean)) (by decide) rfl ?_
  intro pg9 ev9 s m args below meth cd s₁ B hml hv
  obtain ⟨rfl, hsz, hP, hK, hD0, hN⟩ := hv
  have hx := B.exec
  have hb := B.bytes
  have hr := B.returns
  have hts := fun (w : Cond) (h : w ∈ WSa) => atoms_spec (ws := wsX4_fill) B.pre w (List.mem_cons_of_mem _ h)
  have hown : s.vm.findClass RX4 = some m.cls := findClass_of_methodNamed B.named
  have hlocks := B.notSynchronized
  subst hsz
  have hD : ∀ c, va_D (fun _ => True) (mw n ad c) := fun c' => mw_D hD0 c'
  have hS : va_S (mA n ad s.heap.size) s.heap s.heap [] := va_S.rf
  have hl := lv_entry ([.ref (ad 52), .ref (ad kr), .int y2, .int y3, .int sg]) (n := 10) (Nat.le_of_ble_eq_true rfl)
  rw [lg_entry_eq]
  generalize (lg_sl ([.ref (ad 52), .ref (ad kr), .int y2, .int y3, .int sg]) ++ List.replicate (10 - (lg_sl ([.ref (ad 52), .ref (ad kr), .int y2, .int y3, .int sg])).length) Slot.unset).toArray = ls at hl ⊢
  have hl : lv_has ls 10 [(0, .ref (ad 52)), (1, .ref (ad kr)), (2, .int y2), (3, .int y3), (4, .int sg)] := hl
  have hle := hB.le
  rw [Nat.zero_add] at hle
  obtain ⟨hrle, hrcp, hrb, fr9, hkc, hrf⟩ := id hR
  have hsl : (sgL sg).length ≤ 1 := by unfold sgL; split <;> simp
  have hpl : (pad f.1 zr wd (sgL sg) t).length = max (t.length + (sgL sg).length) wd := pad_len
  suffices hj12 : W pg9 l ev9 (headSpec wsX4_fill ({ frames := 2, cells := 0, slots := 0, locals := 45 })).room s m ([.ref (ad 52), .ref (ad kr), .int y2, .int y3, .int sg] : List Value).toArray below meth cd s.heap [] 0 0 (MQ below (va_Qi (fun r c' => ∃ cu', c' 52 = rO ad x0 x1 x2 x3 (nI cu'.length) x5 (nI wd) x7 (bI f.1) (bI f.2.1) (bI f.2.2.1) (bI f.2.2.2) x12 v ∧ tB ca c' 56 1024 0 cu' ∧ (∀ j, j ≠ 52 → j ≠ 56 → c' j = c j) ∧ ((cu.length + (pad f.1 zr wd (sgL sg) t).length ≤ 1024 ∧ r = 1 ∧ cu' = cu ++ pad f.1 zr wd (sgL sg) t) ∨ (¬ cu.length + (pad f.1 zr wd (sgL sg) t).length ≤ 1024 ∧ r = 0))) (mW D n ad) (mA n ad s.heap.size)) ([.ref (ad 52), .ref (ad kr), .int y2, .int y3, .int sg] : List Value).toArray s 0 0 (mA n ad s.heap.size)) (F0 m 12 ls [.int (nI (t.length + (sgL sg).length))]) by
    refine lv_iload hx hb dX4_fill_0 (lv_at hl 4 rfl) ?_
    refine lv_if_ne (tgt := 9) hx hb dX4_fill_2 (by decide) (fun hc1 => ?_) (fun hc1 => ?_)
    · skip
      refine lv_iload_n hx hb dX4_fill_9 rfl (lv_at hl 3 rfl) ?_
      refine lv_iconst (v := 1) hx hb dX4_fill_10 (by decide) ?_
      refine lv_iadd hx hb dX4_fill_11 ?_
      refine mx_i (nI (t.length + (sgL sg).length)) (by rw [hy3, show sgL sg = [by8 sg] from if_neg hc1]; exact nI_1 _) ?_
      exact hj12
    · skip
      refine lv_iload_n hx hb dX4_fill_5 rfl (lv_at hl 3 rfl) ?_
      refine lv_goto (tgt := 12) hx hb dX4_fill_6 (by decide) ?_
      refine mx_i (nI (t.length + (sgL sg).length)) (by rw [hy3, show sgL sg = [] from if_pos hc1]; rfl) ?_
      exact hj12
  refine lv_istore (lv' := [(5, .int (nI (t.length + (sgL sg).length))), (0, .ref (ad 52)), (1, .ref (ad kr)), (2, .int y2), (3, .int y3), (4, .int sg)]) hx hb dX4_fill_12 hl (by decide) rfl (fun ls hl => ?_)
  suffices hj34 : W pg9 l ev9 (headSpec wsX4_fill ({ frames := 2, cells := 0, slots := 0, locals := 45 })).room s m ([.ref (ad 52), .ref (ad kr), .int y2, .int y3, .int sg] : List Value).toArray below meth cd s.heap [] 0 0 (MQ below (va_Qi (fun r c' => ∃ cu', c' 52 = rO ad x0 x1 x2 x3 (nI cu'.length) x5 (nI wd) x7 (bI f.1) (bI f.2.1) (bI f.2.2.1) (bI f.2.2.2) x12 v ∧ tB ca c' 56 1024 0 cu' ∧ (∀ j, j ≠ 52 → j ≠ 56 → c' j = c j) ∧ ((cu.length + (pad f.1 zr wd (sgL sg) t).length ≤ 1024 ∧ r = 1 ∧ cu' = cu ++ pad f.1 zr wd (sgL sg) t) ∨ (¬ cu.length + (pad f.1 zr wd (sgL sg) t).length ≤ 1024 ∧ r = 0))) (mW D n ad) (mA n ad s.heap.size)) ([.ref (ad 52), .ref (ad kr), .int y2, .int y3, .int sg] : List Value).toArray s 0 0 (mA n ad s.heap.size)) (F0 m 34 ls [.int (nI (max (t.length + (sgL sg).length) wd - (t.length + (sgL sg).length)))]) by
    refine lv_aload_n hx hb dX4_fill_14 rfl (lv_at hl 1 rfl) ?_
    refine mx_get (ci := 4) (v := .int (nI wd)) (C := RX4) (T := TX4) (N := 20) hx hb hts inX4 hown hK hP (by omega : 52 < n) hO rfl 11 (by decide) (hts _ wm_279) (fun _ h9 => h9) rfl dX4_fill_15 ?_
    refine lv_iload hx hb dX4_fill_18 (lv_at hl 0 rfl) ?_
    refine lv_icmp_le (tgt := 33) hx hb dX4_fill_20 (by decide) (fun hc1 => ?_) (fun hc1 => ?_)
    · skip
      refine lv_iconst (v := 0) hx hb dX4_fill_33 (by decide) ?_
      refine mx_i (nI (max (t.length + (sgL sg).length) wd - (t.length + (sgL sg).length))) (by rw [Nat.max_eq_left ((nI_leI (by omega) (by omega)).mp hc1), Nat.sub_self]; rfl) ?_
      exact hj34
    · skip
      have hgt : t.length + (sgL sg).length < wd := by have := (not_congr (nI_leI (a := wd) (b := t.length + (sgL sg).length) (by omega) (by omega))).mp hc1; omega
      refine lv_aload_n hx hb dX4_fill_23 rfl (lv_at hl 1 rfl) ?_
      refine mx_get (ci := 4) (v := .int (nI wd)) (C := RX4) (T := TX4) (N := 20) hx hb hts inX4 hown hK hP (by omega : 52 < n) hO rfl 11 (by decide) (hts _ wm_279) (fun _ h9 => h9) rfl dX4_fill_24 ?_
      refine lv_iload hx hb dX4_fill_27 (lv_at hl 0 rfl) ?_
      refine lv_isub hx hb dX4_fill_29 ?_
      refine lv_goto (tgt := 34) hx hb dX4_fill_30 (by decide) ?_
      refine mx_i (nI (max (t.length + (sgL sg).length) wd - (t.length + (sgL sg).length))) (by rw [Nat.max_eq_right (by omega)]; exact pk_sub (by omega)) ?_
      exact hj34
  refine lv_istore (lv' := [(6, .int (nI (max (t.length + (sgL sg).length) wd - (t.length + (sgL sg).length)))), (5, .int (nI (t.length + (sgL sg).length))), (0, .ref (ad 52)), (1, .ref (ad kr)), (2, .int y2), (3, .int y3), (4, .int sg)]) hx hb dX4_fill_34 hl (by decide) rfl (fun ls hl => ?_)
  suffices hj73 : W pg9 l ev9 (headSpec wsX4_fill ({ frames := 2, cells := 0, slots := 0, locals := 45 })).room s m ([.ref (ad 52), .ref (ad kr), .int y2, .int y3, .int sg] : List Value).toArray below meth cd s.heap [] 0 0 (MQ below (va_Qi (fun r c' => ∃ cu', c' 52 = rO ad x0 x1 x2 x3 (nI cu'.length) x5 (nI wd) x7 (bI f.1) (bI f.2.1) (bI f.2.2.1) (bI f.2.2.2) x12 v ∧ tB ca c' 56 1024 0 cu' ∧ (∀ j, j ≠ 52 → j ≠ 56 → c' j = c j) ∧ ((cu.length + (pad f.1 zr wd (sgL sg) t).length ≤ 1024 ∧ r = 1 ∧ cu' = cu ++ pad f.1 zr wd (sgL sg) t) ∨ (¬ cu.length + (pad f.1 zr wd (sgL sg) t).length ≤ 1024 ∧ r = 0))) (mW D n ad) (mA n ad s.heap.size)) ([.ref (ad 52), .ref (ad kr), .int y2, .int y3, .int sg] : List Value).toArray s 0 0 (mA n ad s.heap.size)) (F0 m 73 ls [.int (bI (f.2.1 && (!f.1 && decide (¬ x7 = 99 ∧ ¬ x7 = 115))))]) by
    refine lv_aload_n hx hb dX4_fill_36 rfl (lv_at hl 2 rfl) ?_
    refine mx_get (ci := 4) (v := .int (bI f.2.1)) (C := RX4) (T := TX4) (N := 20) hx hb hts inX4 hown hK hP (by omega : 52 < n) hO rfl 14 (by decide) (hts _ wm_282) (fun _ h9 => h9) rfl dX4_fill_37 ?_
    refine lv_if_eq (tgt := 72) hx hb dX4_fill_40 (by decide) (fun hc1 => ?_) (fun hc1 => ?_)
    · skip
      refine lv_iconst (v := 0) hx hb dX4_fill_72 (by decide) ?_
      refine mx_i (bI (f.2.1 && (!f.1 && decide (¬ x7 = 99 ∧ ¬ x7 = 115)))) (by rw [bI_eq hc1]; rfl) ?_
      exact hj73
    · skip
      refine lv_aload_n hx hb dX4_fill_43 rfl (lv_at hl 2 rfl) ?_
      refine mx_get (ci := 4) (v := .int (bI f.1)) (C := RX4) (T := TX4) (N := 20) hx hb hts inX4 hown hK hP (by omega : 52 < n) hO rfl 13 (by decide) (hts _ wm_281) (fun _ h9 => h9) rfl dX4_fill_44 ?_
      refine lv_if_ne (tgt := 72) hx hb dX4_fill_47 (by decide) (fun hc2 => ?_) (fun hc2 => ?_)
      · skip
        refine lv_iconst (v := 0) hx hb dX4_fill_72 (by decide) ?_
        refine mx_i (bI (f.2.1 && (!f.1 && decide (¬ x7 = 99 ∧ ¬ x7 = 115)))) (by rw [bI_ne hc1, bI_ne hc2]; rfl) ?_
        exact hj73
      · skip
        refine lv_aload_n hx hb dX4_fill_50 rfl (lv_at hl 2 rfl) ?_
        refine mx_get (ci := 4) (v := .int x7) (C := RX4) (T := TX4) (N := 20) hx hb hts inX4 hown hK hP (by omega : 52 < n) hO rfl 12 (by decide) (hts _ wm_280) (fun _ h9 => h9) rfl dX4_fill_51 ?_
        refine lv_bipush (v := 99) hx hb dX4_fill_54 (by decide) ?_
        refine lv_icmp_eq (tgt := 72) hx hb dX4_fill_56 (by decide) (fun hc3 => ?_) (fun hc3 => ?_)
        · skip
          refine lv_iconst (v := 0) hx hb dX4_fill_72 (by decide) ?_
          refine mx_i (bI (f.2.1 && (!f.1 && decide (¬ x7 = 99 ∧ ¬ x7 = 115)))) (by rw [bI_ne hc1, bI_eq hc2, decide_eq_false (fun h => h.1 hc3)]; rfl) ?_
          exact hj73
        · skip
          refine lv_aload_n hx hb dX4_fill_59 rfl (lv_at hl 2 rfl) ?_
          refine mx_get (ci := 4) (v := .int x7) (C := RX4) (T := TX4) (N := 20) hx hb hts inX4 hown hK hP (by omega : 52 < n) hO rfl 12 (by decide) (hts _ wm_280) (fun _ h9 => h9) rfl dX4_fill_60 ?_
          refine lv_bipush (v := 115) hx hb dX4_fill_63 (by decide) ?_
          refine lv_icmp_eq (tgt := 72) hx hb dX4_fill_65 (by decide) (fun hc4 => ?_) (fun hc4 => ?_)
          · skip
            refine lv_iconst (v := 0) hx hb dX4_fill_72 (by decide) ?_
            refine mx_i (bI (f.2.1 && (!f.1 && decide (¬ x7 = 99 ∧ ¬ x7 = 115)))) (by rw [bI_ne hc1, bI_eq hc2, decide_eq_false (fun h => h.2 hc4)]; rfl) ?_
            exact hj73
          · skip
            refine lv_iconst (v := 1) hx hb dX4_fill_68 (by decide) ?_
            refine lv_goto (tgt := 73) hx hb dX4_fill_69 (by decide) ?_
            refine mx_i (bI (f.2.1 && (!f.1 && decide (¬ x7 = 99 ∧ ¬ x7 = 115)))) (by rw [bI_ne hc1, bI_eq hc2, decide_eq_true ⟨hc3, hc4⟩]; rfl) ?_
            exact hj73
  obtain ⟨dgz, hdgz⟩ : ∃ b : Bool, (f.2.1 && (!f.1 && decide (¬ x7 = 99 ∧ ¬ x7 = 115))) = b := ⟨_, rfl⟩
  refine mx_i (bI dgz) (by rw [hdgz]) ?_
  have hdz : f.1 = false → dgz = zr := fun h => by rw [← hdgz, hzr h, h]; rfl
  have hdl : f.1 = true → dgz = false := fun h => by rw [← hdgz, h]; simp
  refine lv_istore (lv' := [(7, .int (bI dgz)), (6, .int (nI (max (t.length + (sgL sg).length) wd - (t.length + (sgL sg).length)))), (5, .int (nI (t.length + (sgL sg).length))), (0, .ref (ad 52)), (1, .ref (ad kr)), (2, .int y2), (3, .int y3), (4, .int sg)]) hx hb dX4_fill_73 hl (by decide) rfl (fun ls hl => ?_)
  have stD : ∀ (g : Bool) (cu1 : List Nat) (c1 : Nat → va_E) (H : Heap) (locs : List Loc) (ls : Array Slot), (g = true → cu1 = cu ++ (if f.1 = true then sgL sg ++ t else pad f.1 zr wd (sgL sg) t)) → (g = false → ¬ cu.length + (pad f.1 zr wd (sgL sg) t).length ≤ 1024) → (c1 52 = rO ad x0 x1 x2 x3 (nI cu1.length) x5 (nI wd) x7 (bI f.1) (bI f.2.1) (bI f.2.2.1) (bI f.2.2.2) x12 v) → (tB ca c1 56 1024 0 cu1) → (∀ j, j ≠ 52 → j ≠ 56 → c1 j = c j) → va_P D vwCl (mw n ad c1) H → va_S (mA n ad s.heap.size) s.heap H locs → lv_has ls 10 [(8, .int (bI g)), (7, .int (bI dgz)), (6, .int (nI (max (t.length + (sgL sg).length) wd - (t.length + (sgL sg).length)))), (0, .ref (ad 52)), (1, .ref (ad kr)), (2, .int y2), (3, .int y3), (4, .int sg)] → W pg9 l ev9 (headSpec wsX4_fill ({ frames := 2, cells := 0, slots := 0, locals := 45 })).room s m ([.ref (ad 52), .ref (ad kr), .int y2, .int y3, .int sg] : List Value).toArray below meth cd H locs 0 0 (MQ below (va_Qi (fun r c' => ∃ cu', c' 52 = rO ad x0 x1 x2 x3 (nI cu'.length) x5 (nI wd) x7 (bI f.1) (bI f.2.1) (bI f.2.2.1) (bI f.2.2.2) x12 v ∧ tB ca c' 56 1024 0 cu' ∧ (∀ j, j ≠ 52 → j ≠ 56 → c' j = c j) ∧ ((cu.length + (pad f.1 zr wd (sgL sg) t).length ≤ 1024 ∧ r = 1 ∧ cu' = cu ++ pad f.1 zr wd (sgL sg) t) ∨ (¬ cu.length + (pad f.1 zr wd (sgL sg) t).length ≤ 1024 ∧ r = 0))) (mW D n ad) (mA n ad s.heap.size)) ([.ref (ad 52), .ref (ad kr), .int y2, .int y3, .int sg] : List Value).toArray s 0 0 (mA n ad s.heap.size)) (F0 m 179 ls []) := by
    intro g cu1 c1 H locs ls hgT hgF hO1 hB1 hs1 hP hS hl
    have hkc1 : tB ca c1 kr cap bg t := hR.keep (hs1 kr hkr.2.1 hkr.2.2)
    have hle1 := hB1.le
    rw [Nat.zero_add] at hle1
    refine lv_iload hx hb dX4_fill_179 (lv_at hl 0 rfl) ?_
    refine lv_if_eq (tgt := 206) hx hb dX4_fill_181 (by decide) (fun hc5 => ?_) (fun hc5 => ?_)
    · skip
      have hbad := hgF (bI_eq hc5)
      refine lv_iconst (v := 0) hx hb dX4_fill_206 (by decide) ?_
      exact mx_zret hx hb hr hlocks rfl hP hS (⟨cu1, hO1, hB1, hs1, Or.inr ⟨hbad, rfl⟩⟩) dX4_fill_207
    · skip
      have hgo := hgT (bI_ne hc5)
      refine lv_aload_n hx hb dX4_fill_184 rfl (lv_at hl 3 rfl) ?_
      refine mx_get (ci := 4) (v := .int (bI f.1)) (C := RX4) (T := TX4) (N := 20) hx hb hts inX4 hown hK hP (by omega : 52 < n) hO1 rfl 13 (by decide) (hts _ wm_281) (fun _ h9 => h9) rfl dX4_fill_185 ?_
      refine lv_if_eq (tgt := 202) hx hb dX4_fill_188 (by decide) (fun hc6 => ?_) (fun hc6 => ?_)
      · skip
        have hfl : f.1 = false := bI_eq hc6
        have hfin : cu1 = cu ++ pad f.1 zr wd (sgL sg) t := by rw [hgo, if_neg (by rw [hfl]; decide)]
        refine lv_iconst (v := 1) hx hb dX4_fill_202 (by decide) ?_
        refine lv_goto (tgt := 207) hx hb dX4_fill_203 (by decide) ?_
        exact mx_zret hx hb hr hlocks rfl hP hS (⟨cu1, hO1, hB1, hs1, Or.inl ⟨by rw [hfin, List.length_append] at hle1; exact hle1, rfl, hfin⟩⟩) dX4_fill_207
      · skip
        have hfl : f.1 = true := bI_ne hc6
        refine lv_aload_n hx hb dX4_fill_191 rfl (lv_at hl 3 rfl) ?_
        refine lv_bipush (v := 32) hx hb dX4_fill_192 (by decide) ?_
        refine lv_iload hx hb dX4_fill_194 (lv_at hl 2 rfl) ?_
        refine mx_ci (va_runV (As := [.int 32, .int (nI (max (t.length + (sgL sg).length) wd - (t.length + (sgL sg).length)))]) (rest := []) ⟨hx, hb, hml, hown, hts⟩ (c_puts l D ca n ad c1 hn hO1 hB1 rfl 32 (nI (max (t.length + (sgL sg).length) wd - (t.length + (sgL sg).length))) (max (t.length + (sgL sg).length) wd - (t.length + (sgL sg).length)) rfl (by omega) _) (cwV 2 hts (gV wm_396 wm_398 ws_20 wm_5 wm_399) rfl rfl rfl (by decide +kernel) ⟨Nat.le_of_ble_eq_true rfl, Nat.le_of_ble_eq_true rfl⟩) (mx_pv (C := RX4) (T := TX4) (N := 20) (ci := 4) hK hP hD hN (by omega : 52 < n) hO1 rfl) rfl rfl hl.1 rfl (lv_room (Nat.le_of_ble_eq_true rfl)) dX4_fill_196 ⟨Nat.zero_le _, Nat.zero_le _⟩) (Nat.le_refl _) hS (fun r c2 H locs hw hP hS => ?_)
        have hpd : cu ++ pad f.1 zr wd (sgL sg) t = cu1 ++ List.replicate (max (t.length + (sgL sg).length) wd - (t.length + (sgL sg).length)) (by8 32) := by rw [hgo]; unfold pad; rw [if_pos hfl, if_pos hfl]; simp only [List.append_assoc, List.append_nil, show by8 32 = 32 from rfl, if_true, true_or, List.nil_append]
        have hpl2 : cu.length + (pad f.1 zr wd (sgL sg) t).length = cu1.length + (max (t.length + (sgL sg).length) wd - (t.length + (sgL sg).length)) := by have h9 := congrArg List.length hpd; simp only [List.length_append, List.length_replicate] at h9; exact h9
        refine lv_if_eq (tgt := 206) hx hb dX4_fill_199 (by decide) (fun hc7 => ?_) (fun hc7 => ?_)
        · skip
          obtain ⟨h1, -, hcE⟩ := hw.resolve_left (fun h => by rw [h.2.1] at hc7; exact absurd hc7 (by decide))
          rw [hcE] at hP
          refine lv_iconst (v := 0) hx hb dX4_fill_206 (by decide) ?_
          exact mx_zret hx hb hr hlocks rfl hP hS (⟨cu1, hO1, hB1, hs1, Or.inr ⟨by omega, rfl⟩⟩) dX4_fill_207
        · skip
          obtain ⟨h1, -, hO2, hB2, hs2⟩ := hw.resolve_right (fun h => hc7 h.2.1)
          refine lv_iconst (v := 1) hx hb dX4_fill_202 (by decide) ?_
          refine lv_goto (tgt := 207) hx hb dX4_fill_203 (by decide) ?_
          exact mx_zret hx hb hr hlocks rfl hP hS (⟨_, hO2, hB2, fun j h1 h2 => (hs2 j h1 h2).trans (hs1 j h1 h2), Or.inl ⟨by omega, rfl, hpd.symm⟩⟩) dX4_fill_207
  obtain ⟨hd9, hhd⟩ : ∃ h9 : List Nat, h9 = (if f.1 = true then sgL sg else if zr = true then sgL sg ++ List.replicate (max (t.length + (sgL sg).length) wd - (t.length + (sgL sg).length)) 48 else List.replicate (max (t.length + (sgL sg).length) wd - (t.length + (sgL sg).length)) 32 ++ sgL sg) := ⟨_, rfl⟩
  have hbody : cu ++ (if f.1 = true then sgL sg ++ t else pad f.1 zr wd (sgL sg) t) = cu ++ hd9 ++ t := by rw [hhd]; cases h1 : f.1 <;> cases h2 : zr <;> simp [pad]
  have hhl : hd9.length + t.length ≤ (pad f.1 zr wd (sgL sg) t).length := by rw [hpl, hhd]; cases h1 : f.1 <;> cases h2 : zr <;> simp <;> omega
  have stC : ∀ (q1 : Nat) (i : Nat) (g : Bool) (cu1 : List Nat) (c1 : Nat → va_E) (H : Heap) (locs : List Loc) (ls : Array Slot), (i ≤ t.length) → (t.length < i + q1) → (g = true → cu1 = cu ++ hd9 ++ t.take i) → (g = false → ¬ cu.length + (pad f.1 zr wd (sgL sg) t).length ≤ 1024) → (c1 52 = rO ad x0 x1 x2 x3 (nI cu1.length) x5 (nI wd) x7 (bI f.1) (bI f.2.1) (bI f.2.2.1) (bI f.2.2.2) x12 v) → (tB ca c1 56 1024 0 cu1) → (∀ j, j ≠ 52 → j ≠ 56 → c1 j = c j) → va_P D vwCl (mw n ad c1) H → va_S (mA n ad s.heap.size) s.heap H locs → lv_has ls 10 [(9, .int (nI i)), (8, .int (bI g)), (7, .int (bI dgz)), (6, .int (nI (max (t.length + (sgL sg).length) wd - (t.length + (sgL sg).length)))), (0, .ref (ad 52)), (1, .ref (ad kr)), (2, .int y2), (3, .int y3), (4, .int sg)] → W pg9 l ev9 (headSpec wsX4_fill ({ frames := 2, cells := 0, slots := 0, locals := 45 })).room s m ([.ref (ad 52), .ref (ad kr), .int y2, .int y3, .int sg] : List Value).toArray below meth cd H locs 0 0 (MQ below (va_Qi (fun r c' => ∃ cu', c' 52 = rO ad x0 x1 x2 x3 (nI cu'.length) x5 (nI wd) x7 (bI f.1) (bI f.2.1) (bI f.2.2.1) (bI f.2.2.2) x12 v ∧ tB ca c' 56 1024 0 cu' ∧ (∀ j, j ≠ 52 → j ≠ 56 → c' j = c j) ∧ ((cu.length + (pad f.1 zr wd (sgL sg) t).length ≤ 1024 ∧ r = 1 ∧ cu' = cu ++ pad f.1 zr wd (sgL sg) t) ∨ (¬ cu.length + (pad f.1 zr wd (sgL sg) t).length ≤ 1024 ∧ r = 0))) (mW D n ad) (mA n ad s.heap.size)) ([.ref (ad 52), .ref (ad kr), .int y2, .int y3, .int sg] : List Value).toArray s 0 0 (mA n ad s.heap.size)) (F0 m 150 ls []) := by
    intro q1
    induction q1 with
    | zero => intro i g cu1 c1 H locs ls hi hq hgT hgF hO1 hB1 hs1 hP hS hl; omega
    | succ q1 ih =>
      intro i g cu1 c1 H locs ls hi hq hgT hgF hO1 hB1 hs1 hP hS hl
      obtain ⟨-, -, -, f9, hk9, hf9⟩ : tB ca c1 kr cap bg t := hR.keep (hs1 kr hkr.2.1 hkr.2.2)
      have hle1 := hB1.le
      rw [Nat.zero_add] at hle1
      refine lv_iload hx hb dX4_fill_150 (lv_at hl 0 rfl) ?_
      refine lv_iload_n hx hb dX4_fill_152 rfl (lv_at hl 7 rfl) ?_
      refine lv_icmp_ge (tgt := 179) hx hb dX4_fill_153 (by decide) (fun hc1 => ?_) (fun hc1 => ?_)
      · skip
        have hge : t.length ≤ i := by have := (nI_leI (a := t.length) (b := i) (by omega) (by omega)).mp (by rw [← hy3]; exact hc1); omega
        exact stD g cu1 c1 H locs ls (fun h => by rw [hgT h, hbody, List.take_of_length_le hge]) hgF hO1 hB1 hs1 hP hS (lv_sub hl [1, 2, 3, 4, 5, 6, 7, 8] rfl)
      · skip
        have hlt : i < t.length := by have := (not_congr (nI_leI (a := t.length) (b := i) (by omega) (by omega))).mp (by rw [← hy3]; exact hc1); omega
        refine lv_iload hx hb dX4_fill_156 (lv_at hl 1 rfl) ?_
        refine lv_if_eq (tgt := 179) hx hb dX4_fill_158 (by decide) (fun hc2 => ?_) (fun hc2 => ?_)
        · skip
          exact stD g cu1 c1 H locs ls (fun h => absurd (bI_eq hc2) (by rw [h]; decide)) hgF hO1 hB1 hs1 hP hS (lv_sub hl [1, 2, 3, 4, 5, 6, 7, 8] rfl)
        · skip
          have hgo := hgT (bI_ne hc2)
          refine lv_aload_n hx hb dX4_fill_161 rfl (lv_at hl 4 rfl) ?_
          refine lv_aload_n hx hb dX4_fill_162 rfl (lv_at hl 5 rfl) ?_
          refine lv_iload_n hx hb dX4_fill_163 rfl (lv_at hl 6 rfl) ?_
          refine lv_iload hx hb dX4_fill_164 (lv_at hl 0 rfl) ?_
          refine lv_iadd hx hb dX4_fill_166 ?_
          refine mx_i (nI (bg + i)) (by rw [hy2]; exact nI_add _ _) ?_
          refine mx_bald hx hb hK hP (by omega : kr < n) 2 hk9 rfl (vp_in_nI (by omega) (by omega)) dX4_fill_167 ?_
          refine mx_i (sB (t.getD i 0)) (by rw [nI_clamp (by omega)]; exact hf9 i hlt) ?_
          refine mx_ci (va_runV (As := [.int (sB (t.getD i 0))]) (rest := []) ⟨hx, hb, hml, hown, hts⟩ (c_put l D ca n ad c1 hn hO1 hB1 rfl (sB (t.getD i 0)) _) (cwV 1 hts (gV wm_375 wm_377 ws_15 wm_5 wm_378) rfl rfl rfl (by decide +kernel) ⟨Nat.le_of_ble_eq_true rfl, Nat.le_of_ble_eq_true rfl⟩) (mx_pv (C := RX4) (T := TX4) (N := 20) (ci := 4) hK hP hD hN (by omega : 52 < n) hO1 rfl) rfl rfl hl.1 rfl (lv_room (Nat.le_of_ble_eq_true rfl)) dX4_fill_168 ⟨Nat.zero_le _, Nat.zero_le _⟩) (Nat.le_refl _) hS (fun r c2 H locs hw hP hS => ?_)
          obtain ⟨g2, cu2, hr2, hO2, hB2, hs2, hg2, hf2⟩ : ∃ (g2 : Bool) (cu2 : List Nat), r = bI g2 ∧ c2 52 = rO ad x0 x1 x2 x3 (nI cu2.length) x5 (nI wd) x7 (bI f.1) (bI f.2.1) (bI f.2.2.1) (bI f.2.2.2) x12 v ∧ tB ca c2 56 1024 0 cu2 ∧ (∀ j, j ≠ 52 → j ≠ 56 → c2 j = c j) ∧ (g2 = true → cu2 = cu ++ hd9 ++ t.take (i + 1)) ∧ (g2 = false → ¬ cu.length + (pad f.1 zr wd (sgL sg) t).length ≤ 1024) := by
            rcases hw with ⟨h1, h2, h3, h4, h5⟩ | ⟨h1, h2, h3⟩
            · refine ⟨true, _, h2, h3, h4, fun j q1 q2 => (h5 j q1 q2).trans (hs1 j q1 q2), fun _ => ?_, fun h => by cases h⟩
              rw [sB_by8 _ (hrb _ (gD_mem hlt)), hgo, tk_succ hlt, List.append_assoc]
            · refine ⟨false, cu1, h2, by rw [h3]; exact hO1, by rw [h3]; exact hB1, by rw [h3]; exact hs1, (fun h => by cases h), fun _ => ?_⟩
              rw [hgo] at h1
              simp only [List.length_append, List.length_take] at h1
              omega
          refine mx_i (bI g2) (hr2) ?_
          refine lv_istore (lv' := [(8, .int (bI g2)), (9, .int (nI i)), (7, .int (bI dgz)), (6, .int (nI (max (t.length + (sgL sg).length) wd - (t.length + (sgL sg).length)))), (0, .ref (ad 52)), (1, .ref (ad kr)), (2, .int y2), (3, .int y3), (4, .int sg)]) hx hb dX4_fill_171 hl (by decide) rfl (fun ls hl => ?_)
          refine lv_iinc (v := nI (i + 1)) (lv' := [(9, .int (nI (i + 1))), (8, .int (bI g2)), (7, .int (bI dgz)), (6, .int (nI (max (t.length + (sgL sg).length) wd - (t.length + (sgL sg).length)))), (0, .ref (ad 52)), (1, .ref (ad kr)), (2, .int y2), (3, .int y3), (4, .int sg)]) hx hb dX4_fill_173 hl (k := 1) rfl (nI_1 i) (by decide) rfl (fun ls hl => ?_)
          refine lv_goto (tgt := 150) hx hb dX4_fill_176 (by decide) ?_
          exact ih (i + 1) g2 cu2 c2 H locs ls (by omega) (by omega) hg2 hf2 hO2 hB2 hs2 hP hS (lv_sub hl [0, 1, 2, 3, 4, 5, 6, 7, 8] rfl)
  have stZ : ∀ (cu1 : List Nat) (c1 : Nat → va_E) (H : Heap) (locs : List Loc) (ls : Array Slot), (cu1 = cu ++ (if f.1 = true ∨ dgz = true then [] else List.replicate (max (t.length + (sgL sg).length) wd - (t.length + (sgL sg).length)) (by8 32)) ++ sgL sg) → (c1 52 = rO ad x0 x1 x2 x3 (nI cu1.length) x5 (nI wd) x7 (bI f.1) (bI f.2.1) (bI f.2.2.1) (bI f.2.2.2) x12 v) → (tB ca c1 56 1024 0 cu1) → (∀ j, j ≠ 52 → j ≠ 56 → c1 j = c j) → va_P D vwCl (mw n ad c1) H → va_S (mA n ad s.heap.size) s.heap H locs → lv_has ls 10 [(8, .int 1), (7, .int (bI dgz)), (6, .int (nI (max (t.length + (sgL sg).length) wd - (t.length + (sgL sg).length)))), (0, .ref (ad 52)), (1, .ref (ad kr)), (2, .int y2), (3, .int y3), (4, .int sg)] → W pg9 l ev9 (headSpec wsX4_fill ({ frames := 2, cells := 0, slots := 0, locals := 45 })).room s m ([.ref (ad 52), .ref (ad kr), .int y2, .int y3, .int sg] : List Value).toArray below meth cd H locs 0 0 (MQ below (va_Qi (fun r c' => ∃ cu', c' 52 = rO ad x0 x1 x2 x3 (nI cu'.length) x5 (nI wd) x7 (bI f.1) (bI f.2.1) (bI f.2.2.1) (bI f.2.2.2) x12 v ∧ tB ca c' 56 1024 0 cu' ∧ (∀ j, j ≠ 52 → j ≠ 56 → c' j = c j) ∧ ((cu.length + (pad f.1 zr wd (sgL sg) t).length ≤ 1024 ∧ r = 1 ∧ cu' = cu ++ pad f.1 zr wd (sgL sg) t) ∨ (¬ cu.length + (pad f.1 zr wd (sgL sg) t).length ≤ 1024 ∧ r = 0))) (mW D n ad) (mA n ad s.heap.size)) ([.ref (ad 52), .ref (ad kr), .int y2, .int y3, .int sg] : List Value).toArray s 0 0 (mA n ad s.heap.size)) (F0 m 124 ls []) := by
    intro  cu1 c1 H locs ls hcu hO1 hB1 hs1 hP hS hl
    have hkc1 : tB ca c1 kr cap bg t := hR.keep (hs1 kr hkr.2.1 hkr.2.2)
    have hle1 := hB1.le
    rw [Nat.zero_add] at hle1
    refine lv_iload hx hb dX4_fill_124 (lv_at hl 1 rfl) ?_
    refine lv_if_eq (tgt := 140) hx hb dX4_fill_126 (by decide) (fun hc3 => ?_) (fun hc3 => ?_)
    · skip
      have hdf : dgz = false := bI_eq hc3
      refine lv_iconst (v := 1) hx hb dX4_fill_140 (by decide) ?_
      refine lv_goto (tgt := 145) hx hb dX4_fill_141 (by decide) ?_
      refine mx_i (bI true) (rfl) ?_
      refine lv_istore (lv' := [(8, .int (bI true)), (7, .int (bI dgz)), (6, .int (nI (max (t.length + (sgL sg).length) wd - (t.length + (sgL sg).length)))), (0, .ref (ad 52)), (1, .ref (ad kr)), (2, .int y2), (3, .int y3), (4, .int sg)]) hx hb dX4_fill_145 hl (by decide) rfl (fun ls hl => ?_)
      refine lv_iconst (v := 0) hx hb dX4_fill_147 (by decide) ?_
      refine lv_istore (lv' := [(9, .int 0), (8, .int (bI true)), (7, .int (bI dgz)), (6, .int (nI (max (t.length + (sgL sg).length) wd - (t.length + (sgL sg).length)))), (0, .ref (ad 52)), (1, .ref (ad kr)), (2, .int y2), (3, .int y3), (4, .int sg)]) hx hb dX4_fill_148 hl (by decide) rfl (fun ls hl => ?_)
      exact stC (t.length + 1) 0 true cu1 c1 H locs ls (by omega) (by omega) (fun _ => by rw [hcu, hhd, List.take_zero, List.append_nil]; cases h1 : f.1 with | true => simp | false => simp [hdf, ← hdz h1, show by8 32 = 32 from rfl]) (fun h => by cases h) hO1 hB1 hs1 hP hS (by have h9 := (lv_sub hl [0, 1, 2, 3, 4, 5, 6, 7, 8] rfl); rw [nI_0]; exact h9)
    · skip
      have hdt : dgz = true := bI_ne hc3
      have hfl : f.1 = false := by cases h9 : f.1; rfl; exact absurd (hdl h9) (by rw [hdt]; decide)
      have hzt : zr = true := by rw [← hdz hfl]; exact hdt
      refine lv_aload_n hx hb dX4_fill_129 rfl (lv_at hl 3 rfl) ?_
      refine lv_bipush (v := 48) hx hb dX4_fill_130 (by decide) ?_
      refine lv_iload hx hb dX4_fill_132 (lv_at hl 2 rfl) ?_
      refine mx_ci (va_runV (As := [.int 48, .int (nI (max (t.length + (sgL sg).length) wd - (t.length + (sgL sg).length)))]) (rest := []) ⟨hx, hb, hml, hown, hts⟩ (c_puts l D ca n ad c1 hn hO1 hB1 rfl 48 (nI (max (t.length + (sgL sg).length) wd - (t.length + (sgL sg).length))) (max (t.length + (sgL sg).length) wd - (t.length + (sgL sg).length)) rfl (by omega) _) (cwV 2 hts (gV wm_396 wm_398 ws_20 wm_5 wm_399) rfl rfl rfl (by decide +kernel) ⟨Nat.le_of_ble_eq_true rfl, Nat.le_of_ble_eq_true rfl⟩) (mx_pv (C := RX4) (T := TX4) (N := 20) (ci := 4) hK hP hD hN (by omega : 52 < n) hO1 rfl) rfl rfl hl.1 rfl (lv_room (Nat.le_of_ble_eq_true rfl)) dX4_fill_134 ⟨Nat.zero_le _, Nat.zero_le _⟩) (Nat.le_refl _) hS (fun r c2 H locs hw hP hS => ?_)
      have hcl : cu1 = cu ++ sgL sg := by rw [hcu]; simp [hdt]
      refine lv_if_eq (tgt := 144) hx hb dX4_fill_137 (by decide) (fun hc4 => ?_) (fun hc4 => ?_)
      · skip
        obtain ⟨h1, -, hcE⟩ := hw.resolve_left (fun h => by rw [h.2.1] at hc4; exact absurd hc4 (by decide))
        rw [hcE] at hP
        refine lv_iconst (v := 0) hx hb dX4_fill_144 (by decide) ?_
        refine mx_i (bI false) (rfl) ?_
        refine lv_istore (lv' := [(8, .int (bI false)), (7, .int (bI dgz)), (6, .int (nI (max (t.length + (sgL sg).length) wd - (t.length + (sgL sg).length)))), (0, .ref (ad 52)), (1, .ref (ad kr)), (2, .int y2), (3, .int y3), (4, .int sg)]) hx hb dX4_fill_145 hl (by decide) rfl (fun ls hl => ?_)
        refine lv_iconst (v := 0) hx hb dX4_fill_147 (by decide) ?_
        refine lv_istore (lv' := [(9, .int 0), (8, .int (bI false)), (7, .int (bI dgz)), (6, .int (nI (max (t.length + (sgL sg).length) wd - (t.length + (sgL sg).length)))), (0, .ref (ad 52)), (1, .ref (ad kr)), (2, .int y2), (3, .int y3), (4, .int sg)]) hx hb dX4_fill_148 hl (by decide) rfl (fun ls hl => ?_)
        exact stC (t.length + 1) 0 false cu1 c1 H locs ls (by omega) (by omega) (fun h => by cases h) (fun _ => by rw [hpl]; rw [hcl, List.length_append] at h1; omega) hO1 hB1 hs1 hP hS (by have h9 := (lv_sub hl [0, 1, 2, 3, 4, 5, 6, 7, 8] rfl); rw [nI_0]; exact h9)
      · skip
        obtain ⟨h1, -, hO2, hB2, hs2⟩ := hw.resolve_right (fun h => hc4 h.2.1)
        refine lv_iconst (v := 1) hx hb dX4_fill_140 (by decide) ?_
        refine lv_goto (tgt := 145) hx hb dX4_fill_141 (by decide) ?_
        refine mx_i (bI true) (rfl) ?_
        refine lv_istore (lv' := [(8, .int (bI true)), (7, .int (bI dgz)), (6, .int (nI (max (t.length + (sgL sg).length) wd - (t.length + (sgL sg).length)))), (0, .ref (ad 52)), (1, .ref (ad kr)), (2, .int y2), (3, .int y3), (4, .int sg)]) hx hb dX4_fill_145 hl (by decide) rfl (fun ls hl => ?_)
        refine lv_iconst (v := 0) hx hb dX4_fill_147 (by decide) ?_
        refine lv_istore (lv' := [(9, .int 0), (8, .int (bI true)), (7, .int (bI dgz)), (6, .int (nI (max (t.length + (sgL sg).length) wd - (t.length + (sgL sg).length)))), (0, .ref (ad 52)), (1, .ref (ad kr)), (2, .int y2), (3, .int y3), (4, .int sg)]) hx hb dX4_fill_148 hl (by decide) rfl (fun ls hl => ?_)
        exact stC (t.length + 1) 0 true (cu1 ++ List.replicate (max (t.length + (sgL sg).length) wd - (t.length + (sgL sg).length)) (by8 48)) c2 H locs ls (by omega) (by omega) (fun _ => by rw [hcl, hhd, if_neg (by rw [hfl]; decide), if_pos hzt, List.take_zero, List.append_nil, List.append_assoc]; rfl) (fun h => by cases h) hO2 hB2 (fun j h1 h2 => (hs2 j h1 h2).trans (hs1 j h1 h2)) hP hS (by have h9 := (lv_sub hl [0, 1, 2, 3, 4, 5, 6, 7, 8] rfl); rw [nI_0]; exact h9)
  have stS : ∀ (g : Bool) (cu1 : List Nat) (c1 : Nat → va_E) (H : Heap) (locs : List Loc) (ls : Array Slot), (g = true → cu1 = cu ++ (if f.1 = true ∨ dgz = true then [] else List.replicate (max (t.length + (sgL sg).length) wd - (t.length + (sgL sg).length)) (by8 32))) → (g = false → f.1 = false ∧ dgz = false ∧ ¬ cu.length + (max (t.length + (sgL sg).length) wd - (t.length + (sgL sg).length)) ≤ 1024) → (c1 52 = rO ad x0 x1 x2 x3 (nI cu1.length) x5 (nI wd) x7 (bI f.1) (bI f.2.1) (bI f.2.2.1) (bI f.2.2.2) x12 v) → (tB ca c1 56 1024 0 cu1) → (∀ j, j ≠ 52 → j ≠ 56 → c1 j = c j) → va_P D vwCl (mw n ad c1) H → va_S (mA n ad s.heap.size) s.heap H locs → lv_has ls 10 [(8, .int (bI g)), (7, .int (bI dgz)), (6, .int (nI (max (t.length + (sgL sg).length) wd - (t.length + (sgL sg).length)))), (0, .ref (ad 52)), (1, .ref (ad kr)), (2, .int y2), (3, .int y3), (4, .int sg)] → W pg9 l ev9 (headSpec wsX4_fill ({ frames := 2, cells := 0, slots := 0, locals := 45 })).room s m ([.ref (ad 52), .ref (ad kr), .int y2, .int y3, .int sg] : List Value).toArray below meth cd H locs 0 0 (MQ below (va_Qi (fun r c' => ∃ cu', c' 52 = rO ad x0 x1 x2 x3 (nI cu'.length) x5 (nI wd) x7 (bI f.1) (bI f.2.1) (bI f.2.2.1) (bI f.2.2.2) x12 v ∧ tB ca c' 56 1024 0 cu' ∧ (∀ j, j ≠ 52 → j ≠ 56 → c' j = c j) ∧ ((cu.length + (pad f.1 zr wd (sgL sg) t).length ≤ 1024 ∧ r = 1 ∧ cu' = cu ++ pad f.1 zr wd (sgL sg) t) ∨ (¬ cu.length + (pad f.1 zr wd (sgL sg) t).length ≤ 1024 ∧ r = 0))) (mW D n ad) (mA n ad s.heap.size)) ([.ref (ad 52), .ref (ad kr), .int y2, .int y3, .int sg] : List Value).toArray s 0 0 (mA n ad s.heap.size)) (F0 m 105 ls []) := by
    intro g cu1 c1 H locs ls hgT hgF hO1 hB1 hs1 hP hS hl
    have hkc1 : tB ca c1 kr cap bg t := hR.keep (hs1 kr hkr.2.1 hkr.2.2)
    have hle1 := hB1.le
    rw [Nat.zero_add] at hle1
    refine lv_iload hx hb dX4_fill_105 (lv_at hl 0 rfl) ?_
    refine lv_if_eq (tgt := 144) hx hb dX4_fill_107 (by decide) (fun hc1 => ?_) (fun hc1 => ?_)
    · skip
      obtain ⟨q1, q2, q3⟩ := hgF (bI_eq hc1)
      refine lv_iconst (v := 0) hx hb dX4_fill_144 (by decide) ?_
      refine mx_i (bI false) (rfl) ?_
      refine lv_istore (lv' := [(8, .int (bI false)), (7, .int (bI dgz)), (6, .int (nI (max (t.length + (sgL sg).length) wd - (t.length + (sgL sg).length)))), (0, .ref (ad 52)), (1, .ref (ad kr)), (2, .int y2), (3, .int y3), (4, .int sg)]) hx hb dX4_fill_145 hl (by decide) rfl (fun ls hl => ?_)
      refine lv_iconst (v := 0) hx hb dX4_fill_147 (by decide) ?_
      refine lv_istore (lv' := [(9, .int 0), (8, .int (bI false)), (7, .int (bI dgz)), (6, .int (nI (max (t.length + (sgL sg).length) wd - (t.length + (sgL sg).length)))), (0, .ref (ad 52)), (1, .ref (ad kr)), (2, .int y2), (3, .int y3), (4, .int sg)]) hx hb dX4_fill_148 hl (by decide) rfl (fun ls hl => ?_)
      exact stC (t.length + 1) 0 false cu1 c1 H locs ls (by omega) (by omega) (fun h => by cases h) (fun _ => by rw [hpl]; omega) hO1 hB1 hs1 hP hS (by have h9 := (lv_sub hl [0, 1, 2, 3, 4, 5, 6, 7, 8] rfl); rw [nI_0]; exact h9)
    · skip
      have hgo := hgT (bI_ne hc1)
      have hg1 : g = true := bI_ne hc1
      refine lv_iload hx hb dX4_fill_110 (lv_at hl 7 rfl) ?_
      refine lv_if_eq (tgt := 124) hx hb dX4_fill_112 (by decide) (fun hc2 => ?_) (fun hc2 => ?_)
      · skip
        exact stZ cu1 c1 H locs ls (by rw [hgo, show sgL sg = [] from if_pos hc2, List.append_nil]) hO1 hB1 hs1 hP hS (by have h9 := (lv_sub hl [0, 1, 2, 3, 4, 5, 6, 7] rfl); rw [hg1] at h9; exact h9)
      · skip
        have hsg : sgL sg = [by8 sg] := if_neg hc2
        refine lv_aload_n hx hb dX4_fill_115 rfl (lv_at hl 3 rfl) ?_
        refine lv_iload hx hb dX4_fill_116 (lv_at hl 7 rfl) ?_
        refine mx_ci (va_runV (As := [.int sg]) (rest := []) ⟨hx, hb, hml, hown, hts⟩ (c_put l D ca n ad c1 hn hO1 hB1 rfl sg _) (cwV 1 hts (gV wm_375 wm_377 ws_15 wm_5 wm_378) rfl rfl rfl (by decide +kernel) ⟨Nat.le_of_ble_eq_true rfl, Nat.le_of_ble_eq_true rfl⟩) (mx_pv (C := RX4) (T := TX4) (N := 20) (ci := 4) hK hP hD hN (by omega : 52 < n) hO1 rfl) rfl rfl hl.1 rfl (lv_room (Nat.le_of_ble_eq_true rfl)) dX4_fill_118 ⟨Nat.zero_le _, Nat.zero_le _⟩) (Nat.le_refl _) hS (fun r c2 H locs hw hP hS => ?_)
        refine lv_if_eq (tgt := 144) hx hb dX4_fill_121 (by decide) (fun hc3 => ?_) (fun hc3 => ?_)
        · skip
          obtain ⟨h1, -, hcE⟩ := hw.resolve_left (fun h => by rw [h.2.1] at hc3; exact absurd hc3 (by decide))
          rw [hcE] at hP
          refine lv_iconst (v := 0) hx hb dX4_fill_144 (by decide) ?_
          refine mx_i (bI false) (rfl) ?_
          refine lv_istore (lv' := [(8, .int (bI false)), (7, .int (bI dgz)), (6, .int (nI (max (t.length + (sgL sg).length) wd - (t.length + (sgL sg).length)))), (0, .ref (ad 52)), (1, .ref (ad kr)), (2, .int y2), (3, .int y3), (4, .int sg)]) hx hb dX4_fill_145 hl (by decide) rfl (fun ls hl => ?_)
          refine lv_iconst (v := 0) hx hb dX4_fill_147 (by decide) ?_
          refine lv_istore (lv' := [(9, .int 0), (8, .int (bI false)), (7, .int (bI dgz)), (6, .int (nI (max (t.length + (sgL sg).length) wd - (t.length + (sgL sg).length)))), (0, .ref (ad 52)), (1, .ref (ad kr)), (2, .int y2), (3, .int y3), (4, .int sg)]) hx hb dX4_fill_148 hl (by decide) rfl (fun ls hl => ?_)
          exact stC (t.length + 1) 0 false cu1 c1 H locs ls (by omega) (by omega) (fun h => by cases h) (fun _ => by rw [hpl]; rw [hgo, List.length_append] at h1; have h7 : (sgL sg).length = 1 := (by rw [hsg]; rfl); have h8 : (if f.1 = true ∨ dgz = true then [] else List.replicate (max (t.length + (sgL sg).length) wd - (t.length + (sgL sg).length)) (by8 32)).length ≤ max (t.length + (sgL sg).length) wd - (t.length + (sgL sg).length) := (by split <;> simp); omega) hO1 hB1 hs1 hP hS (by have h9 := (lv_sub hl [0, 1, 2, 3, 4, 5, 6, 7, 8] rfl); rw [nI_0]; exact h9)
        · skip
          obtain ⟨h1, -, hO2, hB2, hs2⟩ := hw.resolve_right (fun h => hc3 h.2.1)
          exact stZ _ c2 H locs ls (by rw [hgo, hsg]) hO2 hB2 (fun j h1 h2 => (hs2 j h1 h2).trans (hs1 j h1 h2)) hP hS (by have h9 := (lv_sub hl [0, 1, 2, 3, 4, 5, 6, 7] rfl); rw [hg1] at h9; exact h9)
  refine lv_aload_n hx hb dX4_fill_75 rfl (lv_at hl 3 rfl) ?_
  refine mx_get (ci := 4) (v := .int (bI f.1)) (C := RX4) (T := TX4) (N := 20) hx hb hts inX4 hown hK hP (by omega : 52 < n) hO rfl 13 (by decide) (hts _ wm_281) (fun _ h9 => h9) rfl dX4_fill_76 ?_
  refine lv_if_ne (tgt := 98) hx hb dX4_fill_79 (by decide) (fun hc1 => ?_) (fun hc1 => ?_)
  · skip
    have hfl : f.1 = true := bI_ne hc1
    refine lv_iconst (v := 1) hx hb dX4_fill_98 (by decide) ?_
    refine lv_goto (tgt := 103) hx hb dX4_fill_99 (by decide) ?_
    refine mx_i (bI true) (rfl) ?_
    refine lv_istore (lv' := [(8, .int (bI true)), (7, .int (bI dgz)), (6, .int (nI (max (t.length + (sgL sg).length) wd - (t.length + (sgL sg).length)))), (5, .int (nI (t.length + (sgL sg).length))), (0, .ref (ad 52)), (1, .ref (ad kr)), (2, .int y2), (3, .int y3), (4, .int sg)]) hx hb dX4_fill_103 hl (by decide) rfl (fun ls hl => ?_)
    exact stS true cu c _ _ ls (fun _ => by rw [if_pos (Or.inl hfl), List.append_nil]) (fun h => by cases h) (by rw [← hx4]; exact hO) hB (fun j h1 h2 => rfl) hP hS (lv_sub hl [0, 1, 2, 4, 5, 6, 7, 8] rfl)
  · skip
    have hfl : f.1 = false := bI_eq hc1
    refine lv_iload hx hb dX4_fill_82 (lv_at hl 0 rfl) ?_
    refine lv_if_ne (tgt := 98) hx hb dX4_fill_84 (by decide) (fun hc2 => ?_) (fun hc2 => ?_)
    · skip
      have hdt : dgz = true := bI_ne hc2
      refine lv_iconst (v := 1) hx hb dX4_fill_98 (by decide) ?_
      refine lv_goto (tgt := 103) hx hb dX4_fill_99 (by decide) ?_
      refine mx_i (bI true) (rfl) ?_
      refine lv_istore (lv' := [(8, .int (bI true)), (7, .int (bI dgz)), (6, .int (nI (max (t.length + (sgL sg).length) wd - (t.length + (sgL sg).length)))), (5, .int (nI (t.length + (sgL sg).length))), (0, .ref (ad 52)), (1, .ref (ad kr)), (2, .int y2), (3, .int y3), (4, .int sg)]) hx hb dX4_fill_103 hl (by decide) rfl (fun ls hl => ?_)
      exact stS true cu c _ _ ls (fun _ => by rw [if_pos (Or.inr hdt), List.append_nil]) (fun h => by cases h) (by rw [← hx4]; exact hO) hB (fun j h1 h2 => rfl) hP hS (lv_sub hl [0, 1, 2, 4, 5, 6, 7, 8] rfl)
    · skip
      have hdf : dgz = false := bI_eq hc2
      have hne : ¬ (f.1 = true ∨ dgz = true) := by rw [hfl, hdf]; decide
      refine lv_aload_n hx hb dX4_fill_87 rfl (lv_at hl 3 rfl) ?_
      refine lv_bipush (v := 32) hx hb dX4_fill_88 (by decide) ?_
      refine lv_iload hx hb dX4_fill_90 (lv_at hl 1 rfl) ?_
      refine mx_ci (va_runV (As := [.int 32, .int (nI (max (t.length + (sgL sg).length) wd - (t.length + (sgL sg).length)))]) (rest := []) ⟨hx, hb, hml, hown, hts⟩ (c_puts l D ca n ad c hn hO hB hx4 32 (nI (max (t.length + (sgL sg).length) wd - (t.length + (sgL sg).length))) (max (t.length + (sgL sg).length) wd - (t.length + (sgL sg).length)) rfl (by omega) _) (cwV 2 hts (gV wm_396 wm_398 ws_20 wm_5 wm_399) rfl rfl rfl (by decide +kernel) ⟨Nat.le_of_ble_eq_true rfl, Nat.le_of_ble_eq_true rfl⟩) (mx_pv (C := RX4) (T := TX4) (N := 20) (ci := 4) hK hP hD hN (by omega : 52 < n) hO rfl) rfl rfl hl.1 rfl (lv_room (Nat.le_of_ble_eq_true rfl)) dX4_fill_92 ⟨Nat.zero_le _, Nat.zero_le _⟩) (Nat.le_refl _) hS (fun r c2 H locs hw hP hS => ?_)
      refine lv_if_eq (tgt := 102) hx hb dX4_fill_95 (by decide) (fun hc3 => ?_) (fun hc3 => ?_)
      · skip
        obtain ⟨h1, -, hcE⟩ := hw.resolve_left (fun h => by rw [h.2.1] at hc3; exact absurd hc3 (by decide))
        rw [hcE] at hP
        refine lv_iconst (v := 0) hx hb dX4_fill_102 (by decide) ?_
        refine mx_i (bI false) (rfl) ?_
        refine lv_istore (lv' := [(8, .int (bI false)), (7, .int (bI dgz)), (6, .int (nI (max (t.length + (sgL sg).length) wd - (t.length + (sgL sg).length)))), (5, .int (nI (t.length + (sgL sg).length))), (0, .ref (ad 52)), (1, .ref (ad kr)), (2, .int y2), (3, .int y3), (4, .int sg)]) hx hb dX4_fill_103 hl (by decide) rfl (fun ls hl => ?_)
        exact stS false cu c _ _ ls (fun h => by cases h) (fun _ => ⟨hfl, hdf, h1⟩) (by rw [← hx4]; exact hO) hB (fun j h1 h2 => rfl) hP hS (lv_sub hl [0, 1, 2, 4, 5, 6, 7, 8] rfl)
      · skip
        obtain ⟨h1, -, hO2, hB2, hs2⟩ := hw.resolve_right (fun h => hc3 h.2.1)
        refine lv_iconst (v := 1) hx hb dX4_fill_98 (by decide) ?_
        refine lv_goto (tgt := 103) hx hb dX4_fill_99 (by decide) ?_
        refine mx_i (bI true) (rfl) ?_
        refine lv_istore (lv' := [(8, .int (bI true)), (7, .int (bI dgz)), (6, .int (nI (max (t.length + (sgL sg).length) wd - (t.length + (sgL sg).length)))), (5, .int (nI (t.length + (sgL sg).length))), (0, .ref (ad 52)), (1, .ref (ad kr)), (2, .int y2), (3, .int y3), (4, .int sg)]) hx hb dX4_fill_103 hl (by decide) rfl (fun ls hl => ?_)
        exact stS true (cu ++ List.replicate (max (t.length + (sgL sg).length) wd - (t.length + (sgL sg).length)) (by8 32)) c2 _ _ ls (fun _ => by rw [if_neg hne]) (fun h => by cases h) hO2 hB2 hs2 hP hS (lv_sub hl [0, 1, 2, 4, 5, 6, 7, 8] rfl)
