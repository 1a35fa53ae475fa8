set_option maxHeartbeats 4000000 in
set_option maxRecDepth 100000 in
/-- feed -/
theorem c_feed (l : Launch) (D : va_G) (ca : Nat → ClassId) (n : Nat) (ad : Nat → Nat) (c : Nat → va_E) {tp pt md dg : List Nat} {ar : Nat → List Nat} {ac tk : Nat} {f : fl4} {w kd bh : Int32} {v : Int64} (hn : 52 ≤ n) (hM : tMF ca ad c tp pt md ar ac tk f w kd bh v dg) (a b x d e : Int32) : mInt l yX3_feed wsX3_feed ({ frames := 2, cells := 0, slots := 0, locals := 42 }) [.ref (ad 0), .int a, .int b, .int x, .int d, .int e] D (tTY ca) n ad c (fun r c' => (tp.length + 20 ≤ 400 ∧ r = 1 ∧ tMF ca ad c' (tp ++ tFour a ++ tFour b ++ tFour x ++ tFour d ++ tFour e) pt md ar ac tk f w kd bh v dg ∧ tSm c c' 1) ∨ (¬ tp.length + 20 ≤ 400 ∧ r = 0 ∧ c' = c)) := by
  intro sz
  refine Met.ofW (cc := cX3_feed) (maxL := 6) (ret := (some .boolean)) (by decide) rfl ?_
  intro pg9 ev9 s m args below meth cd s₁ B hml hv
  obtain ⟨rfl, hsz, hP, hK, hD0, hN⟩ := hv
  have hx := B.exec
  have hb := B.bytes
  have hr := B.returns
  have hts := fun (w : Cond) (h : w ∈ WSa) => atoms_spec (ws := wsX3_feed) B.pre w (List.mem_cons_of_mem _ h)
  have hown : s.vm.findClass RX3 = some m.cls := findClass_of_methodNamed B.named
  have hlocks := B.notSynchronized
  subst hsz
  have hD : ∀ c, va_D (fun _ => True) (mw n ad c) := fun c' => mw_D hD0 c'
  have hS : va_S (mA n ad s.heap.size) s.heap s.heap [] := va_S.rf
  have hl := lv_entry ([.ref (ad 0), .int a, .int b, .int x, .int d, .int e]) (n := 6) (Nat.le_of_ble_eq_true rfl)
  rw [lg_entry_eq]
  generalize (lg_sl ([.ref (ad 0), .int a, .int b, .int x, .int d, .int e]) ++ List.replicate (6 - (lg_sl ([.ref (ad 0), .int a, .int b, .int x, .int d, .int e])).length) Slot.unset).toArray = ls at hl ⊢
  have hl : lv_has ls 6 [(0, .ref (ad 0)), (1, .int a), (2, .int b), (3, .int x), (4, .int d), (5, .int e)] := hl
  refine lv_aload_n hx hb dX3_feed_0 rfl (lv_at hl 0 rfl) ?_
  refine mx_get (ci := 3) (v := .ref (ad 1)) (C := RX3) (T := TX3) (N := 9) hx hb hts inX3 hown hK hP (by omega : 0 < n) hM.1 rfl 0 (by decide) (hts _ wm_77) (fun _ h9 => h9) rfl dX3_feed_1 ?_
  refine lv_bipush (v := 20) hx hb dX3_feed_4 (by decide) ?_
  have hle1 := hM.2.1.le
  refine mx_ci (va_runV (As := [.int 20]) (rest := []) ⟨hx, hb, hml, hown, hts⟩ (c_Text_has l D ca n ad c (k := 1) (by omega) hM.2.1 20 _) (cwV 1 hts (gV wm_109 wm_110 wm_111 wm_2 wm_112) rfl rfl rfl (by decide +kernel) ⟨Nat.le_of_ble_eq_true rfl, Nat.le_of_ble_eq_true rfl⟩) (mx_pv (C := RX2) (T := TX2) (N := 2) (ci := 2) hK hP hD hN (by omega : 1 < n) hM.2.1.cell rfl) rfl rfl hl.1 rfl (lv_room (Nat.le_of_ble_eq_true rfl)) dX3_feed_6 ⟨Nat.zero_le _, Nat.zero_le _⟩) (Nat.le_refl _) hS (fun r c1 H locs hw hP hS => ?_)
  obtain ⟨hcE, hw⟩ := hw
  rw [hcE] at hP
  refine lv_if_ne (tgt := 14) hx hb dX3_feed_9 (by decide) (fun hc => ?_) (fun hc => ?_)
  · skip
    have hroom : tp.length + 20 ≤ 400 := by rcases hw with h | h; have := (nI_leI (a := 20) (by omega) (by omega)).mp h.1; omega; exact absurd h.2 hc
    refine lv_aload_n hx hb dX3_feed_14 rfl (lv_at hl 0 rfl) ?_
    refine mx_get (ci := 3) (v := .ref (ad 1)) (C := RX3) (T := TX3) (N := 9) hx hb hts inX3 hown hK hP (by omega : 0 < n) hM.1 rfl 0 (by decide) (hts _ wm_77) (fun _ h9 => h9) rfl dX3_feed_15 ?_
    refine lv_iload_n hx hb dX3_feed_18 rfl (lv_at hl 1 rfl) ?_
    refine mx_cv (va_runV (As := [.int a]) (rest := []) ⟨hx, hb, hml, hown, hts⟩ (c_Text_four l D ca n ad c (k := 1) (by omega) hM.2.1 (by (try simp only [List.length_append, tFour_len]); omega) a _) (cwV 1 hts (gV wm_113 wm_114 wm_115 wm_2 wm_116) rfl rfl rfl (by decide +kernel) ⟨Nat.le_of_ble_eq_true rfl, Nat.le_of_ble_eq_true rfl⟩) (mx_pv (C := RX2) (T := TX2) (N := 2) (ci := 2) hK hP hD hN (by omega : 1 < n) hM.2.1.cell rfl) rfl rfl hl.1 rfl (lv_room (Nat.le_of_ble_eq_true rfl)) dX3_feed_19 ⟨Nat.zero_le _, Nat.zero_le _⟩) (Nat.le_refl _) hS (fun c1 H locs hw0 hP hS => ?_)
    obtain ⟨hs1, hT1⟩ := hw0
    have hM1 := hM.tape hs1 hT1
    refine lv_aload_n hx hb dX3_feed_22 rfl (lv_at hl 0 rfl) ?_
    refine mx_get (ci := 3) (v := .ref (ad 1)) (C := RX3) (T := TX3) (N := 9) hx hb hts inX3 hown hK hP (by omega : 0 < n) hM1.1 rfl 0 (by decide) (hts _ wm_77) (fun _ h9 => h9) rfl dX3_feed_23 ?_
    refine lv_iload_n hx hb dX3_feed_26 rfl (lv_at hl 2 rfl) ?_
    refine mx_cv (va_runV (As := [.int b]) (rest := []) ⟨hx, hb, hml, hown, hts⟩ (c_Text_four l D ca n ad c1 (k := 1) (by omega) hT1 (by (try simp only [List.length_append, tFour_len]); omega) b _) (cwV 1 hts (gV wm_113 wm_114 wm_115 wm_2 wm_116) rfl rfl rfl (by decide +kernel) ⟨Nat.le_of_ble_eq_true rfl, Nat.le_of_ble_eq_true rfl⟩) (mx_pv (C := RX2) (T := TX2) (N := 2) (ci := 2) hK hP hD hN (by omega : 1 < n) hM1.2.1.cell rfl) rfl rfl hl.1 rfl (lv_room (Nat.le_of_ble_eq_true rfl)) dX3_feed_27 ⟨Nat.zero_le _, Nat.zero_le _⟩) (Nat.le_refl _) hS (fun c2 H locs hw1 hP hS => ?_)
    obtain ⟨hs2, hT2⟩ := hw1
    have hM2 := hM1.tape hs2 hT2
    refine lv_aload_n hx hb dX3_feed_30 rfl (lv_at hl 0 rfl) ?_
    refine mx_get (ci := 3) (v := .ref (ad 1)) (C := RX3) (T := TX3) (N := 9) hx hb hts inX3 hown hK hP (by omega : 0 < n) hM2.1 rfl 0 (by decide) (hts _ wm_77) (fun _ h9 => h9) rfl dX3_feed_31 ?_
    refine lv_iload_n hx hb dX3_feed_34 rfl (lv_at hl 3 rfl) ?_
    refine mx_cv (va_runV (As := [.int x]) (rest := []) ⟨hx, hb, hml, hown, hts⟩ (c_Text_four l D ca n ad c2 (k := 1) (by omega) hT2 (by (try simp only [List.length_append, tFour_len]); omega) x _) (cwV 1 hts (gV wm_113 wm_114 wm_115 wm_2 wm_116) rfl rfl rfl (by decide +kernel) ⟨Nat.le_of_ble_eq_true rfl, Nat.le_of_ble_eq_true rfl⟩) (mx_pv (C := RX2) (T := TX2) (N := 2) (ci := 2) hK hP hD hN (by omega : 1 < n) hM2.2.1.cell rfl) rfl rfl hl.1 rfl (lv_room (Nat.le_of_ble_eq_true rfl)) dX3_feed_35 ⟨Nat.zero_le _, Nat.zero_le _⟩) (Nat.le_refl _) hS (fun c3 H locs hw2 hP hS => ?_)
    obtain ⟨hs3, hT3⟩ := hw2
    have hM3 := hM2.tape hs3 hT3
    refine lv_aload_n hx hb dX3_feed_38 rfl (lv_at hl 0 rfl) ?_
    refine mx_get (ci := 3) (v := .ref (ad 1)) (C := RX3) (T := TX3) (N := 9) hx hb hts inX3 hown hK hP (by omega : 0 < n) hM3.1 rfl 0 (by decide) (hts _ wm_77) (fun _ h9 => h9) rfl dX3_feed_39 ?_
    refine lv_iload hx hb dX3_feed_42 (lv_at hl 4 rfl) ?_
    refine mx_cv (va_runV (As := [.int d]) (rest := []) ⟨hx, hb, hml, hown, hts⟩ (c_Text_four l D ca n ad c3 (k := 1) (by omega) hT3 (by (try simp only [List.length_append, tFour_len]); omega) d _) (cwV 1 hts (gV wm_113 wm_114 wm_115 wm_2 wm_116) rfl rfl rfl (by decide +kernel) ⟨Nat.le_of_ble_eq_true rfl, Nat.le_of_ble_eq_true rfl⟩) (mx_pv (C := RX2) (T := TX2) (N := 2) (ci := 2) hK hP hD hN (by omega : 1 < n) hM3.2.1.cell rfl) rfl rfl hl.1 rfl (lv_room (Nat.le_of_ble_eq_true rfl)) dX3_feed_44 ⟨Nat.zero_le _, Nat.zero_le _⟩) (Nat.le_refl _) hS (fun c4 H locs hw3 hP hS => ?_)
    obtain ⟨hs4, hT4⟩ := hw3
    have hM4 := hM3.tape hs4 hT4
    refine lv_aload_n hx hb dX3_feed_47 rfl (lv_at hl 0 rfl) ?_
    refine mx_get (ci := 3) (v := .ref (ad 1)) (C := RX3) (T := TX3) (N := 9) hx hb hts inX3 hown hK hP (by omega : 0 < n) hM4.1 rfl 0 (by decide) (hts _ wm_77) (fun _ h9 => h9) rfl dX3_feed_48 ?_
    refine lv_iload hx hb dX3_feed_51 (lv_at hl 5 rfl) ?_
    refine mx_cv (va_runV (As := [.int e]) (rest := []) ⟨hx, hb, hml, hown, hts⟩ (c_Text_four l D ca n ad c4 (k := 1) (by omega) hT4 (by (try simp only [List.length_append, tFour_len]); omega) e _) (cwV 1 hts (gV wm_113 wm_114 wm_115 wm_2 wm_116) rfl rfl rfl (by decide +kernel) ⟨Nat.le_of_ble_eq_true rfl, Nat.le_of_ble_eq_true rfl⟩) (mx_pv (C := RX2) (T := TX2) (N := 2) (ci := 2) hK hP hD hN (by omega : 1 < n) hM4.2.1.cell rfl) rfl rfl hl.1 rfl (lv_room (Nat.le_of_ble_eq_true rfl)) dX3_feed_53 ⟨Nat.zero_le _, Nat.zero_le _⟩) (Nat.le_refl _) hS (fun c5 H locs hw4 hP hS => ?_)
    obtain ⟨hs5, hT5⟩ := hw4
    have hM5 := hM4.tape hs5 hT5
    refine lv_iconst (v := 1) hx hb dX3_feed_56 (by decide) ?_
    exact mx_zret hx hb hr hlocks rfl hP hS (Or.inl ⟨hroom, rfl, hM5, (((hs1.tr hs2).tr hs3).tr hs4).tr hs5⟩) dX3_feed_57
  · skip
    have hroom : ¬ tp.length + 20 ≤ 400 := by rcases hw with h | h; exact absurd (h.2.symm.trans hc) (by decide); have := (nI_ltI (b := 20) (by omega) (by omega)).mp h.1; omega
    refine lv_iconst (v := 0) hx hb dX3_feed_12 (by decide) ?_
    exact mx_zret hx hb hr hlocks rfl hP hS (Or.inr ⟨hroom, rfl, rfl⟩) dX3_feed_13
set_option maxHeartbeats 4000000 in
set_option maxRecDepth 100000 in
/-- end -/
theorem c_end (l : Launch) (D : va_G) (ca : Nat → ClassId) (n : Nat) (ad : Nat → Nat) (c : Nat → va_E) {tp pt md dg : List Nat} {ar : Nat → List Nat} {ac tk : Nat} {f : fl4} {w kd bh : Int32} {v : Int64} (hn : 52 ≤ n) (hM : tMF ca ad c tp pt md ar ac tk f w kd bh v dg) (x : Int32) : mInt l yX3_end wsX3_end ({ frames := 1, cells := 0, slots := 0, locals := 21 }) [.ref (ad 0), .int x] D (tTY ca) n ad c (fun r c' => ((x < 0 ∨ nI tp.length < x) ∧ r = 0 ∧ c' = c) ∨ ∃ j, j ≤ tp.length ∧ x = nI j ∧ r = 1 ∧ tMF ca ad c' (tp.take j) pt md ar ac tk f w kd bh v dg ∧ tSm c c' 1) := by
  intro sz
  refine Met.ofW (cc := cX3_end) (maxL := 2) (ret := (some .boolean)) (by decide) rfl ?_
  intro pg9 ev9 s m args below meth cd s₁ B hml hv
  obtain ⟨rfl, hsz, hP, hK, hD0, hN⟩ := hv
  have hx := B.exec
  have hb := B.bytes
  have hr := B.returns
  have hts := fun (w : Cond) (h : w ∈ WSa) => atoms_spec (ws := wsX3_end) B.pre w (List.mem_cons_of_mem _ h)
  have hown : s.vm.findClass RX3 = some m.cls := findClass_of_methodNamed B.named
  have hlocks := B.notSynchronized
  subst hsz
  have hD : ∀ c, va_D (fun _ => True) (mw n ad c) := fun c' => mw_D hD0 c'
  have hS : va_S (mA n ad s.heap.size) s.heap s.heap [] := va_S.rf
  have hl := lv_entry ([.ref (ad 0), .int x]) (n := 2) (Nat.le_of_ble_eq_true rfl)
  rw [lg_entry_eq]
  generalize (lg_sl ([.ref (ad 0), .int x]) ++ List.replicate (2 - (lg_sl ([.ref (ad 0), .int x])).length) Slot.unset).toArray = ls at hl ⊢
  have hl : lv_has ls 2 [(0, .ref (ad 0)), (1, .int x)] := hl
  refine lv_aload_n hx hb dX3_end_0 rfl (lv_at hl 0 rfl) ?_
  refine mx_get (ci := 3) (v := .ref (ad 1)) (C := RX3) (T := TX3) (N := 9) hx hb hts inX3 hown hK hP (by omega : 0 < n) hM.1 rfl 0 (by decide) (hts _ wm_77) (fun _ h9 => h9) rfl dX3_end_1 ?_
  refine lv_iload_n hx hb dX3_end_4 rfl (lv_at hl 1 rfl) ?_
  refine mx_ci (va_runV (As := [.int x]) (rest := []) ⟨hx, hb, hml, hown, hts⟩ (c_Text_shorten l D ca n ad c (k := 1) (by omega) hM.2.1 x _) (cwV 1 hts (gV wm_125 wm_126 wm_127 wm_2 wm_128) rfl rfl rfl (by decide +kernel) ⟨Nat.le_of_ble_eq_true rfl, Nat.le_of_ble_eq_true rfl⟩) (mx_pv (C := RX2) (T := TX2) (N := 2) (ci := 2) hK hP hD hN (by omega : 1 < n) hM.2.1.cell rfl) rfl rfl hl.1 rfl (lv_room (Nat.le_of_ble_eq_true rfl)) dX3_end_5 ⟨Nat.zero_le _, Nat.zero_le _⟩) (Nat.le_refl _) hS (fun r c1 H locs hw hP hS => ?_)
  have hq : ((x < 0 ∨ nI tp.length < x) ∧ r = 0 ∧ c1 = c) ∨ ∃ j, j ≤ tp.length ∧ x = nI j ∧ r = 1 ∧ tMF ca ad c1 (tp.take j) pt md ar ac tk f w kd bh v dg ∧ tSm c c1 1 := by
    rcases hw with h | ⟨j, h1, h2, h3, h4, h5⟩
    · exact Or.inl h
    · exact Or.inr ⟨j, h1, h2, h3, hM.tape h4 h5, h4⟩
  obtain rfl | rfl : r = 0 ∨ r = 1 := by rcases hq with h | ⟨j, h1, h2, h3, h4⟩; exact Or.inl h.2.1; exact Or.inr h3
  · skip
    exact mx_zret hx hb hr hlocks rfl hP hS (hq) dX3_end_8
  · skip
    exact mx_zret hx hb hr hlocks rfl hP hS (hq) dX3_end_8
set_option maxHeartbeats 4000000 in
set_option maxRecDepth 100000 in
/-- format -/
theorem c_format (l : Launch) (D : va_G) (ca : Nat → ClassId) (n : Nat) (ad : Nat → Nat) (c : Nat → va_E) {tp pt md dg : List Nat} {ar : Nat → List Nat} {ac tk : Nat} {f : fl4} {w kd bh : Int32} {v : Int64} (hn : 52 ≤ n) (hM : tMF ca ad c tp pt md ar ac tk f w kd bh v dg) : mInt l yX3_format wsX3_format ({ frames := 2, cells := 0, slots := 0, locals := 44 }) [.ref (ad 0)] D (tTY ca) n ad c (fun r c' => r = nI tp.length ∧ tMF ca ad c' [] tp md ar ac tk f w kd bh v dg ∧ ∀ j, 52 ≤ j → c' j = c j) := by
  intro sz
  refine Met.ofW (cc := cX3_format) (maxL := 1) (ret := (some .int)) (by decide) rfl ?_
  intro pg9 ev9 s m args below meth cd s₁ B hml hv
  obtain ⟨rfl, hsz, hP, hK, hD0, hN⟩ := hv
  have hx := B.exec
  have hb := B.bytes
  have hr := B.returns
  have hts := fun (w : Cond) (h : w ∈ WSa) => atoms_spec (ws := wsX3_format) B.pre w (List.mem_cons_of_mem _ h)
  have hown : s.vm.findClass RX3 = some m.cls := findClass_of_methodNamed B.named
  have hlocks := B.notSynchronized
  subst hsz
  have hD : ∀ c, va_D (fun _ => True) (mw n ad c) := fun c' => mw_D hD0 c'
  have hS : va_S (mA n ad s.heap.size) s.heap s.heap [] := va_S.rf
  have hl := lv_entry ([.ref (ad 0)]) (n := 1) (Nat.le_of_ble_eq_true rfl)
  rw [lg_entry_eq]
  generalize (lg_sl ([.ref (ad 0)]) ++ List.replicate (1 - (lg_sl ([.ref (ad 0)])).length) Slot.unset).toArray = ls at hl ⊢
  have hl : lv_has ls 1 [(0, .ref (ad 0))] := hl
  have hle1 := hM.2.1.le
  refine lv_aload_n hx hb dX3_format_0 rfl (lv_at hl 0 rfl) ?_
  refine mx_get (ci := 3) (v := .ref (ad 3)) (C := RX3) (T := TX3) (N := 9) hx hb hts inX3 hown hK hP (by omega : 0 < n) hM.1 rfl 1 (by decide) (hts _ wm_78) (fun _ h9 => h9) rfl dX3_format_1 ?_
  refine mx_cv (va_runV (As := []) (rest := []) ⟨hx, hb, hml, hown, hts⟩ (c_Text_empty l D ca n ad c (k := 3) (by omega) hM.2.2.1 _) (cwV 0 hts (gV wm_133 wm_134 wm_135 wm_2 wm_136) rfl rfl rfl (by decide +kernel) ⟨Nat.le_of_ble_eq_true rfl, Nat.le_of_ble_eq_true rfl⟩) (mx_pv (C := RX2) (T := TX2) (N := 2) (ci := 2) hK hP hD hN (by omega : 3 < n) hM.2.2.1.cell rfl) rfl rfl hl.1 rfl (lv_room (Nat.le_of_ble_eq_true rfl)) dX3_format_4 ⟨Nat.zero_le _, Nat.zero_le _⟩) (Nat.le_refl _) hS (fun c1 H locs hw1 hP hS => ?_)
  obtain ⟨hs1, hT1⟩ := hw1
  have hM1 := hM.pat hs1 hT1
  refine lv_aload_n hx hb dX3_format_7 rfl (lv_at hl 0 rfl) ?_
  refine mx_get (ci := 3) (v := .ref (ad 3)) (C := RX3) (T := TX3) (N := 9) hx hb hts inX3 hown hK hP (by omega : 0 < n) hM1.1 rfl 1 (by decide) (hts _ wm_78) (fun _ h9 => h9) rfl dX3_format_8 ?_
  refine lv_aload_n hx hb dX3_format_11 rfl (lv_at hl 0 rfl) ?_
  refine mx_get (ci := 3) (v := .ref (ad 1)) (C := RX3) (T := TX3) (N := 9) hx hb hts inX3 hown hK hP (by omega : 0 < n) hM1.1 rfl 0 (by decide) (hts _ wm_77) (fun _ h9 => h9) rfl dX3_format_12 ?_
  refine mx_cv (va_runV (As := [.ref (ad 1)]) (rest := []) ⟨hx, hb, hml, hown, hts⟩ (c_Text_text l D ca n ad c1 (k := 3) (by omega) hM1.2.2.1 (k2 := 1) (by omega) hM1.2.1 (by decide) (by simp only [List.length_nil]; omega) _) (cwV 1 hts (gV wm_137 wm_138 wm_139 wm_2 wm_140) rfl rfl rfl (by decide +kernel) ⟨Nat.le_of_ble_eq_true rfl, Nat.le_of_ble_eq_true rfl⟩) (mx_pv (C := RX2) (T := TX2) (N := 2) (ci := 2) hK hP hD hN (by omega : 3 < n) hM1.2.2.1.cell rfl) rfl rfl hl.1 rfl (lv_room (Nat.le_of_ble_eq_true rfl)) dX3_format_15 ⟨Nat.zero_le _, Nat.zero_le _⟩) (Nat.le_refl _) hS (fun c2 H locs hw2 hP hS => ?_)
  obtain ⟨hs2, hT2⟩ := hw2
  rw [List.nil_append] at hT2
  have hM2 := hM1.pat hs2 hT2
  refine lv_aload_n hx hb dX3_format_18 rfl (lv_at hl 0 rfl) ?_
  refine mx_get (ci := 3) (v := .ref (ad 1)) (C := RX3) (T := TX3) (N := 9) hx hb hts inX3 hown hK hP (by omega : 0 < n) hM2.1 rfl 0 (by decide) (hts _ wm_77) (fun _ h9 => h9) rfl dX3_format_19 ?_
  refine mx_cv (va_runV (As := []) (rest := []) ⟨hx, hb, hml, hown, hts⟩ (c_Text_empty l D ca n ad c2 (k := 1) (by omega) hM2.2.1 _) (cwV 0 hts (gV wm_133 wm_134 wm_135 wm_2 wm_136) rfl rfl rfl (by decide +kernel) ⟨Nat.le_of_ble_eq_true rfl, Nat.le_of_ble_eq_true rfl⟩) (mx_pv (C := RX2) (T := TX2) (N := 2) (ci := 2) hK hP hD hN (by omega : 1 < n) hM2.2.1.cell rfl) rfl rfl hl.1 rfl (lv_room (Nat.le_of_ble_eq_true rfl)) dX3_format_22 ⟨Nat.zero_le _, Nat.zero_le _⟩) (Nat.le_refl _) hS (fun c3 H locs hw3 hP hS => ?_)
  obtain ⟨hs3, hT3⟩ := hw3
  have hM3 := hM2.tape hs3 hT3
  refine lv_aload_n hx hb dX3_format_25 rfl (lv_at hl 0 rfl) ?_
  refine mx_get (ci := 3) (v := .ref (ad 3)) (C := RX3) (T := TX3) (N := 9) hx hb hts inX3 hown hK hP (by omega : 0 < n) hM3.1 rfl 1 (by decide) (hts _ wm_78) (fun _ h9 => h9) rfl dX3_format_26 ?_
  refine mx_getN (ci := 2) (v := .int (nI tp.length)) (C := RX2) (T := TX2) (N := 2) hx hb hts inX2 hown hK hP (by omega : 3 < n) hM3.2.2.1.cell rfl 1 (by decide) (hN.1 _ nn_2) (fun _ h9 => h9) rfl dX3_format_29 ?_
  exact mx_iret hx hb hr hlocks hP hS (⟨rfl, hM3, fun j h => (hs3 j (by omega) (by omega)).trans ((hs2 j (by omega) (by omega)).trans (hs1 j (by omega) (by omega)))⟩) dX3_format_32
set_option maxHeartbeats 4000000 in
set_option maxRecDepth 100000 in
/-- hasRoomForArgument -/
theorem c_hasRoom (l : Launch) (D : va_G) (ca : Nat → ClassId) (n : Nat) (ad : Nat → Nat) (c : Nat → va_E) {tp pt md dg : List Nat} {ar : Nat → List Nat} {ac tk : Nat} {f : fl4} {w kd bh : Int32} {v : Int64} (hn : 52 ≤ n) (hM : tMF ca ad c tp pt md ar ac tk f w kd bh v dg) : mInt l yX3_hasRoomForArgument wsX3_hasRoomForArgument ({ frames := 0, cells := 0, slots := 0, locals := 0 }) [.ref (ad 0)] D (tTY ca) n ad c (fun r c' => c' = c ∧ ((ac < 20 ∧ r = 1) ∨ (20 ≤ ac ∧ r = 0))) := by
  intro sz
  refine Met.ofW (cc := cX3_hasRoomForArgument) (maxL := 1) (ret := (some .boolean)) (by decide) rfl ?_
  intro pg9 ev9 s m args below meth cd s₁ B hml hv
  obtain ⟨rfl, hsz, hP, hK, hD0, hN⟩ := hv
  have hx := B.exec
  have hb := B.bytes
  have hr := B.returns
  have hts := fun (w : Cond) (h : w ∈ WSa) => atoms_spec (ws := wsX3_hasRoomForArgument) B.pre w (List.mem_cons_of_mem _ h)
  have hown : s.vm.findClass RX3 = some m.cls := findClass_of_methodNamed B.named
  have hlocks := B.notSynchronized
  subst hsz
  have hD : ∀ c, va_D (fun _ => True) (mw n ad c) := fun c' => mw_D hD0 c'
  have hS : va_S (mA n ad s.heap.size) s.heap s.heap [] := va_S.rf
  have hl := lv_entry ([.ref (ad 0)]) (n := 1) (Nat.le_of_ble_eq_true rfl)
  rw [lg_entry_eq]
  generalize (lg_sl ([.ref (ad 0)]) ++ List.replicate (1 - (lg_sl ([.ref (ad 0)])).length) Slot.unset).toArray = ls at hl ⊢
  have hl : lv_has ls 1 [(0, .ref (ad 0))] := hl
  have hac := hM.2.2.2.2.2.2.2.2.2.1
  obtain ⟨g7, h7, hg7⟩ := hM.2.2.2.2.1
  refine lv_aload_n hx hb dX3_hasRoomForArgument_0 rfl (lv_at hl 0 rfl) ?_
  refine mx_get (ci := 3) (v := .int (nI ac)) (C := RX3) (T := TX3) (N := 9) hx hb hts inX3 hown hK hP (by omega : 0 < n) hM.1 rfl 4 (by decide) (hts _ wm_81) (fun _ h9 => h9) rfl dX3_hasRoomForArgument_1 ?_
  refine lv_if_lt (tgt := 23) hx hb dX3_hasRoomForArgument_4 (by decide) (fun hc => ?_) (fun hc => ?_)
  · skip
    exact absurd hc (nI_pos (by omega))
  · skip
    refine lv_aload_n hx hb dX3_hasRoomForArgument_7 rfl (lv_at hl 0 rfl) ?_
    refine mx_get (ci := 3) (v := .int (nI ac)) (C := RX3) (T := TX3) (N := 9) hx hb hts inX3 hown hK hP (by omega : 0 < n) hM.1 rfl 4 (by decide) (hts _ wm_81) (fun _ h9 => h9) rfl dX3_hasRoomForArgument_8 ?_
    refine lv_aload_n hx hb dX3_hasRoomForArgument_11 rfl (lv_at hl 0 rfl) ?_
    refine mx_get (ci := 3) (v := .ref (ad 7)) (C := RX3) (T := TX3) (N := 9) hx hb hts inX3 hown hK hP (by omega : 0 < n) hM.1 rfl 3 (by decide) (hts _ wm_80) (fun _ h9 => h9) rfl dX3_hasRoomForArgument_12 ?_
    refine mx_alen (v := nI 20) hx hb hK hP (by omega : 7 < n) 1 h7 rfl rfl dX3_hasRoomForArgument_15 ?_
    refine lv_icmp_ge (tgt := 23) hx hb dX3_hasRoomForArgument_16 (by decide) (fun hc2 => ?_) (fun hc2 => ?_)
    · skip
      refine lv_iconst (v := 0) hx hb dX3_hasRoomForArgument_23 (by decide) ?_
      exact mx_zret hx hb hr hlocks rfl hP hS (⟨rfl, Or.inr ⟨(nI_leI (by omega) (by omega)).mp hc2, rfl⟩⟩) dX3_hasRoomForArgument_24
    · skip
      refine lv_iconst (v := 1) hx hb dX3_hasRoomForArgument_19 (by decide) ?_
      refine lv_goto (tgt := 24) hx hb dX3_hasRoomForArgument_20 (by decide) ?_
      exact mx_zret hx hb hr hlocks rfl hP hS (⟨rfl, Or.inl ⟨by have := (not_congr (nI_leI (by omega) (by omega))).mp hc2; omega, rfl⟩⟩) dX3_hasRoomForArgument_24
set_option maxHeartbeats 4000000 in
set_option maxRecDepth 100000 in
/-- nextArgument -/
theorem c_nextArg (l : Launch) (D : va_G) (ca : Nat → ClassId) (n : Nat) (ad : Nat → Nat) (c : Nat → va_E) {tp pt md dg : List Nat} {ar : Nat → List Nat} {ac tk : Nat} {f : fl4} {w kd bh : Int32} {v : Int64} (hn : 52 ≤ n) (hM : tMF ca ad c tp pt md ar ac tk f w kd bh v dg) (hlt : ac < 20) : mRef l yX3_nextArgument wsX3_nextArgument ({ frames := 1, cells := 0, slots := 0, locals := 20 }) [.ref (ad 0)] D (tTY ca) n ad c (fun r c' => r = ad (8 + 2 * ac) ∧ tMF ca ad c' tp pt md (va_up ar ac []) (ac + 1) tk f w kd bh v dg ∧ ∀ j, 52 ≤ j → c' j = c j) := by
  intro sz
  refine Met.ofW (cc := cX3_nextArgument) (maxL := 2) (ret := (some (.object "FormatMill$Text"))) (by decide) rfl ?_
  intro pg9 ev9 s m args below meth cd s₁ B hml hv
  obtain ⟨rfl, hsz, hP, hK, hD0, hN⟩ := hv
  have hx := B.exec
  have hb := B.bytes
  have hr := B.returns
  have hts := fun (w : Cond) (h : w ∈ WSa) => atoms_spec (ws := wsX3_nextArgument) B.pre w (List.mem_cons_of_mem _ h)
  have hown : s.vm.findClass RX3 = some m.cls := findClass_of_methodNamed B.named
  have hlocks := B.notSynchronized
  subst hsz
  have hD : ∀ c, va_D (fun _ => True) (mw n ad c) := fun c' => mw_D hD0 c'
  have hS : va_S (mA n ad s.heap.size) s.heap s.heap [] := va_S.rf
  have hl := lv_entry ([.ref (ad 0)]) (n := 2) (Nat.le_of_ble_eq_true rfl)
  rw [lg_entry_eq]
  generalize (lg_sl ([.ref (ad 0)]) ++ List.replicate (2 - (lg_sl ([.ref (ad 0)])).length) Slot.unset).toArray = ls at hl ⊢
  have hl : lv_has ls 2 [(0, .ref (ad 0))] := hl
  obtain ⟨g7, h7, hg7⟩ := hM.2.2.2.2.1
  refine lv_aload_n hx hb dX3_nextArgument_0 rfl (lv_at hl 0 rfl) ?_
  refine mx_get (ci := 3) (v := .ref (ad 7)) (C := RX3) (T := TX3) (N := 9) hx hb hts inX3 hown hK hP (by omega : 0 < n) hM.1 rfl 3 (by decide) (hts _ wm_80) (fun _ h9 => h9) rfl dX3_nextArgument_1 ?_
  refine lv_aload_n hx hb dX3_nextArgument_4 rfl (lv_at hl 0 rfl) ?_
  refine mx_get (ci := 3) (v := .int (nI ac)) (C := RX3) (T := TX3) (N := 9) hx hb hts inX3 hown hK hP (by omega : 0 < n) hM.1 rfl 4 (by decide) (hts _ wm_81) (fun _ h9 => h9) rfl dX3_nextArgument_5 ?_
  refine mx_aald hx hb hK hP (by omega : 7 < n) 1 h7 rfl (vp_in_nI hlt (by omega)) (.ref (ad (8 + 2 * ac))) (by rw [nI_clamp (by omega), hg7 ac hlt]; rfl) dX3_nextArgument_8 ?_
  refine lv_astore_n (lv' := [(1, .ref (ad (8 + 2 * ac))), (0, .ref (ad 0))]) hx hb dX3_nextArgument_9 rfl hl (by decide) rfl (fun ls hl => ?_)
  refine lv_aload_n hx hb dX3_nextArgument_10 rfl (lv_at hl 1 rfl) ?_
  refine lv_dup hx hb dX3_nextArgument_11 rfl ?_
  refine mx_get (ci := 3) (v := .int (nI ac)) (C := RX3) (T := TX3) (N := 9) hx hb hts inX3 hown hK hP (by omega : 0 < n) hM.1 rfl 4 (by decide) (hts _ wm_81) (fun _ h9 => h9) rfl dX3_nextArgument_12 ?_
  refine lv_iconst (v := 1) hx hb dX3_nextArgument_15 (by decide) ?_
  refine lv_iadd hx hb dX3_nextArgument_16 ?_
  refine mx_i (nI (ac + 1)) (nI_1 ac) ?_
  refine mx_put (ci := 3) (v := .int (nI (ac + 1))) (ty := .int) (C := RX3) (T := TX3) (N := 9) hx hb hts inX3 tyX3 tyX3_ok nmX3 hown hK hP hD hS (by omega : 0 < n) hM.1 rfl 4 (by decide) (hts _ wm_81) (fun _ h9 => h9) rfl (by decide +kernel) rfl rfl (Nat.le_of_ble_eq_true rfl) dX3_nextArgument_17 (fun H locs hP hS => ?_)
  obtain ⟨c1, ec1⟩ : ∃ z : Nat → va_E, z = va_up c 0 (.inr (3, [.ref (ad 1), .ref (ad 3), .ref (ad 5), .ref (ad 7), .int (nI (ac + 1)), .int (nI tk), .ref (ad 48), .ref (ad 49), .ref (ad 50)])) := ⟨_, rfl⟩
  have hP : va_P D vwCl (mw n ad c1) H := by rw [ec1]; exact hP
  have hsc1 : ∀ j, j ≠ 0 → c1 j = c j := fun j h => by rw [ec1]; exact va_up_ne _ _ h
  have hcc1 : c1 0 = .inr (3, [.ref (ad 1), .ref (ad 3), .ref (ad 5), .ref (ad 7), .int (nI (ac + 1)), .int (nI tk), .ref (ad 48), .ref (ad 49), .ref (ad 50)]) := by rw [ec1]; exact va_up_self _ _ _
  have hM1 := hM.cel hsc1 hcc1 (by omega) hM.2.2.2.2.2.2.2.2.2.2
  refine lv_aload_n hx hb dX3_nextArgument_20 rfl (lv_at hl 0 rfl) ?_
  refine mx_cv (va_runV (As := []) (rest := []) ⟨hx, hb, hml, hown, hts⟩ (c_Text_empty l D ca n ad c1 (k := 8 + 2 * ac) (by omega) (hM1.2.2.2.2.2.1 ac hlt) _) (cwV 0 hts (gV wm_133 wm_134 wm_135 wm_2 wm_136) rfl rfl rfl (by decide +kernel) ⟨Nat.le_of_ble_eq_true rfl, Nat.le_of_ble_eq_true rfl⟩) (mx_pv (C := RX2) (T := TX2) (N := 2) (ci := 2) hK hP hD hN (by omega : 8 + 2 * ac < n) (hM1.2.2.2.2.2.1 ac hlt).cell rfl) rfl rfl hl.1 rfl (lv_room (Nat.le_of_ble_eq_true rfl)) dX3_nextArgument_21 ⟨Nat.zero_le _, Nat.zero_le _⟩) (Nat.le_refl _) hS (fun c2 H locs hw hP hS => ?_)
  obtain ⟨hs2, hT2⟩ := hw
  have hM2 := hM1.arg hlt hs2 hT2
  refine lv_aload_n hx hb dX3_nextArgument_24 rfl (lv_at hl 0 rfl) ?_
  exact mx_aret hx hb hr (Or.inl ⟨_, rfl⟩) hlocks hP hS (⟨rfl, hM2, fun j h => (hs2 j (by omega) (by omega)).trans (hsc1 j (by omega))⟩) dX3_nextArgument_25
set_option maxHeartbeats 4000000 in
set_option maxRecDepth 100000 in
/-- argument -/
theorem c_argument (l : Launch) (D : va_G) (ca : Nat → ClassId) (n : Nat) (ad : Nat → Nat) (c : Nat → va_E) {tp pt md dg : List Nat} {ar : Nat → List Nat} {ac tk : Nat} {f : fl4} {w kd bh : Int32} {v : Int64} (hn : 52 ≤ n) (hM : tMF ca ad c tp pt md ar ac tk f w kd bh v dg) : mInt l yX3_argument wsX3_argument ({ frames := 2, cells := 0, slots := 0, locals := 44 }) [.ref (ad 0)] D (tTY ca) n ad c (fun r c' => ((tp.length ≤ 40 ∧ ac < 20 ∧ r = nI ac ∧ tMF ca ad c' [] pt md (va_up ar ac tp) (ac + 1) tk f w kd bh v dg) ∨ (¬ (tp.length ≤ 40 ∧ ac < 20) ∧ r = -1 ∧ tMF ca ad c' [] pt md ar ac tk f w kd bh v dg)) ∧ ∀ j, 52 ≤ j → c' j = c j) := by
  intro sz
  refine Met.ofW (cc := cX3_argument) (maxL := 2) (ret := (some .int)) (by decide) rfl ?_
  intro pg9 ev9 s m args below meth cd s₁ B hml hv
  obtain ⟨rfl, hsz, hP, hK, hD0, hN⟩ := hv
  have hx := B.exec
  have hb := B.bytes
  have hr := B.returns
  have hts := fun (w : Cond) (h : w ∈ WSa) => atoms_spec (ws := wsX3_argument) B.pre w (List.mem_cons_of_mem _ h)
  have hown : s.vm.findClass RX3 = some m.cls := findClass_of_methodNamed B.named
  have hlocks := B.notSynchronized
  subst hsz
  have hD : ∀ c, va_D (fun _ => True) (mw n ad c) := fun c' => mw_D hD0 c'
  have hS : va_S (mA n ad s.heap.size) s.heap s.heap [] := va_S.rf
  have hl := lv_entry ([.ref (ad 0)]) (n := 2) (Nat.le_of_ble_eq_true rfl)
  rw [lg_entry_eq]
  generalize (lg_sl ([.ref (ad 0)]) ++ List.replicate (2 - (lg_sl ([.ref (ad 0)])).length) Slot.unset).toArray = ls at hl ⊢
  have hl : lv_has ls 2 [(0, .ref (ad 0))] := hl
  have hle1 := hM.2.1.le
  have hac := hM.2.2.2.2.2.2.2.2.2.1
  refine lv_iconst (v := (-1)) hx hb dX3_argument_0 (by decide) ?_
  refine lv_istore_n (lv' := [(1, .int ((-1))), (0, .ref (ad 0))]) hx hb dX3_argument_1 rfl hl (by decide) rfl (fun ls hl => ?_)
  refine lv_aload_n hx hb dX3_argument_2 rfl (lv_at hl 1 rfl) ?_
  refine mx_get (ci := 3) (v := .ref (ad 1)) (C := RX3) (T := TX3) (N := 9) hx hb hts inX3 hown hK hP (by omega : 0 < n) hM.1 rfl 0 (by decide) (hts _ wm_77) (fun _ h9 => h9) rfl dX3_argument_3 ?_
  refine mx_getN (ci := 2) (v := .int (nI tp.length)) (C := RX2) (T := TX2) (N := 2) hx hb hts inX2 hown hK hP (by omega : 1 < n) hM.2.1.cell rfl 1 (by decide) (hN.1 _ nn_2) (fun _ h9 => h9) rfl dX3_argument_6 ?_
  refine lv_bipush (v := 40) hx hb dX3_argument_9 (by decide) ?_
  refine lv_icmp_gt (tgt := 39) hx hb dX3_argument_11 (by decide) (fun hc => ?_) (fun hc => ?_)
  · skip
    refine lv_aload_n hx hb dX3_argument_39 rfl (lv_at hl 1 rfl) ?_
    refine mx_get (ci := 3) (v := .ref (ad 1)) (C := RX3) (T := TX3) (N := 9) hx hb hts inX3 hown hK hP (by omega : 0 < n) hM.1 rfl 0 (by decide) (hts _ wm_77) (fun _ h9 => h9) rfl dX3_argument_40 ?_
    refine mx_cv (va_runV (As := []) (rest := []) ⟨hx, hb, hml, hown, hts⟩ (c_Text_empty l D ca n ad c (k := 1) (by omega) hM.2.1 _) (cwV 0 hts (gV wm_133 wm_134 wm_135 wm_2 wm_136) rfl rfl rfl (by decide +kernel) ⟨Nat.le_of_ble_eq_true rfl, Nat.le_of_ble_eq_true rfl⟩) (mx_pv (C := RX2) (T := TX2) (N := 2) (ci := 2) hK hP hD hN (by omega : 1 < n) hM.2.1.cell rfl) rfl rfl hl.1 rfl (lv_room (Nat.le_of_ble_eq_true rfl)) dX3_argument_43 ⟨Nat.zero_le _, Nat.zero_le _⟩) (Nat.le_refl _) hS (fun c3 H locs hw3 hP hS => ?_)
    obtain ⟨hs3, hT3⟩ := hw3
    refine lv_iload_n hx hb dX3_argument_46 rfl (lv_at hl 0 rfl) ?_
    exact mx_iret hx hb hr hlocks hP hS (⟨Or.inr ⟨fun h => absurd h.1 (by have := (nI_ltI (a := 40) (by omega) (by omega)).mp hc; omega), rfl, hM.tape hs3 hT3⟩, fun j h => hs3 j (by omega) (by omega)⟩) dX3_argument_47
  · skip
    have h40 : tp.length ≤ 40 := by have := (not_congr (nI_ltI (a := 40) (by omega) (by omega : tp.length < 2 ^ 31))).mp hc; omega
    refine lv_aload_n hx hb dX3_argument_14 rfl (lv_at hl 1 rfl) ?_
    refine mx_ci (va_runV (As := []) (rest := []) ⟨hx, hb, hml, hown, hts⟩ (c_hasRoom l D ca n ad c hn hM _) (cwV 0 hts (gV wm_149 wm_151 ws_0 wm_1 wm_152) rfl rfl rfl (by decide +kernel) ⟨Nat.le_of_ble_eq_true rfl, Nat.le_of_ble_eq_true rfl⟩) (mx_pv (C := RX3) (T := TX3) (N := 9) (ci := 3) hK hP hD hN (by omega : 0 < n) hM.1 rfl) rfl rfl hl.1 rfl (lv_room (Nat.le_of_ble_eq_true rfl)) dX3_argument_15 ⟨Nat.zero_le _, Nat.zero_le _⟩) (Nat.le_refl _) hS (fun r c1 H locs hw hP hS => ?_)
    obtain ⟨hcE, hw⟩ := hw
    rw [hcE] at hP
    refine lv_if_eq (tgt := 39) hx hb dX3_argument_18 (by decide) (fun hc2 => ?_) (fun hc2 => ?_)
    · skip
      refine lv_aload_n hx hb dX3_argument_39 rfl (lv_at hl 1 rfl) ?_
      refine mx_get (ci := 3) (v := .ref (ad 1)) (C := RX3) (T := TX3) (N := 9) hx hb hts inX3 hown hK hP (by omega : 0 < n) hM.1 rfl 0 (by decide) (hts _ wm_77) (fun _ h9 => h9) rfl dX3_argument_40 ?_
      refine mx_cv (va_runV (As := []) (rest := []) ⟨hx, hb, hml, hown, hts⟩ (c_Text_empty l D ca n ad c (k := 1) (by omega) hM.2.1 _) (cwV 0 hts (gV wm_133 wm_134 wm_135 wm_2 wm_136) rfl rfl rfl (by decide +kernel) ⟨Nat.le_of_ble_eq_true rfl, Nat.le_of_ble_eq_true rfl⟩) (mx_pv (C := RX2) (T := TX2) (N := 2) (ci := 2) hK hP hD hN (by omega : 1 < n) hM.2.1.cell rfl) rfl rfl hl.1 rfl (lv_room (Nat.le_of_ble_eq_true rfl)) dX3_argument_43 ⟨Nat.zero_le _, Nat.zero_le _⟩) (Nat.le_refl _) hS (fun c3 H locs hw3 hP hS => ?_)
      obtain ⟨hs3, hT3⟩ := hw3
      refine lv_iload_n hx hb dX3_argument_46 rfl (lv_at hl 0 rfl) ?_
      exact mx_iret hx hb hr hlocks hP hS (⟨Or.inr ⟨fun h => absurd h.2 (by rcases hw with h9 | h9; exact absurd (h9.2.symm.trans hc2) (by decide); omega), rfl, hM.tape hs3 hT3⟩, fun j h => hs3 j (by omega) (by omega)⟩) dX3_argument_47
    · skip
      have hlt : ac < 20 := by rcases hw with h9 | h9; exact h9.1; exact absurd h9.2 hc2
      refine lv_aload_n hx hb dX3_argument_21 rfl (lv_at hl 1 rfl) ?_
      refine mx_cr (va_runV (As := []) (rest := []) ⟨hx, hb, hml, hown, hts⟩ (c_nextArg l D ca n ad c hn hM hlt _) (cwV 0 hts (gV wm_153 wm_155 ws_1 wm_1 wm_156) rfl rfl rfl (by decide +kernel) ⟨Nat.le_of_ble_eq_true rfl, Nat.le_of_ble_eq_true rfl⟩) (mx_pv (C := RX3) (T := TX3) (N := 9) (ci := 3) hK hP hD hN (by omega : 0 < n) hM.1 rfl) rfl rfl hl.1 rfl (lv_room (Nat.le_of_ble_eq_true rfl)) dX3_argument_22 ⟨Nat.zero_le _, Nat.zero_le _⟩) (Nat.le_refl _) hS (fun r1 c1 H locs hw1 hP hS => ?_)
      obtain ⟨hr1, hM1, hs1⟩ := hw1
      refine mx_r (.ref (ad (8 + 2 * ac))) (by rw [hr1]) ?_
      have hTa := hM1.2.2.2.2.2.1 ac hlt
      rw [va_up_self] at hTa
      refine lv_aload_n hx hb dX3_argument_25 rfl (lv_at hl 1 rfl) ?_
      refine mx_get (ci := 3) (v := .ref (ad 1)) (C := RX3) (T := TX3) (N := 9) hx hb hts inX3 hown hK hP (by omega : 0 < n) hM1.1 rfl 0 (by decide) (hts _ wm_77) (fun _ h9 => h9) rfl dX3_argument_26 ?_
      refine mx_cv (va_runV (As := [.ref (ad 1)]) (rest := []) ⟨hx, hb, hml, hown, hts⟩ (c_Text_text l D ca n ad c1 (k := 8 + 2 * ac) (by omega) hTa (k2 := 1) (by omega) hM1.2.1 (by omega) (by simp only [List.length_nil]; omega) _) (cwV 1 hts (gV wm_137 wm_138 wm_139 wm_2 wm_140) rfl rfl rfl (by decide +kernel) ⟨Nat.le_of_ble_eq_true rfl, Nat.le_of_ble_eq_true rfl⟩) (mx_pv (C := RX2) (T := TX2) (N := 2) (ci := 2) hK hP hD hN (by omega : 8 + 2 * ac < n) hTa.cell rfl) rfl rfl hl.1 rfl (lv_room (Nat.le_of_ble_eq_true rfl)) dX3_argument_29 ⟨Nat.zero_le _, Nat.zero_le _⟩) (Nat.le_refl _) hS (fun c2 H locs hw2 hP hS => ?_)
      obtain ⟨hs2, hT2⟩ := hw2
      rw [List.nil_append] at hT2
      have hM2 := hM1.arg hlt hs2 hT2
      refine lv_aload_n hx hb dX3_argument_32 rfl (lv_at hl 1 rfl) ?_
      refine mx_get (ci := 3) (v := .int (nI (ac + 1))) (C := RX3) (T := TX3) (N := 9) hx hb hts inX3 hown hK hP (by omega : 0 < n) hM2.1 rfl 4 (by decide) (hts _ wm_81) (fun _ h9 => h9) rfl dX3_argument_33 ?_
      refine lv_iconst (v := 1) hx hb dX3_argument_36 (by decide) ?_
      refine lv_isub hx hb dX3_argument_37 ?_
      refine mx_i (nI ac) (nI_pred ac) ?_
      refine lv_istore_n (lv' := [(1, .int (nI ac)), (0, .ref (ad 0))]) hx hb dX3_argument_38 rfl hl (by decide) rfl (fun ls hl => ?_)
      refine lv_aload_n hx hb dX3_argument_39 rfl (lv_at hl 1 rfl) ?_
      refine mx_get (ci := 3) (v := .ref (ad 1)) (C := RX3) (T := TX3) (N := 9) hx hb hts inX3 hown hK hP (by omega : 0 < n) hM2.1 rfl 0 (by decide) (hts _ wm_77) (fun _ h9 => h9) rfl dX3_argument_40 ?_
      refine mx_cv (va_runV (As := []) (rest := []) ⟨hx, hb, hml, hown, hts⟩ (c_Text_empty l D ca n ad c2 (k := 1) (by omega) hM2.2.1 _) (cwV 0 hts (gV wm_133 wm_134 wm_135 wm_2 wm_136) rfl rfl rfl (by decide +kernel) ⟨Nat.le_of_ble_eq_true rfl, Nat.le_of_ble_eq_true rfl⟩) (mx_pv (C := RX2) (T := TX2) (N := 2) (ci := 2) hK hP hD hN (by omega : 1 < n) hM2.2.1.cell rfl) rfl rfl hl.1 rfl (lv_room (Nat.le_of_ble_eq_true rfl)) dX3_argument_43 ⟨Nat.zero_le _, Nat.zero_le _⟩) (Nat.le_refl _) hS (fun c3 H locs hw3 hP hS => ?_)
      obtain ⟨hs3, hT3⟩ := hw3
      have hM3 := hM2.tape hs3 hT3
      rw [bx_uu] at hM3
      refine lv_iload_n hx hb dX3_argument_46 rfl (lv_at hl 0 rfl) ?_
      exact mx_iret hx hb hr hlocks hP hS (⟨Or.inl ⟨h40, hlt, rfl, hM3⟩, fun j h => (hs3 j (by omega) (by omega)).trans ((hs2 j (by omega) (by omega)).trans (hs1 j h))⟩) dX3_argument_47
set_option maxHeartbeats 4000000 in
set_option maxRecDepth 100000 in
/-- number -/
theorem c_number (l : Launch) (D : va_G) (ca : Nat → ClassId) (n : Nat) (ad : Nat → Nat) (c : Nat → va_E) {tp pt md dg : List Nat} {ar : Nat → List Nat} {ac tk : Nat} {f : fl4} {w kd bh : Int32} {v : Int64} (hn : 52 ≤ n) (hM : tMF ca ad c tp pt md ar ac tk f w kd bh v dg) (x : Int64) : mInt l yX3_number wsX3_number ({ frames := 2, cells := 0, slots := 0, locals := 47 }) [.ref (ad 0), .long x] D (tTY ca) n ad c (fun r c' => ((ac < 20 ∧ r = nI ac ∧ tMF ca ad c' tp pt md (va_up ar ac (tNum x)) (ac + 1) tk f w kd bh v dg) ∨ (20 ≤ ac ∧ r = -1 ∧ c' = c)) ∧ ∀ j, 52 ≤ j → c' j = c j) := by
  intro sz
  refine Met.ofW (cc := cX3_number) (maxL := 4) (ret := (some .int)) (by decide) rfl ?_
  intro pg9 ev9 s m args below meth cd s₁ B hml hv
  obtain ⟨rfl, hsz, hP, hK, hD0, hN⟩ := hv
  have hx := B.exec
  have hb := B.bytes
  have hr := B.returns
  have hts := fun (w : Cond) (h : w ∈ WSa) => atoms_spec (ws := wsX3_number) B.pre w (List.mem_cons_of_mem _ h)
  have hown : s.vm.findClass RX3 = some m.cls := findClass_of_methodNamed B.named
  have hlocks := B.notSynchronized
  subst hsz
  have hD : ∀ c, va_D (fun _ => True) (mw n ad c) := fun c' => mw_D hD0 c'
  have hS : va_S (mA n ad s.heap.size) s.heap s.heap [] := va_S.rf
  have hl := lv_entry ([.ref (ad 0), .long x]) (n := 4) (Nat.le_of_ble_eq_true rfl)
  rw [lg_entry_eq]
  generalize (lg_sl ([.ref (ad 0), .long x]) ++ List.replicate (4 - (lg_sl ([.ref (ad 0), .long x])).length) Slot.unset).toArray = ls at hl ⊢
  have hl : lv_has ls 4 [(0, .ref (ad 0)), (1, .long x)] := hl
  have hac := hM.2.2.2.2.2.2.2.2.2.1
  refine lv_aload_n hx hb dX3_number_0 rfl (lv_at hl 0 rfl) ?_
  refine mx_ci (va_runV (As := []) (rest := []) ⟨hx, hb, hml, hown, hts⟩ (c_hasRoom l D ca n ad c hn hM _) (cwV 0 hts (gV wm_149 wm_151 ws_0 wm_1 wm_152) rfl rfl rfl (by decide +kernel) ⟨Nat.le_of_ble_eq_true rfl, Nat.le_of_ble_eq_true rfl⟩) (mx_pv (C := RX3) (T := TX3) (N := 9) (ci := 3) hK hP hD hN (by omega : 0 < n) hM.1 rfl) rfl rfl hl.1 rfl (lv_room (Nat.le_of_ble_eq_true rfl)) dX3_number_1 ⟨Nat.zero_le _, Nat.zero_le _⟩) (Nat.le_refl _) hS (fun r c1 H locs hw hP hS => ?_)
  obtain ⟨hcE, hw⟩ := hw
  rw [hcE] at hP
  refine lv_if_ne (tgt := 9) hx hb dX3_number_4 (by decide) (fun hc => ?_) (fun hc => ?_)
  · skip
    have hlt : ac < 20 := by rcases hw with h9 | h9; exact h9.1; exact absurd h9.2 hc
    refine lv_aload_n hx hb dX3_number_9 rfl (lv_at hl 0 rfl) ?_
    refine mx_cr (va_runV (As := []) (rest := []) ⟨hx, hb, hml, hown, hts⟩ (c_nextArg l D ca n ad c hn hM hlt _) (cwV 0 hts (gV wm_153 wm_155 ws_1 wm_1 wm_156) rfl rfl rfl (by decide +kernel) ⟨Nat.le_of_ble_eq_true rfl, Nat.le_of_ble_eq_true rfl⟩) (mx_pv (C := RX3) (T := TX3) (N := 9) (ci := 3) hK hP hD hN (by omega : 0 < n) hM.1 rfl) rfl rfl hl.1 rfl (lv_room (Nat.le_of_ble_eq_true rfl)) dX3_number_10 ⟨Nat.zero_le _, Nat.zero_le _⟩) (Nat.le_refl _) hS (fun r1 c1 H locs hw1 hP hS => ?_)
    obtain ⟨hr1, hM1, hs1⟩ := hw1
    refine mx_r (.ref (ad (8 + 2 * ac))) (by rw [hr1]) ?_
    have hTa := hM1.2.2.2.2.2.1 ac hlt
    rw [va_up_self] at hTa
    refine lv_astore_n (lv' := [(3, .ref (ad (8 + 2 * ac))), (0, .ref (ad 0)), (1, .long x)]) hx hb dX3_number_13 rfl hl (by decide) rfl (fun ls hl => ?_)
    refine lv_lload_n hx hb dX3_number_14 rfl (lv_at hl 2 rfl) ?_
    refine lv_lconst (v := 0) hx hb dX3_number_15 (by decide) ?_
    refine W.lcmp hx hb dX3_number_16 ?_
    refine lv_if_ge (tgt := 27) hx hb dX3_number_17 (by decide) (fun hc2 => ?_) (fun hc2 => ?_)
    · skip
      refine lv_aload_n hx hb dX3_number_27 rfl (lv_at hl 0 rfl) ?_
      refine lv_lload_n hx hb dX3_number_28 rfl (lv_at hl 2 rfl) ?_
      refine mx_cv (va_runV (As := [.long x]) (rest := []) ⟨hx, hb, hml, hown, hts⟩ (c_Text_dec l D ca n ad c1 (k := 8 + 2 * ac) (by omega) hTa x (by simp; try omega) _) (cwV 1 hts (gV wm_162 wm_163 wm_164 wm_2 wm_165) rfl rfl rfl (by decide +kernel) ⟨Nat.le_of_ble_eq_true rfl, Nat.le_of_ble_eq_true rfl⟩) (mx_pv (C := RX2) (T := TX2) (N := 2) (ci := 2) hK hP hD hN (by omega : 8 + 2 * ac < n) hTa.cell rfl) rfl rfl hl.1 rfl (lv_room (Nat.le_of_ble_eq_true rfl)) dX3_number_29 ⟨Nat.zero_le _, Nat.zero_le _⟩) (Nat.le_refl _) hS (fun c3 H locs hw3 hP hS => ?_)
      obtain ⟨hs3, hT3⟩ := hw3
      have hT9 : tTx ca ad c3 (8 + 2 * ac) 40 (tNum x) := by unfold tNum; rw [if_neg (Int64.not_lt.mpr ((lg_cmp_ge _ _).mp hc2))]; exact hT3
      have hM3 := hM1.arg hlt (hs3) hT9
      rw [bx_uu] at hM3
      refine lv_aload_n hx hb dX3_number_32 rfl (lv_at hl 1 rfl) ?_
      refine mx_get (ci := 3) (v := .int (nI (ac + 1))) (C := RX3) (T := TX3) (N := 9) hx hb hts inX3 hown hK hP (by omega : 0 < n) hM3.1 rfl 4 (by decide) (hts _ wm_81) (fun _ h9 => h9) rfl dX3_number_33 ?_
      refine lv_iconst (v := 1) hx hb dX3_number_36 (by decide) ?_
      refine lv_isub hx hb dX3_number_37 ?_
      refine mx_i (nI ac) (nI_pred ac) ?_
      exact mx_iret hx hb hr hlocks hP hS (⟨Or.inl ⟨hlt, rfl, hM3⟩, fun j h => ((hs3) j (by omega) (by omega)).trans (hs1 j h)⟩) dX3_number_38
    · skip
      refine lv_aload_n hx hb dX3_number_20 rfl (lv_at hl 0 rfl) ?_
      refine lv_bipush (v := 45) hx hb dX3_number_21 (by decide) ?_
      refine mx_ci (va_runV (As := [.int 45]) (rest := []) ⟨hx, hb, hml, hown, hts⟩ (c_Text_add l D ca n ad c1 (k := 8 + 2 * ac) (by omega) hTa 45 _) (cwV 1 hts (gV wm_161 wm_118 wm_119 wm_2 wm_120) rfl rfl rfl (by decide +kernel) ⟨Nat.le_of_ble_eq_true rfl, Nat.le_of_ble_eq_true rfl⟩) (mx_pv (C := RX2) (T := TX2) (N := 2) (ci := 2) hK hP hD hN (by omega : 8 + 2 * ac < n) hTa.cell rfl) rfl rfl hl.1 rfl (lv_room (Nat.le_of_ble_eq_true rfl)) dX3_number_23 ⟨Nat.zero_le _, Nat.zero_le _⟩) (Nat.le_refl _) hS (fun r2 c2 H locs hw2 hP hS => ?_)
      obtain ⟨-, -, hs2, hT2⟩ := hw2.resolve_right (fun h => absurd h.1 (by decide))
      refine lv_pop hx hb dX3_number_26 rfl ?_
      refine lv_aload_n hx hb dX3_number_27 rfl (lv_at hl 0 rfl) ?_
      refine lv_lload_n hx hb dX3_number_28 rfl (lv_at hl 2 rfl) ?_
      refine mx_cv (va_runV (As := [.long x]) (rest := []) ⟨hx, hb, hml, hown, hts⟩ (c_Text_dec l D ca n ad c2 (k := 8 + 2 * ac) (by omega) hT2 x (by simp; try omega) _) (cwV 1 hts (gV wm_162 wm_163 wm_164 wm_2 wm_165) rfl rfl rfl (by decide +kernel) ⟨Nat.le_of_ble_eq_true rfl, Nat.le_of_ble_eq_true rfl⟩) (mx_pv (C := RX2) (T := TX2) (N := 2) (ci := 2) hK hP hD hN (by omega : 8 + 2 * ac < n) hT2.cell rfl) rfl rfl hl.1 rfl (lv_room (Nat.le_of_ble_eq_true rfl)) dX3_number_29 ⟨Nat.zero_le _, Nat.zero_le _⟩) (Nat.le_refl _) hS (fun c3 H locs hw3 hP hS => ?_)
      obtain ⟨hs3, hT3⟩ := hw3
      have hT9 : tTx ca ad c3 (8 + 2 * ac) 40 (tNum x) := by unfold tNum; rw [if_pos (Int64.not_le.mp (fun h => hc2 ((lg_cmp_ge _ _).mpr h)))]; exact hT3
      have hM3 := hM1.arg hlt (hs2.tr hs3) hT9
      rw [bx_uu] at hM3
      refine lv_aload_n hx hb dX3_number_32 rfl (lv_at hl 1 rfl) ?_
      refine mx_get (ci := 3) (v := .int (nI (ac + 1))) (C := RX3) (T := TX3) (N := 9) hx hb hts inX3 hown hK hP (by omega : 0 < n) hM3.1 rfl 4 (by decide) (hts _ wm_81) (fun _ h9 => h9) rfl dX3_number_33 ?_
      refine lv_iconst (v := 1) hx hb dX3_number_36 (by decide) ?_
      refine lv_isub hx hb dX3_number_37 ?_
      refine mx_i (nI ac) (nI_pred ac) ?_
      exact mx_iret hx hb hr hlocks hP hS (⟨Or.inl ⟨hlt, rfl, hM3⟩, fun j h => ((hs2.tr hs3) j (by omega) (by omega)).trans (hs1 j h)⟩) dX3_number_38
  · skip
    have hge : 20 ≤ ac := by rcases hw with h9 | h9; exact absurd (h9.2.symm.trans hc) (by decide); exact h9.1
    refine lv_iconst (v := (-1)) hx hb dX3_number_7 (by decide) ?_
    exact mx_iret hx hb hr hlocks hP hS (⟨Or.inr ⟨hge, rfl, rfl⟩, fun j h => rfl⟩) dX3_number_8
set_option maxHeartbeats 4000000 in
set_option maxRecDepth 100000 in
/-- clear -/
theorem c_clear (l : Launch) (D : va_G) (ca : Nat → ClassId) (n : Nat) (ad : Nat → Nat) (c : Nat → va_E) {tp pt md dg : List Nat} {ar : Nat → List Nat} {ac tk : Nat} {f : fl4} {w kd bh : Int32} {v : Int64} (hn : 52 ≤ n) (hM : tMF ca ad c tp pt md ar ac tk f w kd bh v dg) : mVoid l yX3_clear wsX3_clear ({ frames := 0, cells := 0, slots := 0, locals := 0 }) [.ref (ad 0)] D (tTY ca) n ad c (fun c' => tMF ca ad c' tp pt md ar 0 tk f w kd bh v dg ∧ ∀ j, 52 ≤ j → c' j = c j) := by
  intro sz
  refine Met.ofW (cc := cX3_clear) (maxL := 1) (ret := none) (by decide) rfl ?_
  intro pg9 ev9 s m args below meth cd s₁ B hml hv
  obtain ⟨rfl, hsz, hP, hK, hD0, hN⟩ := hv
  have hx := B.exec
  have hb := B.bytes
  have hr := B.returns
  have hts := fun (w : Cond) (h : w ∈ WSa) => atoms_spec (ws := wsX3_clear) B.pre w (List.mem_cons_of_mem _ h)
  have hown : s.vm.findClass RX3 = some m.cls := findClass_of_methodNamed B.named
  have hlocks := B.notSynchronized
  subst hsz
  have hD : ∀ c, va_D (fun _ => True) (mw n ad c) := fun c' => mw_D hD0 c'
  have hS : va_S (mA n ad s.heap.size) s.heap s.heap [] := va_S.rf
  have hl := lv_entry ([.ref (ad 0)]) (n := 1) (Nat.le_of_ble_eq_true rfl)
  rw [lg_entry_eq]
  generalize (lg_sl ([.ref (ad 0)]) ++ List.replicate (1 - (lg_sl ([.ref (ad 0)])).length) Slot.unset).toArray = ls at hl ⊢
  have hl : lv_has ls 1 [(0, .ref (ad 0))] := hl
  refine lv_aload_n hx hb dX3_clear_0 rfl (lv_at hl 0 rfl) ?_
  refine lv_iconst (v := 0) hx hb dX3_clear_1 (by decide) ?_
  refine mx_i (nI 0) (nI_0.symm) ?_
  refine mx_put (ci := 3) (v := .int (nI 0)) (ty := .int) (C := RX3) (T := TX3) (N := 9) hx hb hts inX3 tyX3 tyX3_ok nmX3 hown hK hP hD hS (by omega : 0 < n) hM.1 rfl 4 (by decide) (hts _ wm_81) (fun _ h9 => h9) rfl (by decide +kernel) rfl rfl (Nat.le_of_ble_eq_true rfl) dX3_clear_2 (fun H locs hP hS => ?_)
  obtain ⟨c1, ec1⟩ : ∃ z : Nat → va_E, z = va_up c 0 (.inr (3, [.ref (ad 1), .ref (ad 3), .ref (ad 5), .ref (ad 7), .int (nI 0), .int (nI tk), .ref (ad 48), .ref (ad 49), .ref (ad 50)])) := ⟨_, rfl⟩
  have hP : va_P D vwCl (mw n ad c1) H := by rw [ec1]; exact hP
  have hsc1 : ∀ j, j ≠ 0 → c1 j = c j := fun j h => by rw [ec1]; exact va_up_ne _ _ h
  have hcc1 : c1 0 = .inr (3, [.ref (ad 1), .ref (ad 3), .ref (ad 5), .ref (ad 7), .int (nI 0), .int (nI tk), .ref (ad 48), .ref (ad 49), .ref (ad 50)]) := by rw [ec1]; exact va_up_self _ _ _
  exact mx_vret hx hb hr hlocks hP hS (⟨hM.cel hsc1 hcc1 (by omega) hM.2.2.2.2.2.2.2.2.2.2, fun j h => hsc1 j (by omega)⟩) dX3_clear_5
set_option maxHeartbeats 4000000 in
set_option maxRecDepth 100000 in
/-- madeAt -/
theorem c_madeAt (l : Launch) (D : va_G) (ca : Nat → ClassId) (n : Nat) (ad : Nat → Nat) (c : Nat → va_E) {tp pt md dg : List Nat} {ar : Nat → List Nat} {ac tk : Nat} {f : fl4} {w kd bh : Int32} {v : Int64} (hn : 52 ≤ n) (hM : tMF ca ad c tp pt md ar ac tk f w kd bh v dg) (x : Int32) : mInt l yX3_madeAt wsX3_madeAt ({ frames := 1, cells := 0, slots := 0, locals := 21 }) [.ref (ad 0), .int x] D (tTY ca) n ad c (fun r c' => r = tAtI md x ∧ c' = c) := by
  intro sz
  refine Met.ofW (cc := cX3_madeAt) (maxL := 2) (ret := (some .int)) (by decide) rfl ?_
  intro pg9 ev9 s m args below meth cd s₁ B hml hv
  obtain ⟨rfl, hsz, hP, hK, hD0, hN⟩ := hv
  have hx := B.exec
  have hb := B.bytes
  have hr := B.returns
  have hts := fun (w : Cond) (h : w ∈ WSa) => atoms_spec (ws := wsX3_madeAt) B.pre w (List.mem_cons_of_mem _ h)
  have hown : s.vm.findClass RX3 = some m.cls := findClass_of_methodNamed B.named
  have hlocks := B.notSynchronized
  subst hsz
  have hD : ∀ c, va_D (fun _ => True) (mw n ad c) := fun c' => mw_D hD0 c'
  have hS : va_S (mA n ad s.heap.size) s.heap s.heap [] := va_S.rf
  have hl := lv_entry ([.ref (ad 0), .int x]) (n := 2) (Nat.le_of_ble_eq_true rfl)
  rw [lg_entry_eq]
  generalize (lg_sl ([.ref (ad 0), .int x]) ++ List.replicate (2 - (lg_sl ([.ref (ad 0), .int x])).length) Slot.unset).toArray = ls at hl ⊢
  have hl : lv_has ls 2 [(0, .ref (ad 0)), (1, .int x)] := hl
  refine lv_aload_n hx hb dX3_madeAt_0 rfl (lv_at hl 0 rfl) ?_
  refine mx_get (ci := 3) (v := .ref (ad 5)) (C := RX3) (T := TX3) (N := 9) hx hb hts inX3 hown hK hP (by omega : 0 < n) hM.1 rfl 2 (by decide) (hts _ wm_79) (fun _ h9 => h9) rfl dX3_madeAt_1 ?_
  refine lv_iload_n hx hb dX3_madeAt_4 rfl (lv_at hl 1 rfl) ?_
  refine mx_ci (va_runV (As := [.int x]) (rest := []) ⟨hx, hb, hml, hown, hts⟩ (c_Text_at l D ca n ad c (k := 5) (by omega) hM.2.2.2.1 x _) (cwV 1 hts (gV wm_179 wm_142 wm_143 wm_2 wm_144) rfl rfl rfl (by decide +kernel) ⟨Nat.le_of_ble_eq_true rfl, Nat.le_of_ble_eq_true rfl⟩) (mx_pv (C := RX2) (T := TX2) (N := 2) (ci := 2) hK hP hD hN (by omega : 5 < n) hM.2.2.2.1.cell rfl) rfl rfl hl.1 rfl (lv_room (Nat.le_of_ble_eq_true rfl)) dX3_madeAt_5 ⟨Nat.zero_le _, Nat.zero_le _⟩) (Nat.le_refl _) hS (fun r c1 H locs hw hP hS => ?_)
  exact mx_iret hx hb hr hlocks hP hS (hw) dX3_madeAt_8
