set_option maxHeartbeats 4000000 in
set_option maxRecDepth 100000 in
/-- make() -/
theorem c_makeR (l : Launch) (D : va_G) (ca : Nat → ClassId) (n : Nat) (ad : Nat → Nat) (c : Nat → va_E) {tp pt md : List Nat} {ar : Nat → List Nat} {ac : Nat} {x4 x5 x6 x7 : Int32} {f : fl4} {x12 : Int32} {v : Int64} (hn : 59 ≤ n) (hM : tRF ca ad c tp pt md ar ac x4 x5 x6 x7 f x12 v) : mInt l yX4_make wsX4_make ({ frames := 4, cells := 0, slots := 0, locals := 96 }) [.ref (ad 52)] D (tTY ca) n ad c (fun r c' => r = (mkF ar ac (pt.length + 1) pt 0 []).1 ∧ tRS ca ad c' tp pt (mkF ar ac (pt.length + 1) pt 0 []).2 ar ac ∧ ∀ j, j < 52 → c' j = c j) := by
  intro sz
  refine Met.ofW (cc := cX4_make) (maxL := 4) (ret := (some .int)) (by decide) rfl ?_
  intro pg9 ev9 s m args below meth cd s₁ B hml hv
  obtain ⟨rfl, hsz, hP, hK, hD0, hN⟩ := hv
  have hx := B.exec
  have hb := B.bytes
  have hr := B.returns
  have hts := fun (w : Cond) (h : w ∈ WSa) => atoms_spec (ws := wsX4_make) B.pre w (List.mem_cons_of_mem _ h)
  have hown : s.vm.findClass RX4 = some m.cls := findClass_of_methodNamed B.named
  have hlocks := B.notSynchronized
  subst hsz
  have hD : ∀ c, va_D (fun _ => True) (mw n ad c) := fun c' => mw_D hD0 c'
  have hS : va_S (mA n ad s.heap.size) s.heap s.heap [] := va_S.rf
  have hl := lv_entry ([.ref (ad 52)]) (n := 4) (Nat.le_of_ble_eq_true rfl)
  rw [lg_entry_eq]
  generalize (lg_sl ([.ref (ad 52)]) ++ List.replicate (4 - (lg_sl ([.ref (ad 52)])).length) Slot.unset).toArray = ls at hl ⊢
  have hl : lv_has ls 4 [(0, .ref (ad 52))] := hl
  obtain ⟨hO, h53, h54, hW, h56, ⟨f8, h58⟩, hac⟩ := id hM
  have hle4 := h54.le
  rw [Nat.zero_add] at hle4
  have hb3 := h54.b8
  generalize hRR : mkF ar ac (pt.length + 1) pt 0 [] = RR
  have stE : ∀ (wr : Int32) (cu : List Nat) (y5 y6 y7 : Int32) (f1 : fl4) (y12 : Int32) (v1 : Int64) (c1 : Nat → va_E) (H : Heap) (locs : List Loc) (ls : Array Slot), (wr = 0 → RR = (nI cu.length, cu)) → (¬ wr = 0 → RR = (wr, [])) → (c1 52 = rO ad (nI tp.length) (nI pt.length) (nI ac) (nI ([] : List Nat).length) (nI cu.length) y5 y6 y7 (bI f1.1) (bI f1.2.1) (bI f1.2.2.1) (bI f1.2.2.2) y12 v1) → (tB ca c1 56 1024 0 cu) → (tWd ca c1 ar ac) → (∃ f1, c1 58 = .inl (ca 2, 72, .inl f1)) → (∀ j, j ≠ 52 → j ≠ 55 → j ≠ 56 → j ≠ 57 → j ≠ 58 → c1 j = c j) → va_P D vwCl (mw n ad c1) H → va_S (mA n ad s.heap.size) s.heap H locs → lv_has ls 4 [(2, .int wr), (0, .ref (ad 52))] → W pg9 l ev9 (headSpec wsX4_make ({ frames := 4, cells := 0, slots := 0, locals := 96 })).room s m ([.ref (ad 52)] : List Value).toArray below meth cd H locs 0 0 (MQ below (va_Qi (fun r c' => r = RR.1 ∧ tRS ca ad c' tp pt RR.2 ar ac ∧ ∀ j, j < 52 → c' j = c j) (mW D n ad) (mA n ad s.heap.size)) ([.ref (ad 52)] : List Value).toArray s 0 0 (mA n ad s.heap.size)) (F0 m 131 ls []) := by
    intro wr cu y5 y6 y7 f1 y12 v1 c1 H locs ls hT hF hO1 hB1 hW1 h581 hs1 hP hS hl
    refine lv_aload_n hx hb dX4_make_131 rfl (lv_at hl 1 rfl) ?_
    suffices hj144 : W pg9 l ev9 (headSpec wsX4_make ({ frames := 4, cells := 0, slots := 0, locals := 96 })).room s m ([.ref (ad 52)] : List Value).toArray below meth cd H locs 0 0 (MQ below (va_Qi (fun r c' => r = RR.1 ∧ tRS ca ad c' tp pt RR.2 ar ac ∧ ∀ j, j < 52 → c' j = c j) (mW D n ad) (mA n ad s.heap.size)) ([.ref (ad 52)] : List Value).toArray s 0 0 (mA n ad s.heap.size)) (F0 m 144 ls [.int (nI RR.2.length), .ref (ad 52)]) by
      refine lv_iload_n hx hb dX4_make_132 rfl (lv_at hl 0 rfl) ?_
      refine lv_if_ne (tgt := 143) hx hb dX4_make_133 (by decide) (fun hc1 => ?_) (fun hc1 => ?_)
      · skip
        refine lv_iconst (v := 0) hx hb dX4_make_143 (by decide) ?_
        refine mx_i (nI RR.2.length) (by rw [hF hc1]; rfl) ?_
        exact hj144
      · skip
        refine lv_aload_n hx hb dX4_make_136 rfl (lv_at hl 1 rfl) ?_
        refine mx_get (ci := 4) (v := .int (nI cu.length)) (C := RX4) (T := TX4) (N := 20) hx hb hts inX4 hown hK hP (by omega : 52 < n) hO1 rfl 8 (by decide) (hts _ wm_276) (fun _ h9 => h9) rfl dX4_make_137 ?_
        refine lv_goto (tgt := 144) hx hb dX4_make_140 (by decide) ?_
        refine mx_i (nI RR.2.length) (by rw [hT hc1]) ?_
        exact hj144
    refine mx_put (ci := 4) (v := .int (nI RR.2.length)) (ty := .int) (C := RX4) (T := TX4) (N := 20) hx hb hts inX4 tyX4 tyX4_ok nmX4 hown hK hP hD hS (by omega : 52 < n) hO1 rfl 7 (by decide) (hts _ wm_275) (fun _ h9 => h9) rfl (by decide +kernel) rfl rfl (Nat.le_of_ble_eq_true rfl) dX4_make_144 (fun H locs hP hS => ?_)
    obtain ⟨c2, ec2⟩ : ∃ z : Nat → va_E, z = va_up c1 52 (.inr (4, [.ref (ad 53), .ref (ad 54), .ref (ad 55), .ref (ad 56), .int (nI tp.length), .int (nI pt.length), .int (nI ac), .int (nI RR.2.length), .int (nI cu.length), .ref (ad 57), .int y5, .int y6, .int y7, .int (bI f1.1), .int (bI f1.2.1), .int (bI f1.2.2.1), .int (bI f1.2.2.2), .ref (ad 58), .int y12, .long v1])) := ⟨_, rfl⟩
    have hP : va_P D vwCl (mw n ad c2) H := by rw [ec2]; exact hP
    have hsc2 : ∀ j, j ≠ 52 → c2 j = c1 j := fun j h => by rw [ec2]; exact va_up_ne _ _ h
    have hcc2 : c2 52 = .inr (4, [.ref (ad 53), .ref (ad 54), .ref (ad 55), .ref (ad 56), .int (nI tp.length), .int (nI pt.length), .int (nI ac), .int (nI RR.2.length), .int (nI cu.length), .ref (ad 57), .int y5, .int y6, .int y7, .int (bI f1.1), .int (bI f1.2.1), .int (bI f1.2.2.1), .int (bI f1.2.2.2), .ref (ad 58), .int y12, .long v1]) := by rw [ec2]; exact va_up_self _ _ _
    suffices hj159 : W pg9 l ev9 (headSpec wsX4_make ({ frames := 4, cells := 0, slots := 0, locals := 96 })).room s m ([.ref (ad 52)] : List Value).toArray below meth cd H locs 0 0 (MQ below (va_Qi (fun r c' => r = RR.1 ∧ tRS ca ad c' tp pt RR.2 ar ac ∧ ∀ j, j < 52 → c' j = c j) (mW D n ad) (mA n ad s.heap.size)) ([.ref (ad 52)] : List Value).toArray s 0 0 (mA n ad s.heap.size)) (F0 m 159 ls [.int RR.1]) by
      refine lv_iload_n hx hb dX4_make_147 rfl (lv_at hl 0 rfl) ?_
      refine lv_if_ne (tgt := 158) hx hb dX4_make_148 (by decide) (fun hc1 => ?_) (fun hc1 => ?_)
      · skip
        refine lv_iload_n hx hb dX4_make_158 rfl (lv_at hl 0 rfl) ?_
        refine mx_i (RR.1) (by rw [hF hc1]) ?_
        exact hj159
      · skip
        refine lv_aload_n hx hb dX4_make_151 rfl (lv_at hl 1 rfl) ?_
        refine mx_get (ci := 4) (v := .int (nI cu.length)) (C := RX4) (T := TX4) (N := 20) hx hb hts inX4 hown hK hP (by omega : 52 < n) hcc2 rfl 8 (by decide) (hts _ wm_276) (fun _ h9 => h9) rfl dX4_make_152 ?_
        refine lv_goto (tgt := 159) hx hb dX4_make_155 (by decide) ?_
        refine mx_i (RR.1) (by rw [hT hc1]) ?_
        exact hj159
    have hRB : tB ca c2 56 1024 0 RR.2 := by
      have h9 := hB1.keep (hsc2 56 (by omega))
      by_cases h0 : wr = 0
      · rw [hT h0]; exact h9
      · rw [hF h0]
        obtain ⟨q1, q2, q3, q4, q5, q6⟩ := h9
        exact tB.nil q5 (by omega) q2
    have hs3 : ∀ j, j ≠ 52 → j ≠ 55 → j ≠ 56 → j ≠ 57 → j ≠ 58 → c2 j = c j := fun j h1 h2 h3 h4 h5 => (hsc2 j h1).trans (hs1 j h1 h2 h3 h4 h5)
    obtain ⟨f9, h9⟩ := h581
    exact mx_iret hx hb hr hlocks hP hS (⟨rfl, tRF.rs ⟨hcc2, h53.keep (hs3 53 (by omega) (by omega) (by omega) (by omega) (by omega)), h54.keep (hs3 54 (by omega) (by omega) (by omega) (by omega) (by omega)), hW1.keep (hsc2 55 (by omega)) (hsc2 57 (by omega)), hRB, ⟨_, (hsc2 58 (by omega)).trans h9⟩, hac⟩, fun j h => hs3 j (by omega) (by omega) (by omega) (by omega) (by omega)⟩) dX4_make_159
  have stW : ∀ (wr : Int32) (cu : List Nat) (y5 y6 y7 : Int32) (f1 : fl4) (y12 : Int32) (v1 : Int64) (c1 : Nat → va_E) (H : Heap) (locs : List Loc) (ls : Array Slot), (¬ wr = 0) → (RR = (wr, [])) → (c1 52 = rO ad (nI tp.length) (nI pt.length) (nI ac) (nI ([] : List Nat).length) (nI cu.length) y5 y6 y7 (bI f1.1) (bI f1.2.1) (bI f1.2.2.1) (bI f1.2.2.2) y12 v1) → (tB ca c1 56 1024 0 cu) → (tWd ca c1 ar ac) → (∃ f1, c1 58 = .inl (ca 2, 72, .inl f1)) → (∀ j, j ≠ 52 → j ≠ 55 → j ≠ 56 → j ≠ 57 → j ≠ 58 → c1 j = c j) → va_P D vwCl (mw n ad c1) H → va_S (mA n ad s.heap.size) s.heap H locs → lv_has ls 4 [(2, .int wr), (0, .ref (ad 52))] → W pg9 l ev9 (headSpec wsX4_make ({ frames := 4, cells := 0, slots := 0, locals := 96 })).room s m ([.ref (ad 52)] : List Value).toArray below meth cd H locs 0 0 (MQ below (va_Qi (fun r c' => r = RR.1 ∧ tRS ca ad c' tp pt RR.2 ar ac ∧ ∀ j, j < 52 → c' j = c j) (mW D n ad) (mA n ad s.heap.size)) ([.ref (ad 52)] : List Value).toArray s 0 0 (mA n ad s.heap.size)) (F0 m 19 ls []) := by
    intro wr cu y5 y6 y7 f1 y12 v1 c1 H locs ls hw0 hRw hO1 hB1 hW1 h581 hs1 hP hS hl
    refine lv_aload_n hx hb dX4_make_19 rfl (lv_at hl 1 rfl) ?_
    refine mx_get (ci := 4) (v := .int y5) (C := RX4) (T := TX4) (N := 20) hx hb hts inX4 hown hK hP (by omega : 52 < n) hO1 rfl 10 (by decide) (hts _ wm_278) (fun _ h9 => h9) rfl dX4_make_20 ?_
    refine lv_aload_n hx hb dX4_make_23 rfl (lv_at hl 1 rfl) ?_
    refine mx_get (ci := 4) (v := .int (nI pt.length)) (C := RX4) (T := TX4) (N := 20) hx hb hts inX4 hown hK hP (by omega : 52 < n) hO1 rfl 5 (by decide) (hts _ wm_273) (fun _ h9 => h9) rfl dX4_make_24 ?_
    refine lv_icmp_ge (tgt := 131) hx hb dX4_make_27 (by decide) (fun hc1 => ?_) (fun hc1 => ?_)
    · skip
      exact stE wr cu y5 y6 y7 f1 y12 v1 c1 H locs ls (fun h => absurd h hw0) (fun _ => hRw) hO1 hB1 hW1 h581 hs1 hP hS (lv_sub hl [0, 1] rfl)
    · skip
      refine lv_iload_n hx hb dX4_make_30 rfl (lv_at hl 0 rfl) ?_
      refine lv_if_ne (tgt := 131) hx hb dX4_make_31 (by decide) (fun hc2 => ?_) (fun hc2 => ?_)
      · skip
        exact stE wr cu y5 y6 y7 f1 y12 v1 c1 H locs ls (fun h => absurd h hw0) (fun _ => hRw) hO1 hB1 hW1 h581 hs1 hP hS (lv_sub hl [0, 1] rfl)
      · skip
        exact absurd hc2 hw0
  have loop : ∀ (q1 : Nat) (i : Nat) (tk : Nat) (cu : List Nat) (y6 : Int32) (y7 : Int32) (f1 : fl4) (y12 : Int32) (v1 : Int64) (c1 : Nat → va_E) (H : Heap) (locs : List Loc) (ls : Array Slot), (i ≤ pt.length) → (tk ≤ i) → (pt.length < i + q1) → (RR = mkF ar ac q1 (pt.drop i) tk cu) → (c1 52 = rO ad (nI tp.length) (nI pt.length) (nI ac) (nI ([] : List Nat).length) (nI cu.length) (nI i) y6 y7 (bI f1.1) (bI f1.2.1) (bI f1.2.2.1) (bI f1.2.2.2) y12 v1) → (tB ca c1 56 1024 0 cu) → (tWd ca c1 ar ac) → (∃ f1, c1 58 = .inl (ca 2, 72, .inl f1)) → (∀ j, j ≠ 52 → j ≠ 55 → j ≠ 56 → j ≠ 57 → j ≠ 58 → c1 j = c j) → va_P D vwCl (mw n ad c1) H → va_S (mA n ad s.heap.size) s.heap H locs → lv_has ls 4 [(1, .int (nI tk)), (2, .int 0), (0, .ref (ad 52))] → W pg9 l ev9 (headSpec wsX4_make ({ frames := 4, cells := 0, slots := 0, locals := 96 })).room s m ([.ref (ad 52)] : List Value).toArray below meth cd H locs 0 0 (MQ below (va_Qi (fun r c' => r = RR.1 ∧ tRS ca ad c' tp pt RR.2 ar ac ∧ ∀ j, j < 52 → c' j = c j) (mW D n ad) (mA n ad s.heap.size)) ([.ref (ad 52)] : List Value).toArray s 0 0 (mA n ad s.heap.size)) (F0 m 19 ls []) := by
    intro q1
    induction q1 with
    | zero => intro i tk cu y6 y7 f1 y12 v1 c1 H locs ls hi hti hq heq hO1 hB1 hW1 h581 hs1 hP hS hl; omega
    | succ q1 ih =>
      intro i tk cu y6 y7 f1 y12 v1 c1 H locs ls hi hti hq heq hO1 hB1 hW1 h581 hs1 hP hS hl
      have h541 := h54.keep (hs1 54 (by omega) (by omega) (by omega) (by omega) (by omega))
      obtain ⟨-, -, -, g4, hk4, hg4⟩ := id h541
      have hle6 := hB1.le
      rw [Nat.zero_add] at hle6
      refine lv_aload_n hx hb dX4_make_19 rfl (lv_at hl 2 rfl) ?_
      refine mx_get (ci := 4) (v := .int (nI i)) (C := RX4) (T := TX4) (N := 20) hx hb hts inX4 hown hK hP (by omega : 52 < n) hO1 rfl 10 (by decide) (hts _ wm_278) (fun _ h9 => h9) rfl dX4_make_20 ?_
      refine lv_aload_n hx hb dX4_make_23 rfl (lv_at hl 2 rfl) ?_
      refine mx_get (ci := 4) (v := .int (nI pt.length)) (C := RX4) (T := TX4) (N := 20) hx hb hts inX4 hown hK hP (by omega : 52 < n) hO1 rfl 5 (by decide) (hts _ wm_273) (fun _ h9 => h9) rfl dX4_make_24 ?_
      refine lv_icmp_ge (tgt := 131) hx hb dX4_make_27 (by decide) (fun hc1 => ?_) (fun hc1 => ?_)
      · skip
        have hge : pt.length ≤ i := (nI_leI (by omega) (by omega)).mp hc1
        exact stE 0 cu (nI i) y6 y7 f1 y12 v1 c1 H locs ls (fun _ => by rw [heq, dr_nil hge]; rfl) (fun h => absurd rfl h) hO1 hB1 hW1 h581 hs1 hP hS (lv_sub hl [1, 2] rfl)
      · skip
        have hlt : i < pt.length := by have := (not_congr (nI_leI (a := pt.length) (b := i) (by omega) (by omega))).mp hc1; omega
        have hb8 : pt.getD i 0 < 256 := hb3 _ (gD_mem hlt)
        rw [dr_cons hlt] at heq
        refine lv_iload_n hx hb dX4_make_30 rfl (lv_at hl 1 rfl) ?_
        refine lv_if_ne (tgt := 131) hx hb dX4_make_31 (by decide) (fun hc2 => ?_) (fun hc2 => ?_)
        · skip
          exact absurd rfl hc2
        · skip
          refine lv_aload_n hx hb dX4_make_34 rfl (lv_at hl 2 rfl) ?_
          refine mx_get (ci := 4) (v := .ref (ad 54)) (C := RX4) (T := TX4) (N := 20) hx hb hts inX4 hown hK hP (by omega : 52 < n) hO1 rfl 1 (by decide) (hts _ wm_269) (fun _ h9 => h9) rfl dX4_make_35 ?_
          refine lv_aload_n hx hb dX4_make_38 rfl (lv_at hl 2 rfl) ?_
          refine mx_get (ci := 4) (v := .int (nI i)) (C := RX4) (T := TX4) (N := 20) hx hb hts inX4 hown hK hP (by omega : 52 < n) hO1 rfl 10 (by decide) (hts _ wm_278) (fun _ h9 => h9) rfl dX4_make_39 ?_
          refine mx_bald hx hb hK hP (by omega : 54 < n) 2 hk4 rfl (vp_in_nI (by omega) (by omega)) dX4_make_42 ?_
          refine mx_i (sB (pt.getD i 0)) (by rw [nI_clamp (by omega)]; have h9 := hg4 i hlt; rw [Nat.zero_add] at h9; exact h9) ?_
          refine lv_istore_n (lv' := [(3, .int (sB (pt.getD i 0))), (1, .int (nI tk)), (2, .int 0), (0, .ref (ad 52))]) hx hb dX4_make_43 rfl hl (by decide) rfl (fun ls hl => ?_)
          refine lv_aload_n hx hb dX4_make_44 rfl (lv_at hl 3 rfl) ?_
          refine lv_dup hx hb dX4_make_45 rfl ?_
          refine mx_get (ci := 4) (v := .int (nI i)) (C := RX4) (T := TX4) (N := 20) hx hb hts inX4 hown hK hP (by omega : 52 < n) hO1 rfl 10 (by decide) (hts _ wm_278) (fun _ h9 => h9) rfl dX4_make_46 ?_
          refine lv_iconst (v := 1) hx hb dX4_make_49 (by decide) ?_
          refine lv_iadd hx hb dX4_make_50 ?_
          refine mx_i (nI (i + 1)) (nI_1 i) ?_
          refine mx_put (ci := 4) (v := .int (nI (i + 1))) (ty := .int) (C := RX4) (T := TX4) (N := 20) hx hb hts inX4 tyX4 tyX4_ok nmX4 hown hK hP hD hS (by omega : 52 < n) hO1 rfl 10 (by decide) (hts _ wm_278) (fun _ h9 => h9) rfl (by decide +kernel) rfl rfl (Nat.le_of_ble_eq_true rfl) dX4_make_51 (fun H locs hP hS => ?_)
          obtain ⟨c2, ec2⟩ : ∃ z : Nat → va_E, z = va_up c1 52 (.inr (4, [.ref (ad 53), .ref (ad 54), .ref (ad 55), .ref (ad 56), .int (nI tp.length), .int (nI pt.length), .int (nI ac), .int (nI ([] : List Nat).length), .int (nI cu.length), .ref (ad 57), .int (nI (i + 1)), .int y6, .int y7, .int (bI f1.1), .int (bI f1.2.1), .int (bI f1.2.2.1), .int (bI f1.2.2.2), .ref (ad 58), .int y12, .long v1])) := ⟨_, rfl⟩
          have hP : va_P D vwCl (mw n ad c2) H := by rw [ec2]; exact hP
          have hsc2 : ∀ j, j ≠ 52 → c2 j = c1 j := fun j h => by rw [ec2]; exact va_up_ne _ _ h
          have hcc2 : c2 52 = .inr (4, [.ref (ad 53), .ref (ad 54), .ref (ad 55), .ref (ad 56), .int (nI tp.length), .int (nI pt.length), .int (nI ac), .int (nI ([] : List Nat).length), .int (nI cu.length), .ref (ad 57), .int (nI (i + 1)), .int y6, .int y7, .int (bI f1.1), .int (bI f1.2.1), .int (bI f1.2.2.1), .int (bI f1.2.2.2), .ref (ad 58), .int y12, .long v1]) := by rw [ec2]; exact va_up_self _ _ _
          have hB2 := hB1.keep (hsc2 56 (by omega))
          have hW2 := hW1.keep (hsc2 55 (by omega)) (hsc2 57 (by omega))
          obtain ⟨f82, h582⟩ : ∃ f1, c2 58 = .inl (ca 2, 72, .inl f1) := by obtain ⟨f9, h9⟩ := h581; exact ⟨f9, (hsc2 58 (by omega)).trans h9⟩
          have hs2 : ∀ j, j ≠ 52 → j ≠ 55 → j ≠ 56 → j ≠ 57 → j ≠ 58 → c2 j = c j := fun j h1 h2 h3 h4 h5 => (hsc2 j h1).trans (hs1 j h1 h2 h3 h4 h5)
          have h542 := h54.keep (hs2 54 (by omega) (by omega) (by omega) (by omega) (by omega))
          refine lv_iload_n hx hb dX4_make_54 rfl (lv_at hl 0 rfl) ?_
          refine lv_bipush (v := 37) hx hb dX4_make_55 (by decide) ?_
          refine lv_icmp_eq (tgt := 78) hx hb dX4_make_57 (by decide) (fun hc3 => ?_) (fun hc3 => ?_)
          · skip
            have hx37 : pt.getD i 0 = 37 := (sB_iff hb8 (k := 37) (by decide)).mp hc3
            refine lv_aload_n hx hb dX4_make_78 rfl (lv_at hl 3 rfl) ?_
            refine mx_ci (va_runV (As := []) (rest := []) ⟨hx, hb, hml, hown, hts⟩ (c_readPlace l D ca n ad c2 hn (i0 := i + 1) hcc2 h542 rfl (by omega) _) (cwV 0 hts (gV wm_379 wm_381 ws_16 wm_5 wm_382) rfl rfl rfl (by decide +kernel) ⟨Nat.le_of_ble_eq_true rfl, Nat.le_of_ble_eq_true rfl⟩) (mx_pv (C := RX4) (T := TX4) (N := 20) (ci := 4) hK hP hD hN (by omega : 52 < n) hcc2 rfl) rfl rfl hl.1 rfl (lv_room (Nat.le_of_ble_eq_true rfl)) dX4_make_79 ⟨Nat.zero_le _, Nat.zero_le _⟩) (Nat.le_refl _) hS (fun r3 c3 H locs hw3 hP hS => ?_)
            obtain ⟨i2, kd, hi2, hd2, hO3, hs3, hkd, hw3⟩ := hw3
            have h2i : i + 1 ≤ i2 := by
              have h9 := congrArg List.length hd2
              have h8 := pPlace_le (pt.drop (i + 1))
              rw [List.length_drop] at h9 h8
              omega
            have hB3 := hB2.keep (hs3 56 (by omega))
            have hW3 := hW2.keep (hs3 55 (by omega)) (hs3 57 (by omega))
            have h583 := (hs3 58 (by omega)).trans h582
            have hs4 : ∀ j, j ≠ 52 → j ≠ 55 → j ≠ 56 → j ≠ 57 → j ≠ 58 → c3 j = c j := fun j h1 h2 h3 h4 h5 => (hs3 j h1).trans (hs2 j h1 h2 h3 h4 h5)
            refine lv_if_ne (tgt := 91) hx hb dX4_make_82 (by decide) (fun hc4 => ?_) (fun hc4 => ?_)
            · skip
              obtain ⟨h2lt, hkk, -⟩ := hw3.resolve_right (fun h => hc4 h.2)
              rw [mkF_plc hx37 (by rw [← hd2]; exact dr_cons h2lt) hkk] at heq
              obtain ⟨kb, hkb⟩ : ∃ kb, pt.getD i2 0 = kb := ⟨_, rfl⟩
              rw [hkb] at heq hkk
              have hk128 := isKd_lt hkk
              have hkn : kd = nI kb := by rw [hkd h2lt, hkb]; exact sB_lo kb hk128
              rw [hkn] at hO3
              refine lv_aload_n hx hb dX4_make_91 rfl (lv_at hl 3 rfl) ?_
              refine mx_get (ci := 4) (v := .int (nI kb)) (C := RX4) (T := TX4) (N := 20) hx hb hts inX4 hown hK hP (by omega : 52 < n) hO3 rfl 12 (by decide) (hts _ wm_280) (fun _ h9 => h9) rfl dX4_make_92 ?_
              refine lv_bipush (v := 37) hx hb dX4_make_95 (by decide) ?_
              refine lv_icmp_ne (tgt := 119) hx hb dX4_make_97 (by decide) (fun hc5 => ?_) (fun hc5 => ?_)
              · skip
                have hk37 : kb ≠ 37 := fun h => hc5 (by rw [h]; rfl)
                refine lv_aload_n hx hb dX4_make_119 rfl (lv_at hl 3 rfl) ?_
                refine lv_iload_n hx hb dX4_make_120 rfl (lv_at hl 1 rfl) ?_
                refine mx_ci (va_runV (As := [.int (nI tk)]) (rest := []) ⟨hx, hb, hml, hown, hts⟩ (c_filled l D ca n ad c3 hn hO3 hB3 rfl (pWid_lt _ _ (by omega)) hW3 hac h583 hk128 hkk hk37 tk (by omega) _) (cwV 1 hts (gV wm_388 wm_390 ws_18 wm_5 wm_391) rfl rfl rfl (by decide +kernel) ⟨Nat.le_of_ble_eq_true rfl, Nat.le_of_ble_eq_true rfl⟩) (mx_pv (C := RX4) (T := TX4) (N := 20) (ci := 4) hK hP hD hN (by omega : 52 < n) hO3 rfl) rfl rfl hl.1 rfl (lv_room (Nat.le_of_ble_eq_true rfl)) dX4_make_121 ⟨Nat.zero_le _, Nat.zero_le _⟩) (Nat.le_refl _) hS (fun r5 c4 H locs hw5 hP hS => ?_)
                obtain ⟨cu5, y125, v5, hO5, hB5, hW5, h585, hs5, hw5⟩ := hw5
                refine lv_istore_n (lv' := [(2, .int r5), (3, .int (sB (pt.getD i 0))), (1, .int (nI tk)), (0, .ref (ad 52))]) hx hb dX4_make_124 rfl hl (by decide) rfl (fun ls hl => ?_)
                refine lv_iinc (v := nI (tk + 1)) (lv' := [(1, .int (nI (tk + 1))), (2, .int r5), (3, .int (sB (pt.getD i 0))), (0, .ref (ad 52))]) hx hb dX4_make_125 hl (k := 2) rfl (nI_1 tk) (by decide) rfl (fun ls hl => ?_)
                have hs6 : ∀ j, j ≠ 52 → j ≠ 55 → j ≠ 56 → j ≠ 57 → j ≠ 58 → c4 j = c j := fun j h1 h2 h3 h4 h5 => (hs5 j h1 h3 h5).trans (hs4 j h1 h2 h3 h4 h5)
                refine lv_goto (tgt := 19) hx hb dX4_make_128 (by decide) ?_
                by_cases hr5 : r5 = 0
                · skip
                  obtain ⟨e1, e2, -, e4⟩ := hw5.resolve_right (fun h => by
                    rcases h with ⟨-, -, h⟩ | ⟨h1, h⟩
                    · rw [h] at hr5; exact absurd hr5 (by decide)
                    · exact h1 (by rw [← h]; exact hr5))
                  rw [if_pos e1, if_pos e2, pcs_tk hk37 e1, ← e4] at heq
                  exact ih (i2 + 1) (tk + 1) _ _ _ _ _ _ c4 H locs ls (by omega) (by omega) (by omega) heq hO5 hB5 hW5 h585 hs6 hP hS (by have h9 := (lv_sub hl [0, 1, 3] rfl); rw [hr5] at h9; exact h9)
                · skip
                  have hfl : RR = (r5, []) := by
                    rcases hw5 with ⟨-, -, h, -⟩ | ⟨e1, e2, h⟩ | ⟨e1, h⟩
                    · exact absurd h hr5
                    · rw [heq, if_pos e1, if_neg e2, h]
                    · rw [heq, if_neg e1, h]
                  exact stW r5 _ _ _ _ _ _ _ c4 H locs ls hr5 hfl hO5 hB5 hW5 h585 hs6 hP hS (lv_sub hl [1, 3] rfl)
              · skip
                have hpc : pcs ar ac tk (pPlace (pt.drop (i + 1))).1 (pPlace (pt.drop (i + 1))).2.1 (nI kb) = (0, [37], tk) := if_pos hc5
                rw [hpc, if_pos rfl] at heq
                refine lv_aload_n hx hb dX4_make_100 rfl (lv_at hl 3 rfl) ?_
                refine lv_bipush (v := 37) hx hb dX4_make_101 (by decide) ?_
                refine mx_ci (va_runV (As := [.int 37]) (rest := []) ⟨hx, hb, hml, hown, hts⟩ (c_put l D ca n ad c3 hn hO3 hB3 rfl 37 _) (cwV 1 hts (gV wm_375 wm_377 ws_15 wm_5 wm_378) rfl rfl rfl (by decide +kernel) ⟨Nat.le_of_ble_eq_true rfl, Nat.le_of_ble_eq_true rfl⟩) (mx_pv (C := RX4) (T := TX4) (N := 20) (ci := 4) hK hP hD hN (by omega : 52 < n) hO3 rfl) rfl rfl hl.1 rfl (lv_room (Nat.le_of_ble_eq_true rfl)) dX4_make_103 ⟨Nat.zero_le _, Nat.zero_le _⟩) (Nat.le_refl _) hS (fun r3 c4 H locs hw3x hP hS => ?_)
                have hs9 := hs3
                clear hw3
                have hw3 := hw3x
                refine lv_if_eq (tgt := 113) hx hb dX4_make_106 (by decide) (fun hc4 => ?_) (fun hc4 => ?_)
                · skip
                  obtain ⟨h1, -, hcE⟩ := hw3.resolve_left (fun h => by rw [h.2.1] at hc4; exact absurd hc4 (by decide))
                  rw [hcE] at hP
                  rw [if_neg (by simp; omega)] at heq
                  refine lv_bipush (v := (-5)) hx hb dX4_make_113 (by decide) ?_
                  refine lv_istore_n (lv' := [(2, .int ((-5))), (3, .int (sB (pt.getD i 0))), (1, .int (nI tk)), (0, .ref (ad 52))]) hx hb dX4_make_115 rfl hl (by decide) rfl (fun ls hl => ?_)
                  refine lv_goto (tgt := 128) hx hb dX4_make_116 (by decide) ?_
                  refine lv_goto (tgt := 19) hx hb dX4_make_128 (by decide) ?_
                  exact stW (-5) cu _ _ _ _ _ _ c3 H locs ls (by decide) heq hO3 hB3 hW3 ⟨_, h583⟩ hs4 hP hS (lv_sub hl [0, 3] rfl)
                · skip
                  obtain ⟨h1, -, hO3, hB3, hs3⟩ := hw3.resolve_right (fun h => hc4 h.2.1)
                  rw [if_pos (by simp; omega)] at heq
                  refine lv_iconst (v := 0) hx hb dX4_make_109 (by decide) ?_
                  refine lv_goto (tgt := 115) hx hb dX4_make_110 (by decide) ?_
                  refine lv_istore_n (lv' := [(2, .int 0), (3, .int (sB (pt.getD i 0))), (1, .int (nI tk)), (0, .ref (ad 52))]) hx hb dX4_make_115 rfl hl (by decide) rfl (fun ls hl => ?_)
                  refine lv_goto (tgt := 128) hx hb dX4_make_116 (by decide) ?_
                  refine lv_goto (tgt := 19) hx hb dX4_make_128 (by decide) ?_
                  exact ih (i2 + 1) tk _ _ _ _ _ _ c4 H locs ls (by omega) (by omega) (by omega) heq hO3 hB3 (hW3.keep (hs3 55 (by omega) (by omega)) (hs3 57 (by omega) (by omega))) ⟨_, (hs3 58 (by omega) (by omega)).trans h583⟩ (fun j h1 h2 h3 h4 h5 => (hs3 j h1 h3).trans (hs4 j h1 h2 h3 h4 h5)) hP hS (lv_sub hl [2, 0, 3] rfl)
            · skip
              have hbad : (pPlace (pt.drop (i + 1))).2.2 = [] ∨ ∃ kd s', (pPlace (pt.drop (i + 1))).2.2 = kd :: s' ∧ isKd kd = false := by
                rcases hw3 with ⟨h1, h2, h3⟩ | ⟨h1, h2⟩
                · rw [h3] at hc4; exact absurd hc4 (by decide)
                · rw [← hd2]
                  rcases Nat.lt_or_ge i2 pt.length with h9 | h9
                  · exact Or.inr ⟨_, _, dr_cons h9, by cases hk : isKd (pt.getD i2 0); rfl; exact absurd ⟨h9, hk⟩ h1⟩
                  · exact Or.inl (dr_nil h9)
              rw [mkF_bad hx37 hbad] at heq
              refine lv_bipush (v := (-2)) hx hb dX4_make_85 (by decide) ?_
              refine lv_istore_n (lv' := [(2, .int ((-2))), (3, .int (sB (pt.getD i 0))), (1, .int (nI tk)), (0, .ref (ad 52))]) hx hb dX4_make_87 rfl hl (by decide) rfl (fun ls hl => ?_)
              refine lv_goto (tgt := 128) hx hb dX4_make_88 (by decide) ?_
              refine lv_goto (tgt := 19) hx hb dX4_make_128 (by decide) ?_
              exact stW (-2) cu _ _ _ _ _ _ c3 H locs ls (by decide) heq hO3 hB3 hW3 ⟨_, h583⟩ hs4 hP hS (lv_sub hl [0, 3] rfl)
          · skip
            have hx37 : ¬ pt.getD i 0 = 37 := fun h => hc3 (by rw [h]; rfl)
            rw [mkF_byte hx37] at heq
            refine lv_aload_n hx hb dX4_make_60 rfl (lv_at hl 3 rfl) ?_
            refine lv_iload_n hx hb dX4_make_61 rfl (lv_at hl 0 rfl) ?_
            refine mx_ci (va_runV (As := [.int (sB (pt.getD i 0))]) (rest := []) ⟨hx, hb, hml, hown, hts⟩ (c_put l D ca n ad c2 hn hcc2 hB2 rfl (sB (pt.getD i 0)) _) (cwV 1 hts (gV wm_375 wm_377 ws_15 wm_5 wm_378) rfl rfl rfl (by decide +kernel) ⟨Nat.le_of_ble_eq_true rfl, Nat.le_of_ble_eq_true rfl⟩) (mx_pv (C := RX4) (T := TX4) (N := 20) (ci := 4) hK hP hD hN (by omega : 52 < n) hcc2 rfl) rfl rfl hl.1 rfl (lv_room (Nat.le_of_ble_eq_true rfl)) dX4_make_62 ⟨Nat.zero_le _, Nat.zero_le _⟩) (Nat.le_refl _) hS (fun r3 c3 H locs hw3 hP hS => ?_)
            refine lv_if_eq (tgt := 72) hx hb dX4_make_65 (by decide) (fun hc4 => ?_) (fun hc4 => ?_)
            · skip
              obtain ⟨h1, -, hcE⟩ := hw3.resolve_left (fun h => by rw [h.2.1] at hc4; exact absurd hc4 (by decide))
              rw [hcE] at hP
              rw [if_neg (by omega)] at heq
              refine lv_bipush (v := (-5)) hx hb dX4_make_72 (by decide) ?_
              refine lv_istore_n (lv' := [(2, .int ((-5))), (3, .int (sB (pt.getD i 0))), (1, .int (nI tk)), (0, .ref (ad 52))]) hx hb dX4_make_74 rfl hl (by decide) rfl (fun ls hl => ?_)
              refine lv_goto (tgt := 128) hx hb dX4_make_75 (by decide) ?_
              refine lv_goto (tgt := 19) hx hb dX4_make_128 (by decide) ?_
              exact stW (-5) cu (nI (i + 1)) y6 y7 f1 y12 v1 c2 H locs ls (by decide) heq hcc2 hB2 hW2 ⟨_, h582⟩ hs2 hP hS (lv_sub hl [0, 3] rfl)
            · skip
              obtain ⟨h1, -, hO3, hB3, hs3⟩ := hw3.resolve_right (fun h => hc4 h.2.1)
              rw [if_pos h1] at heq
              rw [sB_by8 _ hb8] at hO3 hB3
              refine lv_iconst (v := 0) hx hb dX4_make_68 (by decide) ?_
              refine lv_goto (tgt := 74) hx hb dX4_make_69 (by decide) ?_
              refine lv_istore_n (lv' := [(2, .int 0), (3, .int (sB (pt.getD i 0))), (1, .int (nI tk)), (0, .ref (ad 52))]) hx hb dX4_make_74 rfl hl (by decide) rfl (fun ls hl => ?_)
              refine lv_goto (tgt := 128) hx hb dX4_make_75 (by decide) ?_
              refine lv_goto (tgt := 19) hx hb dX4_make_128 (by decide) ?_
              exact ih (i + 1) tk _ y6 y7 f1 y12 v1 c3 H locs ls (by omega) (by omega) (by omega) heq hO3 hB3 (hW2.keep (hs3 55 (by omega) (by omega)) (hs3 57 (by omega) (by omega))) ⟨_, (hs3 58 (by omega) (by omega)).trans h582⟩ (fun j h1 h2 h3 h4 h5 => (hs3 j h1 h3).trans (hs2 j h1 h2 h3 h4 h5)) hP hS (lv_sub hl [2, 0, 3] rfl)
  refine lv_aload_n hx hb dX4_make_0 rfl (lv_at hl 0 rfl) ?_
  refine lv_iconst (v := 0) hx hb dX4_make_1 (by decide) ?_
  refine mx_i (nI ([] : List Nat).length) (nI_0.symm) ?_
  refine mx_put (ci := 4) (v := .int (nI ([] : List Nat).length)) (ty := .int) (C := RX4) (T := TX4) (N := 20) hx hb hts inX4 tyX4 tyX4_ok nmX4 hown hK hP hD hS (by omega : 52 < n) hO rfl 7 (by decide) (hts _ wm_275) (fun _ h9 => h9) rfl (by decide +kernel) rfl rfl (Nat.le_of_ble_eq_true rfl) dX4_make_2 (fun H locs hP hS => ?_)
  obtain ⟨a1, ea1⟩ : ∃ z : Nat → va_E, z = va_up c 52 (.inr (4, [.ref (ad 53), .ref (ad 54), .ref (ad 55), .ref (ad 56), .int (nI tp.length), .int (nI pt.length), .int (nI ac), .int (nI ([] : List Nat).length), .int x4, .ref (ad 57), .int x5, .int x6, .int x7, .int (bI f.1), .int (bI f.2.1), .int (bI f.2.2.1), .int (bI f.2.2.2), .ref (ad 58), .int x12, .long v])) := ⟨_, rfl⟩
  have hP : va_P D vwCl (mw n ad a1) H := by rw [ea1]; exact hP
  have hsa1 : ∀ j, j ≠ 52 → a1 j = c j := fun j h => by rw [ea1]; exact va_up_ne _ _ h
  have hca1 : a1 52 = .inr (4, [.ref (ad 53), .ref (ad 54), .ref (ad 55), .ref (ad 56), .int (nI tp.length), .int (nI pt.length), .int (nI ac), .int (nI ([] : List Nat).length), .int x4, .ref (ad 57), .int x5, .int x6, .int x7, .int (bI f.1), .int (bI f.2.1), .int (bI f.2.2.1), .int (bI f.2.2.2), .ref (ad 58), .int x12, .long v]) := by rw [ea1]; exact va_up_self _ _ _
  refine lv_aload_n hx hb dX4_make_5 rfl (lv_at hl 0 rfl) ?_
  refine lv_iconst (v := 0) hx hb dX4_make_6 (by decide) ?_
  refine mx_i (nI ([] : List Nat).length) (nI_0.symm) ?_
  refine mx_put (ci := 4) (v := .int (nI ([] : List Nat).length)) (ty := .int) (C := RX4) (T := TX4) (N := 20) hx hb hts inX4 tyX4 tyX4_ok nmX4 hown hK hP hD hS (by omega : 52 < n) hca1 rfl 8 (by decide) (hts _ wm_276) (fun _ h9 => h9) rfl (by decide +kernel) rfl rfl (Nat.le_of_ble_eq_true rfl) dX4_make_7 (fun H locs hP hS => ?_)
  obtain ⟨a2, ea2⟩ : ∃ z : Nat → va_E, z = va_up a1 52 (.inr (4, [.ref (ad 53), .ref (ad 54), .ref (ad 55), .ref (ad 56), .int (nI tp.length), .int (nI pt.length), .int (nI ac), .int (nI ([] : List Nat).length), .int (nI ([] : List Nat).length), .ref (ad 57), .int x5, .int x6, .int x7, .int (bI f.1), .int (bI f.2.1), .int (bI f.2.2.1), .int (bI f.2.2.2), .ref (ad 58), .int x12, .long v])) := ⟨_, rfl⟩
  have hP : va_P D vwCl (mw n ad a2) H := by rw [ea2]; exact hP
  have hsa2 : ∀ j, j ≠ 52 → a2 j = a1 j := fun j h => by rw [ea2]; exact va_up_ne _ _ h
  have hca2 : a2 52 = .inr (4, [.ref (ad 53), .ref (ad 54), .ref (ad 55), .ref (ad 56), .int (nI tp.length), .int (nI pt.length), .int (nI ac), .int (nI ([] : List Nat).length), .int (nI ([] : List Nat).length), .ref (ad 57), .int x5, .int x6, .int x7, .int (bI f.1), .int (bI f.2.1), .int (bI f.2.2.1), .int (bI f.2.2.2), .ref (ad 58), .int x12, .long v]) := by rw [ea2]; exact va_up_self _ _ _
  refine lv_aload_n hx hb dX4_make_10 rfl (lv_at hl 0 rfl) ?_
  refine lv_iconst (v := 0) hx hb dX4_make_11 (by decide) ?_
  refine mx_i (nI 0) (nI_0.symm) ?_
  refine mx_put (ci := 4) (v := .int (nI 0)) (ty := .int) (C := RX4) (T := TX4) (N := 20) hx hb hts inX4 tyX4 tyX4_ok nmX4 hown hK hP hD hS (by omega : 52 < n) hca2 rfl 10 (by decide) (hts _ wm_278) (fun _ h9 => h9) rfl (by decide +kernel) rfl rfl (Nat.le_of_ble_eq_true rfl) dX4_make_12 (fun H locs hP hS => ?_)
  obtain ⟨a3, ea3⟩ : ∃ z : Nat → va_E, z = va_up a2 52 (.inr (4, [.ref (ad 53), .ref (ad 54), .ref (ad 55), .ref (ad 56), .int (nI tp.length), .int (nI pt.length), .int (nI ac), .int (nI ([] : List Nat).length), .int (nI ([] : List Nat).length), .ref (ad 57), .int (nI 0), .int x6, .int x7, .int (bI f.1), .int (bI f.2.1), .int (bI f.2.2.1), .int (bI f.2.2.2), .ref (ad 58), .int x12, .long v])) := ⟨_, rfl⟩
  have hP : va_P D vwCl (mw n ad a3) H := by rw [ea3]; exact hP
  have hsa3 : ∀ j, j ≠ 52 → a3 j = a2 j := fun j h => by rw [ea3]; exact va_up_ne _ _ h
  have hca3 : a3 52 = .inr (4, [.ref (ad 53), .ref (ad 54), .ref (ad 55), .ref (ad 56), .int (nI tp.length), .int (nI pt.length), .int (nI ac), .int (nI ([] : List Nat).length), .int (nI ([] : List Nat).length), .ref (ad 57), .int (nI 0), .int x6, .int x7, .int (bI f.1), .int (bI f.2.1), .int (bI f.2.2.1), .int (bI f.2.2.2), .ref (ad 58), .int x12, .long v]) := by rw [ea3]; exact va_up_self _ _ _
  refine lv_iconst (v := 0) hx hb dX4_make_15 (by decide) ?_
  refine lv_istore_n (lv' := [(1, .int 0), (0, .ref (ad 52))]) hx hb dX4_make_16 rfl hl (by decide) rfl (fun ls hl => ?_)
  refine lv_iconst (v := 0) hx hb dX4_make_17 (by decide) ?_
  refine lv_istore_n (lv' := [(2, .int 0), (1, .int 0), (0, .ref (ad 52))]) hx hb dX4_make_18 rfl hl (by decide) rfl (fun ls hl => ?_)
  have hsa : ∀ j, j ≠ 52 → a3 j = c j := fun j h => (hsa3 j h).trans ((hsa2 j h).trans (hsa1 j h))
  obtain ⟨q1, q2, q3, q4, q5, q6⟩ := id h56
  exact loop (pt.length + 1) 0 0 [] _ _ _ _ _ a3 _ _ ls (Nat.zero_le _) (Nat.le_refl _) (by omega) hRR.symm hca3 (tB.nil ((hsa 56 (by omega)).trans q5) (by omega) q2) (hW.keep (hsa 55 (by omega)) (hsa 57 (by omega))) ⟨_, (hsa 58 (by omega)).trans h58⟩ (fun j h1 h2 h3 h4 h5 => hsa j h1) hP hS (by have h9 := (lv_sub hl [1, 0, 2] rfl); rw [nI_0]; exact h9)
