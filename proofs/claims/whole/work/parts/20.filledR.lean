set_option maxHeartbeats 4000000 in
set_option maxRecDepth 100000 in
/-- filled(tk) -/
theorem c_filled (l : Launch) (D : va_G) (ca : Nat → ClassId) (n : Nat) (ad : Nat → Nat) (c : Nat → va_E) {x0 x1 x3 x4 x5 x12 : Int32} {f : fl4} {v : Int64} {wd ac kb : Nat} {ar : Nat → List Nat} (hn : 59 ≤ n) (hO : c 52 = rO ad x0 x1 (nI ac) x3 x4 x5 (nI wd) (nI kb) (bI f.1) (bI f.2.1) (bI f.2.2.1) (bI f.2.2.2) x12 v) {cu : List Nat} (hB : tB ca c 56 1024 0 cu) (hx4 : x4 = nI cu.length) (hwd : wd ≤ 100000) (hW : tWd ca c ar ac) (hac : ac ≤ 20) {f0 : Nat → Int32} (h58 : c 58 = .inl (ca 2, 72, .inl f0)) (hkb : kb < 128) (hkd : isKd kb = true) (hk37 : kb ≠ 37) (tk : Nat) (htk : tk ≤ 500) : mInt l yX4_filled wsX4_filled ({ frames := 3, cells := 0, slots := 0, locals := 74 }) [.ref (ad 52), .int (nI tk)] D (tTY ca) n ad c (fun r c' => ∃ cu' y12 v', c' 52 = rO ad x0 x1 (nI ac) x3 (nI cu'.length) x5 (nI wd) (nI kb) (bI f.1) (bI f.2.1) (bI f.2.2.1) (bI f.2.2.2) y12 v' ∧ tB ca c' 56 1024 0 cu' ∧ tWd ca c' ar ac ∧ (∃ f1, c' 58 = .inl (ca 2, 72, .inl f1)) ∧ (∀ j, j ≠ 52 → j ≠ 56 → j ≠ 58 → c' j = c j) ∧ (((pcs ar ac tk f wd (nI kb)).1 = 0 ∧ cu.length + (pcs ar ac tk f wd (nI kb)).2.1.length ≤ 1024 ∧ r = 0 ∧ cu' = cu ++ (pcs ar ac tk f wd (nI kb)).2.1) ∨ ((pcs ar ac tk f wd (nI kb)).1 = 0 ∧ ¬ cu.length + (pcs ar ac tk f wd (nI kb)).2.1.length ≤ 1024 ∧ r = -5) ∨ (¬ (pcs ar ac tk f wd (nI kb)).1 = 0 ∧ r = (pcs ar ac tk f wd (nI kb)).1))) := by
  intro sz
  refine Met.ofW (cc := cX4_filled) (maxL := 3) (ret := (some .int)) (by decide) rfl ?_
  intro pg9 ev9 s m args below meth cd s₁ B hml hv
  obtain ⟨rfl, hsz, hP, hK, hD0, hN⟩ := hv
  have hx := B.exec
  have hb := B.bytes
  have hr := B.returns
  have hts := fun (w : Cond) (h : w ∈ WSa) => atoms_spec (ws := wsX4_filled) B.pre w (List.mem_cons_of_mem _ h)
  have hown : s.vm.findClass RX4 = some m.cls := findClass_of_methodNamed B.named
  have hlocks := B.notSynchronized
  subst hsz
  have hD : ∀ c, va_D (fun _ => True) (mw n ad c) := fun c' => mw_D hD0 c'
  have hS : va_S (mA n ad s.heap.size) s.heap s.heap [] := va_S.rf
  have hl := lv_entry ([.ref (ad 52), .int (nI tk)]) (n := 3) (Nat.le_of_ble_eq_true rfl)
  rw [lg_entry_eq]
  generalize (lg_sl ([.ref (ad 52), .int (nI tk)]) ++ List.replicate (3 - (lg_sl ([.ref (ad 52), .int (nI tk)])).length) Slot.unset).toArray = ls at hl ⊢
  have hl : lv_has ls 3 [(0, .ref (ad 52)), (1, .int (nI tk))] := hl
  have hk37n : ¬ nI kb = 37 := fun h => hk37 ((nI_eq (b := 37) (by omega) (by omega)).mp h)
  have hle := hB.le
  rw [Nat.zero_add] at hle
  refine lv_iload_n hx hb dX4_filled_0 rfl (lv_at hl 1 rfl) ?_
  refine lv_aload_n hx hb dX4_filled_1 rfl (lv_at hl 0 rfl) ?_
  refine mx_get (ci := 4) (v := .int (nI ac)) (C := RX4) (T := TX4) (N := 20) hx hb hts inX4 hown hK hP (by omega : 52 < n) hO rfl 6 (by decide) (hts _ wm_274) (fun _ h9 => h9) rfl dX4_filled_2 ?_
  refine lv_icmp_lt (tgt := 11) hx hb dX4_filled_5 (by decide) (fun hc1 => ?_) (fun hc1 => ?_)
  · skip
    have hlt : tk < ac := (nI_ltI (by omega) (by omega)).mp hc1
    have hng : ¬ ac ≤ tk := by omega
    obtain ⟨f5, g57, h55, h57, hW1⟩ := id hW
    obtain ⟨hsz, hl40, hb8, hff⟩ := hW1 tk hlt
    refine lv_aload_n hx hb dX4_filled_11 rfl (lv_at hl 0 rfl) ?_
    refine mx_get (ci := 4) (v := .int (nI kb)) (C := RX4) (T := TX4) (N := 20) hx hb hts inX4 hown hK hP (by omega : 52 < n) hO rfl 12 (by decide) (hts _ wm_280) (fun _ h9 => h9) rfl dX4_filled_12 ?_
    refine lv_bipush (v := 115) hx hb dX4_filled_15 (by decide) ?_
    refine lv_icmp_ne (tgt := 49) hx hb dX4_filled_17 (by decide) (fun hc2 => ?_) (fun hc2 => ?_)
    · skip
      refine lv_aload_n hx hb dX4_filled_49 rfl (lv_at hl 0 rfl) ?_
      refine lv_iload_n hx hb dX4_filled_50 rfl (lv_at hl 1 rfl) ?_
      refine mx_ci (va_runV (As := [.int (nI tk)]) (rest := []) ⟨hx, hb, hml, hown, hts⟩ (c_isInt l D ca n ad c hn hO hW tk hlt hac _) (cwV 1 hts (gV wm_400 wm_402 ws_21 wm_5 wm_403) rfl rfl rfl (by decide +kernel) ⟨Nat.le_of_ble_eq_true rfl, Nat.le_of_ble_eq_true rfl⟩) (mx_pv (C := RX4) (T := TX4) (N := 20) (ci := 4) hK hP hD hN (by omega : 52 < n) hO rfl) rfl rfl hl.1 rfl (lv_room (Nat.le_of_ble_eq_true rfl)) dX4_filled_51 ⟨Nat.zero_le _, Nat.zero_le _⟩) (Nat.le_refl _) hS (fun r1 c2 H locs hw1 hP hS => ?_)
      obtain ⟨hw1, hs1⟩ := hw1
      refine lv_if_ne (tgt := 60) hx hb dX4_filled_54 (by decide) (fun hc3 => ?_) (fun hc3 => ?_)
      · skip
        obtain ⟨vv, hv1, -, hO1⟩ := hw1.resolve_right (fun h => hc3 h.2.1)
        have hP9 : pcs ar ac tk f wd (nI kb) = (0, fInt f wd (nI kb) vv, tk + 1) := by unfold pcs; rw [if_neg hk37n, if_neg hng, if_neg hc2, hv1]
        have hB1 := hB.keep (hs1 56 (by omega))
        have h581 := (hs1 58 (by omega)).trans h58
        have hW2 := hW.keep (hs1 55 (by omega)) (hs1 57 (by omega))
        refine lv_iconst (v := 0) hx hb dX4_filled_60 (by decide) ?_
        refine lv_istore_n (lv' := [(2, .int 0), (0, .ref (ad 52)), (1, .int (nI tk))]) hx hb dX4_filled_61 rfl hl (by decide) rfl (fun ls hl => ?_)
        refine lv_aload_n hx hb dX4_filled_62 rfl (lv_at hl 1 rfl) ?_
        refine mx_get (ci := 4) (v := .int (nI kb)) (C := RX4) (T := TX4) (N := 20) hx hb hts inX4 hown hK hP (by omega : 52 < n) hO1 rfl 12 (by decide) (hts _ wm_280) (fun _ h9 => h9) rfl dX4_filled_63 ?_
        refine lv_bipush (v := 100) hx hb dX4_filled_66 (by decide) ?_
        refine lv_icmp_ne (tgt := 122) hx hb dX4_filled_68 (by decide) (fun hc4 => ?_) (fun hc4 => ?_)
        · skip
          refine lv_aload_n hx hb dX4_filled_122 rfl (lv_at hl 1 rfl) ?_
          refine mx_get (ci := 4) (v := .int (nI kb)) (C := RX4) (T := TX4) (N := 20) hx hb hts inX4 hown hK hP (by omega : 52 < n) hO1 rfl 12 (by decide) (hts _ wm_280) (fun _ h9 => h9) rfl dX4_filled_123 ?_
          refine lv_bipush (v := 99) hx hb dX4_filled_126 (by decide) ?_
          refine lv_icmp_ne (tgt := 149) hx hb dX4_filled_128 (by decide) (fun hc5 => ?_) (fun hc5 => ?_)
          · skip
            have h3 := kd_rest hkb hkd hk37n hc2 hc4 hc5
            rcases h3 with h3 | h3 | h3
            · skip
              refine lv_aload_n hx hb dX4_filled_149 rfl (lv_at hl 1 rfl) ?_
              refine lv_aload_n hx hb dX4_filled_150 rfl (lv_at hl 1 rfl) ?_
              refine mx_get (ci := 4) (v := .long vv) (C := RX4) (T := TX4) (N := 20) hx hb hts inX4 hown hK hP (by omega : 52 < n) hO1 rfl 19 (by decide) (hts _ wm_287) (fun _ h9 => h9) rfl dX4_filled_151 ?_
              refine lv_aload_n hx hb dX4_filled_154 rfl (lv_at hl 1 rfl) ?_
              refine mx_get (ci := 4) (v := .int (nI kb)) (C := RX4) (T := TX4) (N := 20) hx hb hts inX4 hown hK hP (by omega : 52 < n) hO1 rfl 12 (by decide) (hts _ wm_280) (fun _ h9 => h9) rfl dX4_filled_155 ?_
              refine lv_bipush (v := 111) hx hb dX4_filled_158 (by decide) ?_
              refine lv_icmp_ne (tgt := 167) hx hb dX4_filled_160 (by decide) (fun hc6 => ?_) (fun hc6 => ?_)
              · skip
                refine lv_iconst (v := 4) hx hb dX4_filled_167 (by decide) ?_
                refine lv_aload_n hx hb dX4_filled_168 rfl (lv_at hl 1 rfl) ?_
                refine mx_get (ci := 4) (v := .int (nI kb)) (C := RX4) (T := TX4) (N := 20) hx hb hts inX4 hown hK hP (by omega : 52 < n) hO1 rfl 12 (by decide) (hts _ wm_280) (fun _ h9 => h9) rfl dX4_filled_169 ?_
                refine lv_bipush (v := 88) hx hb dX4_filled_172 (by decide) ?_
                refine lv_icmp_ne (tgt := 182) hx hb dX4_filled_174 (by decide) (fun hc7 => ?_) (fun hc7 => ?_)
                · skip
                  refine lv_bipush (v := 97) hx hb dX4_filled_182 (by decide) ?_
                  refine mx_cv (va_runV (As := [.long vv, .int 4, .int 97]) (rest := []) ⟨hx, hb, hml, hown, hts⟩ (c_bits l D ca n ad c2 hn hO1 vv 4 97 16 4 97 rfl rfl (by decide) (by decide) h581 _) (cwV 3 hts (gV wm_417 wm_419 ws_24 wm_5 wm_420) rfl rfl rfl (by decide +kernel) ⟨Nat.le_of_ble_eq_true rfl, Nat.le_of_ble_eq_true rfl⟩) (mx_pv (C := RX4) (T := TX4) (N := 20) (ci := 4) hK hP hD hN (by omega : 52 < n) hO1 rfl) rfl rfl hl.1 rfl (lv_room (Nat.le_of_ble_eq_true rfl)) dX4_filled_184 ⟨Nat.zero_le _, Nat.zero_le _⟩) (Nat.le_refl _) hS (fun c3 H locs hw3 hP hS => ?_)
                  obtain ⟨p, hp, hO3, hPB, hs3⟩ := hw3
                  have hB3 := hB1.keep (hs3 56 (by omega) (by omega))
                  have hW3 := hW2.keep (hs3 55 (by omega) (by omega)) (hs3 57 (by omega) (by omega))
                  have hx43 := hx4
                  have hlp := hPB.le
                  have hfi : fInt f wd (nI kb) vv = pad f.1 f.2.1 wd (sgL 0) (tBits vv 16 4 97) := by unfold fInt; rw [if_neg (by rw [h3]; decide), if_neg (by rw [h3]; decide), if_neg (by rw [h3]; decide), if_pos h3]
                  have hzz : f.2.1 = (f.2.1 && decide (¬ nI kb = 99 ∧ ¬ nI kb = 115)) := by rw [h3]; simp
                  refine lv_aload_n hx hb dX4_filled_187 rfl (lv_at hl 1 rfl) ?_
                  refine lv_aload_n hx hb dX4_filled_188 rfl (lv_at hl 1 rfl) ?_
                  refine mx_get (ci := 4) (v := .ref (ad 58)) (C := RX4) (T := TX4) (N := 20) hx hb hts inX4 hown hK hP (by omega : 52 < n) hO3 rfl 17 (by decide) (hts _ wm_285) (fun _ h9 => h9) rfl dX4_filled_189 ?_
                  refine lv_aload_n hx hb dX4_filled_192 rfl (lv_at hl 1 rfl) ?_
                  refine mx_get (ci := 4) (v := .int (nI p)) (C := RX4) (T := TX4) (N := 20) hx hb hts inX4 hown hK hP (by omega : 52 < n) hO3 rfl 18 (by decide) (hts _ wm_286) (fun _ h9 => h9) rfl dX4_filled_193 ?_
                  refine lv_bipush (v := 72) hx hb dX4_filled_196 (by decide) ?_
                  refine lv_aload_n hx hb dX4_filled_198 rfl (lv_at hl 1 rfl) ?_
                  refine mx_get (ci := 4) (v := .int (nI p)) (C := RX4) (T := TX4) (N := 20) hx hb hts inX4 hown hK hP (by omega : 52 < n) hO3 rfl 18 (by decide) (hts _ wm_286) (fun _ h9 => h9) rfl dX4_filled_199 ?_
                  refine lv_isub hx hb dX4_filled_202 ?_
                  refine mx_i (nI (tBits vv 16 4 97).length) (by rw [show (72 : Int32) = nI 72 from rfl, pk_sub (by omega)]; congr 1; omega) ?_
                  refine lv_iload_n hx hb dX4_filled_203 rfl (lv_at hl 0 rfl) ?_
                  refine mx_ci (va_runV (As := [.ref (ad 58), .int (nI p), .int (nI (tBits vv 16 4 97).length), .int 0]) (rest := []) ⟨hx, hb, hml, hown, hts⟩ (c_fill l D ca n ad c3 hn hO3 hB3 hx43 hwd (kr := 58) (cap := 72) (bg := p) (t := tBits vv 16 4 97) (by decide) hPB (nI p) (nI (tBits vv 16 4 97).length) 0 rfl rfl (f.2.1) (fun _ => hzz) _) (cwV 4 hts (gV wm_392 wm_394 ws_19 wm_5 wm_395) rfl rfl rfl (by decide +kernel) ⟨Nat.le_of_ble_eq_true rfl, Nat.le_of_ble_eq_true rfl⟩) (mx_pv (C := RX4) (T := TX4) (N := 20) (ci := 4) hK hP hD hN (by omega : 52 < n) hO3 rfl) rfl rfl hl.1 rfl (lv_room (Nat.le_of_ble_eq_true rfl)) dX4_filled_204 ⟨Nat.zero_le _, Nat.zero_le _⟩) (Nat.le_refl _) hS (fun r c4 H locs hw hP hS => ?_)
                  obtain ⟨cu2, hO2, hB2, hs2, hw⟩ := hw
                  rw [← hfi] at hw
                  have hW4 := hW3.keep (hs2 55 (by omega) (by omega)) (hs2 57 (by omega) (by omega))
                  have h584 : ∃ f1, c4 58 = .inl (ca 2, 72, .inl f1) := ⟨_, (hs2 58 (by omega) (by omega)).trans hPB.2.2.2.choose_spec.1⟩
                  have hq : ∀ rr : Int32, (∃ (x : Int32), x = rr ∧ ((cu.length + (fInt f wd (nI kb) vv).length ≤ 1024 ∧ x = 0 ∧ cu2 = cu ++ fInt f wd (nI kb) vv) ∨ (¬ cu.length + (fInt f wd (nI kb) vv).length ≤ 1024 ∧ x = -5))) → ∃ cu' y12 v', c4 52 = rO ad x0 x1 (nI ac) x3 (nI cu'.length) x5 (nI wd) (nI kb) (bI f.1) (bI f.2.1) (bI f.2.2.1) (bI f.2.2.2) y12 v' ∧ tB ca c4 56 1024 0 cu' ∧ tWd ca c4 ar ac ∧ (∃ f1, c4 58 = .inl (ca 2, 72, .inl f1)) ∧ (∀ j, j ≠ 52 → j ≠ 56 → j ≠ 58 → c4 j = c j) ∧ (((pcs ar ac tk f wd (nI kb)).1 = 0 ∧ cu.length + (pcs ar ac tk f wd (nI kb)).2.1.length ≤ 1024 ∧ rr = 0 ∧ cu' = cu ++ (pcs ar ac tk f wd (nI kb)).2.1) ∨ ((pcs ar ac tk f wd (nI kb)).1 = 0 ∧ ¬ cu.length + (pcs ar ac tk f wd (nI kb)).2.1.length ≤ 1024 ∧ rr = -5) ∨ (¬ (pcs ar ac tk f wd (nI kb)).1 = 0 ∧ rr = (pcs ar ac tk f wd (nI kb)).1)) := by
                    rintro rr ⟨x, rfl, hx⟩
                    refine ⟨cu2, _, _, hO2, hB2, hW4, h584, fun j h1 h2 h3 => (hs2 j h1 h2).trans ((hs3 j h1 h3).trans (hs1 j h1)), ?_⟩
                    rw [hP9]
                    rcases hx with ⟨q1, q2, q3⟩ | ⟨q1, q2⟩
                    · exact Or.inl ⟨rfl, q1, q2, q3⟩
                    · exact Or.inr (Or.inl ⟨rfl, q1, q2⟩)
                  refine lv_if_eq (tgt := 214) hx hb dX4_filled_207 (by decide) (fun hc9 => ?_) (fun hc9 => ?_)
                  · skip
                    obtain ⟨q1, -⟩ := hw.resolve_left (fun h => by rw [h.2.1] at hc9; exact absurd hc9 (by decide))
                    refine lv_bipush (v := (-5)) hx hb dX4_filled_214 (by decide) ?_
                    exact mx_iret hx hb hr hlocks hP hS (hq _ ⟨_, rfl, Or.inr ⟨q1, rfl⟩⟩) dX4_filled_216
                  · skip
                    obtain ⟨q1, -, q3⟩ := hw.resolve_right (fun h => hc9 h.2)
                    refine lv_iconst (v := 0) hx hb dX4_filled_210 (by decide) ?_
                    refine lv_goto (tgt := 216) hx hb dX4_filled_211 (by decide) ?_
                    exact mx_iret hx hb hr hlocks hP hS (hq _ ⟨_, rfl, Or.inl ⟨q1, rfl, q3⟩⟩) dX4_filled_216
                · skip
                  exact absurd hc7 (by rw [h3]; decide)
              · skip
                exact absurd hc6 (by rw [h3]; decide)
            · skip
              refine lv_aload_n hx hb dX4_filled_149 rfl (lv_at hl 1 rfl) ?_
              refine lv_aload_n hx hb dX4_filled_150 rfl (lv_at hl 1 rfl) ?_
              refine mx_get (ci := 4) (v := .long vv) (C := RX4) (T := TX4) (N := 20) hx hb hts inX4 hown hK hP (by omega : 52 < n) hO1 rfl 19 (by decide) (hts _ wm_287) (fun _ h9 => h9) rfl dX4_filled_151 ?_
              refine lv_aload_n hx hb dX4_filled_154 rfl (lv_at hl 1 rfl) ?_
              refine mx_get (ci := 4) (v := .int (nI kb)) (C := RX4) (T := TX4) (N := 20) hx hb hts inX4 hown hK hP (by omega : 52 < n) hO1 rfl 12 (by decide) (hts _ wm_280) (fun _ h9 => h9) rfl dX4_filled_155 ?_
              refine lv_bipush (v := 111) hx hb dX4_filled_158 (by decide) ?_
              refine lv_icmp_ne (tgt := 167) hx hb dX4_filled_160 (by decide) (fun hc6 => ?_) (fun hc6 => ?_)
              · skip
                refine lv_iconst (v := 4) hx hb dX4_filled_167 (by decide) ?_
                refine lv_aload_n hx hb dX4_filled_168 rfl (lv_at hl 1 rfl) ?_
                refine mx_get (ci := 4) (v := .int (nI kb)) (C := RX4) (T := TX4) (N := 20) hx hb hts inX4 hown hK hP (by omega : 52 < n) hO1 rfl 12 (by decide) (hts _ wm_280) (fun _ h9 => h9) rfl dX4_filled_169 ?_
                refine lv_bipush (v := 88) hx hb dX4_filled_172 (by decide) ?_
                refine lv_icmp_ne (tgt := 182) hx hb dX4_filled_174 (by decide) (fun hc7 => ?_) (fun hc7 => ?_)
                · skip
                  exact absurd h3 hc7
                · skip
                  refine lv_bipush (v := 65) hx hb dX4_filled_177 (by decide) ?_
                  refine lv_goto (tgt := 184) hx hb dX4_filled_179 (by decide) ?_
                  refine mx_cv (va_runV (As := [.long vv, .int 4, .int 65]) (rest := []) ⟨hx, hb, hml, hown, hts⟩ (c_bits l D ca n ad c2 hn hO1 vv 4 65 16 4 65 rfl rfl (by decide) (by decide) h581 _) (cwV 3 hts (gV wm_417 wm_419 ws_24 wm_5 wm_420) rfl rfl rfl (by decide +kernel) ⟨Nat.le_of_ble_eq_true rfl, Nat.le_of_ble_eq_true rfl⟩) (mx_pv (C := RX4) (T := TX4) (N := 20) (ci := 4) hK hP hD hN (by omega : 52 < n) hO1 rfl) rfl rfl hl.1 rfl (lv_room (Nat.le_of_ble_eq_true rfl)) dX4_filled_184 ⟨Nat.zero_le _, Nat.zero_le _⟩) (Nat.le_refl _) hS (fun c3 H locs hw3 hP hS => ?_)
                  obtain ⟨p, hp, hO3, hPB, hs3⟩ := hw3
                  have hB3 := hB1.keep (hs3 56 (by omega) (by omega))
                  have hW3 := hW2.keep (hs3 55 (by omega) (by omega)) (hs3 57 (by omega) (by omega))
                  have hx43 := hx4
                  have hlp := hPB.le
                  have hfi : fInt f wd (nI kb) vv = pad f.1 f.2.1 wd (sgL 0) (tBits vv 16 4 65) := by unfold fInt; rw [if_pos h3]
                  have hzz : f.2.1 = (f.2.1 && decide (¬ nI kb = 99 ∧ ¬ nI kb = 115)) := by rw [h3]; simp
                  refine lv_aload_n hx hb dX4_filled_187 rfl (lv_at hl 1 rfl) ?_
                  refine lv_aload_n hx hb dX4_filled_188 rfl (lv_at hl 1 rfl) ?_
                  refine mx_get (ci := 4) (v := .ref (ad 58)) (C := RX4) (T := TX4) (N := 20) hx hb hts inX4 hown hK hP (by omega : 52 < n) hO3 rfl 17 (by decide) (hts _ wm_285) (fun _ h9 => h9) rfl dX4_filled_189 ?_
                  refine lv_aload_n hx hb dX4_filled_192 rfl (lv_at hl 1 rfl) ?_
                  refine mx_get (ci := 4) (v := .int (nI p)) (C := RX4) (T := TX4) (N := 20) hx hb hts inX4 hown hK hP (by omega : 52 < n) hO3 rfl 18 (by decide) (hts _ wm_286) (fun _ h9 => h9) rfl dX4_filled_193 ?_
                  refine lv_bipush (v := 72) hx hb dX4_filled_196 (by decide) ?_
                  refine lv_aload_n hx hb dX4_filled_198 rfl (lv_at hl 1 rfl) ?_
                  refine mx_get (ci := 4) (v := .int (nI p)) (C := RX4) (T := TX4) (N := 20) hx hb hts inX4 hown hK hP (by omega : 52 < n) hO3 rfl 18 (by decide) (hts _ wm_286) (fun _ h9 => h9) rfl dX4_filled_199 ?_
                  refine lv_isub hx hb dX4_filled_202 ?_
                  refine mx_i (nI (tBits vv 16 4 65).length) (by rw [show (72 : Int32) = nI 72 from rfl, pk_sub (by omega)]; congr 1; omega) ?_
                  refine lv_iload_n hx hb dX4_filled_203 rfl (lv_at hl 0 rfl) ?_
                  refine mx_ci (va_runV (As := [.ref (ad 58), .int (nI p), .int (nI (tBits vv 16 4 65).length), .int 0]) (rest := []) ⟨hx, hb, hml, hown, hts⟩ (c_fill l D ca n ad c3 hn hO3 hB3 hx43 hwd (kr := 58) (cap := 72) (bg := p) (t := tBits vv 16 4 65) (by decide) hPB (nI p) (nI (tBits vv 16 4 65).length) 0 rfl rfl (f.2.1) (fun _ => hzz) _) (cwV 4 hts (gV wm_392 wm_394 ws_19 wm_5 wm_395) rfl rfl rfl (by decide +kernel) ⟨Nat.le_of_ble_eq_true rfl, Nat.le_of_ble_eq_true rfl⟩) (mx_pv (C := RX4) (T := TX4) (N := 20) (ci := 4) hK hP hD hN (by omega : 52 < n) hO3 rfl) rfl rfl hl.1 rfl (lv_room (Nat.le_of_ble_eq_true rfl)) dX4_filled_204 ⟨Nat.zero_le _, Nat.zero_le _⟩) (Nat.le_refl _) hS (fun r c4 H locs hw hP hS => ?_)
                  obtain ⟨cu2, hO2, hB2, hs2, hw⟩ := hw
                  rw [← hfi] at hw
                  have hW4 := hW3.keep (hs2 55 (by omega) (by omega)) (hs2 57 (by omega) (by omega))
                  have h584 : ∃ f1, c4 58 = .inl (ca 2, 72, .inl f1) := ⟨_, (hs2 58 (by omega) (by omega)).trans hPB.2.2.2.choose_spec.1⟩
                  have hq : ∀ rr : Int32, (∃ (x : Int32), x = rr ∧ ((cu.length + (fInt f wd (nI kb) vv).length ≤ 1024 ∧ x = 0 ∧ cu2 = cu ++ fInt f wd (nI kb) vv) ∨ (¬ cu.length + (fInt f wd (nI kb) vv).length ≤ 1024 ∧ x = -5))) → ∃ cu' y12 v', c4 52 = rO ad x0 x1 (nI ac) x3 (nI cu'.length) x5 (nI wd) (nI kb) (bI f.1) (bI f.2.1) (bI f.2.2.1) (bI f.2.2.2) y12 v' ∧ tB ca c4 56 1024 0 cu' ∧ tWd ca c4 ar ac ∧ (∃ f1, c4 58 = .inl (ca 2, 72, .inl f1)) ∧ (∀ j, j ≠ 52 → j ≠ 56 → j ≠ 58 → c4 j = c j) ∧ (((pcs ar ac tk f wd (nI kb)).1 = 0 ∧ cu.length + (pcs ar ac tk f wd (nI kb)).2.1.length ≤ 1024 ∧ rr = 0 ∧ cu' = cu ++ (pcs ar ac tk f wd (nI kb)).2.1) ∨ ((pcs ar ac tk f wd (nI kb)).1 = 0 ∧ ¬ cu.length + (pcs ar ac tk f wd (nI kb)).2.1.length ≤ 1024 ∧ rr = -5) ∨ (¬ (pcs ar ac tk f wd (nI kb)).1 = 0 ∧ rr = (pcs ar ac tk f wd (nI kb)).1)) := by
                    rintro rr ⟨x, rfl, hx⟩
                    refine ⟨cu2, _, _, hO2, hB2, hW4, h584, fun j h1 h2 h3 => (hs2 j h1 h2).trans ((hs3 j h1 h3).trans (hs1 j h1)), ?_⟩
                    rw [hP9]
                    rcases hx with ⟨q1, q2, q3⟩ | ⟨q1, q2⟩
                    · exact Or.inl ⟨rfl, q1, q2, q3⟩
                    · exact Or.inr (Or.inl ⟨rfl, q1, q2⟩)
                  refine lv_if_eq (tgt := 214) hx hb dX4_filled_207 (by decide) (fun hc9 => ?_) (fun hc9 => ?_)
                  · skip
                    obtain ⟨q1, -⟩ := hw.resolve_left (fun h => by rw [h.2.1] at hc9; exact absurd hc9 (by decide))
                    refine lv_bipush (v := (-5)) hx hb dX4_filled_214 (by decide) ?_
                    exact mx_iret hx hb hr hlocks hP hS (hq _ ⟨_, rfl, Or.inr ⟨q1, rfl⟩⟩) dX4_filled_216
                  · skip
                    obtain ⟨q1, -, q3⟩ := hw.resolve_right (fun h => hc9 h.2)
                    refine lv_iconst (v := 0) hx hb dX4_filled_210 (by decide) ?_
                    refine lv_goto (tgt := 216) hx hb dX4_filled_211 (by decide) ?_
                    exact mx_iret hx hb hr hlocks hP hS (hq _ ⟨_, rfl, Or.inl ⟨q1, rfl, q3⟩⟩) dX4_filled_216
              · skip
                exact absurd hc6 (by rw [h3]; decide)
            · skip
              refine lv_aload_n hx hb dX4_filled_149 rfl (lv_at hl 1 rfl) ?_
              refine lv_aload_n hx hb dX4_filled_150 rfl (lv_at hl 1 rfl) ?_
              refine mx_get (ci := 4) (v := .long vv) (C := RX4) (T := TX4) (N := 20) hx hb hts inX4 hown hK hP (by omega : 52 < n) hO1 rfl 19 (by decide) (hts _ wm_287) (fun _ h9 => h9) rfl dX4_filled_151 ?_
              refine lv_aload_n hx hb dX4_filled_154 rfl (lv_at hl 1 rfl) ?_
              refine mx_get (ci := 4) (v := .int (nI kb)) (C := RX4) (T := TX4) (N := 20) hx hb hts inX4 hown hK hP (by omega : 52 < n) hO1 rfl 12 (by decide) (hts _ wm_280) (fun _ h9 => h9) rfl dX4_filled_155 ?_
              refine lv_bipush (v := 111) hx hb dX4_filled_158 (by decide) ?_
              refine lv_icmp_ne (tgt := 167) hx hb dX4_filled_160 (by decide) (fun hc6 => ?_) (fun hc6 => ?_)
              · skip
                exact absurd h3 hc6
              · skip
                refine lv_iconst (v := 3) hx hb dX4_filled_163 (by decide) ?_
                refine lv_goto (tgt := 168) hx hb dX4_filled_164 (by decide) ?_
                refine lv_aload_n hx hb dX4_filled_168 rfl (lv_at hl 1 rfl) ?_
                refine mx_get (ci := 4) (v := .int (nI kb)) (C := RX4) (T := TX4) (N := 20) hx hb hts inX4 hown hK hP (by omega : 52 < n) hO1 rfl 12 (by decide) (hts _ wm_280) (fun _ h9 => h9) rfl dX4_filled_169 ?_
                refine lv_bipush (v := 88) hx hb dX4_filled_172 (by decide) ?_
                refine lv_icmp_ne (tgt := 182) hx hb dX4_filled_174 (by decide) (fun hc7 => ?_) (fun hc7 => ?_)
                · skip
                  refine lv_bipush (v := 97) hx hb dX4_filled_182 (by decide) ?_
                  refine mx_cv (va_runV (As := [.long vv, .int 3, .int 97]) (rest := []) ⟨hx, hb, hml, hown, hts⟩ (c_bits l D ca n ad c2 hn hO1 vv 3 97 22 3 97 rfl rfl (by decide) (by decide) h581 _) (cwV 3 hts (gV wm_417 wm_419 ws_24 wm_5 wm_420) rfl rfl rfl (by decide +kernel) ⟨Nat.le_of_ble_eq_true rfl, Nat.le_of_ble_eq_true rfl⟩) (mx_pv (C := RX4) (T := TX4) (N := 20) (ci := 4) hK hP hD hN (by omega : 52 < n) hO1 rfl) rfl rfl hl.1 rfl (lv_room (Nat.le_of_ble_eq_true rfl)) dX4_filled_184 ⟨Nat.zero_le _, Nat.zero_le _⟩) (Nat.le_refl _) hS (fun c3 H locs hw3 hP hS => ?_)
                  obtain ⟨p, hp, hO3, hPB, hs3⟩ := hw3
                  have hB3 := hB1.keep (hs3 56 (by omega) (by omega))
                  have hW3 := hW2.keep (hs3 55 (by omega) (by omega)) (hs3 57 (by omega) (by omega))
                  have hx43 := hx4
                  have hlp := hPB.le
                  have hfi : fInt f wd (nI kb) vv = pad f.1 f.2.1 wd (sgL 0) (tBits vv 22 3 97) := by unfold fInt; rw [if_neg (by rw [h3]; decide), if_neg (by rw [h3]; decide), if_pos h3]
                  have hzz : f.2.1 = (f.2.1 && decide (¬ nI kb = 99 ∧ ¬ nI kb = 115)) := by rw [h3]; simp
                  refine lv_aload_n hx hb dX4_filled_187 rfl (lv_at hl 1 rfl) ?_
                  refine lv_aload_n hx hb dX4_filled_188 rfl (lv_at hl 1 rfl) ?_
                  refine mx_get (ci := 4) (v := .ref (ad 58)) (C := RX4) (T := TX4) (N := 20) hx hb hts inX4 hown hK hP (by omega : 52 < n) hO3 rfl 17 (by decide) (hts _ wm_285) (fun _ h9 => h9) rfl dX4_filled_189 ?_
                  refine lv_aload_n hx hb dX4_filled_192 rfl (lv_at hl 1 rfl) ?_
                  refine mx_get (ci := 4) (v := .int (nI p)) (C := RX4) (T := TX4) (N := 20) hx hb hts inX4 hown hK hP (by omega : 52 < n) hO3 rfl 18 (by decide) (hts _ wm_286) (fun _ h9 => h9) rfl dX4_filled_193 ?_
                  refine lv_bipush (v := 72) hx hb dX4_filled_196 (by decide) ?_
                  refine lv_aload_n hx hb dX4_filled_198 rfl (lv_at hl 1 rfl) ?_
                  refine mx_get (ci := 4) (v := .int (nI p)) (C := RX4) (T := TX4) (N := 20) hx hb hts inX4 hown hK hP (by omega : 52 < n) hO3 rfl 18 (by decide) (hts _ wm_286) (fun _ h9 => h9) rfl dX4_filled_199 ?_
                  refine lv_isub hx hb dX4_filled_202 ?_
                  refine mx_i (nI (tBits vv 22 3 97).length) (by rw [show (72 : Int32) = nI 72 from rfl, pk_sub (by omega)]; congr 1; omega) ?_
                  refine lv_iload_n hx hb dX4_filled_203 rfl (lv_at hl 0 rfl) ?_
                  refine mx_ci (va_runV (As := [.ref (ad 58), .int (nI p), .int (nI (tBits vv 22 3 97).length), .int 0]) (rest := []) ⟨hx, hb, hml, hown, hts⟩ (c_fill l D ca n ad c3 hn hO3 hB3 hx43 hwd (kr := 58) (cap := 72) (bg := p) (t := tBits vv 22 3 97) (by decide) hPB (nI p) (nI (tBits vv 22 3 97).length) 0 rfl rfl (f.2.1) (fun _ => hzz) _) (cwV 4 hts (gV wm_392 wm_394 ws_19 wm_5 wm_395) rfl rfl rfl (by decide +kernel) ⟨Nat.le_of_ble_eq_true rfl, Nat.le_of_ble_eq_true rfl⟩) (mx_pv (C := RX4) (T := TX4) (N := 20) (ci := 4) hK hP hD hN (by omega : 52 < n) hO3 rfl) rfl rfl hl.1 rfl (lv_room (Nat.le_of_ble_eq_true rfl)) dX4_filled_204 ⟨Nat.zero_le _, Nat.zero_le _⟩) (Nat.le_refl _) hS (fun r c4 H locs hw hP hS => ?_)
                  obtain ⟨cu2, hO2, hB2, hs2, hw⟩ := hw
                  rw [← hfi] at hw
                  have hW4 := hW3.keep (hs2 55 (by omega) (by omega)) (hs2 57 (by omega) (by omega))
                  have h584 : ∃ f1, c4 58 = .inl (ca 2, 72, .inl f1) := ⟨_, (hs2 58 (by omega) (by omega)).trans hPB.2.2.2.choose_spec.1⟩
                  have hq : ∀ rr : Int32, (∃ (x : Int32), x = rr ∧ ((cu.length + (fInt f wd (nI kb) vv).length ≤ 1024 ∧ x = 0 ∧ cu2 = cu ++ fInt f wd (nI kb) vv) ∨ (¬ cu.length + (fInt f wd (nI kb) vv).length ≤ 1024 ∧ x = -5))) → ∃ cu' y12 v', c4 52 = rO ad x0 x1 (nI ac) x3 (nI cu'.length) x5 (nI wd) (nI kb) (bI f.1) (bI f.2.1) (bI f.2.2.1) (bI f.2.2.2) y12 v' ∧ tB ca c4 56 1024 0 cu' ∧ tWd ca c4 ar ac ∧ (∃ f1, c4 58 = .inl (ca 2, 72, .inl f1)) ∧ (∀ j, j ≠ 52 → j ≠ 56 → j ≠ 58 → c4 j = c j) ∧ (((pcs ar ac tk f wd (nI kb)).1 = 0 ∧ cu.length + (pcs ar ac tk f wd (nI kb)).2.1.length ≤ 1024 ∧ rr = 0 ∧ cu' = cu ++ (pcs ar ac tk f wd (nI kb)).2.1) ∨ ((pcs ar ac tk f wd (nI kb)).1 = 0 ∧ ¬ cu.length + (pcs ar ac tk f wd (nI kb)).2.1.length ≤ 1024 ∧ rr = -5) ∨ (¬ (pcs ar ac tk f wd (nI kb)).1 = 0 ∧ rr = (pcs ar ac tk f wd (nI kb)).1)) := by
                    rintro rr ⟨x, rfl, hx⟩
                    refine ⟨cu2, _, _, hO2, hB2, hW4, h584, fun j h1 h2 h3 => (hs2 j h1 h2).trans ((hs3 j h1 h3).trans (hs1 j h1)), ?_⟩
                    rw [hP9]
                    rcases hx with ⟨q1, q2, q3⟩ | ⟨q1, q2⟩
                    · exact Or.inl ⟨rfl, q1, q2, q3⟩
                    · exact Or.inr (Or.inl ⟨rfl, q1, q2⟩)
                  refine lv_if_eq (tgt := 214) hx hb dX4_filled_207 (by decide) (fun hc9 => ?_) (fun hc9 => ?_)
                  · skip
                    obtain ⟨q1, -⟩ := hw.resolve_left (fun h => by rw [h.2.1] at hc9; exact absurd hc9 (by decide))
                    refine lv_bipush (v := (-5)) hx hb dX4_filled_214 (by decide) ?_
                    exact mx_iret hx hb hr hlocks hP hS (hq _ ⟨_, rfl, Or.inr ⟨q1, rfl⟩⟩) dX4_filled_216
                  · skip
                    obtain ⟨q1, -, q3⟩ := hw.resolve_right (fun h => hc9 h.2)
                    refine lv_iconst (v := 0) hx hb dX4_filled_210 (by decide) ?_
                    refine lv_goto (tgt := 216) hx hb dX4_filled_211 (by decide) ?_
                    exact mx_iret hx hb hr hlocks hP hS (hq _ ⟨_, rfl, Or.inl ⟨q1, rfl, q3⟩⟩) dX4_filled_216
                · skip
                  exact absurd hc7 (by rw [h3]; decide)
          · skip
            have hkd99 : nI kb = 99 := hc5
            refine lv_aload_n hx hb dX4_filled_131 rfl (lv_at hl 1 rfl) ?_
            refine lv_bipush (v := 72) hx hb dX4_filled_132 (by decide) ?_
            refine mx_i (nI (71 + 1)) (rfl) ?_
            refine mx_put (ci := 4) (v := .int (nI (71 + 1))) (ty := .int) (C := RX4) (T := TX4) (N := 20) hx hb hts inX4 tyX4 tyX4_ok nmX4 hown hK hP hD hS (by omega : 52 < n) hO1 rfl 18 (by decide) (hts _ wm_286) (fun _ h9 => h9) rfl (by decide +kernel) rfl rfl (Nat.le_of_ble_eq_true rfl) dX4_filled_134 (fun H locs hP hS => ?_)
            obtain ⟨b1, eb1⟩ : ∃ z : Nat → va_E, z = va_up c2 52 (.inr (4, [.ref (ad 53), .ref (ad 54), .ref (ad 55), .ref (ad 56), .int x0, .int x1, .int (nI ac), .int x3, .int x4, .ref (ad 57), .int x5, .int (nI wd), .int (nI kb), .int (bI f.1), .int (bI f.2.1), .int (bI f.2.2.1), .int (bI f.2.2.2), .ref (ad 58), .int (nI (71 + 1)), .long vv])) := ⟨_, rfl⟩
            have hP : va_P D vwCl (mw n ad b1) H := by rw [eb1]; exact hP
            have hsb1 : ∀ j, j ≠ 52 → b1 j = c2 j := fun j h => by rw [eb1]; exact va_up_ne _ _ h
            have hcb1 : b1 52 = .inr (4, [.ref (ad 53), .ref (ad 54), .ref (ad 55), .ref (ad 56), .int x0, .int x1, .int (nI ac), .int x3, .int x4, .ref (ad 57), .int x5, .int (nI wd), .int (nI kb), .int (bI f.1), .int (bI f.2.1), .int (bI f.2.2.1), .int (bI f.2.2.2), .ref (ad 58), .int (nI (71 + 1)), .long vv]) := by rw [eb1]; exact va_up_self _ _ _
            refine lv_aload_n hx hb dX4_filled_137 rfl (lv_at hl 1 rfl) ?_
            refine lv_aload_n hx hb dX4_filled_138 rfl (lv_at hl 1 rfl) ?_
            refine mx_get (ci := 4) (v := .long vv) (C := RX4) (T := TX4) (N := 20) hx hb hts inX4 hown hK hP (by omega : 52 < n) hcb1 rfl 19 (by decide) (hts _ wm_287) (fun _ h9 => h9) rfl dX4_filled_139 ?_
            refine lv_l2i (v := vv.toInt32) hx hb dX4_filled_142 rfl ?_
            refine mx_cv (va_runV (As := [.int vv.toInt32]) (rest := []) ⟨hx, hb, hml, hown, hts⟩ (c_ahead l D ca n ad b1 hn hcb1 vv.toInt32 71 rfl (tB.nil ((hsb1 58 (by omega)).trans h581) (by omega) (by omega)) _) (cwV 1 hts (gV wm_363 wm_365 ws_14 wm_5 wm_366) rfl rfl rfl (by decide +kernel) ⟨Nat.le_of_ble_eq_true rfl, Nat.le_of_ble_eq_true rfl⟩) (mx_pv (C := RX4) (T := TX4) (N := 20) (ci := 4) hK hP hD hN (by omega : 52 < n) hcb1 rfl) rfl rfl hl.1 rfl (lv_room (Nat.le_of_ble_eq_true rfl)) dX4_filled_143 ⟨Nat.zero_le _, Nat.zero_le _⟩) (Nat.le_refl _) hS (fun c3 H locs hw3 hP hS => ?_)
            obtain ⟨hO3, hPB, hs3⟩ := hw3
            have hs3 : ∀ j, j ≠ 52 → j ≠ 58 → c3 j = c2 j := fun j h1 h2 => (hs3 j h1 h2).trans (hsb1 j h1)
            have hB3 := hB1.keep (hs3 56 (by omega) (by omega))
            have hW3 := hW2.keep (hs3 55 (by omega) (by omega)) (hs3 57 (by omega) (by omega))
            have hx43 := hx4
            obtain ⟨p, hpp⟩ : ∃ p, 71 = p := ⟨_, rfl⟩
            rw [hpp] at hO3 hPB
            have hp : p + [by8 vv.toInt32].length = 72 := by rw [← hpp]; rfl
            have hlp := hPB.le
            have hfi : fInt f wd (nI kb) vv = pad f.1 false wd (sgL 0) [by8 vv.toInt32] := by unfold fInt; rw [if_neg (by rw [hkd99]; decide), if_neg (by rw [hkd99]; decide), if_neg (by rw [hkd99]; decide), if_neg (by rw [hkd99]; decide)]
            have hzz : false = (f.2.1 && decide (¬ nI kb = 99 ∧ ¬ nI kb = 115)) := by rw [hkd99]; simp
            refine lv_goto (tgt := 187) hx hb dX4_filled_146 (by decide) ?_
            refine lv_aload_n hx hb dX4_filled_187 rfl (lv_at hl 1 rfl) ?_
            refine lv_aload_n hx hb dX4_filled_188 rfl (lv_at hl 1 rfl) ?_
            refine mx_get (ci := 4) (v := .ref (ad 58)) (C := RX4) (T := TX4) (N := 20) hx hb hts inX4 hown hK hP (by omega : 52 < n) hO3 rfl 17 (by decide) (hts _ wm_285) (fun _ h9 => h9) rfl dX4_filled_189 ?_
            refine lv_aload_n hx hb dX4_filled_192 rfl (lv_at hl 1 rfl) ?_
            refine mx_get (ci := 4) (v := .int (nI p)) (C := RX4) (T := TX4) (N := 20) hx hb hts inX4 hown hK hP (by omega : 52 < n) hO3 rfl 18 (by decide) (hts _ wm_286) (fun _ h9 => h9) rfl dX4_filled_193 ?_
            refine lv_bipush (v := 72) hx hb dX4_filled_196 (by decide) ?_
            refine lv_aload_n hx hb dX4_filled_198 rfl (lv_at hl 1 rfl) ?_
            refine mx_get (ci := 4) (v := .int (nI p)) (C := RX4) (T := TX4) (N := 20) hx hb hts inX4 hown hK hP (by omega : 52 < n) hO3 rfl 18 (by decide) (hts _ wm_286) (fun _ h9 => h9) rfl dX4_filled_199 ?_
            refine lv_isub hx hb dX4_filled_202 ?_
            refine mx_i (nI ([by8 vv.toInt32]).length) (by rw [show (72 : Int32) = nI 72 from rfl, pk_sub (by omega)]; congr 1; omega) ?_
            refine lv_iload_n hx hb dX4_filled_203 rfl (lv_at hl 0 rfl) ?_
            refine mx_ci (va_runV (As := [.ref (ad 58), .int (nI p), .int (nI ([by8 vv.toInt32]).length), .int 0]) (rest := []) ⟨hx, hb, hml, hown, hts⟩ (c_fill l D ca n ad c3 hn hO3 hB3 hx43 hwd (kr := 58) (cap := 72) (bg := p) (t := [by8 vv.toInt32]) (by decide) hPB (nI p) (nI ([by8 vv.toInt32]).length) 0 rfl rfl (false) (fun _ => hzz) _) (cwV 4 hts (gV wm_392 wm_394 ws_19 wm_5 wm_395) rfl rfl rfl (by decide +kernel) ⟨Nat.le_of_ble_eq_true rfl, Nat.le_of_ble_eq_true rfl⟩) (mx_pv (C := RX4) (T := TX4) (N := 20) (ci := 4) hK hP hD hN (by omega : 52 < n) hO3 rfl) rfl rfl hl.1 rfl (lv_room (Nat.le_of_ble_eq_true rfl)) dX4_filled_204 ⟨Nat.zero_le _, Nat.zero_le _⟩) (Nat.le_refl _) hS (fun r c4 H locs hw hP hS => ?_)
            obtain ⟨cu2, hO2, hB2, hs2, hw⟩ := hw
            rw [← hfi] at hw
            have hW4 := hW3.keep (hs2 55 (by omega) (by omega)) (hs2 57 (by omega) (by omega))
            have h584 : ∃ f1, c4 58 = .inl (ca 2, 72, .inl f1) := ⟨_, (hs2 58 (by omega) (by omega)).trans hPB.2.2.2.choose_spec.1⟩
            have hq : ∀ rr : Int32, (∃ (x : Int32), x = rr ∧ ((cu.length + (fInt f wd (nI kb) vv).length ≤ 1024 ∧ x = 0 ∧ cu2 = cu ++ fInt f wd (nI kb) vv) ∨ (¬ cu.length + (fInt f wd (nI kb) vv).length ≤ 1024 ∧ x = -5))) → ∃ cu' y12 v', c4 52 = rO ad x0 x1 (nI ac) x3 (nI cu'.length) x5 (nI wd) (nI kb) (bI f.1) (bI f.2.1) (bI f.2.2.1) (bI f.2.2.2) y12 v' ∧ tB ca c4 56 1024 0 cu' ∧ tWd ca c4 ar ac ∧ (∃ f1, c4 58 = .inl (ca 2, 72, .inl f1)) ∧ (∀ j, j ≠ 52 → j ≠ 56 → j ≠ 58 → c4 j = c j) ∧ (((pcs ar ac tk f wd (nI kb)).1 = 0 ∧ cu.length + (pcs ar ac tk f wd (nI kb)).2.1.length ≤ 1024 ∧ rr = 0 ∧ cu' = cu ++ (pcs ar ac tk f wd (nI kb)).2.1) ∨ ((pcs ar ac tk f wd (nI kb)).1 = 0 ∧ ¬ cu.length + (pcs ar ac tk f wd (nI kb)).2.1.length ≤ 1024 ∧ rr = -5) ∨ (¬ (pcs ar ac tk f wd (nI kb)).1 = 0 ∧ rr = (pcs ar ac tk f wd (nI kb)).1)) := by
              rintro rr ⟨x, rfl, hx⟩
              refine ⟨cu2, _, _, hO2, hB2, hW4, h584, fun j h1 h2 h3 => (hs2 j h1 h2).trans ((hs3 j h1 h3).trans (hs1 j h1)), ?_⟩
              rw [hP9]
              rcases hx with ⟨q1, q2, q3⟩ | ⟨q1, q2⟩
              · exact Or.inl ⟨rfl, q1, q2, q3⟩
              · exact Or.inr (Or.inl ⟨rfl, q1, q2⟩)
            refine lv_if_eq (tgt := 214) hx hb dX4_filled_207 (by decide) (fun hc9 => ?_) (fun hc9 => ?_)
            · skip
              obtain ⟨q1, -⟩ := hw.resolve_left (fun h => by rw [h.2.1] at hc9; exact absurd hc9 (by decide))
              refine lv_bipush (v := (-5)) hx hb dX4_filled_214 (by decide) ?_
              exact mx_iret hx hb hr hlocks hP hS (hq _ ⟨_, rfl, Or.inr ⟨q1, rfl⟩⟩) dX4_filled_216
            · skip
              obtain ⟨q1, -, q3⟩ := hw.resolve_right (fun h => hc9 h.2)
              refine lv_iconst (v := 0) hx hb dX4_filled_210 (by decide) ?_
              refine lv_goto (tgt := 216) hx hb dX4_filled_211 (by decide) ?_
              exact mx_iret hx hb hr hlocks hP hS (hq _ ⟨_, rfl, Or.inl ⟨q1, rfl, q3⟩⟩) dX4_filled_216
        · skip
          have hkd100 : nI kb = 100 := hc4
          refine lv_aload_n hx hb dX4_filled_71 rfl (lv_at hl 1 rfl) ?_
          refine lv_aload_n hx hb dX4_filled_72 rfl (lv_at hl 1 rfl) ?_
          refine mx_get (ci := 4) (v := .long vv) (C := RX4) (T := TX4) (N := 20) hx hb hts inX4 hown hK hP (by omega : 52 < n) hO1 rfl 19 (by decide) (hts _ wm_287) (fun _ h9 => h9) rfl dX4_filled_73 ?_
          refine mx_cv (va_runV (As := [.long vv]) (rest := []) ⟨hx, hb, hml, hown, hts⟩ (c_digits l D ca n ad c2 hn hO1 vv h581 _) (cwV 1 hts (gV wm_358 wm_360 ws_13 wm_5 wm_361) rfl rfl rfl (by decide +kernel) ⟨Nat.le_of_ble_eq_true rfl, Nat.le_of_ble_eq_true rfl⟩) (mx_pv (C := RX4) (T := TX4) (N := 20) (ci := 4) hK hP hD hN (by omega : 52 < n) hO1 rfl) rfl rfl hl.1 rfl (lv_room (Nat.le_of_ble_eq_true rfl)) dX4_filled_76 ⟨Nat.zero_le _, Nat.zero_le _⟩) (Nat.le_refl _) hS (fun c3 H locs hw3 hP hS => ?_)
          obtain ⟨p, hp, hO3, hPB, hs3⟩ := hw3
          have hB3 := hB1.keep (hs3 56 (by omega) (by omega))
          have hW3 := hW2.keep (hs3 55 (by omega) (by omega)) (hs3 57 (by omega) (by omega))
          have hx43 := hx4
          have hlp := hPB.le
          suffices hj118 : W pg9 l ev9 (headSpec wsX4_filled ({ frames := 3, cells := 0, slots := 0, locals := 74 })).room s m ([.ref (ad 52), .int (nI tk)] : List Value).toArray below meth cd H locs 0 0 (MQ below (va_Qi (fun r c' => ∃ cu' y12 v', c' 52 = rO ad x0 x1 (nI ac) x3 (nI cu'.length) x5 (nI wd) (nI kb) (bI f.1) (bI f.2.1) (bI f.2.2.1) (bI f.2.2.2) y12 v' ∧ tB ca c' 56 1024 0 cu' ∧ tWd ca c' ar ac ∧ (∃ f1, c' 58 = .inl (ca 2, 72, .inl f1)) ∧ (∀ j, j ≠ 52 → j ≠ 56 → j ≠ 58 → c' j = c j) ∧ (((pcs ar ac tk f wd (nI kb)).1 = 0 ∧ cu.length + (pcs ar ac tk f wd (nI kb)).2.1.length ≤ 1024 ∧ r = 0 ∧ cu' = cu ++ (pcs ar ac tk f wd (nI kb)).2.1) ∨ ((pcs ar ac tk f wd (nI kb)).1 = 0 ∧ ¬ cu.length + (pcs ar ac tk f wd (nI kb)).2.1.length ≤ 1024 ∧ r = -5) ∨ (¬ (pcs ar ac tk f wd (nI kb)).1 = 0 ∧ r = (pcs ar ac tk f wd (nI kb)).1))) (mW D n ad) (mA n ad s.heap.size)) ([.ref (ad 52), .int (nI tk)] : List Value).toArray s 0 0 (mA n ad s.heap.size)) (F0 m 118 ls [.int (sgn f vv)]) by
            refine lv_aload_n hx hb dX4_filled_79 rfl (lv_at hl 1 rfl) ?_
            refine mx_get (ci := 4) (v := .long vv) (C := RX4) (T := TX4) (N := 20) hx hb hts inX4 hown hK hP (by omega : 52 < n) hO3 rfl 19 (by decide) (hts _ wm_287) (fun _ h9 => h9) rfl dX4_filled_80 ?_
            refine lv_lconst (v := 0) hx hb dX4_filled_83 (by decide) ?_
            refine W.lcmp hx hb dX4_filled_84 ?_
            refine lv_if_ge (tgt := 93) hx hb dX4_filled_85 (by decide) (fun hc5 => ?_) (fun hc5 => ?_)
            · skip
              have hv0 : ¬ vv < 0 := Int64.not_lt.mpr ((lg_cmp_ge _ _).mp hc5)
              refine lv_aload_n hx hb dX4_filled_93 rfl (lv_at hl 1 rfl) ?_
              refine mx_get (ci := 4) (v := .int (bI f.2.2.1)) (C := RX4) (T := TX4) (N := 20) hx hb hts inX4 hown hK hP (by omega : 52 < n) hO3 rfl 15 (by decide) (hts _ wm_283) (fun _ h9 => h9) rfl dX4_filled_94 ?_
              refine lv_if_eq (tgt := 105) hx hb dX4_filled_97 (by decide) (fun hc6 => ?_) (fun hc6 => ?_)
              · skip
                refine lv_aload_n hx hb dX4_filled_105 rfl (lv_at hl 1 rfl) ?_
                refine mx_get (ci := 4) (v := .int (bI f.2.2.2)) (C := RX4) (T := TX4) (N := 20) hx hb hts inX4 hown hK hP (by omega : 52 < n) hO3 rfl 16 (by decide) (hts _ wm_284) (fun _ h9 => h9) rfl dX4_filled_106 ?_
                refine lv_if_eq (tgt := 117) hx hb dX4_filled_109 (by decide) (fun hc7 => ?_) (fun hc7 => ?_)
                · skip
                  refine lv_iconst (v := 0) hx hb dX4_filled_117 (by decide) ?_
                  refine mx_i (sgn f vv) (by unfold sgn; rw [if_neg hv0, if_neg (by rw [bI_eq hc6]; decide), if_neg (by rw [bI_eq hc7]; decide)]) ?_
                  exact hj118
                · skip
                  refine lv_bipush (v := 32) hx hb dX4_filled_112 (by decide) ?_
                  refine lv_goto (tgt := 118) hx hb dX4_filled_114 (by decide) ?_
                  refine mx_i (sgn f vv) (by unfold sgn; rw [if_neg hv0, if_neg (by rw [bI_eq hc6]; decide), if_pos (bI_ne hc7)]) ?_
                  exact hj118
              · skip
                refine lv_bipush (v := 43) hx hb dX4_filled_100 (by decide) ?_
                refine lv_goto (tgt := 118) hx hb dX4_filled_102 (by decide) ?_
                refine mx_i (sgn f vv) (by unfold sgn; rw [if_neg hv0, if_pos (bI_ne hc6)]) ?_
                exact hj118
            · skip
              refine lv_bipush (v := 45) hx hb dX4_filled_88 (by decide) ?_
              refine lv_goto (tgt := 118) hx hb dX4_filled_90 (by decide) ?_
              refine mx_i (sgn f vv) (by unfold sgn; rw [if_pos (Int64.not_le.mp (fun h => hc5 ((lg_cmp_ge _ _).mpr h)))]) ?_
              exact hj118
          have hfi : fInt f wd (nI kb) vv = pad f.1 f.2.1 wd (sgL (sgn f vv)) (tDec vv) := by unfold fInt; rw [if_neg (by rw [hkd100]; decide), if_pos hkd100]
          have hzz : f.2.1 = (f.2.1 && decide (¬ nI kb = 99 ∧ ¬ nI kb = 115)) := by rw [hkd100]; simp
          refine lv_istore_n (lv' := [(2, .int (sgn f vv)), (0, .ref (ad 52)), (1, .int (nI tk))]) hx hb dX4_filled_118 rfl hl (by decide) rfl (fun ls hl => ?_)
          refine lv_goto (tgt := 187) hx hb dX4_filled_119 (by decide) ?_
          refine lv_aload_n hx hb dX4_filled_187 rfl (lv_at hl 1 rfl) ?_
          refine lv_aload_n hx hb dX4_filled_188 rfl (lv_at hl 1 rfl) ?_
          refine mx_get (ci := 4) (v := .ref (ad 58)) (C := RX4) (T := TX4) (N := 20) hx hb hts inX4 hown hK hP (by omega : 52 < n) hO3 rfl 17 (by decide) (hts _ wm_285) (fun _ h9 => h9) rfl dX4_filled_189 ?_
          refine lv_aload_n hx hb dX4_filled_192 rfl (lv_at hl 1 rfl) ?_
          refine mx_get (ci := 4) (v := .int (nI p)) (C := RX4) (T := TX4) (N := 20) hx hb hts inX4 hown hK hP (by omega : 52 < n) hO3 rfl 18 (by decide) (hts _ wm_286) (fun _ h9 => h9) rfl dX4_filled_193 ?_
          refine lv_bipush (v := 72) hx hb dX4_filled_196 (by decide) ?_
          refine lv_aload_n hx hb dX4_filled_198 rfl (lv_at hl 1 rfl) ?_
          refine mx_get (ci := 4) (v := .int (nI p)) (C := RX4) (T := TX4) (N := 20) hx hb hts inX4 hown hK hP (by omega : 52 < n) hO3 rfl 18 (by decide) (hts _ wm_286) (fun _ h9 => h9) rfl dX4_filled_199 ?_
          refine lv_isub hx hb dX4_filled_202 ?_
          refine mx_i (nI (tDec vv).length) (by rw [show (72 : Int32) = nI 72 from rfl, pk_sub (by omega)]; congr 1; omega) ?_
          refine lv_iload_n hx hb dX4_filled_203 rfl (lv_at hl 0 rfl) ?_
          refine mx_ci (va_runV (As := [.ref (ad 58), .int (nI p), .int (nI (tDec vv).length), .int (sgn f vv)]) (rest := []) ⟨hx, hb, hml, hown, hts⟩ (c_fill l D ca n ad c3 hn hO3 hB3 hx43 hwd (kr := 58) (cap := 72) (bg := p) (t := tDec vv) (by decide) hPB (nI p) (nI (tDec vv).length) (sgn f vv) rfl rfl (f.2.1) (fun _ => hzz) _) (cwV 4 hts (gV wm_392 wm_394 ws_19 wm_5 wm_395) rfl rfl rfl (by decide +kernel) ⟨Nat.le_of_ble_eq_true rfl, Nat.le_of_ble_eq_true rfl⟩) (mx_pv (C := RX4) (T := TX4) (N := 20) (ci := 4) hK hP hD hN (by omega : 52 < n) hO3 rfl) rfl rfl hl.1 rfl (lv_room (Nat.le_of_ble_eq_true rfl)) dX4_filled_204 ⟨Nat.zero_le _, Nat.zero_le _⟩) (Nat.le_refl _) hS (fun r c4 H locs hw hP hS => ?_)
          obtain ⟨cu2, hO2, hB2, hs2, hw⟩ := hw
          rw [← hfi] at hw
          have hW4 := hW3.keep (hs2 55 (by omega) (by omega)) (hs2 57 (by omega) (by omega))
          have h584 : ∃ f1, c4 58 = .inl (ca 2, 72, .inl f1) := ⟨_, (hs2 58 (by omega) (by omega)).trans hPB.2.2.2.choose_spec.1⟩
          have hq : ∀ rr : Int32, (∃ (x : Int32), x = rr ∧ ((cu.length + (fInt f wd (nI kb) vv).length ≤ 1024 ∧ x = 0 ∧ cu2 = cu ++ fInt f wd (nI kb) vv) ∨ (¬ cu.length + (fInt f wd (nI kb) vv).length ≤ 1024 ∧ x = -5))) → ∃ cu' y12 v', c4 52 = rO ad x0 x1 (nI ac) x3 (nI cu'.length) x5 (nI wd) (nI kb) (bI f.1) (bI f.2.1) (bI f.2.2.1) (bI f.2.2.2) y12 v' ∧ tB ca c4 56 1024 0 cu' ∧ tWd ca c4 ar ac ∧ (∃ f1, c4 58 = .inl (ca 2, 72, .inl f1)) ∧ (∀ j, j ≠ 52 → j ≠ 56 → j ≠ 58 → c4 j = c j) ∧ (((pcs ar ac tk f wd (nI kb)).1 = 0 ∧ cu.length + (pcs ar ac tk f wd (nI kb)).2.1.length ≤ 1024 ∧ rr = 0 ∧ cu' = cu ++ (pcs ar ac tk f wd (nI kb)).2.1) ∨ ((pcs ar ac tk f wd (nI kb)).1 = 0 ∧ ¬ cu.length + (pcs ar ac tk f wd (nI kb)).2.1.length ≤ 1024 ∧ rr = -5) ∨ (¬ (pcs ar ac tk f wd (nI kb)).1 = 0 ∧ rr = (pcs ar ac tk f wd (nI kb)).1)) := by
            rintro rr ⟨x, rfl, hx⟩
            refine ⟨cu2, _, _, hO2, hB2, hW4, h584, fun j h1 h2 h3 => (hs2 j h1 h2).trans ((hs3 j h1 h3).trans (hs1 j h1)), ?_⟩
            rw [hP9]
            rcases hx with ⟨q1, q2, q3⟩ | ⟨q1, q2⟩
            · exact Or.inl ⟨rfl, q1, q2, q3⟩
            · exact Or.inr (Or.inl ⟨rfl, q1, q2⟩)
          refine lv_if_eq (tgt := 214) hx hb dX4_filled_207 (by decide) (fun hc9 => ?_) (fun hc9 => ?_)
          · skip
            obtain ⟨q1, -⟩ := hw.resolve_left (fun h => by rw [h.2.1] at hc9; exact absurd hc9 (by decide))
            refine lv_bipush (v := (-5)) hx hb dX4_filled_214 (by decide) ?_
            exact mx_iret hx hb hr hlocks hP hS (hq _ ⟨_, rfl, Or.inr ⟨q1, rfl⟩⟩) dX4_filled_216
          · skip
            obtain ⟨q1, -, q3⟩ := hw.resolve_right (fun h => hc9 h.2)
            refine lv_iconst (v := 0) hx hb dX4_filled_210 (by decide) ?_
            refine lv_goto (tgt := 216) hx hb dX4_filled_211 (by decide) ?_
            exact mx_iret hx hb hr hlocks hP hS (hq _ ⟨_, rfl, Or.inl ⟨q1, rfl, q3⟩⟩) dX4_filled_216
      · skip
        obtain ⟨hv1, -, vv, hO1⟩ := hw1.resolve_left (fun h => by obtain ⟨v9, h1, h2, -⟩ := h; rw [h2] at hc3; exact absurd hc3 (by decide))
        have hP9 : pcs ar ac tk f wd (nI kb) = (-4, [], tk + 1) := by unfold pcs; rw [if_neg hk37n, if_neg hng, if_neg hc2, hv1]
        refine lv_bipush (v := (-4)) hx hb dX4_filled_57 (by decide) ?_
        exact mx_iret hx hb hr hlocks hP hS (⟨cu, x12, vv, by rw [← hx4]; exact hO1, hB.keep (hs1 56 (by omega)), hW.keep (hs1 55 (by omega)) (hs1 57 (by omega)), ⟨_, (hs1 58 (by omega)).trans h58⟩, fun j h1 h2 h3 => hs1 j h1, by rw [hP9]; exact Or.inr (Or.inr ⟨by show ¬ (-4 : Int32) = 0; decide, rfl⟩)⟩) dX4_filled_59
    · skip
      have hP9 : pcs ar ac tk f wd (nI kb) = (0, pad f.1 false wd (sgL 0) (ar tk), tk + 1) := by unfold pcs; rw [if_neg hk37n, if_neg hng, if_pos hc2]
      refine lv_aload_n hx hb dX4_filled_20 rfl (lv_at hl 0 rfl) ?_
      refine lv_aload_n hx hb dX4_filled_21 rfl (lv_at hl 0 rfl) ?_
      refine mx_get (ci := 4) (v := .ref (ad 55)) (C := RX4) (T := TX4) (N := 20) hx hb hts inX4 hown hK hP (by omega : 52 < n) hO rfl 2 (by decide) (hts _ wm_270) (fun _ h9 => h9) rfl dX4_filled_22 ?_
      refine lv_bipush (v := 40) hx hb dX4_filled_25 (by decide) ?_
      refine lv_iload_n hx hb dX4_filled_27 rfl (lv_at hl 1 rfl) ?_
      refine lv_imul hx hb dX4_filled_28 ?_
      refine mx_i (nI (40 * tk)) (pk_mul 40 tk) ?_
      refine lv_aload_n hx hb dX4_filled_29 rfl (lv_at hl 0 rfl) ?_
      refine mx_get (ci := 4) (v := .ref (ad 57)) (C := RX4) (T := TX4) (N := 20) hx hb hts inX4 hown hK hP (by omega : 52 < n) hO rfl 9 (by decide) (hts _ wm_277) (fun _ h9 => h9) rfl dX4_filled_30 ?_
      refine lv_iload_n hx hb dX4_filled_33 rfl (lv_at hl 1 rfl) ?_
      refine mx_iald hx hb hK hP (by omega : 57 < n) 0 h57 rfl (vp_in_nI (by omega) (by omega)) dX4_filled_34 ?_
      refine mx_i (nI (ar tk).length) (by rw [nI_clamp (by omega)]; exact hsz) ?_
      refine lv_iconst (v := 0) hx hb dX4_filled_35 (by decide) ?_
      refine mx_ci (va_runV (As := [.ref (ad 55), .int (nI (40 * tk)), .int (nI (ar tk).length), .int 0]) (rest := []) ⟨hx, hb, hml, hown, hts⟩ (c_fill l D ca n ad c hn hO hB hx4 hwd (kr := 55) (cap := 800) (bg := 40 * tk) (t := ar tk) (by decide) ⟨by omega, by omega, hb8, f5, h55, hff⟩ (nI (40 * tk)) (nI (ar tk).length) 0 rfl rfl false (fun _ => by rw [hc2]; simp) _) (cwV 4 hts (gV wm_392 wm_394 ws_19 wm_5 wm_395) rfl rfl rfl (by decide +kernel) ⟨Nat.le_of_ble_eq_true rfl, Nat.le_of_ble_eq_true rfl⟩) (mx_pv (C := RX4) (T := TX4) (N := 20) (ci := 4) hK hP hD hN (by omega : 52 < n) hO rfl) rfl rfl hl.1 rfl (lv_room (Nat.le_of_ble_eq_true rfl)) dX4_filled_36 ⟨Nat.zero_le _, Nat.zero_le _⟩) (Nat.le_refl _) hS (fun r c2 H locs hw hP hS => ?_)
      obtain ⟨cu2, hO2, hB2, hs2, hw⟩ := hw
      have hW4 := hW.keep (hs2 55 (by omega) (by omega)) (hs2 57 (by omega) (by omega))
      refine lv_if_eq (tgt := 46) hx hb dX4_filled_39 (by decide) (fun hc9 => ?_) (fun hc9 => ?_)
      · skip
        obtain ⟨q1, -⟩ := hw.resolve_left (fun h => by rw [h.2.1] at hc9; exact absurd hc9 (by decide))
        refine lv_bipush (v := (-5)) hx hb dX4_filled_46 (by decide) ?_
        exact mx_iret hx hb hr hlocks hP hS (⟨cu2, _, _, hO2, hB2, hW4, ⟨_, (hs2 58 (by omega) (by omega)).trans h58⟩, fun j h1 h2 h3 => hs2 j h1 h2, by rw [hP9]; exact Or.inr (Or.inl ⟨rfl, q1, rfl⟩)⟩) dX4_filled_48
      · skip
        obtain ⟨q1, -, q3⟩ := hw.resolve_right (fun h => hc9 h.2)
        refine lv_iconst (v := 0) hx hb dX4_filled_42 (by decide) ?_
        refine lv_goto (tgt := 48) hx hb dX4_filled_43 (by decide) ?_
        exact mx_iret hx hb hr hlocks hP hS (⟨cu2, _, _, hO2, hB2, hW4, ⟨_, (hs2 58 (by omega) (by omega)).trans h58⟩, fun j h1 h2 h3 => hs2 j h1 h2, by rw [hP9]; exact Or.inl ⟨rfl, q1, rfl, q3⟩⟩) dX4_filled_48
  · skip
    have hge : ac ≤ tk := by have := (not_congr (nI_ltI (a := tk) (b := ac) (by omega) (by omega))).mp hc1; omega
    have hP9 : pcs ar ac tk f wd (nI kb) = (-3, [], tk) := by unfold pcs; rw [if_neg hk37n, if_pos hge]
    refine lv_bipush (v := (-3)) hx hb dX4_filled_8 (by decide) ?_
    exact mx_iret hx hb hr hlocks hP hS (⟨cu, x12, v, by rw [← hx4]; exact hO, hB, hW, ⟨_, h58⟩, fun j h1 h2 h3 => rfl, by rw [hP9]; exact Or.inr (Or.inr ⟨by show ¬ (-3 : Int32) = 0; decide, rfl⟩)⟩) dX4_filled_10
