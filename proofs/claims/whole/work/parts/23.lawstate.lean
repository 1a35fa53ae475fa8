def rO0 : va_E := .inr (tCR, [.null, .null, .null, .null, .int 0, .int 0, .int 0, .int 0, .int 0, .null, .int 0, .int 0, .int 0, .int 0, .int 0, .int 0, .int 0, .null, .int 0, .long 0])
theorem tRF.keep {ca : Nat → ClassId} {ad : Nat → Nat} {c c' : Nat → va_E} {tp pt md : List Nat} {ar : Nat → List Nat} {ac : Nat} {x4 x5 x6 x7 : Int32} {f : fl4} {x12 : Int32} {v : Int64} (h : tRF ca ad c tp pt md ar ac x4 x5 x6 x7 f x12 v) (hs : ∀ j, 52 ≤ j → c' j = c j) : tRF ca ad c' tp pt md ar ac x4 x5 x6 x7 f x12 v := by
  obtain ⟨hO, h53, h54, hW, h56, ⟨f8, h58⟩, hac⟩ := h
  exact ⟨(hs 52 (by omega)).trans hO, h53.keep (hs 53 (by omega)), h54.keep (hs 54 (by omega)), hW.keep (hs 55 (by omega)) (hs 57 (by omega)), h56.keep (hs 56 (by omega)), ⟨f8, (hs 58 (by omega)).trans h58⟩, hac⟩
theorem tRF.cng {ca : Nat → ClassId} {ad : Nat → Nat} {c c' : Nat → va_E} {tp pt md : List Nat} {ar : Nat → List Nat} {ac : Nat} {x4 x5 x6 x7 : Int32} {f : fl4} {x12 : Int32} {v : Int64} (h : tRF ca ad c tp pt md ar ac x4 x5 x6 x7 f x12 v) (e : c' = c) : tRF ca ad c' tp pt md ar ac x4 x5 x6 x7 f x12 v := by
  rw [e]
  exact h
theorem tMF.mv {ca : Nat → ClassId} {ad ad' : Nat → Nat} {c c' : Nat → va_E} {tp pt md dg : List Nat} {ar : Nat → List Nat} {ac tk : Nat} {f : fl4} {w kd bh : Int32} {v : Int64} (h : tMF ca ad c tp pt md ar ac tk f w kd bh v dg) (ha : ∀ j, j < 52 → ad' j = ad j) (hs : ∀ j, j < 52 → c' j = c j) : tMF ca ad' c' tp pt md ar ac tk f w kd bh v dg := by
  obtain ⟨hm, ht1, ht3, ht5, ⟨g7, h7, hg7⟩, hA, hL, hV, ht50, hac, htk⟩ := h
  refine ⟨?_, ht1.mv (ha 2 (by omega)) (hs 1 (by omega)) (hs 2 (by omega)), ht3.mv (ha 4 (by omega)) (hs 3 (by omega)) (hs 4 (by omega)), ht5.mv (ha 6 (by omega)) (hs 5 (by omega)) (hs 6 (by omega)), ⟨g7, (hs 7 (by omega)).trans h7, fun i hi => by rw [ha _ (by omega)]; exact hg7 i hi⟩, fun i hi => (hA i hi).mv (ha _ (by omega)) (hs _ (by omega)) (hs _ (by omega)), (hs 48 (by omega)).trans hL, (hs 49 (by omega)).trans hV, ht50.mv (ha 51 (by omega)) (hs 50 (by omega)) (hs 51 (by omega)), hac, htk⟩
  rw [hs 0 (by omega), hm, ha 1 (by omega), ha 3 (by omega), ha 5 (by omega), ha 7 (by omega), ha 48 (by omega), ha 49 (by omega), ha 50 (by omega)]
theorem tMF.keep {ca : Nat → ClassId} {ad : Nat → Nat} {c c' : Nat → va_E} {tp pt md dg : List Nat} {ar : Nat → List Nat} {ac tk : Nat} {f : fl4} {w kd bh : Int32} {v : Int64} (h : tMF ca ad c tp pt md ar ac tk f w kd bh v dg) (hs : ∀ j, j < 52 → c' j = c j) : tMF ca ad c' tp pt md ar ac tk f w kd bh v dg := h.mv (fun _ _ => rfl) hs
theorem tMF.cng {ca : Nat → ClassId} {ad : Nat → Nat} {c c' : Nat → va_E} {tp pt md dg : List Nat} {ar : Nat → List Nat} {ac tk : Nat} {f : fl4} {w kd bh : Int32} {v : Int64} (h : tMF ca ad c tp pt md ar ac tk f w kd bh v dg) (e : c' = c) : tMF ca ad c' tp pt md ar ac tk f w kd bh v dg := by
  rw [e]
  exact h
theorem lw_lt {L i : Nat} (hL : L ≤ 3072) (hi : i ≤ L + 6) (h : ¬ nI L - 6 < nI i) : i + 6 ≤ L := by
  have h1 : ¬ (nI L - nI 6).toInt < (nI i).toInt := fun q => h (Int32.lt_iff_toInt_lt.mpr q)
  rw [pk_sub_toInt (by omega) (by omega), nI_toInt (by omega)] at h1
  omega
theorem lw_end {x : Int32} {n j : Nat} (hn : n < 2 ^ 31) (hj : j ≤ n) (hx : x = nI j) : ¬ (x < 0 ∨ nI n < x) := by
  rw [hx]
  rintro (h | h)
  · exact nI_pos (by omega) h
  · exact nI_nlt hj hn h
section MH
variable {p : Program} {l : Launch} {e : Env} {R : Room} {s : State} {m : MethodId} {args : Array Value} {below : List Frame} {meth : Method} {cd : Code} {H : Heap} {locs : List Loc} {cells slots : Nat} {Q : State → Prop}
variable {cc : ByteArray} {pc : Nat} {ls : Array Slot} {rest st0 : List Value} {D : va_G} {TY : List (ClassId × FieldType)} {n : Nat} {ad : Nat → Nat} {c : Nat → va_E} {A : Nat → Prop} {H0 : Heap}
theorem mg_i0 {post : Int32 → (Nat → va_E) → Prop} {a : Array Value} (hr : va_Run p l e R s m args below meth cd H locs cells slots 0 0 (F0 m pc ls st0) rest (va_Qi post (mW D n ad) (mA n ad H.size) a) (mA n ad H.size)) (hS : va_S A H0 H locs) (hA : ∀ q, H0.size ≤ q → A q) (hD : va_D A (mw n ad c))
    (kk : ∀ (r : Int32) (c1 : Nat → va_E) (H1 : Heap) (locs1 : List Loc), post r c1 → va_P D vwCl (mw n ad c1) H1 → va_D A (mw n ad c1) → va_S A H0 H1 locs1 → W p l e R s m args below meth cd H1 locs1 cells slots Q (F0 m (pc + 3) ls (.int r :: rest))) : W p l e R s m args below meth cd H locs cells slots Q (F0 m pc ls st0) :=
  va_calli hr hS (fun q _ h => mg_A hS hA hD q h) (fun q h => mg_A hS hA hD q h) (fun r u t H1 locs1 ht hvm hw hB hz1 hk1 hS1 => kk r u H1 locs1 hw (by rw [← ht]; exact hB) (mw_D hD u) hS1)
theorem mg_pv {C : String} {T : u_T} {N ci k0 : Nat} {fs As : List Value} (hK : va_K D vwCl TY s) (hP : va_P D vwCl (mw n ad c) H) (hD : va_D A (mw n ad c)) (hN : nNS s) (hk0 : k0 < n) (he : c k0 = .inr (ci, fs)) (hc : vwCl[ci]? = some (C, T, N)) : PreV s H C (ad k0) (va_Pc (.ref (ad k0) :: As) (mPre D TY n ad c H.size)) As :=
  ⟨mPre_blind, va_recv hK hP (q := (C, T, N)) hc (mw_at hk0 he), fun U hU hW => ⟨rfl, by rw [hU], by rw [hU]; exact hP, va_K.moved hW.alike hK, hD.weaken (fun _ _ _ _ => trivial), nNS_warm hW hN⟩⟩
theorem mg_newb (hexec : p.tables.exec = Jvm.exec) (hb : cd.code = cc) {atype : ArrayType} (harr : (Cond.arrayClass (newarray.typeOf atype)).before args s = true) (hty : newarray.typeOf atype = .byte) (hK : va_K D vwCl TY s) (hP : va_P D vwCl (mw n ad c) H) (hD : va_D A (mw n ad c)) (hS : va_S A H0 H locs) (hA : ∀ q, H0.size ≤ q → A q) (t0 : Nat) {cA : ClassId} (ht : TY[t0]? = some (cA, .byte))
    {x : Int32} {N' : Nat} (hn : ¬ x < 0) (hN : x.toNatClampNeg = N') (hbytes : N' * componentBytes .byte ≤ 536870912) (hcells : cells + 1 ≤ R.cells) (hslots : slots + N' ≤ R.slots) (hdg : decode cc pc = .ok (.newarray atype, 2))
    (kk : ∀ (ad1 : Nat → Nat) (c1 : Nat → va_E) (H1 : Heap), (∀ k, k < n → ad1 k = ad k) → (∀ k, k < n → c1 k = c k) → c1 n = .inl (cA, N', .inl (fun _ => 0)) → va_P D vwCl (mw (n + 1) ad1 c1) H1 → va_D A (mw (n + 1) ad1 c1) → va_S A H0 H1 locs →
      W p l e R s m args below meth cd H1 locs (cells + 1) (slots + N') Q (F0 m (pc + 2) ls (.ref (ad1 n) :: rest))) : W p l e R s m args below meth cd H locs cells slots Q (F0 m pc ls (.int x :: rest)) :=
  va_newa hexec hb harr hty hK hP hD hS hA (a0 := (N', .inl (fun _ => 0))) (fun cA => rfl) hn hN hbytes hcells hslots hdg (fun q cB H1 hK1 hP1 hD1 hS1 => by
    have hBA : cB = cA := mg_RA (ty := .byte) (hK1.2 TY.length (cB, .byte) (by rw [List.getElem?_append_right (Nat.le_refl _), Nat.sub_self]; rfl)).2 (hK.2 t0 _ ht).2
    subst hBA
    have h := kk (va_up ad n q) (va_up c n (.inl (cB, N', .inl (fun _ => 0)))) H1 (fun k hk => va_up_ne _ _ (Nat.ne_of_lt hk)) (fun k hk => va_up_ne _ _ (Nat.ne_of_lt hk)) (va_up_self _ _ _) (by rw [← mw_push]; exact hP1) (by rw [← mw_push]; exact hD1) hS1
    rw [va_up_self] at h
    exact h)
end MH
set_option maxHeartbeats 4000000 in
set_option maxRecDepth 100000 in
/-- FormatMillModel() -/
theorem c_Model_init (l : Launch) (D : va_G) (ca : Nat → ClassId) (n : Nat) (ad : Nat → Nat) (c : Nat → va_E) (hn1 : 53 = n) (h0 : c 52 = rO0) : mNew l yX4_init wsX4_init ({ frames := 1, cells := 6, slots := 2716, locals := 12 }) [.ref (ad 52)] D (tTY ca) n ad c (59) (fun ad1 c1 => (∀ j, j < 53 → ad1 j = ad j) ∧ (∀ j, j < 52 → c1 j = c j) ∧ tRF ca ad1 c1 [] [] [] (fun _ => []) 0 0 0 0 0 (false, false, false, false) 0 0) 6 2716 := by
  intro sz
  refine Met.ofW (cc := cX4_init) (maxL := 1) (ret := none) (by decide) rfl ?_
  intro pg9 ev9 s m args below meth cd s₁ B hml hv
  obtain ⟨rfl, hsz, hP, hK, hD0, hN⟩ := hv
  have hx := B.exec
  have hb := B.bytes
  have hr := B.returns
  have hts := fun (w : Cond) (h : w ∈ WSa) => atoms_spec (ws := wsX4_init) B.pre w (List.mem_cons_of_mem _ h)
  have hown : s.vm.findClass RX4 = some m.cls := findClass_of_methodNamed B.named
  have hlocks := B.notSynchronized
  subst hsz
  have hD : ∀ c, va_D (fun _ => True) (mw n ad c) := fun c' => mw_D hD0 c'
  have hS : va_S (mA n ad s.heap.size) s.heap s.heap [] := va_S.rf
  have hl := lv_entry ([.ref (ad 52)]) (n := 1) (Nat.le_of_ble_eq_true rfl)
  rw [lg_entry_eq]
  generalize (lg_sl ([.ref (ad 52)]) ++ List.replicate (1 - (lg_sl ([.ref (ad 52)])).length) Slot.unset).toArray = ls at hl ⊢
  have hin : meth.name = "<init>" := (name_of_methodNamed B.named B.method).1
  have hA : ∀ q, s.heap.size ≤ q → mA n ad s.heap.size q := fun q h => Or.inr h
  have hD : va_D (mA n ad s.heap.size) (mw n ad c) := mw_DA hD0 c
  have hl : lv_has ls 1 [(0, .ref (ad 52))] := hl
  subst hn1
  refine lv_aload_n hx hb dX4_init_0 rfl (lv_at hl 0 rfl) ?_
  refine W.objInit hx hb hown (hts _ wm_267) (hts _ wm_13) (hts _ wm_14) rfl (by rw [hml]; exact hl.1) rfl dX4_init_1 (Nat.le_of_ble_eq_true rfl) (Nat.le_of_ble_eq_true rfl) ?_
  refine W.eq (g2 := F0 m 4 ls []) rfl ?_
  unfold rO0 at h0
  have hA0 : ∀ j, j < 53 → ad j = ad j := fun j h => rfl
  have hC0 : ∀ j, j < 52 → c j = c j := fun j h => rfl
  refine lv_aload_n hx hb dX4_init_4 rfl (lv_at hl 0 rfl) ?_
  refine lv_sipush (v := 400) hx hb dX4_init_5 (by decide) ?_
  refine mg_newb (n := 53) (atype := .byte) hx hb (hts _ wm_329) rfl hK hP hD hS hA 2 rfl (N' := 400) (by decide) (by decide) (by decide) (Nat.le_of_ble_eq_true rfl) (Nat.le_of_ble_eq_true rfl) dX4_init_8 (fun au53 cu53 H hau53 hcu53 hnu53 hP hD hS => ?_)
  have hm53 : cu53 52 = .inr (4, [.null, .null, .null, .null, .int 0, .int 0, .int 0, .int 0, .int 0, .null, .int 0, .int 0, .int 0, .int 0, .int 0, .int 0, .int 0, .null, .int 0, .long 0]) := (hcu53 52 (by omega)).trans h0
  have hA53 : ∀ j, j < 53 → au53 j = ad j := fun j h => (hau53 j (by omega)).trans (hA0 j h)
  have hC53 : ∀ j, j < 52 → cu53 j = c j := fun j h => (hcu53 j (by omega)).trans (hC0 j h)
  have y53_53 : cu53 53 = .inl (ca 2, 400, .inl (fun _ => 0)) := hnu53
  refine mg_putF (ci := 4) (v := .ref (au53 53)) (ty := (.array .byte)) (C := RX4) (T := TX4) (N := 20) hx hb hts inX4 tyX4 tyX4_ok nmX4 hown hK hP hD hS (by omega : 52 < 54) (hA53 52 (by omega)) hm53 rfl 0 (by decide) (hts _ wm_268) (fun _ h9 => h9) rfl hin rfl (by decide +kernel) rfl rfl (Nat.le_of_ble_eq_true rfl) dX4_init_10 (fun cv53 H locs hscv53 hccv53 hP hD hS => ?_)
  have hccv53 : cv53 52 = .inr (4, [.ref (au53 53), .null, .null, .null, .int 0, .int 0, .int 0, .int 0, .int 0, .null, .int 0, .int 0, .int 0, .int 0, .int 0, .int 0, .int 0, .null, .int 0, .long 0]) := hccv53
  have hC53p : ∀ j, j < 52 → cv53 j = c j := fun j h => (hscv53 j (by omega)).trans (hC53 j h)
  have x53_53 : cv53 53 = .inl (ca 2, 400, .inl (fun _ => 0)) := (hscv53 53 (by omega)).trans y53_53
  refine lv_aload_n hx hb dX4_init_13 rfl (lv_at hl 0 rfl) ?_
  refine lv_sipush (v := 400) hx hb dX4_init_14 (by decide) ?_
  refine mg_newb (n := 54) (atype := .byte) hx hb (hts _ wm_329) rfl hK hP hD hS hA 2 rfl (N' := 400) (by decide) (by decide) (by decide) (Nat.le_of_ble_eq_true rfl) (Nat.le_of_ble_eq_true rfl) dX4_init_17 (fun au54 cu54 H hau54 hcu54 hnu54 hP hD hS => ?_)
  have hm54 : cu54 52 = .inr (4, [.ref (au53 53), .null, .null, .null, .int 0, .int 0, .int 0, .int 0, .int 0, .null, .int 0, .int 0, .int 0, .int 0, .int 0, .int 0, .int 0, .null, .int 0, .long 0]) := (hcu54 52 (by omega)).trans hccv53
  have hA54 : ∀ j, j < 53 → au54 j = ad j := fun j h => (hau54 j (by omega)).trans (hA53 j h)
  have hC54 : ∀ j, j < 52 → cu54 j = c j := fun j h => (hcu54 j (by omega)).trans (hC53p j h)
  have y53_54 : cu54 53 = .inl (ca 2, 400, .inl (fun _ => 0)) := (hcu54 53 (by omega)).trans x53_53
  have z53_54 : au54 53 = au53 53 := (hau54 53 (by omega)).trans rfl
  have y54_54 : cu54 54 = .inl (ca 2, 400, .inl (fun _ => 0)) := hnu54
  refine mg_putF (ci := 4) (v := .ref (au54 54)) (ty := (.array .byte)) (C := RX4) (T := TX4) (N := 20) hx hb hts inX4 tyX4 tyX4_ok nmX4 hown hK hP hD hS (by omega : 52 < 55) (hA54 52 (by omega)) hm54 rfl 1 (by decide) (hts _ wm_269) (fun _ h9 => h9) rfl hin rfl (by decide +kernel) rfl rfl (Nat.le_of_ble_eq_true rfl) dX4_init_19 (fun cv54 H locs hscv54 hccv54 hP hD hS => ?_)
  have hccv54 : cv54 52 = .inr (4, [.ref (au53 53), .ref (au54 54), .null, .null, .int 0, .int 0, .int 0, .int 0, .int 0, .null, .int 0, .int 0, .int 0, .int 0, .int 0, .int 0, .int 0, .null, .int 0, .long 0]) := hccv54
  have hC54p : ∀ j, j < 52 → cv54 j = c j := fun j h => (hscv54 j (by omega)).trans (hC54 j h)
  have x53_54 : cv54 53 = .inl (ca 2, 400, .inl (fun _ => 0)) := (hscv54 53 (by omega)).trans y53_54
  have x54_54 : cv54 54 = .inl (ca 2, 400, .inl (fun _ => 0)) := (hscv54 54 (by omega)).trans y54_54
  refine lv_aload_n hx hb dX4_init_22 rfl (lv_at hl 0 rfl) ?_
  refine lv_sipush (v := 800) hx hb dX4_init_23 (by decide) ?_
  refine mg_newb (n := 55) (atype := .byte) hx hb (hts _ wm_329) rfl hK hP hD hS hA 2 rfl (N' := 800) (by decide) (by decide) (by decide) (Nat.le_of_ble_eq_true rfl) (Nat.le_of_ble_eq_true rfl) dX4_init_26 (fun au55 cu55 H hau55 hcu55 hnu55 hP hD hS => ?_)
  have hm55 : cu55 52 = .inr (4, [.ref (au53 53), .ref (au54 54), .null, .null, .int 0, .int 0, .int 0, .int 0, .int 0, .null, .int 0, .int 0, .int 0, .int 0, .int 0, .int 0, .int 0, .null, .int 0, .long 0]) := (hcu55 52 (by omega)).trans hccv54
  have hA55 : ∀ j, j < 53 → au55 j = ad j := fun j h => (hau55 j (by omega)).trans (hA54 j h)
  have hC55 : ∀ j, j < 52 → cu55 j = c j := fun j h => (hcu55 j (by omega)).trans (hC54p j h)
  have y53_55 : cu55 53 = .inl (ca 2, 400, .inl (fun _ => 0)) := (hcu55 53 (by omega)).trans x53_54
  have z53_55 : au55 53 = au53 53 := (hau55 53 (by omega)).trans z53_54
  have y54_55 : cu55 54 = .inl (ca 2, 400, .inl (fun _ => 0)) := (hcu55 54 (by omega)).trans x54_54
  have z54_55 : au55 54 = au54 54 := (hau55 54 (by omega)).trans rfl
  have y55_55 : cu55 55 = .inl (ca 2, 800, .inl (fun _ => 0)) := hnu55
  refine mg_putF (ci := 4) (v := .ref (au55 55)) (ty := (.array .byte)) (C := RX4) (T := TX4) (N := 20) hx hb hts inX4 tyX4 tyX4_ok nmX4 hown hK hP hD hS (by omega : 52 < 56) (hA55 52 (by omega)) hm55 rfl 2 (by decide) (hts _ wm_270) (fun _ h9 => h9) rfl hin rfl (by decide +kernel) rfl rfl (Nat.le_of_ble_eq_true rfl) dX4_init_28 (fun cv55 H locs hscv55 hccv55 hP hD hS => ?_)
  have hccv55 : cv55 52 = .inr (4, [.ref (au53 53), .ref (au54 54), .ref (au55 55), .null, .int 0, .int 0, .int 0, .int 0, .int 0, .null, .int 0, .int 0, .int 0, .int 0, .int 0, .int 0, .int 0, .null, .int 0, .long 0]) := hccv55
  have hC55p : ∀ j, j < 52 → cv55 j = c j := fun j h => (hscv55 j (by omega)).trans (hC55 j h)
  have x53_55 : cv55 53 = .inl (ca 2, 400, .inl (fun _ => 0)) := (hscv55 53 (by omega)).trans y53_55
  have x54_55 : cv55 54 = .inl (ca 2, 400, .inl (fun _ => 0)) := (hscv55 54 (by omega)).trans y54_55
  have x55_55 : cv55 55 = .inl (ca 2, 800, .inl (fun _ => 0)) := (hscv55 55 (by omega)).trans y55_55
  refine lv_aload_n hx hb dX4_init_31 rfl (lv_at hl 0 rfl) ?_
  refine lv_sipush (v := 1024) hx hb dX4_init_32 (by decide) ?_
  refine mg_newb (n := 56) (atype := .byte) hx hb (hts _ wm_329) rfl hK hP hD hS hA 2 rfl (N' := 1024) (by decide) (by decide) (by decide) (Nat.le_of_ble_eq_true rfl) (Nat.le_of_ble_eq_true rfl) dX4_init_35 (fun au56 cu56 H hau56 hcu56 hnu56 hP hD hS => ?_)
  have hm56 : cu56 52 = .inr (4, [.ref (au53 53), .ref (au54 54), .ref (au55 55), .null, .int 0, .int 0, .int 0, .int 0, .int 0, .null, .int 0, .int 0, .int 0, .int 0, .int 0, .int 0, .int 0, .null, .int 0, .long 0]) := (hcu56 52 (by omega)).trans hccv55
  have hA56 : ∀ j, j < 53 → au56 j = ad j := fun j h => (hau56 j (by omega)).trans (hA55 j h)
  have hC56 : ∀ j, j < 52 → cu56 j = c j := fun j h => (hcu56 j (by omega)).trans (hC55p j h)
  have y53_56 : cu56 53 = .inl (ca 2, 400, .inl (fun _ => 0)) := (hcu56 53 (by omega)).trans x53_55
  have z53_56 : au56 53 = au53 53 := (hau56 53 (by omega)).trans z53_55
  have y54_56 : cu56 54 = .inl (ca 2, 400, .inl (fun _ => 0)) := (hcu56 54 (by omega)).trans x54_55
  have z54_56 : au56 54 = au54 54 := (hau56 54 (by omega)).trans z54_55
  have y55_56 : cu56 55 = .inl (ca 2, 800, .inl (fun _ => 0)) := (hcu56 55 (by omega)).trans x55_55
  have z55_56 : au56 55 = au55 55 := (hau56 55 (by omega)).trans rfl
  have y56_56 : cu56 56 = .inl (ca 2, 1024, .inl (fun _ => 0)) := hnu56
  refine mg_putF (ci := 4) (v := .ref (au56 56)) (ty := (.array .byte)) (C := RX4) (T := TX4) (N := 20) hx hb hts inX4 tyX4 tyX4_ok nmX4 hown hK hP hD hS (by omega : 52 < 57) (hA56 52 (by omega)) hm56 rfl 3 (by decide) (hts _ wm_271) (fun _ h9 => h9) rfl hin rfl (by decide +kernel) rfl rfl (Nat.le_of_ble_eq_true rfl) dX4_init_37 (fun cv56 H locs hscv56 hccv56 hP hD hS => ?_)
  have hccv56 : cv56 52 = .inr (4, [.ref (au53 53), .ref (au54 54), .ref (au55 55), .ref (au56 56), .int 0, .int 0, .int 0, .int 0, .int 0, .null, .int 0, .int 0, .int 0, .int 0, .int 0, .int 0, .int 0, .null, .int 0, .long 0]) := hccv56
  have hC56p : ∀ j, j < 52 → cv56 j = c j := fun j h => (hscv56 j (by omega)).trans (hC56 j h)
  have x53_56 : cv56 53 = .inl (ca 2, 400, .inl (fun _ => 0)) := (hscv56 53 (by omega)).trans y53_56
  have x54_56 : cv56 54 = .inl (ca 2, 400, .inl (fun _ => 0)) := (hscv56 54 (by omega)).trans y54_56
  have x55_56 : cv56 55 = .inl (ca 2, 800, .inl (fun _ => 0)) := (hscv56 55 (by omega)).trans y55_56
  have x56_56 : cv56 56 = .inl (ca 2, 1024, .inl (fun _ => 0)) := (hscv56 56 (by omega)).trans y56_56
  refine lv_aload_n hx hb dX4_init_40 rfl (lv_at hl 0 rfl) ?_
  refine lv_bipush (v := 20) hx hb dX4_init_41 (by decide) ?_
  refine mg_newi (n := 57) (atype := .int) hx hb (hts _ wm_31) rfl hK hP hD hS hA 0 rfl (N' := 20) (by decide) (by decide) (by decide) (Nat.le_of_ble_eq_true rfl) (Nat.le_of_ble_eq_true rfl) dX4_init_43 (fun au57 cu57 H hau57 hcu57 hnu57 hP hD hS => ?_)
  have hm57 : cu57 52 = .inr (4, [.ref (au53 53), .ref (au54 54), .ref (au55 55), .ref (au56 56), .int 0, .int 0, .int 0, .int 0, .int 0, .null, .int 0, .int 0, .int 0, .int 0, .int 0, .int 0, .int 0, .null, .int 0, .long 0]) := (hcu57 52 (by omega)).trans hccv56
  have hA57 : ∀ j, j < 53 → au57 j = ad j := fun j h => (hau57 j (by omega)).trans (hA56 j h)
  have hC57 : ∀ j, j < 52 → cu57 j = c j := fun j h => (hcu57 j (by omega)).trans (hC56p j h)
  have y53_57 : cu57 53 = .inl (ca 2, 400, .inl (fun _ => 0)) := (hcu57 53 (by omega)).trans x53_56
  have z53_57 : au57 53 = au53 53 := (hau57 53 (by omega)).trans z53_56
  have y54_57 : cu57 54 = .inl (ca 2, 400, .inl (fun _ => 0)) := (hcu57 54 (by omega)).trans x54_56
  have z54_57 : au57 54 = au54 54 := (hau57 54 (by omega)).trans z54_56
  have y55_57 : cu57 55 = .inl (ca 2, 800, .inl (fun _ => 0)) := (hcu57 55 (by omega)).trans x55_56
  have z55_57 : au57 55 = au55 55 := (hau57 55 (by omega)).trans z55_56
  have y56_57 : cu57 56 = .inl (ca 2, 1024, .inl (fun _ => 0)) := (hcu57 56 (by omega)).trans x56_56
  have z56_57 : au57 56 = au56 56 := (hau57 56 (by omega)).trans rfl
  have y57_57 : cu57 57 = .inl (ca 0, 20, .inl (fun _ => 0)) := hnu57
  refine mg_putF (ci := 4) (v := .ref (au57 57)) (ty := (.array .int)) (C := RX4) (T := TX4) (N := 20) hx hb hts inX4 tyX4 tyX4_ok nmX4 hown hK hP hD hS (by omega : 52 < 58) (hA57 52 (by omega)) hm57 rfl 9 (by decide) (hts _ wm_277) (fun _ h9 => h9) rfl hin rfl (by decide +kernel) rfl rfl (Nat.le_of_ble_eq_true rfl) dX4_init_45 (fun cv57 H locs hscv57 hccv57 hP hD hS => ?_)
  have hccv57 : cv57 52 = .inr (4, [.ref (au53 53), .ref (au54 54), .ref (au55 55), .ref (au56 56), .int 0, .int 0, .int 0, .int 0, .int 0, .ref (au57 57), .int 0, .int 0, .int 0, .int 0, .int 0, .int 0, .int 0, .null, .int 0, .long 0]) := hccv57
  have hC57p : ∀ j, j < 52 → cv57 j = c j := fun j h => (hscv57 j (by omega)).trans (hC57 j h)
  have x53_57 : cv57 53 = .inl (ca 2, 400, .inl (fun _ => 0)) := (hscv57 53 (by omega)).trans y53_57
  have x54_57 : cv57 54 = .inl (ca 2, 400, .inl (fun _ => 0)) := (hscv57 54 (by omega)).trans y54_57
  have x55_57 : cv57 55 = .inl (ca 2, 800, .inl (fun _ => 0)) := (hscv57 55 (by omega)).trans y55_57
  have x56_57 : cv57 56 = .inl (ca 2, 1024, .inl (fun _ => 0)) := (hscv57 56 (by omega)).trans y56_57
  have x57_57 : cv57 57 = .inl (ca 0, 20, .inl (fun _ => 0)) := (hscv57 57 (by omega)).trans y57_57
  refine lv_aload_n hx hb dX4_init_48 rfl (lv_at hl 0 rfl) ?_
  refine lv_bipush (v := 72) hx hb dX4_init_49 (by decide) ?_
  refine mg_newb (n := 58) (atype := .byte) hx hb (hts _ wm_329) rfl hK hP hD hS hA 2 rfl (N' := 72) (by decide) (by decide) (by decide) (Nat.le_of_ble_eq_true rfl) (Nat.le_of_ble_eq_true rfl) dX4_init_51 (fun au58 cu58 H hau58 hcu58 hnu58 hP hD hS => ?_)
  have hm58 : cu58 52 = .inr (4, [.ref (au53 53), .ref (au54 54), .ref (au55 55), .ref (au56 56), .int 0, .int 0, .int 0, .int 0, .int 0, .ref (au57 57), .int 0, .int 0, .int 0, .int 0, .int 0, .int 0, .int 0, .null, .int 0, .long 0]) := (hcu58 52 (by omega)).trans hccv57
  have hA58 : ∀ j, j < 53 → au58 j = ad j := fun j h => (hau58 j (by omega)).trans (hA57 j h)
  have hC58 : ∀ j, j < 52 → cu58 j = c j := fun j h => (hcu58 j (by omega)).trans (hC57p j h)
  have y53_58 : cu58 53 = .inl (ca 2, 400, .inl (fun _ => 0)) := (hcu58 53 (by omega)).trans x53_57
  have z53_58 : au58 53 = au53 53 := (hau58 53 (by omega)).trans z53_57
  have y54_58 : cu58 54 = .inl (ca 2, 400, .inl (fun _ => 0)) := (hcu58 54 (by omega)).trans x54_57
  have z54_58 : au58 54 = au54 54 := (hau58 54 (by omega)).trans z54_57
  have y55_58 : cu58 55 = .inl (ca 2, 800, .inl (fun _ => 0)) := (hcu58 55 (by omega)).trans x55_57
  have z55_58 : au58 55 = au55 55 := (hau58 55 (by omega)).trans z55_57
  have y56_58 : cu58 56 = .inl (ca 2, 1024, .inl (fun _ => 0)) := (hcu58 56 (by omega)).trans x56_57
  have z56_58 : au58 56 = au56 56 := (hau58 56 (by omega)).trans z56_57
  have y57_58 : cu58 57 = .inl (ca 0, 20, .inl (fun _ => 0)) := (hcu58 57 (by omega)).trans x57_57
  have z57_58 : au58 57 = au57 57 := (hau58 57 (by omega)).trans rfl
  have y58_58 : cu58 58 = .inl (ca 2, 72, .inl (fun _ => 0)) := hnu58
  refine mg_putF (ci := 4) (v := .ref (au58 58)) (ty := (.array .byte)) (C := RX4) (T := TX4) (N := 20) hx hb hts inX4 tyX4 tyX4_ok nmX4 hown hK hP hD hS (by omega : 52 < 59) (hA58 52 (by omega)) hm58 rfl 17 (by decide) (hts _ wm_285) (fun _ h9 => h9) rfl hin rfl (by decide +kernel) rfl rfl (Nat.le_of_ble_eq_true rfl) dX4_init_53 (fun cv58 H locs hscv58 hccv58 hP hD hS => ?_)
  have hccv58 : cv58 52 = .inr (4, [.ref (au53 53), .ref (au54 54), .ref (au55 55), .ref (au56 56), .int 0, .int 0, .int 0, .int 0, .int 0, .ref (au57 57), .int 0, .int 0, .int 0, .int 0, .int 0, .int 0, .int 0, .ref (au58 58), .int 0, .long 0]) := hccv58
  have hC58p : ∀ j, j < 52 → cv58 j = c j := fun j h => (hscv58 j (by omega)).trans (hC58 j h)
  have x53_58 : cv58 53 = .inl (ca 2, 400, .inl (fun _ => 0)) := (hscv58 53 (by omega)).trans y53_58
  have x54_58 : cv58 54 = .inl (ca 2, 400, .inl (fun _ => 0)) := (hscv58 54 (by omega)).trans y54_58
  have x55_58 : cv58 55 = .inl (ca 2, 800, .inl (fun _ => 0)) := (hscv58 55 (by omega)).trans y55_58
  have x56_58 : cv58 56 = .inl (ca 2, 1024, .inl (fun _ => 0)) := (hscv58 56 (by omega)).trans y56_58
  have x57_58 : cv58 57 = .inl (ca 0, 20, .inl (fun _ => 0)) := (hscv58 57 (by omega)).trans y57_58
  have x58_58 : cv58 58 = .inl (ca 2, 72, .inl (fun _ => 0)) := (hscv58 58 (by omega)).trans y58_58
  have hpost : (∀ j, j < 53 → au58 j = ad j) ∧ (∀ j, j < 52 → cv58 j = c j) ∧ tRF ca au58 cv58 [] [] [] (fun _ => []) 0 0 0 0 0 (false, false, false, false) 0 0 := by
    refine ⟨hA58, hC58p, ?_, tB.nil x53_58 (by omega) (by omega), tB.nil x54_58 (by omega) (by omega), ⟨_, _, x55_58, x57_58, fun i hi => absurd hi (by omega)⟩, tB.nil x56_58 (by omega) (by omega), ⟨_, x58_58⟩, by omega⟩
    rw [hccv58, ← z53_58, ← z54_58, ← z55_58, ← z56_58, ← z57_58]
    rfl
  refine W.cs (cells' := 6) (slots' := 2716) rfl rfl ?_
  exact mg_vret (post := fun ad1 c1 => (∀ j, j < 53 → ad1 j = ad j) ∧ (∀ j, j < 52 → c1 j = c j) ∧ tRF ca ad1 c1 [] [] [] (fun _ => []) 0 0 0 0 0 (false, false, false, false) 0 0) hx hb hr hlocks hP hD hS hpost dX4_init_56
