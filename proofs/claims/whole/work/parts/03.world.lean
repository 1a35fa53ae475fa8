abbrev tCN : Nat := 0
abbrev tCP : Nat := 1
abbrev tCT : Nat := 2
abbrev tCM : Nat := 3
abbrev tCR : Nat := 4
/-- the array classes: int, Text, byte -/
def tTY (ca : Nat → ClassId) : List (ClassId × FieldType) := [(ca 0, .int), (ca 1, .object "FormatMill$Text"), (ca 2, .byte)]
/-! worlds as functions: cell k of n cells lies at address ad k and holds c k -/
def mw (n : Nat) (ad : Nat → Nat) (c : Nat → va_E) : va_W := (List.range n).map (fun k => (ad k, c k))
theorem mw_len {n : Nat} {ad : Nat → Nat} {c : Nat → va_E} : (mw n ad c).length = n := by simp [mw]
theorem mw_at {n k : Nat} {ad : Nat → Nat} {c : Nat → va_E} {e : va_E} (h : k < n) (he : c k = e) : (mw n ad c)[k]? = some (ad k, e) := by
  unfold mw
  rw [List.getElem?_map, List.getElem?_range h]
  simp [he]
theorem mw_inv {n i : Nat} {ad : Nat → Nat} {c : Nat → va_E} {q : Nat × va_E} (h : (mw n ad c)[i]? = some q) : i < n ∧ q = (ad i, c i) := by
  have hl : i < n := by
    have h1 := (List.getElem?_eq_some_iff.mp h).1
    rw [mw_len] at h1
    exact h1
  rw [mw_at hl rfl] at h
  exact ⟨hl, (Option.some.inj h).symm⟩
theorem mw_set {n k : Nat} {ad : Nat → Nat} {c : Nat → va_E} {e : va_E} (h : k < n) : (mw n ad c).set k (ad k, e) = mw n ad (va_up c k e) := by
  apply List.ext_getElem?
  intro i
  by_cases hik : i = k
  · subst hik
    rw [List.getElem?_set_self (by rw [mw_len]; exact h), mw_at h (va_up_self _ _ _)]
  · rw [List.getElem?_set_ne (Ne.symm hik)]
    by_cases hi : i < n
    · rw [mw_at hi rfl, mw_at hi (va_up_ne _ _ hik)]
    · rw [List.getElem?_eq_none (by rw [mw_len]; omega), List.getElem?_eq_none (by rw [mw_len]; omega)]
theorem mw_push {n q : Nat} {ad : Nat → Nat} {c : Nat → va_E} {e : va_E} : mw n ad c ++ [(q, e)] = mw (n + 1) (va_up ad n q) (va_up c n e) := by
  apply List.ext_getElem?
  intro i
  by_cases hi : i < n
  · rw [List.getElem?_append_left (by rw [mw_len]; exact hi), mw_at hi rfl, mw_at (Nat.lt_succ_of_lt hi) rfl, va_up_ne _ _ (Nat.ne_of_lt hi), va_up_ne _ _ (Nat.ne_of_lt hi)]
  · rw [List.getElem?_append_right (by rw [mw_len]; omega), mw_len]
    by_cases hn : i = n
    · subst hn
      rw [mw_at (Nat.lt_succ_self i) rfl, va_up_self, va_up_self, Nat.sub_self]
      rfl
    · rw [List.getElem?_eq_none (by simp; omega), List.getElem?_eq_none (by rw [mw_len]; omega)]
theorem mw_congr {n : Nat} {ad ad' : Nat → Nat} {c c' : Nat → va_E} (h1 : ∀ k, k < n → ad k = ad' k) (h2 : ∀ k, k < n → c k = c' k) : mw n ad c = mw n ad' c' := by
  apply List.ext_getElem?
  intro i
  by_cases hi : i < n
  · rw [mw_at hi rfl, mw_at hi rfl, h1 i hi, h2 i hi]
  · rw [List.getElem?_eq_none (by rw [mw_len]; omega), List.getElem?_eq_none (by rw [mw_len]; omega)]
theorem mw_D {A : Nat → Prop} {n : Nat} {ad : Nat → Nat} {c : Nat → va_E} (h : va_D A (mw n ad c)) (c' : Nat → va_E) : va_D A (mw n ad c') := by
  refine ⟨fun i j x y hi hj hxy => ?_, fun k q hk => ?_⟩
  · obtain ⟨hi', rfl⟩ := mw_inv hi
    obtain ⟨hj', rfl⟩ := mw_inv hj
    exact h.1 i j _ _ (mw_at hi' rfl) (mw_at hj' rfl) hxy
  · obtain ⟨hk', rfl⟩ := mw_inv hk
    exact h.2 k (ad k, c k) (mw_at hk' rfl)
def mA (n : Nat) (ad : Nat → Nat) (sz : Nat) : Nat → Prop := fun q => (∃ k, k < n ∧ q = ad k) ∨ sz ≤ q
theorem mw_DA {A : Nat → Prop} {n sz : Nat} {ad : Nat → Nat} {c : Nat → va_E} (h : va_D A (mw n ad c)) (c' : Nat → va_E) : va_D (mA n ad sz) (mw n ad c') :=
  ⟨(mw_D h c').1, fun k q hk => by
    obtain ⟨hk', rfl⟩ := mw_inv hk
    exact Or.inl ⟨k, hk', rfl⟩⟩
theorem mA_le {n sz sz' : Nat} {ad : Nat → Nat} (h : sz ≤ sz') : ∀ q, mA n ad sz' q → mA n ad sz q := fun q hq => by
  rcases hq with hq | hq
  · exact Or.inl hq
  · exact Or.inr (Nat.le_trans h hq)
/-- the facts of nest mates that a run carries -/
def nNS (U : State) : Prop := (∀ w ∈ nNs, va_Nw w U) ∧ va_AO RX2 U
theorem nNS_warm {s U : State} (hW : s.WarmedH U.vm) (h : nNS s) : nNS U := ⟨fun w hw => nNs_warm hW w hw (h.1 w hw), va_AO.moved hW.alike h.2⟩
theorem nNS_same {u U : State} (h : u.vm = U.vm) (hZ : nNS u) : nNS U := ⟨fun w hw => va_Nw.same (nNs_tab w hw) h (hZ.1 w hw), va_AO.moved (by rw [h]; exact Vm.Alike.refl _) hZ.2⟩
/-- a method's start: the world, the tables, the addresses apart, the nest mates -/
def mPre (D : va_G) (TY : List (ClassId × FieldType)) (n : Nat) (ad : Nat → Nat) (c : Nat → va_E) (sz : Nat) (U : State) : Prop :=
  U.heap.size = sz ∧ va_P D vwCl (mw n ad c) U.heap ∧ va_K D vwCl TY U ∧ va_D (fun _ => True) (mw n ad c) ∧ nNS U
def mW (D : va_G) (n : Nat) (ad : Nat → Nat) (c' : Nat → va_E) (t : State) : Prop := va_P D vwCl (mw n ad c') t.heap
/-- contracts: an int (or boolean) comes back; nothing; a reference -/
def mInt (l : Launch) (y : MethodName) (ws : List Cond) (rm : Room) (av : List Value) (D : va_G) (TY : List (ClassId × FieldType)) (n : Nat) (ad : Nat → Nat) (c : Nat → va_E) (post : Int32 → (Nat → va_E) → Prop) : Prop :=
  ∀ sz, Met l y ws rm (va_Pc av (mPre D TY n ad c sz)) (va_Qi post (mW D n ad) (mA n ad sz)) 0 0 (mA n ad sz)
def mLong (l : Launch) (y : MethodName) (ws : List Cond) (rm : Room) (av : List Value) (D : va_G) (TY : List (ClassId × FieldType)) (n : Nat) (ad : Nat → Nat) (c : Nat → va_E) (post : Int64 → (Nat → va_E) → Prop) : Prop :=
  ∀ sz, Met l y ws rm (va_Pc av (mPre D TY n ad c sz)) (va_Ql post (mW D n ad) (mA n ad sz)) 0 0 (mA n ad sz)
def mVoid (l : Launch) (y : MethodName) (ws : List Cond) (rm : Room) (av : List Value) (D : va_G) (TY : List (ClassId × FieldType)) (n : Nat) (ad : Nat → Nat) (c : Nat → va_E) (post : (Nat → va_E) → Prop) : Prop :=
  ∀ sz, Met l y ws rm (va_Pc av (mPre D TY n ad c sz)) (va_Qv post (mW D n ad) (mA n ad sz)) 0 0 (mA n ad sz)
def mRef (l : Launch) (y : MethodName) (ws : List Cond) (rm : Room) (av : List Value) (D : va_G) (TY : List (ClassId × FieldType)) (n : Nat) (ad : Nat → Nat) (c : Nat → va_E) (post : Nat → (Nat → va_E) → Prop) : Prop :=
  ∀ sz, Met l y ws rm (va_Pc av (mPre D TY n ad c sz)) (va_Qr (fun _ : Nat → va_E => True) (fun c' a t => post a c' ∧ mW D n ad c' t) (mA n ad sz)) 0 0 (mA n ad sz)
theorem mPre_blind {av : List Value} {D : va_G} {TY : List (ClassId × FieldType)} {n sz : Nat} {ad : Nat → Nat} {c : Nat → va_E} : FrameBlind (va_Pc av (mPre D TY n ad c sz)) := by
  intro a U g mk q
  obtain ⟨q0, q1, qP, qK, qD, qN⟩ := q
  exact ⟨q0, q1, qP, va_K.moved (u := U) (U := U.calling g mk a) (Vm.Alike.refl U.vm) qK, qD, nNS_same (u := U) rfl qN⟩
section MX
variable {p : Program} {l : Launch} {e : Env} {R : Room} {s : State} {m : MethodId} {args : Array Value} {below : List Frame} {meth : Method} {cd : Code} {H : Heap} {locs : List Loc} {cells slots : Nat} {Q : State → Prop}
variable {cc : ByteArray} {pc : Nat} {ls : Array Slot} {rest st0 : List Value} {D : va_G} {TY : List (ClassId × FieldType)} {n : Nat} {ad : Nat → Nat} {c : Nat → va_E}
/-- the top of the stack under another name -/
theorem mx_i {x : Int32} (y : Int32) (h : x = y) (k : W p l e R s m args below meth cd H locs cells slots Q (F0 m pc ls (.int y :: rest))) : W p l e R s m args below meth cd H locs cells slots Q (F0 m pc ls (.int x :: rest)) := by
  subst h; exact k
theorem mx_l {x : Int64} (y : Int64) (h : x = y) (k : W p l e R s m args below meth cd H locs cells slots Q (F0 m pc ls (.long y :: rest))) : W p l e R s m args below meth cd H locs cells slots Q (F0 m pc ls (.long x :: rest)) := by
  subst h; exact k
theorem mx_r {x : Value} (y : Value) (h : x = y) (k : W p l e R s m args below meth cd H locs cells slots Q (F0 m pc ls (y :: rest))) : W p l e R s m args below meth cd H locs cells slots Q (F0 m pc ls (x :: rest)) := by
  subst h; exact k
theorem mx_get (hexec : p.tables.exec = Jvm.exec) (hb : cd.code = cc) {own ref C : String} {T : u_T} {N ci index : Nat} {Ts : List Cond} (hts : ∀ w ∈ Ts, w.before args s = true) (hin : ∀ w ∈ u_ws C T N, w ∈ Ts) (hown : s.vm.findClass own = some m.cls) (hK : va_K D vwCl TY s) (hP : va_P D vwCl (mw n ad c) H) {k0 : Nat} (hk0 : k0 < n) {fs : List Value} (he : c k0 = .inr (ci, fs)) (hc : vwCl[ci]? = some (C, T, N)) (k : Nat) (hk : k < N) (hlink : (Cond.fieldLink own index ref (T k).2.1 (T k).2.2.1).before args s = true) (hsame : ∀ x, s.fieldFound? (T k).1 (T k).2.1 (T k).2.2.1 = some x → s.fieldFound? ref (T k).2.1 (T k).2.2.1 = some x) {v : Value} (hv : fs[k]? = some v) (hdg : decode cc pc = .ok (.getfield index, 3))
    (kk : W p l e R s m args below meth cd H locs cells slots Q (F0 m (pc + 3) ls (v :: rest))) : W p l e R s m args below meth cd H locs cells slots Q (F0 m pc ls (.ref (ad k0) :: rest)) :=
  va_get hexec hb hts hin hown hK hP k0 (mw_at hk0 he) hc k hk hlink hsame hv hdg kk
theorem mx_getN (hexec : p.tables.exec = Jvm.exec) (hb : cd.code = cc) {own ref C host : String} {T : u_T} {N ci index : Nat} {Ts : List Cond} (hts : ∀ w ∈ Ts, w.before args s = true) (hin : ∀ w ∈ u_ws C T N, w ∈ Ts) (hown : s.vm.findClass own = some m.cls) (hK : va_K D vwCl TY s) (hP : va_P D vwCl (mw n ad c) H) {k0 : Nat} (hk0 : k0 < n) {fs : List Value} (he : c k0 = .inr (ci, fs)) (hc : vwCl[ci]? = some (C, T, N)) (k : Nat) (hk : k < N) (hlink : va_Nw (.fieldLinkNest own index ref (T k).2.1 (T k).2.2.1 host) s) (hsame : ∀ x, s.fieldFound? (T k).1 (T k).2.1 (T k).2.2.1 = some x → s.fieldFound? ref (T k).2.1 (T k).2.2.1 = some x) {v : Value} (hv : fs[k]? = some v) (hdg : decode cc pc = .ok (.getfield index, 3))
    (kk : W p l e R s m args below meth cd H locs cells slots Q (F0 m (pc + 3) ls (v :: rest))) : W p l e R s m args below meth cd H locs cells slots Q (F0 m pc ls (.ref (ad k0) :: rest)) :=
  va_getN hexec hb hts hin hown hK hP k0 (mw_at hk0 he) hc k hk (va_Nw.use rfl hlink) hsame hv hdg kk
theorem mx_put (hexec : p.tables.exec = Jvm.exec) (hb : cd.code = cc) {own ref C : String} {T : u_T} {N ci index sz : Nat} {H0 : Heap} {Ts : List Cond} (hts : ∀ w ∈ Ts, w.before args s = true) (hin : ∀ w ∈ u_ws C T N, w ∈ Ts) (ty0 : Nat → FieldType) (hty : ∀ k, k < N → parseFieldDescriptor (T k).2.2.1 = some (ty0 k)) (hnm : ∀ a, a < N → ∀ b, b < N → a ≠ b → (T a).2.1 ≠ (T b).2.1) (hown : s.vm.findClass own = some m.cls) (hK : va_K D vwCl TY s) (hP : va_P D vwCl (mw n ad c) H) (hD : ∀ c, va_D (fun _ => True) (mw n ad c)) (hS : va_S (mA n ad sz) H0 H locs) {k0 : Nat} (hk0 : k0 < n) {fs : List Value} (he : c k0 = .inr (ci, fs)) (hc : vwCl[ci]? = some (C, T, N)) (k : Nat) (hk : k < N) (hlink : (Cond.fieldLink own index ref (T k).2.1 (T k).2.2.1).before args s = true) (hsame : ∀ x, s.fieldFound? (T k).1 (T k).2.1 (T k).2.2.1 = some x → s.fieldFound? ref (T k).2.1 (T k).2.2.1 = some x) (hfin : (T k).2.2.2 = false) {ty : FieldType} {v : Value} (hd : parseFieldDescriptor (T k).2.2.1 = some ty) (hn : narrow ty v = v) (hfit : fits ty v = true) (hl : k < fs.length)
    (hdg : decode cc pc = .ok (.putfield index, 3)) (kk : ∀ (H1 : Heap) (locs1 : List Loc), va_P D vwCl (mw n ad (va_up c k0 (.inr (ci, fs.set k v)))) H1 → va_S (mA n ad sz) H0 H1 locs1 → W p l e R s m args below meth cd H1 locs1 cells slots Q (F0 m (pc + 3) ls rest)) : W p l e R s m args below meth cd H locs cells slots Q (F0 m pc ls (v :: .ref (ad k0) :: rest)) :=
  va_put hexec hb hts hin ty0 hty hnm hown hK hP (mw_DA (hD c) c) hS k0 (mw_at hk0 he) hc k hk hlink hsame hfin hd hn hfit hl hdg (fun H1 locs1 hP1 _ hS1 => kk H1 locs1 (by rw [mw_set hk0] at hP1; exact hP1) hS1)
theorem mx_iald (hexec : p.tables.exec = Jvm.exec) (hb : cd.code = cc) (hK : va_K D vwCl TY s) (hP : va_P D vwCl (mw n ad c) H) {k0 : Nat} (hk0 : k0 < n) (t0 : Nat) {cA : ClassId} {N : Nat} {f : Nat → Int32} (he : c k0 = .inl (cA, N, .inl f)) (ht : TY[t0]? = some (cA, .int)) {i : Int32} (hin : vp_in i N) (hdg : decode cc pc = .ok (.iaload, 1))
    (kk : W p l e R s m args below meth cd H locs cells slots Q (F0 m (pc + 1) ls (.int (f i.toNatClampNeg) :: rest))) : W p l e R s m args below meth cd H locs cells slots Q (F0 m pc ls (.int i :: .ref (ad k0) :: rest)) :=
  va_iald hexec hb hK hP k0 t0 (mw_at hk0 he) ht hin hdg kk
theorem mx_iast (hexec : p.tables.exec = Jvm.exec) (hb : cd.code = cc) {sz : Nat} {H0 : Heap} (hK : va_K D vwCl TY s) (hP : va_P D vwCl (mw n ad c) H) (hD : ∀ c, va_D (fun _ => True) (mw n ad c)) (hS : va_S (mA n ad sz) H0 H locs) {k0 : Nat} (hk0 : k0 < n) (t0 : Nat) {cA : ClassId} {N : Nat} {f : Nat → Int32} (he : c k0 = .inl (cA, N, .inl f)) (ht : TY[t0]? = some (cA, .int)) {i x : Int32} (hin : vp_in i N) (hdg : decode cc pc = .ok (.iastore, 1))
    (kk : ∀ (H1 : Heap) (locs1 : List Loc), va_P D vwCl (mw n ad (va_up c k0 (.inl (cA, N, .inl (upd f i.toNatClampNeg x))))) H1 → va_S (mA n ad sz) H0 H1 locs1 → W p l e R s m args below meth cd H1 locs1 cells slots Q (F0 m (pc + 1) ls rest)) : W p l e R s m args below meth cd H locs cells slots Q (F0 m pc ls (.int x :: .int i :: .ref (ad k0) :: rest)) :=
  va_iast hexec hb hK hP (mw_DA (hD c) c) hS k0 t0 (mw_at hk0 he) ht hin hdg (fun H1 locs1 hP1 _ hS1 => kk H1 locs1 (by rw [mw_set hk0] at hP1; exact hP1) hS1)
theorem mx_alen (hexec : p.tables.exec = Jvm.exec) (hb : cd.code = cc) (hK : va_K D vwCl TY s) (hP : va_P D vwCl (mw n ad c) H) {k0 : Nat} (hk0 : k0 < n) (t0 : Nat) {cA : ClassId} {x : vp_A} (he : c k0 = .inl (cA, x)) {ty : FieldType} (ht : TY[t0]? = some (cA, ty)) {v : Int32} (hv : Int32.ofNat x.1 = v) (hdg : decode cc pc = .ok (.arraylength, 1))
    (kk : W p l e R s m args below meth cd H locs cells slots Q (F0 m (pc + 1) ls (.int v :: rest))) : W p l e R s m args below meth cd H locs cells slots Q (F0 m pc ls (.ref (ad k0) :: rest)) :=
  va_alen hexec hb hK hP k0 t0 (mw_at hk0 he) ht hv hdg kk
theorem mx_aald (hexec : p.tables.exec = Jvm.exec) (hb : cd.code = cc) (hK : va_K D vwCl TY s) (hP : va_P D vwCl (mw n ad c) H) {k0 : Nat} (hk0 : k0 < n) (t0 : Nat) {cA : ClassId} {C : String} {N : Nat} {f : Nat → Option Nat} (he : c k0 = .inl (cA, N, .inr (.inr (.inr (.inr f))))) (ht : TY[t0]? = some (cA, .object C)) {i : Int32} (hin : vp_in i N) (v : Value) (hv : va_rf (f i.toNatClampNeg) = v) (hdg : decode cc pc = .ok (.aaload, 1))
    (kk : W p l e R s m args below meth cd H locs cells slots Q (F0 m (pc + 1) ls (v :: rest))) : W p l e R s m args below meth cd H locs cells slots Q (F0 m pc ls (.int i :: .ref (ad k0) :: rest)) := by
  subst hv
  exact va_aldq hexec hb hK hP k0 t0 (mw_at hk0 he) ht hin hdg kk
theorem mx_bald (hexec : p.tables.exec = Jvm.exec) (hb : cd.code = cc) (hK : va_K D vwCl TY s) (hP : va_P D vwCl (mw n ad c) H) {k0 : Nat} (hk0 : k0 < n) (t0 : Nat) {cA : ClassId} {N : Nat} {f : Nat → Int32} (he : c k0 = .inl (cA, N, .inl f)) (ht : TY[t0]? = some (cA, .byte)) {i : Int32} (hin : vp_in i N) (hdg : decode cc pc = .ok (.baload, 1))
    (kk : W p l e R s m args below meth cd H locs cells slots Q (F0 m (pc + 1) ls (.int (f i.toNatClampNeg) :: rest))) : W p l e R s m args below meth cd H locs cells slots Q (F0 m pc ls (.int i :: .ref (ad k0) :: rest)) :=
  va_bald hexec hb hK hP k0 t0 (mw_at hk0 he) ht hin hdg kk
theorem mx_bast (hexec : p.tables.exec = Jvm.exec) (hb : cd.code = cc) {sz : Nat} {H0 : Heap} (hK : va_K D vwCl TY s) (hP : va_P D vwCl (mw n ad c) H) (hD : ∀ c, va_D (fun _ => True) (mw n ad c)) (hS : va_S (mA n ad sz) H0 H locs) {k0 : Nat} (hk0 : k0 < n) (t0 : Nat) {cA : ClassId} {N : Nat} {f : Nat → Int32} (he : c k0 = .inl (cA, N, .inl f)) (ht : TY[t0]? = some (cA, .byte)) {i x y : Int32} (hin : vp_in i N) (hy : vp_nar .byte x = y) (hdg : decode cc pc = .ok (.bastore, 1))
    (kk : ∀ (H1 : Heap) (locs1 : List Loc), va_P D vwCl (mw n ad (va_up c k0 (.inl (cA, N, .inl (upd f i.toNatClampNeg y))))) H1 → va_S (mA n ad sz) H0 H1 locs1 → W p l e R s m args below meth cd H1 locs1 cells slots Q (F0 m (pc + 1) ls rest)) : W p l e R s m args below meth cd H locs cells slots Q (F0 m pc ls (.int x :: .int i :: .ref (ad k0) :: rest)) := by
  subst hy
  exact va_bast hexec hb hK hP (mw_DA (hD c) c) hS k0 t0 (mw_at hk0 he) ht hin hdg (fun H1 locs1 hP1 _ hS1 => kk H1 locs1 (by rw [mw_set hk0] at hP1; exact hP1) hS1)
/-! ends -/
theorem mx_iret {post : Int32 → (Nat → va_E) → Prop} {r : Int32} (hexec : p.tables.exec = Jvm.exec) (hb : cd.code = cc) (hr : meth.sig.returnType = some .int) (hlocks : meth.locks = false) (hP : va_P D vwCl (mw n ad c) H) (hS : va_S (mA n ad s.heap.size) s.heap H locs) (hpost : post r c) (hdg : decode cc pc = .ok (.ireturn, 1)) :
    W p l e R s m args below meth cd H locs cells slots (MQ below (va_Qi post (mW D n ad) (mA n ad s.heap.size)) args s cells slots (mA n ad s.heap.size)) (F0 m pc ls [.int r]) :=
  W.iret (v := r) hexec hb hr (fun t ht hW => ⟨⟨r, c, rfl, hpost, by show va_P _ _ _ t.heap; rw [ht]; exact hP⟩, hS.F ht⟩) hS.2.2 hdg hlocks
theorem mx_zret {post : Int32 → (Nat → va_E) → Prop} {r : Int32} {ty : FieldType} (hexec : p.tables.exec = Jvm.exec) (hb : cd.code = cc) (hr : meth.sig.returnType = some ty) (hlocks : meth.locks = false) (hn : narrow ty (.int r) = .int r) (hP : va_P D vwCl (mw n ad c) H) (hS : va_S (mA n ad s.heap.size) s.heap H locs) (hpost : post r c) (hdg : decode cc pc = .ok (.ireturn, 1)) :
    W p l e R s m args below meth cd H locs cells slots (MQ below (va_Qi post (mW D n ad) (mA n ad s.heap.size)) args s cells slots (mA n ad s.heap.size)) (F0 m pc ls [.int r]) :=
  W.zret (v := r) hexec hb hr hn (fun t ht hW => ⟨⟨r, c, rfl, hpost, by show va_P _ _ _ t.heap; rw [ht]; exact hP⟩, hS.F ht⟩) hS.2.2 hdg hlocks
theorem mx_vret {post : (Nat → va_E) → Prop} (hexec : p.tables.exec = Jvm.exec) (hb : cd.code = cc) (hr : meth.sig.returnType = none) (hlocks : meth.locks = false) (hP : va_P D vwCl (mw n ad c) H) (hS : va_S (mA n ad s.heap.size) s.heap H locs) (hpost : post c) (hdg : decode cc pc = .ok (.return_, 1)) :
    W p l e R s m args below meth cd H locs cells slots (MQ below (va_Qv post (mW D n ad) (mA n ad s.heap.size)) args s cells slots (mA n ad s.heap.size)) (F0 m pc ls []) :=
  W.vret hexec hb hr (fun t ht hW => ⟨⟨c, rfl, hpost, by show va_P _ _ _ t.heap; rw [ht]; exact hP⟩, hS.F ht⟩) hS.2.2 hdg hlocks
theorem mx_aret {post : Nat → (Nat → va_E) → Prop} {r : Nat} {rt : FieldType} (hexec : p.tables.exec = Jvm.exec) (hb : cd.code = cc) (hr : meth.sig.returnType = some rt) (hrt : (∃ n, rt = .object n) ∨ ∃ t, rt = .array t) (hlocks : meth.locks = false) (hP : va_P D vwCl (mw n ad c) H) (hS : va_S (mA n ad s.heap.size) s.heap H locs) (hpost : post r c) (hdg : decode cc pc = .ok (.areturn, 1)) :
    W p l e R s m args below meth cd H locs cells slots (MQ below (va_Qr (fun _ : Nat → va_E => True) (fun c' a t => post a c' ∧ mW D n ad c' t) (mA n ad s.heap.size)) args s cells slots (mA n ad s.heap.size)) (F0 m pc ls [.ref r]) :=
  W.aret (v := .ref r) hexec hb hr hrt (Or.inr ⟨r, rfl⟩) (fun t ht hW => ⟨⟨c, r, rfl, trivial, hpost, by show va_P _ _ _ t.heap; rw [ht]; exact hP⟩, hS.F ht⟩) hS.2.2 hdg hlocks
/-! calls: what a run of a contract gives -/
theorem mx_ci {post : Int32 → (Nat → va_E) → Prop} {a : Array Value} (hr : va_Run p l e R s m args below meth cd H locs cells slots 0 0 (F0 m pc ls st0) rest (va_Qi post (mW D n ad) (mA n ad H.size) a) (mA n ad H.size)) {sz : Nat} {H0 : Heap} (hsz : sz ≤ H0.size) (hS : va_S (mA n ad sz) H0 H locs)
    (kk : ∀ (r : Int32) (c' : Nat → va_E) (H1 : Heap) (locs1 : List Loc), post r c' → va_P D vwCl (mw n ad c') H1 → va_S (mA n ad sz) H0 H1 locs1 → W p l e R s m args below meth cd H1 locs1 cells slots Q (F0 m (pc + 3) ls (.int r :: rest))) : W p l e R s m args below meth cd H locs cells slots Q (F0 m pc ls st0) :=
  va_calli hr hS (fun q _ h => mA_le (Nat.le_trans hsz hS.1) q h) (fun q h => mA_le (Nat.le_trans hsz hS.1) q h) (fun r u t H1 locs1 ht hvm hw hB hz1 hk1 hS1 => kk r u H1 locs1 hw (by rw [← ht]; exact hB) hS1)
theorem mx_cl {post : Int64 → (Nat → va_E) → Prop} {a : Array Value} (hr : va_Run p l e R s m args below meth cd H locs cells slots 0 0 (F0 m pc ls st0) rest (va_Ql post (mW D n ad) (mA n ad H.size) a) (mA n ad H.size)) {sz : Nat} {H0 : Heap} (hsz : sz ≤ H0.size) (hS : va_S (mA n ad sz) H0 H locs)
    (kk : ∀ (r : Int64) (c' : Nat → va_E) (H1 : Heap) (locs1 : List Loc), post r c' → va_P D vwCl (mw n ad c') H1 → va_S (mA n ad sz) H0 H1 locs1 → W p l e R s m args below meth cd H1 locs1 cells slots Q (F0 m (pc + 3) ls (.long r :: rest))) : W p l e R s m args below meth cd H locs cells slots Q (F0 m pc ls st0) :=
  va_calll hr hS (fun q _ h => mA_le (Nat.le_trans hsz hS.1) q h) (fun q h => mA_le (Nat.le_trans hsz hS.1) q h) (fun r u t H1 locs1 ht hvm hw hB hz1 hk1 hS1 => kk r u H1 locs1 hw (by rw [← ht]; exact hB) hS1)
theorem mx_cv {post : (Nat → va_E) → Prop} {a : Array Value} (hr : va_Run p l e R s m args below meth cd H locs cells slots 0 0 (F0 m pc ls st0) rest (va_Qv post (mW D n ad) (mA n ad H.size) a) (mA n ad H.size)) {sz : Nat} {H0 : Heap} (hsz : sz ≤ H0.size) (hS : va_S (mA n ad sz) H0 H locs)
    (kk : ∀ (c' : Nat → va_E) (H1 : Heap) (locs1 : List Loc), post c' → va_P D vwCl (mw n ad c') H1 → va_S (mA n ad sz) H0 H1 locs1 → W p l e R s m args below meth cd H1 locs1 cells slots Q (F0 m (pc + 3) ls rest)) : W p l e R s m args below meth cd H locs cells slots Q (F0 m pc ls st0) :=
  va_callv hr hS (fun q _ h => mA_le (Nat.le_trans hsz hS.1) q h) (fun q h => mA_le (Nat.le_trans hsz hS.1) q h) (fun u t H1 locs1 ht hvm hw hB hz1 hk1 hS1 => kk u H1 locs1 hw (by rw [← ht]; exact hB) hS1)
theorem mx_cr {post : Nat → (Nat → va_E) → Prop} {a : Array Value} (hr : va_Run p l e R s m args below meth cd H locs cells slots 0 0 (F0 m pc ls st0) rest (va_Qr (fun _ : Nat → va_E => True) (fun c' a t => post a c' ∧ mW D n ad c' t) (mA n ad H.size) a) (mA n ad H.size)) {sz : Nat} {H0 : Heap} (hsz : sz ≤ H0.size) (hS : va_S (mA n ad sz) H0 H locs)
    (kk : ∀ (r : Nat) (c' : Nat → va_E) (H1 : Heap) (locs1 : List Loc), post r c' → va_P D vwCl (mw n ad c') H1 → va_S (mA n ad sz) H0 H1 locs1 → W p l e R s m args below meth cd H1 locs1 cells slots Q (F0 m (pc + 3) ls (.ref r :: rest))) : W p l e R s m args below meth cd H locs cells slots Q (F0 m pc ls st0) :=
  va_callr hr hS (fun q _ h => mA_le (Nat.le_trans hsz hS.1) q h) (fun q h => mA_le (Nat.le_trans hsz hS.1) q h) (fun u ra t H1 locs1 ht hvm hw hB hz1 hk1 hS1 => kk ra u H1 locs1 hB.1 (by rw [← ht]; exact hB.2) hS1)
/-- the caller's side of a contract: receiver and start -/
theorem mx_pv {C : String} {T : u_T} {N ci k0 : Nat} {fs As : List Value} (hK : va_K D vwCl TY s) (hP : va_P D vwCl (mw n ad c) H) (hD : ∀ c, va_D (fun _ => True) (mw n ad c)) (hN : nNS s) (hk0 : k0 < n) (he : c k0 = .inr (ci, fs)) (hc : vwCl[ci]? = some (C, T, N)) : PreV s H C (ad k0) (va_Pc (.ref (ad k0) :: As) (mPre D TY n ad c H.size)) As :=
  ⟨mPre_blind, va_recv hK hP (q := (C, T, N)) hc (mw_at hk0 he), fun U hU hW => ⟨rfl, by rw [hU], by rw [hU]; exact hP, va_K.moved hW.alike hK, hD c, nNS_warm hW hN⟩⟩
theorem mx_ps {As : List Value} (hK : va_K D vwCl TY s) (hP : va_P D vwCl (mw n ad c) H) (hD : ∀ c, va_D (fun _ => True) (mw n ad c)) (hN : nNS s) : PreS s H (va_Pc As (mPre D TY n ad c H.size)) As :=
  ⟨mPre_blind, fun U hU hW => ⟨rfl, by rw [hU], by rw [hU]; exact hP, va_K.moved hW.alike hK, hD c, nNS_warm hW hN⟩⟩
end MX
/-! methods that make cells: the world grows, what may change is A -/
def mNew (l : Launch) (y : MethodName) (ws : List Cond) (rm : Room) (av : List Value) (D : va_G) (TY : List (ClassId × FieldType)) (n : Nat) (ad : Nat → Nat) (c : Nat → va_E) (n2 : Nat) (post : (Nat → Nat) → (Nat → va_E) → Prop) (mc ms : Nat) : Prop :=
  ∀ sz, Met l y ws rm (va_Pc av (mPre D TY n ad c sz)) (va_Qv (fun u : (Nat → Nat) × (Nat → va_E) => post u.1 u.2) (fun u t => va_P D vwCl (mw n2 u.1 u.2) t.heap ∧ va_D (mA n ad sz) (mw n2 u.1 u.2)) (mA n ad sz)) mc ms (mA n ad sz)
section MG
variable {p : Program} {l : Launch} {e : Env} {R : Room} {s : State} {m : MethodId} {args : Array Value} {below : List Frame} {meth : Method} {cd : Code} {H : Heap} {locs : List Loc} {cells slots : Nat} {Q : State → Prop}
variable {cc : ByteArray} {pc : Nat} {ls : Array Slot} {rest st0 : List Value} {D : va_G} {TY : List (ClassId × FieldType)} {n : Nat} {ad : Nat → Nat} {c : Nat → va_E} {A : Nat → Prop} {H0 : Heap}
theorem mg_A (hS : va_S A H0 H locs) (hA : ∀ q, H0.size ≤ q → A q) (hD : va_D A (mw n ad c)) : ∀ q, mA n ad H.size q → A q := by
  intro q h
  rcases h with ⟨k, hk, rfl⟩ | h
  · exact hD.2 k _ (mw_at hk rfl)
  · exact hA q (Nat.le_trans hS.1 h)
theorem mg_new (hexec : p.tables.exec = Jvm.exec) (hb : cd.code = cc) {own C : String} {T : u_T} {N ci index : Nat} {Ts : List Cond} (hts : ∀ w ∈ Ts, w.before args s = true) (hin : ∀ w ∈ u_ws C T N, w ∈ Ts) (ty : Nat → FieldType) (hty : ∀ k, k < N → parseFieldDescriptor (T k).2.2.1 = some (ty k)) (hown : s.vm.findClass own = some m.cls) (hcl : (Cond.classLink own index C).before args s = true) (hinst : (Cond.instantiable C N).before args s = true) (hini : (Cond.initialized C).before args s = true)
    (hK : va_K D vwCl TY s) (hP : va_P D vwCl (mw n ad c) H) (hD : va_D A (mw n ad c)) (hS : va_S A H0 H locs) (hA : ∀ q, H0.size ≤ q → A q) (hc : vwCl[ci]? = some (C, T, N)) {fs : List Value} (hfs : ∀ j, j < N → defaultValue (ty j) = vp_V fs j) (hcells : cells + 1 ≤ R.cells) (hslots : slots + N ≤ R.slots) (hdg : decode cc pc = .ok (.new index, 3))
    (kk : ∀ (ad1 : Nat → Nat) (c1 : Nat → va_E) (H1 : Heap), (∀ k, k < n → ad1 k = ad k) → (∀ k, k < n → c1 k = c k) → c1 n = .inr (ci, fs) → va_P D vwCl (mw (n + 1) ad1 c1) H1 → va_D A (mw (n + 1) ad1 c1) → va_S A H0 H1 locs →
      W p l e R s m args below meth cd H1 locs (cells + 1) (slots + N) Q (F0 m (pc + 3) ls (.ref (ad1 n) :: rest))) : W p l e R s m args below meth cd H locs cells slots Q (F0 m pc ls rest) :=
  va_new hexec hb hts hin ty hty hown hcl hinst hini hK hP hD hS hA hc hfs hcells hslots hdg (fun q H1 hP1 hD1 hS1 => by
    have h := kk (va_up ad n q) (va_up c n (.inr (ci, fs))) H1 (fun k hk => va_up_ne _ _ (Nat.ne_of_lt hk)) (fun k hk => va_up_ne _ _ (Nat.ne_of_lt hk)) (va_up_self _ _ _) (by rw [← mw_push]; exact hP1) (by rw [← mw_push]; exact hD1) hS1
    rw [va_up_self] at h
    exact h)
theorem mg_RA {cA cB : ClassId} {ty : FieldType} (h1 : va_RA s cA ty) (h2 : va_RA s cB ty) : cA = cB := by
  cases ty with
  | object C =>
    obtain ⟨k1, p1, -, -, -, e1⟩ := h1
    obtain ⟨k2, p2, -, -, -, e2⟩ := h2
    exact Option.some.inj (e1.symm.trans e2)
  | _ => exact Option.some.inj (Eq.trans (Eq.symm h1) h2)
theorem mg_newi (hexec : p.tables.exec = Jvm.exec) (hb : cd.code = cc) {atype : ArrayType} (harr : (Cond.arrayClass (newarray.typeOf atype)).before args s = true) (hty : newarray.typeOf atype = .int) (hK : va_K D vwCl TY s) (hP : va_P D vwCl (mw n ad c) H) (hD : va_D A (mw n ad c)) (hS : va_S A H0 H locs) (hA : ∀ q, H0.size ≤ q → A q) (t0 : Nat) {cA : ClassId} (ht : TY[t0]? = some (cA, .int))
    {x : Int32} {N' : Nat} (hn : ¬ x < 0) (hN : x.toNatClampNeg = N') (hbytes : N' * componentBytes .int ≤ 536870912) (hcells : cells + 1 ≤ R.cells) (hslots : slots + N' ≤ R.slots) (hdg : decode cc pc = .ok (.newarray atype, 2))
    (kk : ∀ (ad1 : Nat → Nat) (c1 : Nat → va_E) (H1 : Heap), (∀ k, k < n → ad1 k = ad k) → (∀ k, k < n → c1 k = c k) → c1 n = .inl (cA, N', .inl (fun _ => 0)) → va_P D vwCl (mw (n + 1) ad1 c1) H1 → va_D A (mw (n + 1) ad1 c1) → va_S A H0 H1 locs →
      W p l e R s m args below meth cd H1 locs (cells + 1) (slots + N') Q (F0 m (pc + 2) ls (.ref (ad1 n) :: rest))) : W p l e R s m args below meth cd H locs cells slots Q (F0 m pc ls (.int x :: rest)) :=
  va_newa hexec hb harr hty hK hP hD hS hA (a0 := (N', .inl (fun _ => 0))) (fun cA => rfl) hn hN hbytes hcells hslots hdg (fun q cB H1 hK1 hP1 hD1 hS1 => by
    have hBA : cB = cA := mg_RA (ty := .int) (hK1.2 TY.length (cB, .int) (by rw [List.getElem?_append_right (Nat.le_refl _), Nat.sub_self]; rfl)).2 (hK.2 t0 _ ht).2
    subst hBA
    have h := kk (va_up ad n q) (va_up c n (.inl (cB, N', .inl (fun _ => 0)))) H1 (fun k hk => va_up_ne _ _ (Nat.ne_of_lt hk)) (fun k hk => va_up_ne _ _ (Nat.ne_of_lt hk)) (va_up_self _ _ _) (by rw [← mw_push]; exact hP1) (by rw [← mw_push]; exact hD1) hS1
    rw [va_up_self] at h
    exact h)
theorem mg_newq (hexec : p.tables.exec = Jvm.exec) (hb : cd.code = cc) {own C : String} {index : Nat} (hown : s.vm.findClass own = some m.cls) (hclink : (Cond.classLink own index C).before args s = true) (hover : va_AO C s) (hK : va_K D vwCl TY s) (hP : va_P D vwCl (mw n ad c) H) (hD : va_D A (mw n ad c)) (hS : va_S A H0 H locs) (hA : ∀ q, H0.size ≤ q → A q) (t0 : Nat) {cA : ClassId} (ht : TY[t0]? = some (cA, .object C))
    {x : Int32} {N' : Nat} (hn : ¬ x < 0) (hN : x.toNatClampNeg = N') (hbytes : N' * 4 ≤ 536870912) (hcells : cells + 1 ≤ R.cells) (hslots : slots + N' ≤ R.slots) (hdg : decode cc pc = .ok (.anewarray index, 3))
    (kk : ∀ (ad1 : Nat → Nat) (c1 : Nat → va_E) (H1 : Heap), (∀ k, k < n → ad1 k = ad k) → (∀ k, k < n → c1 k = c k) → c1 n = .inl (cA, N', .inr (.inr (.inr (.inr (fun _ => none))))) → va_P D vwCl (mw (n + 1) ad1 c1) H1 → va_D A (mw (n + 1) ad1 c1) → va_S A H0 H1 locs →
      W p l e R s m args below meth cd H1 locs (cells + 1) (slots + N') Q (F0 m (pc + 3) ls (.ref (ad1 n) :: rest))) : W p l e R s m args below meth cd H locs cells slots Q (F0 m pc ls (.int x :: rest)) :=
  va_newq hexec hb hown hclink hover hK hP hD hS hA hn hN hbytes hcells hslots hdg (fun q cB H1 hK1 hP1 hD1 hS1 => by
    have hBA : cB = cA := mg_RA (ty := .object C) (hK1.2 TY.length (cB, .object C) (by rw [List.getElem?_append_right (Nat.le_refl _), Nat.sub_self]; rfl)).2 (hK.2 t0 _ ht).2
    subst hBA
    have h := kk (va_up ad n q) (va_up c n (.inl (cB, N', .inr (.inr (.inr (.inr (fun _ => none))))))) H1 (fun k hk => va_up_ne _ _ (Nat.ne_of_lt hk)) (fun k hk => va_up_ne _ _ (Nat.ne_of_lt hk)) (va_up_self _ _ _) (by rw [← mw_push]; exact hP1) (by rw [← mw_push]; exact hD1) hS1
    rw [va_up_self] at h
    exact h)
theorem mg_put (hexec : p.tables.exec = Jvm.exec) (hb : cd.code = cc) {own ref C : String} {T : u_T} {N ci index : Nat} {Ts : List Cond} (hts : ∀ w ∈ Ts, w.before args s = true) (hin : ∀ w ∈ u_ws C T N, w ∈ Ts) (ty0 : Nat → FieldType) (hty : ∀ k, k < N → parseFieldDescriptor (T k).2.2.1 = some (ty0 k)) (hnm : ∀ a, a < N → ∀ b, b < N → a ≠ b → (T a).2.1 ≠ (T b).2.1) (hown : s.vm.findClass own = some m.cls) (hK : va_K D vwCl TY s) (hP : va_P D vwCl (mw n ad c) H) (hD : va_D A (mw n ad c)) (hS : va_S A H0 H locs) {k0 a : Nat} (hk0 : k0 < n) (ha : ad k0 = a) {fs : List Value} (he : c k0 = .inr (ci, fs)) (hc : vwCl[ci]? = some (C, T, N)) (k : Nat) (hk : k < N) (hlink : (Cond.fieldLink own index ref (T k).2.1 (T k).2.2.1).before args s = true) (hsame : ∀ x, s.fieldFound? (T k).1 (T k).2.1 (T k).2.2.1 = some x → s.fieldFound? ref (T k).2.1 (T k).2.2.1 = some x) (hfin : (T k).2.2.2 = false) {ty : FieldType} {v : Value} (hd : parseFieldDescriptor (T k).2.2.1 = some ty) (hn : narrow ty v = v) (hfit : fits ty v = true) (hl : k < fs.length)
    (hdg : decode cc pc = .ok (.putfield index, 3)) (kk : ∀ (c1 : Nat → va_E) (H1 : Heap) (locs1 : List Loc), (∀ j, j ≠ k0 → c1 j = c j) → c1 k0 = .inr (ci, fs.set k v) → va_P D vwCl (mw n ad c1) H1 → va_D A (mw n ad c1) → va_S A H0 H1 locs1 → W p l e R s m args below meth cd H1 locs1 cells slots Q (F0 m (pc + 3) ls rest)) : W p l e R s m args below meth cd H locs cells slots Q (F0 m pc ls (v :: .ref a :: rest)) := by
  subst ha
  exact va_put hexec hb hts hin ty0 hty hnm hown hK hP hD hS k0 (mw_at hk0 he) hc k hk hlink hsame hfin hd hn hfit hl hdg (fun H1 locs1 hP1 _ hS1 => kk (va_up c k0 (.inr (ci, fs.set k v))) H1 locs1 (fun j hj => va_up_ne _ _ hj) (va_up_self _ _ _) (by rw [mw_set hk0] at hP1; exact hP1) (mw_D hD _) hS1)
theorem mg_putF (hexec : p.tables.exec = Jvm.exec) (hb : cd.code = cc) {own ref C : String} {T : u_T} {N ci index : Nat} {Ts : List Cond} (hts : ∀ w ∈ Ts, w.before args s = true) (hin : ∀ w ∈ u_ws C T N, w ∈ Ts) (ty0 : Nat → FieldType) (hty : ∀ k, k < N → parseFieldDescriptor (T k).2.2.1 = some (ty0 k)) (hnm : ∀ a, a < N → ∀ b, b < N → a ≠ b → (T a).2.1 ≠ (T b).2.1) (hown : s.vm.findClass own = some m.cls) (hK : va_K D vwCl TY s) (hP : va_P D vwCl (mw n ad c) H) (hD : va_D A (mw n ad c)) (hS : va_S A H0 H locs) {k0 a : Nat} (hk0 : k0 < n) (ha : ad k0 = a) {fs : List Value} (he : c k0 = .inr (ci, fs)) (hc : vwCl[ci]? = some (C, T, N)) (k : Nat) (hk : k < N) (hlink : (Cond.fieldLink own index ref (T k).2.1 (T k).2.2.1).before args s = true) (hsame : ∀ x, s.fieldFound? (T k).1 (T k).2.1 (T k).2.2.1 = some x → s.fieldFound? ref (T k).2.1 (T k).2.2.1 = some x) (hfin : (T k).2.2.2 = true) (hin2 : meth.name = "<init>") (hdecl : (T k).1 = own) {ty : FieldType} {v : Value} (hd : parseFieldDescriptor (T k).2.2.1 = some ty) (hn : narrow ty v = v) (hfit : fits ty v = true) (hl : k < fs.length)
    (hdg : decode cc pc = .ok (.putfield index, 3)) (kk : ∀ (c1 : Nat → va_E) (H1 : Heap) (locs1 : List Loc), (∀ j, j ≠ k0 → c1 j = c j) → c1 k0 = .inr (ci, fs.set k v) → va_P D vwCl (mw n ad c1) H1 → va_D A (mw n ad c1) → va_S A H0 H1 locs1 → W p l e R s m args below meth cd H1 locs1 cells slots Q (F0 m (pc + 3) ls rest)) : W p l e R s m args below meth cd H locs cells slots Q (F0 m pc ls (v :: .ref a :: rest)) := by
  subst ha
  exact va_putF hexec hb hts hin ty0 hty hnm hown hK hP hD hS k0 (mw_at hk0 he) hc k hk hlink hsame hfin hin2 hdecl hd hn hfit hl hdg (fun H1 locs1 hP1 _ hS1 => kk (va_up c k0 (.inr (ci, fs.set k v))) H1 locs1 (fun j hj => va_up_ne _ _ hj) (va_up_self _ _ _) (by rw [mw_set hk0] at hP1; exact hP1) (mw_D hD _) hS1)
theorem mg_aast (hexec : p.tables.exec = Jvm.exec) (hb : cd.code = cc) (hK : va_K D vwCl TY s) (hP : va_P D vwCl (mw n ad c) H) (hD : va_D A (mw n ad c)) (hS : va_S A H0 H locs) {k0 a kv v ci : Nat} (t0 : Nat) (hk0 : k0 < n) (ha : ad k0 = a) (hkv : kv < n) (hav : ad kv = v) {cA : ClassId} {r : vw_C} {N : Nat} {vs : List Value} {f : Nat → Option Nat} (he : c k0 = .inl (cA, N, .inr (.inr (.inr (.inr f))))) (ht : TY[t0]? = some (cA, .object r.1)) (hev : c kv = .inr (ci, vs)) (hc : vwCl[ci]? = some r) {i : Int32} (hin : vp_in i N) (hdg : decode cc pc = .ok (.aastore, 1))
    (kk : ∀ (c1 : Nat → va_E) (H1 : Heap) (locs1 : List Loc), (∀ j, j ≠ k0 → c1 j = c j) → c1 k0 = .inl (cA, N, .inr (.inr (.inr (.inr (va_up f i.toNatClampNeg (some v)))))) → va_P D vwCl (mw n ad c1) H1 → va_D A (mw n ad c1) → va_S A H0 H1 locs1 → W p l e R s m args below meth cd H1 locs1 cells slots Q (F0 m (pc + 1) ls rest)) : W p l e R s m args below meth cd H locs cells slots Q (F0 m pc ls (.ref v :: .int i :: .ref a :: rest)) := by
  subst ha
  subst hav
  exact va_astq hexec hb hK hP hD hS k0 t0 kv ci (mw_at hk0 he) ht (mw_at hkv hev) hc hin hdg (fun H1 locs1 hP1 _ hS1 => kk (va_up c k0 (.inl (cA, N, .inr (.inr (.inr (.inr (va_up f i.toNatClampNeg (some (ad kv))))))))) H1 locs1 (fun j hj => va_up_ne _ _ hj) (va_up_self _ _ _) (by rw [mw_set hk0] at hP1; exact hP1) (mw_D hD _) hS1)
/-- a call of a method that makes cells -/
theorem mg_cv {post : (Nat → Nat) → (Nat → va_E) → Prop} {a : Array Value} {n2 mc ms : Nat} (hr : va_Run p l e R s m args below meth cd H locs cells slots mc ms (F0 m pc ls st0) rest (va_Qv (fun u : (Nat → Nat) × (Nat → va_E) => post u.1 u.2) (fun u t => va_P D vwCl (mw n2 u.1 u.2) t.heap ∧ va_D (mA n ad H.size) (mw n2 u.1 u.2)) (mA n ad H.size) a) (mA n ad H.size)) (hS : va_S A H0 H locs) (hA : ∀ q, H0.size ≤ q → A q) (hD : va_D A (mw n ad c))
    (kk : ∀ (ad1 : Nat → Nat) (c1 : Nat → va_E) (H1 : Heap) (locs1 : List Loc), post ad1 c1 → va_P D vwCl (mw n2 ad1 c1) H1 → va_D A (mw n2 ad1 c1) → va_S A H0 H1 locs1 → W p l e R s m args below meth cd H1 locs1 (cells + mc) (slots + ms) Q (F0 m (pc + 3) ls rest)) : W p l e R s m args below meth cd H locs cells slots Q (F0 m pc ls st0) :=
  va_callv hr hS (fun q _ h => mg_A hS hA hD q h) (fun q h => mg_A hS hA hD q h) (fun u t H1 locs1 ht hvm hw hB hz1 hk1 hS1 => kk u.1 u.2 H1 locs1 hw (by rw [← ht]; exact hB.1) (hB.2.weaken (fun _ _ _ h => mg_A hS hA hD _ h)) hS1)
theorem mg_c0 {post : (Nat → va_E) → Prop} {a : Array Value} (hr : va_Run p l e R s m args below meth cd H locs cells slots 0 0 (F0 m pc ls st0) rest (va_Qv post (mW D n ad) (mA n ad H.size) a) (mA n ad H.size)) (hS : va_S A H0 H locs) (hA : ∀ q, H0.size ≤ q → A q) (hD : va_D A (mw n ad c))
    (kk : ∀ (c1 : Nat → va_E) (H1 : Heap) (locs1 : List Loc), post c1 → va_P D vwCl (mw n ad c1) H1 → va_D A (mw n ad c1) → va_S A H0 H1 locs1 → W p l e R s m args below meth cd H1 locs1 cells slots Q (F0 m (pc + 3) ls rest)) : W p l e R s m args below meth cd H locs cells slots Q (F0 m pc ls st0) :=
  va_callv hr hS (fun q _ h => mg_A hS hA hD q h) (fun q h => mg_A hS hA hD q h) (fun u t H1 locs1 ht hvm hw hB hz1 hk1 hS1 => kk u H1 locs1 hw (by rw [← ht]; exact hB) (mw_D hD u) hS1)
theorem mg_ps {As : List Value} (hK : va_K D vwCl TY s) (hP : va_P D vwCl (mw n ad c) H) (hD : va_D A (mw n ad c)) (hN : nNS s) : PreS s H (va_Pc As (mPre D TY n ad c H.size)) As :=
  ⟨mPre_blind, fun U hU hW => ⟨rfl, by rw [hU], by rw [hU]; exact hP, va_K.moved hW.alike hK, hD.weaken (fun _ _ _ _ => trivial), nNS_warm hW hN⟩⟩
theorem mg_ci {post : (Nat → Nat) → (Nat → va_E) → Prop} {n2 mc ms nL na index maxL : Nat} {y : MethodName} {ws Ts : List Cond} {rm : Room} {own : String} {bytes : ByteArray} {b : Nat} {As : List Value} (S : CallFix p m cd cc nL s args Ts own) (hM : mNew l y ws rm (.ref b :: As) D TY n ad c n2 post mc ms) (cw : CallB R s args own index y bytes maxL none ws rm mc ms na ∧ y.name = "<init>" ∧ (Cond.instanceMethod y).before args s = true) (hK : va_K D vwCl TY s) (hP : va_P D vwCl (mw n ad c) H) (hD : va_D A (mw n ad c)) (hN : nNS s) (hS : va_S A H0 H locs) (hA : ∀ q, H0.size ≤ q → A q) (hn : As.length = na) (hsize : ls.size = nL) (hst : st0 = As.reverse ++ .ref b :: rest) (hW : 2 * (F0 m pc ls st0).monitorRoom + (rest.map fun v => v.category).sum ≤ 8) (hdg : decode cc pc = .ok (.invokespecial index, 3)) (hf : cells + mc ≤ R.cells ∧ slots + ms ≤ R.slots)
    (kk : ∀ (ad1 : Nat → Nat) (c1 : Nat → va_E) (H1 : Heap) (locs1 : List Loc), post ad1 c1 → va_P D vwCl (mw n2 ad1 c1) H1 → va_D A (mw n2 ad1 c1) → va_S A H0 H1 locs1 → W p l e R s m args below meth cd H1 locs1 (cells + mc) (slots + ms) Q (F0 m (pc + 3) ls rest)) : W p l e R s m args below meth cd H locs cells slots Q (F0 m pc ls st0) :=
  mg_cv (post := post) (va_runI S (hM H.size) cw (mg_ps hK hP hD hN) rfl hn hsize hst hW hdg hf) hS hA hD kk
theorem mg_vret {post : (Nat → Nat) → (Nat → va_E) → Prop} {n0 : Nat} {ad0 : Nat → Nat} (hexec : p.tables.exec = Jvm.exec) (hb : cd.code = cc) (hr : meth.sig.returnType = none) (hlocks : meth.locks = false) (hP : va_P D vwCl (mw n ad c) H) (hD : va_D (mA n0 ad0 s.heap.size) (mw n ad c)) (hS : va_S (mA n0 ad0 s.heap.size) s.heap H locs) (hpost : post ad c) (hdg : decode cc pc = .ok (.return_, 1)) :
    W p l e R s m args below meth cd H locs cells slots (MQ below (va_Qv (fun u : (Nat → Nat) × (Nat → va_E) => post u.1 u.2) (fun u t => va_P D vwCl (mw n u.1 u.2) t.heap ∧ va_D (mA n0 ad0 s.heap.size) (mw n u.1 u.2)) (mA n0 ad0 s.heap.size)) args s cells slots (mA n0 ad0 s.heap.size)) (F0 m pc ls []) :=
  W.vret hexec hb hr (fun t ht hW => ⟨⟨(ad, c), rfl, hpost, by show va_P _ _ _ t.heap; rw [ht]; exact hP, hD⟩, hS.F ht⟩) hS.2.2 hdg hlocks
end MG
