abbrev vwCl : List vw_C := [(RX0, TX0, 9), (RX1, TX1, 10), (RX2, TX2, 3), (RX3, TX3, 4), (RX4, TX4, 3), (RX5, TX5, 9), (RX6, TX6, 15)]
/-! THE WORLD: 74 places, a cell each; qa: the address of a place, E: what the place holds -/
def WD (qa : Nat → Nat) (E : Nat → va_E) : va_W := (List.range 74).map (fun k => (qa k, E k))
theorem WD_get {qa : Nat → Nat} {E : Nat → va_E} {k : Nat} (h : k < 74) : (WD qa E)[k]? = some (qa k, E k) := by
  unfold WD
  rw [List.getElem?_map, List.getElem?_range h]
  rfl
theorem WD_get' {qa : Nat → Nat} {E : Nat → va_E} {k : Nat} {q : Nat × va_E} (h : (WD qa E)[k]? = some q) : k < 74 ∧ q = (qa k, E k) := by
  have hl : k < (WD qa E).length := (List.getElem?_eq_some_iff.mp h).1
  have h74 : k < 74 := by simpa [WD] using hl
  rw [WD_get h74] at h
  exact ⟨h74, (Option.some.inj h).symm⟩
theorem WD_at {qa : Nat → Nat} {E : Nat → va_E} {k : Nat} {e : va_E} (h : k < 74) (he : E k = e) : (WD qa E)[k]? = some (qa k, e) := by
  rw [WD_get h, he]
theorem WD_set {qa : Nat → Nat} {E : Nat → va_E} {k : Nat} {e : va_E} (h : k < 74) : (WD qa E).set k (qa k, e) = WD qa (va_up E k e) := by
  apply List.ext_getElem?
  intro j
  by_cases hj : j < 74
  · rw [WD_get hj]
    by_cases hjk : k = j
    · subst hjk
      rw [List.getElem?_set_self (by simpa [WD] using h), va_up_self]
    · rw [List.getElem?_set_ne hjk, WD_get hj, va_up_ne _ _ (fun z => hjk z.symm)]
  · rw [List.getElem?_eq_none (by simp [WD]; omega), List.getElem?_eq_none (by simp [WD]; omega)]
def gty (g : Nat → ClassId) : List (ClassId × FieldType) := [(g 0, .int), (g 1, .long), (g 2, .char), (g 3, .array .int), (g 4, .object "WoundMedals$Row")]
def gA (qa : Nat → Nat) (sz : Nat) : Nat → Prop := fun q => (∃ k, k < 74 ∧ qa k = q) ∨ sz ≤ q
def gJ (qa : Nat → Nat) : Prop := ∀ i j, i < 74 → j < 74 → qa i = qa j → i = j
theorem gD {qa : Nat → Nat} {E : Nat → va_E} {sz : Nat} (h : gJ qa) : va_D (gA qa sz) (WD qa E) := by
  refine ⟨fun i j p q hi hj e => ?_, fun k q hk => ?_⟩
  · obtain ⟨h1, rfl⟩ := WD_get' hi
    obtain ⟨h2, rfl⟩ := WD_get' hj
    exact h i j h1 h2 e
  · obtain ⟨h1, rfl⟩ := WD_get' hk
    exact Or.inl ⟨k, h1, rfl⟩
def gN (U : State) : Prop := va_Nw (.methodLinkNest RX1 74 yX5_strengthNext "WoundMedals") U
def gP (D : va_G) (g : Nat → ClassId) (qa : Nat → Nat) (E : Nat → va_E) (sz : Nat) (U : State) : Prop := U.heap.size = sz ∧ va_P D vwCl (WD qa E) U.heap ∧ va_K D vwCl (gty g) U ∧ gJ qa ∧ gN U
theorem gP_blind {D : va_G} {g : Nat → ClassId} {qa : Nat → Nat} {E : Nat → va_E} {sz : Nat} {av : List Value} : FrameBlind (va_Pc av (gP D g qa E sz)) := by
  intro a U gf mk q
  obtain ⟨q0, q1, qP, qK, qJ, qN⟩ := q
  exact ⟨q0, q1, qP, va_K.moved (u := U) (U := U.calling gf mk a) (Vm.Alike.refl U.vm) qK, qJ, va_Nw.same rfl rfl qN⟩
/-- the contracts: an int, a long, nothing is answered; E' is what the places hold then -/
def QI (D : va_G) (qa : Nat → Nat) (r : Int32) (post : (Nat → va_E) → Prop) (sz : Nat) : Array Value → State → Outcome → State → Prop := va_Qi (fun (r' : Int32) (E' : Nat → va_E) => r' = r ∧ post E') (fun E' t => va_P D vwCl (WD qa E') t.heap) (gA qa sz)
def QL (D : va_G) (qa : Nat → Nat) (r : Int64) (post : (Nat → va_E) → Prop) (sz : Nat) : Array Value → State → Outcome → State → Prop := va_Ql (fun (r' : Int64) (E' : Nat → va_E) => r' = r ∧ post E') (fun E' t => va_P D vwCl (WD qa E') t.heap) (gA qa sz)
def QV (D : va_G) (qa : Nat → Nat) (post : (Nat → va_E) → Prop) (sz : Nat) : Array Value → State → Outcome → State → Prop := va_Qv (fun (E' : Nat → va_E) => post E') (fun E' t => va_P D vwCl (WD qa E') t.heap) (gA qa sz)
def rmf (n : Nat) : Room := { frames := n, cells := 0, slots := 0, locals := 100 * n }
def MI (l : Launch) (y : MethodName) (ws : List Cond) (n : Nat) (D : va_G) (g : Nat → ClassId) (qa : Nat → Nat) (E : Nat → va_E) (av : List Value) (r : Int32) (post : (Nat → va_E) → Prop) : Prop :=
  ∀ sz : Nat, Met l y ws (rmf n) (va_Pc av (gP D g qa E sz)) (QI D qa r post sz) 0 0 (gA qa sz)
def ML (l : Launch) (y : MethodName) (ws : List Cond) (n : Nat) (D : va_G) (g : Nat → ClassId) (qa : Nat → Nat) (E : Nat → va_E) (av : List Value) (r : Int64) (post : (Nat → va_E) → Prop) : Prop :=
  ∀ sz : Nat, Met l y ws (rmf n) (va_Pc av (gP D g qa E sz)) (QL D qa r post sz) 0 0 (gA qa sz)
def MV (l : Launch) (y : MethodName) (ws : List Cond) (n : Nat) (D : va_G) (g : Nat → ClassId) (qa : Nat → Nat) (E : Nat → va_E) (av : List Value) (post : (Nat → va_E) → Prop) : Prop :=
  ∀ sz : Nat, Met l y ws (rmf n) (va_Pc av (gP D g qa E sz)) (QV D qa post sz) 0 0 (gA qa sz)
/-- what stays the same through a body -/
def Cx (p : Program) (s : State) (m : MethodId) (args : Array Value) (c : Code) (cc : ByteArray) (nL : Nat) (own : String) (Ts : List Cond) (D : va_G) (g : Nat → ClassId) (qa : Nat → Nat) : Prop :=
  p.tables.exec = Jvm.exec ∧ c.code = cc ∧ c.maxLocals = nL ∧ s.vm.findClass own = some m.cls ∧ (∀ w ∈ Ts, w.before args s = true) ∧ va_K D vwCl (gty g) s ∧ gJ qa ∧ gN s
section XR
variable {p : Program} {l : Launch} {e : Env} {R : Room} {s : State} {m : MethodId} {args : Array Value} {below : List Frame} {meth : Method} {c : Code} {H : Heap} {locs : List Loc} {Q : State → Prop}
variable {cc : ByteArray} {pc nL : Nat} {ls : Array Slot} {rest : List Value} {own : String} {Ts : List Cond} {D : va_G} {g : Nat → ClassId} {qa : Nat → Nat} {E : Nat → va_E} {H0 : Heap}
theorem x_get (X : Cx p s m args c cc nL own Ts D g qa) (hP : va_P D vwCl (WD qa E) H) {k ci : Nat} {fs : List Value} (hE : E k = .inr (ci, fs)) (hk : k < 74) {C ref : String} {T : u_T} {N index : Nat} (hc : vwCl[ci]? = some (C, T, N)) (hin : ∀ w ∈ u_ws C T N, w ∈ Ts) (i : Nat) (hi : i < N) (hlink : Cond.fieldLink own index ref (T i).2.1 (T i).2.2.1 ∈ Ts) (hsame : (T i).1 = ref) {v : Value} (hv : fs[i]? = some v) (hdg : decode cc pc = .ok (.getfield index, 3))
    (kk : W p l e R s m args below meth c H locs 0 0 Q (F0 m (pc + 3) ls (v :: rest))) : W p l e R s m args below meth c H locs 0 0 Q (F0 m pc ls (.ref (qa k) :: rest)) := by
  obtain ⟨hx, hb, hml, hown, hts, hK, hJ, hN⟩ := X
  exact va_get hx hb hts hin hown hK hP k (WD_at hk hE) hc i hi (hts _ hlink) (fun x hx => by rw [← hsame]; exact hx) hv hdg kk
theorem x_put (X : Cx p s m args c cc nL own Ts D g qa) (hP : va_P D vwCl (WD qa E) H) (hS : va_S (gA qa H0.size) H0 H locs) {k ci : Nat} {fs : List Value} (hE : E k = .inr (ci, fs)) (hk : k < 74) {C ref : String} {T : u_T} {N index : Nat} (hc : vwCl[ci]? = some (C, T, N)) (hin : ∀ w ∈ u_ws C T N, w ∈ Ts) (ty0 : Nat → FieldType) (hty : ∀ k, k < N → parseFieldDescriptor (T k).2.2.1 = some (ty0 k)) (hnm : ∀ a, a < N → ∀ b, b < N → a ≠ b → (T a).2.1 ≠ (T b).2.1) (i : Nat) (hi : i < N) (hlink : Cond.fieldLink own index ref (T i).2.1 (T i).2.2.1 ∈ Ts) (hsame : (T i).1 = ref) (hfin : (T i).2.2.2 = false) {ty : FieldType} {v : Value} (hd : parseFieldDescriptor (T i).2.2.1 = some ty) (hn : narrow ty v = v) (hfit : fits ty v = true) (hl : i < fs.length) (hdg : decode cc pc = .ok (.putfield index, 3))
    (kk : ∀ (E1 : Nat → va_E) (H1 : Heap) (locs1 : List Loc), E1 k = .inr (ci, fs.set i v) → (∀ j, j ≠ k → E1 j = E j) → va_P D vwCl (WD qa E1) H1 → va_S (gA qa H0.size) H0 H1 locs1 → W p l e R s m args below meth c H1 locs1 0 0 Q (F0 m (pc + 3) ls rest)) : W p l e R s m args below meth c H locs 0 0 Q (F0 m pc ls (v :: .ref (qa k) :: rest)) := by
  obtain ⟨hx, hb, hml, hown, hts, hK, hJ, hN⟩ := X
  refine va_put hx hb hts hin ty0 hty hnm hown hK hP (gD hJ) hS k (WD_at hk hE) hc i hi (hts _ hlink) (fun x hx => by rw [← hsame]; exact hx) hfin hd hn hfit hl hdg (fun H1 locs1 hP1 hD1 hS1 => ?_)
  rw [WD_set hk] at hP1
  exact kk _ H1 locs1 (va_up_self _ _ _) (fun j hj => va_up_ne _ _ hj) hP1 hS1
theorem x_iald (X : Cx p s m args c cc nL own Ts D g qa) (hP : va_P D vwCl (WD qa E) H) {k n : Nat} {f : Nat → Int32} (hE : E k = .inl (g 0, n, .inl f)) (hk : k < 74) {i : Int32} (hin : vp_in i n) (hdg : decode cc pc = .ok (.iaload, 1))
    (kk : W p l e R s m args below meth c H locs 0 0 Q (F0 m (pc + 1) ls (.int (f i.toNatClampNeg) :: rest))) : W p l e R s m args below meth c H locs 0 0 Q (F0 m pc ls (.int i :: .ref (qa k) :: rest)) := by
  obtain ⟨hx, hb, hml, hown, hts, hK, hJ, hN⟩ := X
  exact va_iald hx hb hK hP k 0 (WD_at hk hE) rfl hin hdg kk
theorem x_cald (X : Cx p s m args c cc nL own Ts D g qa) (hP : va_P D vwCl (WD qa E) H) {k n : Nat} {f : Nat → Int32} (hE : E k = .inl (g 2, n, .inl f)) (hk : k < 74) {i : Int32} (hin : vp_in i n) (hdg : decode cc pc = .ok (.caload, 1))
    (kk : W p l e R s m args below meth c H locs 0 0 Q (F0 m (pc + 1) ls (.int (f i.toNatClampNeg) :: rest))) : W p l e R s m args below meth c H locs 0 0 Q (F0 m pc ls (.int i :: .ref (qa k) :: rest)) := by
  obtain ⟨hx, hb, hml, hown, hts, hK, hJ, hN⟩ := X
  exact va_cald hx hb hK hP k 2 (WD_at hk hE) rfl hin hdg kk
theorem x_lald (X : Cx p s m args c cc nL own Ts D g qa) (hP : va_P D vwCl (WD qa E) H) {k n : Nat} {f : Nat → Int64} (hE : E k = .inl (g 1, n, .inr (.inl f))) (hk : k < 74) {i : Int32} (hin : vp_in i n) (hdg : decode cc pc = .ok (.laload, 1))
    (kk : W p l e R s m args below meth c H locs 0 0 Q (F0 m (pc + 1) ls (.long (f i.toNatClampNeg) :: rest))) : W p l e R s m args below meth c H locs 0 0 Q (F0 m pc ls (.int i :: .ref (qa k) :: rest)) := by
  obtain ⟨hx, hb, hml, hown, hts, hK, hJ, hN⟩ := X
  exact va_lald hx hb hK hP k 1 (WD_at hk hE) rfl hin hdg kk
/-- an array whose places hold the cells from place b on -/
def grd (qa : Nat → Nat) (b n : Nat) : vp_A := (n, .inr (.inr (.inr (.inr (fun j => if j < n then some (qa (b + j)) else none)))))
theorem x_aald (X : Cx p s m args c cc nL own Ts D g qa) (hP : va_P D vwCl (WD qa E) H) {k n b : Nat} (t : Nat) {ty : FieldType} (ht : (gty g)[t]? = some (g t, ty)) (hr : ty.isReference = true) (hE : E k = .inl (g t, grd qa b n)) (hk : k < 74) {i : Int32} (hin : vp_in i n) (hdg : decode cc pc = .ok (.aaload, 1))
    (kk : W p l e R s m args below meth c H locs 0 0 Q (F0 m (pc + 1) ls (.ref (qa (b + i.toNatClampNeg)) :: rest))) : W p l e R s m args below meth c H locs 0 0 Q (F0 m pc ls (.int i :: .ref (qa k) :: rest)) := by
  obtain ⟨hx, hb, hml, hown, hts, hK, hJ, hN⟩ := X
  have hlt : i.toNatClampNeg < n := Nat.not_le.mp fun q => hin (Or.inr q)
  have hv : va_rf ((fun j => if j < n then some (qa (b + j)) else none) i.toNatClampNeg) = .ref (qa (b + i.toNatClampNeg)) := by
    show va_rf (if i.toNatClampNeg < n then some (qa (b + i.toNatClampNeg)) else none) = _
    rw [if_pos hlt]
    rfl
  rw [← hv] at kk
  have hE : E k = .inl (g t, n, .inr (.inr (.inr (.inr (fun j => if j < n then some (qa (b + j)) else none))))) := hE
  exact W.aald (v := va_rf ((fun j => if j < n then some (qa (b + j)) else none) i.toNatClampNeg)) (ty := ty) hx hb (hP k _ (WD_at hk hE)) ((hK.2 t _ ht).1 n (fun j => va_rf ((fun j => if j < n then some (qa (b + j)) else none) j))) hr (fun q => by cases q) (by show ¬ (i < 0 ∨ (arrV _ _ _).slots.size ≤ _); rw [arrV_size]; exact hin) (by show (arrV _ _ _).slots[_]? = _; rw [arrV_read _ _ hlt]) rfl rfl hdg kk
theorem x_iast (X : Cx p s m args c cc nL own Ts D g qa) (hP : va_P D vwCl (WD qa E) H) (hS : va_S (gA qa H0.size) H0 H locs) {k n : Nat} {f : Nat → Int32} (hE : E k = .inl (g 0, n, .inl f)) (hk : k < 74) {i x : Int32} (hin : vp_in i n) (hdg : decode cc pc = .ok (.iastore, 1))
    (kk : ∀ (E1 : Nat → va_E) (H1 : Heap) (locs1 : List Loc), E1 k = .inl (g 0, n, .inl (upd f i.toNatClampNeg x)) → (∀ j, j ≠ k → E1 j = E j) → va_P D vwCl (WD qa E1) H1 → va_S (gA qa H0.size) H0 H1 locs1 → W p l e R s m args below meth c H1 locs1 0 0 Q (F0 m (pc + 1) ls rest)) : W p l e R s m args below meth c H locs 0 0 Q (F0 m pc ls (.int x :: .int i :: .ref (qa k) :: rest)) := by
  obtain ⟨hx, hb, hml, hown, hts, hK, hJ, hN⟩ := X
  refine va_iast hx hb hK hP (gD hJ) hS k 0 (WD_at hk hE) rfl hin hdg (fun H1 locs1 hP1 hD1 hS1 => ?_)
  rw [WD_set hk] at hP1
  exact kk _ H1 locs1 (va_up_self _ _ _) (fun j hj => va_up_ne _ _ hj) hP1 hS1
theorem x_cast (X : Cx p s m args c cc nL own Ts D g qa) (hP : va_P D vwCl (WD qa E) H) (hS : va_S (gA qa H0.size) H0 H locs) {k n : Nat} {f : Nat → Int32} (hE : E k = .inl (g 2, n, .inl f)) (hk : k < 74) {i x : Int32} (hin : vp_in i n) (hdg : decode cc pc = .ok (.castore, 1))
    (kk : ∀ (E1 : Nat → va_E) (H1 : Heap) (locs1 : List Loc), E1 k = .inl (g 2, n, .inl (upd f i.toNatClampNeg (vp_nar .char x))) → (∀ j, j ≠ k → E1 j = E j) → va_P D vwCl (WD qa E1) H1 → va_S (gA qa H0.size) H0 H1 locs1 → W p l e R s m args below meth c H1 locs1 0 0 Q (F0 m (pc + 1) ls rest)) : W p l e R s m args below meth c H locs 0 0 Q (F0 m pc ls (.int x :: .int i :: .ref (qa k) :: rest)) := by
  obtain ⟨hx, hb, hml, hown, hts, hK, hJ, hN⟩ := X
  refine va_cast hx hb hK hP (gD hJ) hS k 2 (WD_at hk hE) rfl hin hdg (fun H1 locs1 hP1 hD1 hS1 => ?_)
  rw [WD_set hk] at hP1
  exact kk _ H1 locs1 (va_up_self _ _ _) (fun j hj => va_up_ne _ _ hj) hP1 hS1
theorem x_last (X : Cx p s m args c cc nL own Ts D g qa) (hP : va_P D vwCl (WD qa E) H) (hS : va_S (gA qa H0.size) H0 H locs) {k n : Nat} {f : Nat → Int64} (hE : E k = .inl (g 1, n, .inr (.inl f))) (hk : k < 74) {i : Int32} {x : Int64} (hin : vp_in i n) (hdg : decode cc pc = .ok (.lastore, 1))
    (kk : ∀ (E1 : Nat → va_E) (H1 : Heap) (locs1 : List Loc), E1 k = .inl (g 1, n, .inr (.inl (vp_updL f i.toNatClampNeg x))) → (∀ j, j ≠ k → E1 j = E j) → va_P D vwCl (WD qa E1) H1 → va_S (gA qa H0.size) H0 H1 locs1 → W p l e R s m args below meth c H1 locs1 0 0 Q (F0 m (pc + 1) ls rest)) : W p l e R s m args below meth c H locs 0 0 Q (F0 m pc ls (.long x :: .int i :: .ref (qa k) :: rest)) := by
  obtain ⟨hx, hb, hml, hown, hts, hK, hJ, hN⟩ := X
  refine va_last hx hb hK hP (gD hJ) hS k 1 (WD_at hk hE) rfl hin hdg (fun H1 locs1 hP1 hD1 hS1 => ?_)
  rw [WD_set hk] at hP1
  exact kk _ H1 locs1 (va_up_self _ _ _) (fun j hj => va_up_ne _ _ hj) hP1 hS1
/-- System.arraycopy of ints, of longs -/
theorem x_copyi (X : Cx p s m args c cc nL own Ts D g qa) (hP : va_P D vwCl (WD qa E) H) (hS : va_S (gA qa H0.size) H0 H locs) {k0 k1 n0 n1 : Nat} {f h : Nat → Int32} (hE0 : E k0 = .inl (g 0, n0, .inl f)) (hk0 : k0 < 74) (hE1 : E k1 = .inl (g 0, n1, .inl h)) (hk1 : k1 < 74) {index : Nat} (hlink : Cond.methodLink own index arraycopyName ∈ Ts) (hnat : Cond.native arraycopyName ∈ Ts) (hstat : Cond.static arraycopyName ∈ Ts) (hini : Cond.initialized "java/lang/System" ∈ Ts) (hls : ls.size = nL)
    {sp dp n : Int32} (h1 : ¬ sp < 0) (h2 : ¬ dp < 0) (h3 : ¬ n < 0) (h4 : sp.toNatClampNeg + n.toNatClampNeg ≤ n0) (h5 : dp.toNatClampNeg + n.toNatClampNeg ≤ n1) (hframes : 1 ≤ R.frames) (hlocals : (rest.map fun v => v.category).sum + (nativeFrameWords "java/lang/System" "arraycopy" 5 + 11) ≤ R.locals) (hdg : decode cc pc = .ok (.invokestatic index, 3))
    (kk : ∀ (E1 : Nat → va_E) (H1 : Heap) (locs1 : List Loc), E1 k1 = .inl (g 0, n1, .inl (va_cpy f h sp.toNatClampNeg dp.toNatClampNeg n.toNatClampNeg)) → (∀ j, j ≠ k1 → E1 j = E j) → va_P D vwCl (WD qa E1) H1 → va_S (gA qa H0.size) H0 H1 locs1 → W p l e R s m args below meth c H1 locs1 0 0 Q (F0 m (pc + 3) ls rest)) : W p l e R s m args below meth c H locs 0 0 Q (F0 m pc ls (.int n :: .int dp :: .ref (qa k1) :: .int sp :: .ref (qa k0) :: rest)) := by
  obtain ⟨hx, hb, hml, hown, hts, hK, hJ, hN⟩ := X
  refine va_copyi hx hb (hml.trans hls.symm) hown (hts _ hlink) (hts _ hnat) (hts _ hstat) (hts _ hini) hK hP (gD hJ) hS k0 k1 0 0 (ty := .int) (WD_at hk0 hE0) (WD_at hk1 hE1) rfl rfl rfl h1 h2 h3 h4 h5 (fun i _ => rfl) hframes hlocals hdg (fun H1 locs1 hP1 hD1 hS1 => ?_)
  rw [WD_set hk1] at hP1
  exact kk _ H1 locs1 (va_up_self _ _ _) (fun j hj => va_up_ne _ _ hj) hP1 hS1
theorem x_copyl (X : Cx p s m args c cc nL own Ts D g qa) (hP : va_P D vwCl (WD qa E) H) (hS : va_S (gA qa H0.size) H0 H locs) {k0 k1 n0 n1 : Nat} {f h : Nat → Int64} (hE0 : E k0 = .inl (g 1, n0, .inr (.inl f))) (hk0 : k0 < 74) (hE1 : E k1 = .inl (g 1, n1, .inr (.inl h))) (hk1 : k1 < 74) {index : Nat} (hlink : Cond.methodLink own index arraycopyName ∈ Ts) (hnat : Cond.native arraycopyName ∈ Ts) (hstat : Cond.static arraycopyName ∈ Ts) (hini : Cond.initialized "java/lang/System" ∈ Ts) (hls : ls.size = nL)
    {sp dp n : Int32} (h1 : ¬ sp < 0) (h2 : ¬ dp < 0) (h3 : ¬ n < 0) (h4 : sp.toNatClampNeg + n.toNatClampNeg ≤ n0) (h5 : dp.toNatClampNeg + n.toNatClampNeg ≤ n1) (hframes : 1 ≤ R.frames) (hlocals : (rest.map fun v => v.category).sum + (nativeFrameWords "java/lang/System" "arraycopy" 5 + 11) ≤ R.locals) (hdg : decode cc pc = .ok (.invokestatic index, 3))
    (kk : ∀ (E1 : Nat → va_E) (H1 : Heap) (locs1 : List Loc), E1 k1 = .inl (g 1, n1, .inr (.inl (va_cpy f h sp.toNatClampNeg dp.toNatClampNeg n.toNatClampNeg))) → (∀ j, j ≠ k1 → E1 j = E j) → va_P D vwCl (WD qa E1) H1 → va_S (gA qa H0.size) H0 H1 locs1 → W p l e R s m args below meth c H1 locs1 0 0 Q (F0 m (pc + 3) ls rest)) : W p l e R s m args below meth c H locs 0 0 Q (F0 m pc ls (.int n :: .int dp :: .ref (qa k1) :: .int sp :: .ref (qa k0) :: rest)) := by
  obtain ⟨hx, hb, hml, hown, hts, hK, hJ, hN⟩ := X
  refine va_copyl hx hb (hml.trans hls.symm) hown (hts _ hlink) (hts _ hnat) (hts _ hstat) (hts _ hini) hK hP (gD hJ) hS k0 k1 1 1 (ty := .long) (WD_at hk0 hE0) (WD_at hk1 hE1) rfl rfl rfl h1 h2 h3 h4 h5 (fun i _ => rfl) hframes hlocals hdg (fun H1 locs1 hP1 hD1 hS1 => ?_)
  rw [WD_set hk1] at hP1
  exact kk _ H1 locs1 (va_up_self _ _ _) (fun j hj => va_up_ne _ _ hj) hP1 hS1
theorem x_max (X : Cx p s m args c cc nL own Ts D g qa) {index : Nat} (hlink : Cond.methodLink own index Lib.Math.max.name ∈ Ts) (hstat : Cond.static Lib.Math.max.name ∈ Ts) (hini : Cond.initialized "java/lang/Math" ∈ Ts) (hcode : Cond.code Lib.Math.max.name Lib.Math.max.code 2 (some .int) ∈ Ts) (hls : ls.size = nL) (hframes : 1 ≤ R.frames) (hlocals : (rest.map fun v => v.category).sum + 13 ≤ R.locals) {x y : Int32} (hdg : decode cc pc = .ok (.invokestatic index, 3))
    (kk : W p l e R s m args below meth c H locs 0 0 Q (F0 m (pc + 3) ls (.int (if x < y then y else x) :: rest))) : W p l e R s m args below meth c H locs 0 0 Q (F0 m pc ls (.int y :: .int x :: rest)) := by
  obtain ⟨hx, hb, hml, hown, hts, hK, hJ, hN⟩ := X
  exact va_mmax hx hb (hml.trans hls.symm) hown (hts _ hlink) (hts _ hstat) (hts _ hini) (hts _ hcode) hframes hlocals (Nat.zero_le _) (Nat.zero_le _) hdg kk
theorem x_min (X : Cx p s m args c cc nL own Ts D g qa) {index : Nat} (hlink : Cond.methodLink own index Lib.Math.min.name ∈ Ts) (hstat : Cond.static Lib.Math.min.name ∈ Ts) (hini : Cond.initialized "java/lang/Math" ∈ Ts) (hcode : Cond.code Lib.Math.min.name Lib.Math.min.code 2 (some .int) ∈ Ts) (hls : ls.size = nL) (hframes : 1 ≤ R.frames) (hlocals : (rest.map fun v => v.category).sum + 13 ≤ R.locals) {x y : Int32} (hdg : decode cc pc = .ok (.invokestatic index, 3))
    (kk : W p l e R s m args below meth c H locs 0 0 Q (F0 m (pc + 3) ls (.int (if y < x then y else x) :: rest))) : W p l e R s m args below meth c H locs 0 0 Q (F0 m pc ls (.int y :: .int x :: rest)) := by
  obtain ⟨hx, hb, hml, hown, hts, hK, hJ, hN⟩ := X
  exact va_mmin hx hb (hml.trans hls.symm) hown (hts _ hlink) (hts _ hstat) (hts _ hini) (hts _ hcode) hframes hlocals (Nat.zero_le _) (Nat.zero_le _) hdg kk
/-- the ends -/
theorem x_iret (X : Cx p s m args c cc nL own Ts D g qa) (hlocks : meth.locks = false) {ty : FieldType} (hr : meth.sig.returnType = some ty) {v r : Int32} (hn : narrow ty (.int v) = .int v) {post : (Nat → va_E) → Prop} (hv : v = r) (hpost : post E) (hP : va_P D vwCl (WD qa E) H) (hS : va_S (gA qa s.heap.size) s.heap H locs) (hdg : decode cc pc = .ok (.ireturn, 1)) :
    W p l e R s m args below meth c H locs 0 0 (MQ below (QI D qa r post s.heap.size) args s 0 0 (gA qa s.heap.size)) (F0 m pc ls [.int v]) :=
  W.zret X.1 X.2.1 hr hn (fun t ht hW => ⟨⟨v, E, rfl, ⟨hv, hpost⟩, (show va_P D vwCl (WD qa E) t.heap by rw [ht]; exact hP)⟩, hS.F ht⟩) hS.2.2 hdg
theorem x_lret (X : Cx p s m args c cc nL own Ts D g qa) (hlocks : meth.locks = false) (hr : meth.sig.returnType = some .long) {v r : Int64} {post : (Nat → va_E) → Prop} (hv : v = r) (hpost : post E) (hP : va_P D vwCl (WD qa E) H) (hS : va_S (gA qa s.heap.size) s.heap H locs) (hdg : decode cc pc = .ok (.lreturn, 1)) :
    W p l e R s m args below meth c H locs 0 0 (MQ below (QL D qa r post s.heap.size) args s 0 0 (gA qa s.heap.size)) (F0 m pc ls [.long v]) :=
  W.lret X.1 X.2.1 hr (fun t ht hW => ⟨⟨v, E, rfl, ⟨hv, hpost⟩, (show va_P D vwCl (WD qa E) t.heap by rw [ht]; exact hP)⟩, hS.F ht⟩) hS.2.2 hdg
theorem x_vret (X : Cx p s m args c cc nL own Ts D g qa) (hlocks : meth.locks = false) (hr : meth.sig.returnType = none) {post : (Nat → va_E) → Prop} (hpost : post E) (hP : va_P D vwCl (WD qa E) H) (hS : va_S (gA qa s.heap.size) s.heap H locs) (hdg : decode cc pc = .ok (.return_, 1)) :
    W p l e R s m args below meth c H locs 0 0 (MQ below (QV D qa post s.heap.size) args s 0 0 (gA qa s.heap.size)) (F0 m pc ls []) :=
  W.vret X.1 X.2.1 hr (fun t ht hW => ⟨⟨E, rfl, hpost, (show va_P D vwCl (WD qa E) t.heap by rw [ht]; exact hP)⟩, hS.F ht⟩) hS.2.2 hdg
theorem gA_up {H1 : Heap} {locs1 : List Loc} (hS : va_S (gA qa H0.size) H0 H1 locs1) {q : Nat} (h : gA qa H1.size q) : gA qa H0.size q := h.elim Or.inl (fun h => Or.inr (Nat.le_trans hS.1 h))
theorem lv_top_as {x y : Int32} (h : y = x) (k : W p l e R s m args below meth c H locs 0 0 Q (F0 m pc ls (.int y :: rest))) : W p l e R s m args below meth c H locs 0 0 Q (F0 m pc ls (.int x :: rest)) := h ▸ k
theorem lv_top_asl {x y : Int64} (h : y = x) (k : W p l e R s m args below meth c H locs 0 0 Q (F0 m pc ls (.long y :: rest))) : W p l e R s m args below meth c H locs 0 0 Q (F0 m pc ls (.long x :: rest)) := h ▸ k
/-- calls -/
theorem x_callVi (X : Cx p s m args c cc nL own Ts D g qa) (hP : va_P D vwCl (WD qa E) H) (hS : va_S (gA qa H0.size) H0 H locs) {k ci : Nat} {fs : List Value} (hE : E k = .inr (ci, fs)) (hk : k < 74) {C : String} {T : u_T} {N : Nat} (hc : vwCl[ci]? = some (C, T, N)) {y : MethodName} {ws ws' : List Cond} {bytes : ByteArray} {maxL n index rn : Nat} {ret : Option FieldType} {As : List Value} {r : Int32} {post : (Nat → va_E) → Prop} (hM : MI l y ws rn D g qa E (.ref (qa k) :: As) r post) (hG : GoodIn Ts (wsV own index C y ws)) (hw : ws = Cond.code y bytes maxL ret :: ws')
    (hd : y.cls = C ∧ y.cls ≠ "java/lang/invoke/MethodHandle" ∧ y.cls ≠ "java/lang/invoke/VarHandle" ∧ (parseMethodDescriptor y.desc).map (fun d => d.parameters.length) = some n) (hR : rn + 1 ≤ R.frames ∧ 8 + (maxL + 11) + 100 * rn ≤ R.locals) (hn : As.length = n) (hls : ls.size = nL) {st : List Value} (hst : st = As.reverse ++ .ref (qa k) :: rest) (hrest : (rest.map fun v => v.category).sum ≤ 8) (hdg : decode cc pc = .ok (.invokevirtual index, 3))
    (kk : ∀ (E1 : Nat → va_E) (H1 : Heap) (locs1 : List Loc), post E1 → va_P D vwCl (WD qa E1) H1 → va_S (gA qa H0.size) H0 H1 locs1 → W p l e R s m args below meth c H1 locs1 0 0 Q (F0 m (pc + 3) ls (.int r :: rest))) : W p l e R s m args below meth c H locs 0 0 Q (F0 m pc ls st) := by
  obtain ⟨hx, hb, hml, hown, hts, hK, hJ, hN⟩ := X
  have hm := hM H.size
  refine va_calli (rest := rest) (va_runV (As := As) (rest := rest) ⟨hx, hb, hml, hown, hts⟩ hm (cwV n hts hG hw rfl rfl hd hR) ⟨gP_blind, va_recv hK hP hc (WD_at hk hE), fun U hU hW => ⟨rfl, by rw [hU], by rw [hU]; exact hP, va_K.moved hW.alike hK, hJ, va_Nw.warmM hW hN⟩⟩ rfl hn hls hst (lv_room hrest) hdg ⟨Nat.zero_le _, Nat.zero_le _⟩) hS (fun q _ h => gA_up hS h) (fun q h => gA_up hS h) (fun r' E1 t H1 locs1 ht hvm hw1 hB hz1 hk1 hS1 => ?_)
  obtain ⟨rfl, hp⟩ := hw1
  rw [ht] at hB
  exact kk E1 H1 locs1 hp hB hS1
theorem x_callVv (X : Cx p s m args c cc nL own Ts D g qa) (hP : va_P D vwCl (WD qa E) H) (hS : va_S (gA qa H0.size) H0 H locs) {k ci : Nat} {fs : List Value} (hE : E k = .inr (ci, fs)) (hk : k < 74) {C : String} {T : u_T} {N : Nat} (hc : vwCl[ci]? = some (C, T, N)) {y : MethodName} {ws ws' : List Cond} {bytes : ByteArray} {maxL n index rn : Nat} {ret : Option FieldType} {As : List Value} {post : (Nat → va_E) → Prop} (hM : MV l y ws rn D g qa E (.ref (qa k) :: As) post) (hG : GoodIn Ts (wsV own index C y ws)) (hw : ws = Cond.code y bytes maxL ret :: ws')
    (hd : y.cls = C ∧ y.cls ≠ "java/lang/invoke/MethodHandle" ∧ y.cls ≠ "java/lang/invoke/VarHandle" ∧ (parseMethodDescriptor y.desc).map (fun d => d.parameters.length) = some n) (hR : rn + 1 ≤ R.frames ∧ 8 + (maxL + 11) + 100 * rn ≤ R.locals) (hn : As.length = n) (hls : ls.size = nL) {st : List Value} (hst : st = As.reverse ++ .ref (qa k) :: rest) (hrest : (rest.map fun v => v.category).sum ≤ 8) (hdg : decode cc pc = .ok (.invokevirtual index, 3))
    (kk : ∀ (E1 : Nat → va_E) (H1 : Heap) (locs1 : List Loc), post E1 → va_P D vwCl (WD qa E1) H1 → va_S (gA qa H0.size) H0 H1 locs1 → W p l e R s m args below meth c H1 locs1 0 0 Q (F0 m (pc + 3) ls rest)) : W p l e R s m args below meth c H locs 0 0 Q (F0 m pc ls st) := by
  obtain ⟨hx, hb, hml, hown, hts, hK, hJ, hN⟩ := X
  have hm := hM H.size
  refine va_callv (rest := rest) (va_runV (As := As) (rest := rest) ⟨hx, hb, hml, hown, hts⟩ hm (cwV n hts hG hw rfl rfl hd hR) ⟨gP_blind, va_recv hK hP hc (WD_at hk hE), fun U hU hW => ⟨rfl, by rw [hU], by rw [hU]; exact hP, va_K.moved hW.alike hK, hJ, va_Nw.warmM hW hN⟩⟩ rfl hn hls hst (lv_room hrest) hdg ⟨Nat.zero_le _, Nat.zero_le _⟩) hS (fun q _ h => gA_up hS h) (fun q h => gA_up hS h) (fun E1 t H1 locs1 ht hvm hw1 hB hz1 hk1 hS1 => ?_)
  rw [ht] at hB
  exact kk E1 H1 locs1 hw1 hB hS1
theorem x_callSi (X : Cx p s m args c cc nL own Ts D g qa) (hP : va_P D vwCl (WD qa E) H) (hS : va_S (gA qa H0.size) H0 H locs) {y : MethodName} {ws ws' : List Cond} {bytes : ByteArray} {maxL n index rn : Nat} {ret : Option FieldType} {As : List Value} {r : Int32} {post : (Nat → va_E) → Prop} (hM : MI l y ws rn D g qa E As r post) (hG : GoodIn Ts ws) (hlink : Cond.methodLink own index y ∈ Ts) (hstat : Cond.static y ∈ Ts) (hini : Cond.initialized y.cls ∈ Ts) (hw : ws = Cond.code y bytes maxL ret :: ws')
    (hd : y.cls ≠ "java/lang/invoke/MethodHandle" ∧ y.cls ≠ "java/lang/invoke/VarHandle" ∧ (parseMethodDescriptor y.desc).map (fun d => d.parameters.length) = some n) (hR : rn + 1 ≤ R.frames ∧ 8 + (maxL + 11) + 100 * rn ≤ R.locals) (hn : As.length = n) (hls : ls.size = nL) {st : List Value} (hst : st = As.reverse ++ rest) (hrest : (rest.map fun v => v.category).sum ≤ 8) (hdg : decode cc pc = .ok (.invokestatic index, 3))
    (kk : ∀ (E1 : Nat → va_E) (H1 : Heap) (locs1 : List Loc), post E1 → va_P D vwCl (WD qa E1) H1 → va_S (gA qa H0.size) H0 H1 locs1 → W p l e R s m args below meth c H1 locs1 0 0 Q (F0 m (pc + 3) ls (.int r :: rest))) : W p l e R s m args below meth c H locs 0 0 Q (F0 m pc ls st) := by
  obtain ⟨hx, hb, hml, hown, hts, hK, hJ, hN⟩ := X
  have hm := hM H.size
  refine va_calli (rest := rest) (va_runS (As := As) (rest := rest) ⟨hx, hb, hml, hown, hts⟩ hm ⟨callB_of n hts hG hw rfl rfl (hts _ hini) (hts _ hlink) hd hR, hts _ hstat⟩ ⟨gP_blind, fun U hU hW => ⟨rfl, by rw [hU], by rw [hU]; exact hP, va_K.moved hW.alike hK, hJ, va_Nw.warmM hW hN⟩⟩ rfl hn hls hst (lv_room hrest) hdg ⟨Nat.zero_le _, Nat.zero_le _⟩) hS (fun q _ h => gA_up hS h) (fun q h => gA_up hS h) (fun r' E1 t H1 locs1 ht hvm hw1 hB hz1 hk1 hS1 => ?_)
  obtain ⟨rfl, hp⟩ := hw1
  rw [ht] at hB
  exact kk E1 H1 locs1 hp hB hS1
theorem x_callSl (X : Cx p s m args c cc nL own Ts D g qa) (hP : va_P D vwCl (WD qa E) H) (hS : va_S (gA qa H0.size) H0 H locs) {y : MethodName} {ws ws' : List Cond} {bytes : ByteArray} {maxL n index rn : Nat} {ret : Option FieldType} {As : List Value} {r : Int64} {post : (Nat → va_E) → Prop} (hM : ML l y ws rn D g qa E As r post) (hG : GoodIn Ts ws) (hlink : Cond.methodLink own index y ∈ Ts) (hstat : Cond.static y ∈ Ts) (hini : Cond.initialized y.cls ∈ Ts) (hw : ws = Cond.code y bytes maxL ret :: ws')
    (hd : y.cls ≠ "java/lang/invoke/MethodHandle" ∧ y.cls ≠ "java/lang/invoke/VarHandle" ∧ (parseMethodDescriptor y.desc).map (fun d => d.parameters.length) = some n) (hR : rn + 1 ≤ R.frames ∧ 8 + (maxL + 11) + 100 * rn ≤ R.locals) (hn : As.length = n) (hls : ls.size = nL) {st : List Value} (hst : st = As.reverse ++ rest) (hrest : (rest.map fun v => v.category).sum ≤ 8) (hdg : decode cc pc = .ok (.invokestatic index, 3))
    (kk : ∀ (E1 : Nat → va_E) (H1 : Heap) (locs1 : List Loc), post E1 → va_P D vwCl (WD qa E1) H1 → va_S (gA qa H0.size) H0 H1 locs1 → W p l e R s m args below meth c H1 locs1 0 0 Q (F0 m (pc + 3) ls (.long r :: rest))) : W p l e R s m args below meth c H locs 0 0 Q (F0 m pc ls st) := by
  obtain ⟨hx, hb, hml, hown, hts, hK, hJ, hN⟩ := X
  have hm := hM H.size
  refine va_calll (rest := rest) (va_runS (As := As) (rest := rest) ⟨hx, hb, hml, hown, hts⟩ hm ⟨callB_of n hts hG hw rfl rfl (hts _ hini) (hts _ hlink) hd hR, hts _ hstat⟩ ⟨gP_blind, fun U hU hW => ⟨rfl, by rw [hU], by rw [hU]; exact hP, va_K.moved hW.alike hK, hJ, va_Nw.warmM hW hN⟩⟩ rfl hn hls hst (lv_room hrest) hdg ⟨Nat.zero_le _, Nat.zero_le _⟩) hS (fun q _ h => gA_up hS h) (fun q h => gA_up hS h) (fun r' E1 t H1 locs1 ht hvm hw1 hB hz1 hk1 hS1 => ?_)
  obtain ⟨rfl, hp⟩ := hw1
  rw [ht] at hB
  exact kk E1 H1 locs1 hp hB hS1
theorem x_callSv (X : Cx p s m args c cc nL own Ts D g qa) (hP : va_P D vwCl (WD qa E) H) (hS : va_S (gA qa H0.size) H0 H locs) {y : MethodName} {ws ws' : List Cond} {bytes : ByteArray} {maxL n index rn : Nat} {ret : Option FieldType} {As : List Value} {post : (Nat → va_E) → Prop} (hM : MV l y ws rn D g qa E As post) (hG : GoodIn Ts ws) (hlink : Cond.methodLink own index y ∈ Ts) (hstat : Cond.static y ∈ Ts) (hini : Cond.initialized y.cls ∈ Ts) (hw : ws = Cond.code y bytes maxL ret :: ws')
    (hd : y.cls ≠ "java/lang/invoke/MethodHandle" ∧ y.cls ≠ "java/lang/invoke/VarHandle" ∧ (parseMethodDescriptor y.desc).map (fun d => d.parameters.length) = some n) (hR : rn + 1 ≤ R.frames ∧ 8 + (maxL + 11) + 100 * rn ≤ R.locals) (hn : As.length = n) (hls : ls.size = nL) {st : List Value} (hst : st = As.reverse ++ rest) (hrest : (rest.map fun v => v.category).sum ≤ 8) (hdg : decode cc pc = .ok (.invokestatic index, 3))
    (kk : ∀ (E1 : Nat → va_E) (H1 : Heap) (locs1 : List Loc), post E1 → va_P D vwCl (WD qa E1) H1 → va_S (gA qa H0.size) H0 H1 locs1 → W p l e R s m args below meth c H1 locs1 0 0 Q (F0 m (pc + 3) ls rest)) : W p l e R s m args below meth c H locs 0 0 Q (F0 m pc ls st) := by
  obtain ⟨hx, hb, hml, hown, hts, hK, hJ, hN⟩ := X
  have hm := hM H.size
  refine va_callv (rest := rest) (va_runS (As := As) (rest := rest) ⟨hx, hb, hml, hown, hts⟩ hm ⟨callB_of n hts hG hw rfl rfl (hts _ hini) (hts _ hlink) hd hR, hts _ hstat⟩ ⟨gP_blind, fun U hU hW => ⟨rfl, by rw [hU], by rw [hU]; exact hP, va_K.moved hW.alike hK, hJ, va_Nw.warmM hW hN⟩⟩ rfl hn hls hst (lv_room hrest) hdg ⟨Nat.zero_le _, Nat.zero_le _⟩) hS (fun q _ h => gA_up hS h) (fun q h => gA_up hS h) (fun E1 t H1 locs1 ht hvm hw1 hB hz1 hk1 hS1 => ?_)
  rw [ht] at hB
  exact kk E1 H1 locs1 hw1 hB hS1
/-- the one call of a nest mate: Muster's of strengthNext -/
theorem x_callNi (X : Cx p s m args c cc nL RX1 Ts D g qa) (hP : va_P D vwCl (WD qa E) H) (hS : va_S (gA qa H0.size) H0 H locs) {ws ws' : List Cond} {bytes : ByteArray} {maxL rn : Nat} {ret : Option FieldType} {As : List Value} {r : Int32} {post : (Nat → va_E) → Prop} (hM : MI l yX5_strengthNext ws rn D g qa E As r post) (hG : GoodIn Ts ws) (hstat : Cond.static yX5_strengthNext ∈ Ts) (hini : Cond.initialized yX5_strengthNext.cls ∈ Ts) (hw : ws = Cond.code yX5_strengthNext bytes maxL ret :: ws')
    (hd : yX5_strengthNext.cls ≠ "java/lang/invoke/MethodHandle" ∧ yX5_strengthNext.cls ≠ "java/lang/invoke/VarHandle" ∧ (parseMethodDescriptor yX5_strengthNext.desc).map (fun d => d.parameters.length) = some 3) (hR : rn + 1 ≤ R.frames ∧ 8 + (maxL + 11) + 100 * rn ≤ R.locals) (hn : As.length = 3) (hls : ls.size = nL) {st : List Value} (hst : st = As.reverse ++ rest) (hrest : (rest.map fun v => v.category).sum ≤ 8) (hdg : decode cc pc = .ok (.invokestatic 74, 3))
    (kk : ∀ (E1 : Nat → va_E) (H1 : Heap) (locs1 : List Loc), post E1 → va_P D vwCl (WD qa E1) H1 → va_S (gA qa H0.size) H0 H1 locs1 → W p l e R s m args below meth c H1 locs1 0 0 Q (F0 m (pc + 3) ls (.int r :: rest))) : W p l e R s m args below meth c H locs 0 0 Q (F0 m pc ls st) := by
  obtain ⟨hx, hb, hml, hown, hts, hK, hJ, hN⟩ := X
  have hm := hM H.size
  refine va_calli (rest := rest) (va_runSN (As := As) (rest := rest) ⟨hx, hb, hml, hown, hts⟩ hm ⟨va_cnB 3 hts hG hw rfl rfl hN (hts _ hini) hd hR, hts _ hstat, trivial⟩ ⟨gP_blind, fun U hU hW => ⟨rfl, by rw [hU], by rw [hU]; exact hP, va_K.moved hW.alike hK, hJ, va_Nw.warmM hW hN⟩⟩ rfl hn hls hst (lv_room hrest) hdg ⟨Nat.zero_le _, Nat.zero_le _⟩) hS (fun q _ h => gA_up hS h) (fun q h => gA_up hS h) (fun r' E1 t H1 locs1 ht hvm hw1 hB hz1 hk1 hS1 => ?_)
  obtain ⟨rfl, hp⟩ := hw1
  rw [ht] at hB
  exact kk E1 H1 locs1 hp hB hS1
theorem x_rdVi (X : Cx p s m args c cc nL own Ts D g qa) (hP : va_P D vwCl (WD qa E) H) (hS : va_S (gA qa H0.size) H0 H locs) {k ci : Nat} {fs : List Value} (hE : E k = .inr (ci, fs)) (hk : k < 74) {C : String} {T : u_T} {N : Nat} (hc : vwCl[ci]? = some (C, T, N)) {y : MethodName} {ws ws' : List Cond} {bytes : ByteArray} {maxL n index rn : Nat} {ret : Option FieldType} {As : List Value} {r : Int32} (hM : MI l y ws rn D g qa E (.ref (qa k) :: As) r (fun E1 => E1 = E)) (hG : GoodIn Ts (wsV own index C y ws)) (hw : ws = Cond.code y bytes maxL ret :: ws')
    (hd : y.cls = C ∧ y.cls ≠ "java/lang/invoke/MethodHandle" ∧ y.cls ≠ "java/lang/invoke/VarHandle" ∧ (parseMethodDescriptor y.desc).map (fun d => d.parameters.length) = some n) (hR : rn + 1 ≤ R.frames ∧ 8 + (maxL + 11) + 100 * rn ≤ R.locals) (hn : As.length = n) (hls : ls.size = nL) {st : List Value} (hst : st = As.reverse ++ .ref (qa k) :: rest) (hrest : (rest.map fun v => v.category).sum ≤ 8) (hdg : decode cc pc = .ok (.invokevirtual index, 3))
    (kk : ∀ (H1 : Heap) (locs1 : List Loc), va_P D vwCl (WD qa E) H1 → va_S (gA qa H0.size) H0 H1 locs1 → W p l e R s m args below meth c H1 locs1 0 0 Q (F0 m (pc + 3) ls (.int r :: rest))) : W p l e R s m args below meth c H locs 0 0 Q (F0 m pc ls st) := by
  refine x_callVi X hP hS hE hk hc hM hG hw hd hR hn hls hst hrest hdg (fun E1 H1 locs1 hp hP1 hS1 => ?_)
  subst hp
  exact kk H1 locs1 hP1 hS1
theorem x_rdVv (X : Cx p s m args c cc nL own Ts D g qa) (hP : va_P D vwCl (WD qa E) H) (hS : va_S (gA qa H0.size) H0 H locs) {k ci : Nat} {fs : List Value} (hE : E k = .inr (ci, fs)) (hk : k < 74) {C : String} {T : u_T} {N : Nat} (hc : vwCl[ci]? = some (C, T, N)) {y : MethodName} {ws ws' : List Cond} {bytes : ByteArray} {maxL n index rn : Nat} {ret : Option FieldType} {As : List Value} (hM : MV l y ws rn D g qa E (.ref (qa k) :: As) (fun E1 => E1 = E)) (hG : GoodIn Ts (wsV own index C y ws)) (hw : ws = Cond.code y bytes maxL ret :: ws')
    (hd : y.cls = C ∧ y.cls ≠ "java/lang/invoke/MethodHandle" ∧ y.cls ≠ "java/lang/invoke/VarHandle" ∧ (parseMethodDescriptor y.desc).map (fun d => d.parameters.length) = some n) (hR : rn + 1 ≤ R.frames ∧ 8 + (maxL + 11) + 100 * rn ≤ R.locals) (hn : As.length = n) (hls : ls.size = nL) {st : List Value} (hst : st = As.reverse ++ .ref (qa k) :: rest) (hrest : (rest.map fun v => v.category).sum ≤ 8) (hdg : decode cc pc = .ok (.invokevirtual index, 3))
    (kk : ∀ (H1 : Heap) (locs1 : List Loc), va_P D vwCl (WD qa E) H1 → va_S (gA qa H0.size) H0 H1 locs1 → W p l e R s m args below meth c H1 locs1 0 0 Q (F0 m (pc + 3) ls rest)) : W p l e R s m args below meth c H locs 0 0 Q (F0 m pc ls st) := by
  refine x_callVv X hP hS hE hk hc hM hG hw hd hR hn hls hst hrest hdg (fun E1 H1 locs1 hp hP1 hS1 => ?_)
  subst hp
  exact kk H1 locs1 hP1 hS1
theorem x_rdSi (X : Cx p s m args c cc nL own Ts D g qa) (hP : va_P D vwCl (WD qa E) H) (hS : va_S (gA qa H0.size) H0 H locs) {y : MethodName} {ws ws' : List Cond} {bytes : ByteArray} {maxL n index rn : Nat} {ret : Option FieldType} {As : List Value} {r : Int32} (hM : MI l y ws rn D g qa E As r (fun E1 => E1 = E)) (hG : GoodIn Ts ws) (hlink : Cond.methodLink own index y ∈ Ts) (hstat : Cond.static y ∈ Ts) (hini : Cond.initialized y.cls ∈ Ts) (hw : ws = Cond.code y bytes maxL ret :: ws')
    (hd : y.cls ≠ "java/lang/invoke/MethodHandle" ∧ y.cls ≠ "java/lang/invoke/VarHandle" ∧ (parseMethodDescriptor y.desc).map (fun d => d.parameters.length) = some n) (hR : rn + 1 ≤ R.frames ∧ 8 + (maxL + 11) + 100 * rn ≤ R.locals) (hn : As.length = n) (hls : ls.size = nL) {st : List Value} (hst : st = As.reverse ++ rest) (hrest : (rest.map fun v => v.category).sum ≤ 8) (hdg : decode cc pc = .ok (.invokestatic index, 3))
    (kk : ∀ (H1 : Heap) (locs1 : List Loc), va_P D vwCl (WD qa E) H1 → va_S (gA qa H0.size) H0 H1 locs1 → W p l e R s m args below meth c H1 locs1 0 0 Q (F0 m (pc + 3) ls (.int r :: rest))) : W p l e R s m args below meth c H locs 0 0 Q (F0 m pc ls st) := by
  refine x_callSi X hP hS hM hG hlink hstat hini hw hd hR hn hls hst hrest hdg (fun E1 H1 locs1 hp hP1 hS1 => ?_)
  subst hp
  exact kk H1 locs1 hP1 hS1
theorem x_rdSl (X : Cx p s m args c cc nL own Ts D g qa) (hP : va_P D vwCl (WD qa E) H) (hS : va_S (gA qa H0.size) H0 H locs) {y : MethodName} {ws ws' : List Cond} {bytes : ByteArray} {maxL n index rn : Nat} {ret : Option FieldType} {As : List Value} {r : Int64} (hM : ML l y ws rn D g qa E As r (fun E1 => E1 = E)) (hG : GoodIn Ts ws) (hlink : Cond.methodLink own index y ∈ Ts) (hstat : Cond.static y ∈ Ts) (hini : Cond.initialized y.cls ∈ Ts) (hw : ws = Cond.code y bytes maxL ret :: ws')
    (hd : y.cls ≠ "java/lang/invoke/MethodHandle" ∧ y.cls ≠ "java/lang/invoke/VarHandle" ∧ (parseMethodDescriptor y.desc).map (fun d => d.parameters.length) = some n) (hR : rn + 1 ≤ R.frames ∧ 8 + (maxL + 11) + 100 * rn ≤ R.locals) (hn : As.length = n) (hls : ls.size = nL) {st : List Value} (hst : st = As.reverse ++ rest) (hrest : (rest.map fun v => v.category).sum ≤ 8) (hdg : decode cc pc = .ok (.invokestatic index, 3))
    (kk : ∀ (H1 : Heap) (locs1 : List Loc), va_P D vwCl (WD qa E) H1 → va_S (gA qa H0.size) H0 H1 locs1 → W p l e R s m args below meth c H1 locs1 0 0 Q (F0 m (pc + 3) ls (.long r :: rest))) : W p l e R s m args below meth c H locs 0 0 Q (F0 m pc ls st) := by
  refine x_callSl X hP hS hM hG hlink hstat hini hw hd hR hn hls hst hrest hdg (fun E1 H1 locs1 hp hP1 hS1 => ?_)
  subst hp
  exact kk H1 locs1 hP1 hS1
theorem x_rdSv (X : Cx p s m args c cc nL own Ts D g qa) (hP : va_P D vwCl (WD qa E) H) (hS : va_S (gA qa H0.size) H0 H locs) {y : MethodName} {ws ws' : List Cond} {bytes : ByteArray} {maxL n index rn : Nat} {ret : Option FieldType} {As : List Value} (hM : MV l y ws rn D g qa E As (fun E1 => E1 = E)) (hG : GoodIn Ts ws) (hlink : Cond.methodLink own index y ∈ Ts) (hstat : Cond.static y ∈ Ts) (hini : Cond.initialized y.cls ∈ Ts) (hw : ws = Cond.code y bytes maxL ret :: ws')
    (hd : y.cls ≠ "java/lang/invoke/MethodHandle" ∧ y.cls ≠ "java/lang/invoke/VarHandle" ∧ (parseMethodDescriptor y.desc).map (fun d => d.parameters.length) = some n) (hR : rn + 1 ≤ R.frames ∧ 8 + (maxL + 11) + 100 * rn ≤ R.locals) (hn : As.length = n) (hls : ls.size = nL) {st : List Value} (hst : st = As.reverse ++ rest) (hrest : (rest.map fun v => v.category).sum ≤ 8) (hdg : decode cc pc = .ok (.invokestatic index, 3))
    (kk : ∀ (H1 : Heap) (locs1 : List Loc), va_P D vwCl (WD qa E) H1 → va_S (gA qa H0.size) H0 H1 locs1 → W p l e R s m args below meth c H1 locs1 0 0 Q (F0 m (pc + 3) ls rest)) : W p l e R s m args below meth c H locs 0 0 Q (F0 m pc ls st) := by
  refine x_callSv X hP hS hM hG hlink hstat hini hw hd hR hn hls hst hrest hdg (fun E1 H1 locs1 hp hP1 hS1 => ?_)
  subst hp
  exact kk H1 locs1 hP1 hS1
theorem x_rdNi (X : Cx p s m args c cc nL RX1 Ts D g qa) (hP : va_P D vwCl (WD qa E) H) (hS : va_S (gA qa H0.size) H0 H locs) {ws ws' : List Cond} {bytes : ByteArray} {maxL rn : Nat} {ret : Option FieldType} {As : List Value} {r : Int32} (hM : MI l yX5_strengthNext ws rn D g qa E As r (fun E1 => E1 = E)) (hG : GoodIn Ts ws) (hstat : Cond.static yX5_strengthNext ∈ Ts) (hini : Cond.initialized yX5_strengthNext.cls ∈ Ts) (hw : ws = Cond.code yX5_strengthNext bytes maxL ret :: ws')
    (hd : yX5_strengthNext.cls ≠ "java/lang/invoke/MethodHandle" ∧ yX5_strengthNext.cls ≠ "java/lang/invoke/VarHandle" ∧ (parseMethodDescriptor yX5_strengthNext.desc).map (fun d => d.parameters.length) = some 3) (hR : rn + 1 ≤ R.frames ∧ 8 + (maxL + 11) + 100 * rn ≤ R.locals) (hn : As.length = 3) (hls : ls.size = nL) {st : List Value} (hst : st = As.reverse ++ rest) (hrest : (rest.map fun v => v.category).sum ≤ 8) (hdg : decode cc pc = .ok (.invokestatic 74, 3))
    (kk : ∀ (H1 : Heap) (locs1 : List Loc), va_P D vwCl (WD qa E) H1 → va_S (gA qa H0.size) H0 H1 locs1 → W p l e R s m args below meth c H1 locs1 0 0 Q (F0 m (pc + 3) ls (.int r :: rest))) : W p l e R s m args below meth c H locs 0 0 Q (F0 m pc ls st) := by
  refine x_callNi X hP hS hM hG hstat hini hw hd hR hn hls hst hrest hdg (fun E1 H1 locs1 hp hP1 hS1 => ?_)
  subst hp
  exact kk H1 locs1 hP1 hS1
end XR
/-- from a walk of the body to the contract: Q is any end, hret says that a return comes there -/
theorem MI.mk {l : Launch} {y : MethodName} {ws ws' : List Cond} {n : Nat} {D : va_G} {g : Nat → ClassId} {qa : Nat → Nat} {E0 : Nat → va_E} {av : List Value} {r : Int32} {post : (Nat → va_E) → Prop} {cc : ByteArray} {nL : Nat} {ty : FieldType} (hy : plainName y.cls = true) (hw : ws = Cond.code y cc nL (some ty) :: ws') (hen : (lg_sl av).length ≤ nL)
    (body : ∀ (p : Program) (e : Env) (s : State) (m : MethodId) (args : Array Value) (below : List Frame) (meth : Method) (c : Code) (ls : Array Slot) (Q : State → Prop), Cx p s m args c cc nL y.cls ws D g qa → (∀ (pc : Nat) (ls : Array Slot) (v : Int32) (E : Nat → va_E) (H : Heap) (locs : List Loc), decode cc pc = .ok (.ireturn, 1) → narrow ty (.int v) = .int v → v = r → post E → va_P D vwCl (WD qa E) H → va_S (gA qa s.heap.size) s.heap H locs → W p l e (rmf n) s m args below meth c H locs 0 0 Q (F0 m pc ls [.int v])) → va_P D vwCl (WD qa E0) s.heap → va_S (gA qa s.heap.size) s.heap s.heap [] → lv_has ls nL (lv_args 0 av) → W p l e (rmf n) s m args below meth c s.heap [] 0 0 Q (F0 m 0 ls [])) : MI l y ws n D g qa E0 av r post := by
  intro sz
  refine Met.ofW (cc := cc) (maxL := nL) (ret := (some ty)) hy hw ?_
  intro p e s m args below meth c s₁ B hml hv
  obtain ⟨rfl, hsz, hP, hK, hJ, hN⟩ := hv
  subst hsz
  have hl := lv_entry av (n := nL) hen
  rw [lg_entry_eq]
  exact body p e s m _ below meth c _ _ ⟨B.exec, B.bytes, hml, findClass_of_methodNamed B.named, atoms_spec (ws := ws) B.pre, hK, hJ, hN⟩ (fun pc ls v E H locs hdg hn hv hp hP hS => x_iret ⟨B.exec, B.bytes, hml, findClass_of_methodNamed B.named, atoms_spec (ws := ws) B.pre, hK, hJ, hN⟩ B.notSynchronized B.returns hn hv hp hP hS hdg) hP va_S.rf hl
theorem ML.mk {l : Launch} {y : MethodName} {ws ws' : List Cond} {n : Nat} {D : va_G} {g : Nat → ClassId} {qa : Nat → Nat} {E0 : Nat → va_E} {av : List Value} {r : Int64} {post : (Nat → va_E) → Prop} {cc : ByteArray} {nL : Nat} (hy : plainName y.cls = true) (hw : ws = Cond.code y cc nL (some .long) :: ws') (hen : (lg_sl av).length ≤ nL)
    (body : ∀ (p : Program) (e : Env) (s : State) (m : MethodId) (args : Array Value) (below : List Frame) (meth : Method) (c : Code) (ls : Array Slot) (Q : State → Prop), Cx p s m args c cc nL y.cls ws D g qa → (∀ (pc : Nat) (ls : Array Slot) (v : Int64) (E : Nat → va_E) (H : Heap) (locs : List Loc), decode cc pc = .ok (.lreturn, 1) → v = r → post E → va_P D vwCl (WD qa E) H → va_S (gA qa s.heap.size) s.heap H locs → W p l e (rmf n) s m args below meth c H locs 0 0 Q (F0 m pc ls [.long v])) → va_P D vwCl (WD qa E0) s.heap → va_S (gA qa s.heap.size) s.heap s.heap [] → lv_has ls nL (lv_args 0 av) → W p l e (rmf n) s m args below meth c s.heap [] 0 0 Q (F0 m 0 ls [])) : ML l y ws n D g qa E0 av r post := by
  intro sz
  refine Met.ofW (cc := cc) (maxL := nL) (ret := (some .long)) hy hw ?_
  intro p e s m args below meth c s₁ B hml hv
  obtain ⟨rfl, hsz, hP, hK, hJ, hN⟩ := hv
  subst hsz
  have hl := lv_entry av (n := nL) hen
  rw [lg_entry_eq]
  exact body p e s m _ below meth c _ _ ⟨B.exec, B.bytes, hml, findClass_of_methodNamed B.named, atoms_spec (ws := ws) B.pre, hK, hJ, hN⟩ (fun pc ls v E H locs hdg hv hp hP hS => x_lret ⟨B.exec, B.bytes, hml, findClass_of_methodNamed B.named, atoms_spec (ws := ws) B.pre, hK, hJ, hN⟩ B.notSynchronized B.returns hv hp hP hS hdg) hP va_S.rf hl
theorem MV.mk {l : Launch} {y : MethodName} {ws ws' : List Cond} {n : Nat} {D : va_G} {g : Nat → ClassId} {qa : Nat → Nat} {E0 : Nat → va_E} {av : List Value} {post : (Nat → va_E) → Prop} {cc : ByteArray} {nL : Nat} (hy : plainName y.cls = true) (hw : ws = Cond.code y cc nL none :: ws') (hen : (lg_sl av).length ≤ nL)
    (body : ∀ (p : Program) (e : Env) (s : State) (m : MethodId) (args : Array Value) (below : List Frame) (meth : Method) (c : Code) (ls : Array Slot) (Q : State → Prop), Cx p s m args c cc nL y.cls ws D g qa → (∀ (pc : Nat) (ls : Array Slot) (E : Nat → va_E) (H : Heap) (locs : List Loc), decode cc pc = .ok (.return_, 1) → post E → va_P D vwCl (WD qa E) H → va_S (gA qa s.heap.size) s.heap H locs → W p l e (rmf n) s m args below meth c H locs 0 0 Q (F0 m pc ls [])) → va_P D vwCl (WD qa E0) s.heap → va_S (gA qa s.heap.size) s.heap s.heap [] → lv_has ls nL (lv_args 0 av) → W p l e (rmf n) s m args below meth c s.heap [] 0 0 Q (F0 m 0 ls [])) : MV l y ws n D g qa E0 av post := by
  intro sz
  refine Met.ofW (cc := cc) (maxL := nL) (ret := none) hy hw ?_
  intro p e s m args below meth c s₁ B hml hv
  obtain ⟨rfl, hsz, hP, hK, hJ, hN⟩ := hv
  subst hsz
  have hl := lv_entry av (n := nL) hen
  rw [lg_entry_eq]
  exact body p e s m _ below meth c _ _ ⟨B.exec, B.bytes, hml, findClass_of_methodNamed B.named, atoms_spec (ws := ws) B.pre, hK, hJ, hN⟩ (fun pc ls E H locs hdg hp hP hS => x_vret ⟨B.exec, B.bytes, hml, findClass_of_methodNamed B.named, atoms_spec (ws := ws) B.pre, hK, hJ, hN⟩ B.notSynchronized B.returns hp hP hS hdg) hP va_S.rf hl
/-! THE PURE SIDE: a loop with fuel, a named value, and what a partial answer says of its parts -/
def lp {α ρ : Type} (body : (α → Option ρ) → α → Option ρ) : Nat → α → Option ρ
  | 0, _ => none
  | n + 1, a => body (lp body n) a
def nm {α β : Type} (a : α) (f : α → β) : β := f a
theorem nm_of {α β : Type} {a : α} {f : α → Option β} {R : β} (h : nm a f = some R) : ∃ x, x = a ∧ f x = some R := ⟨a, rfl, h⟩
theorem ifp {α : Type} {c : Prop} [Decidable c] {A B : Option α} {R : α} (h : (if c then A else B) = some R) (hc : c) : A = some R := by rw [if_pos hc] at h; exact h
theorem ifn {α : Type} {c : Prop} [Decidable c] {A B : Option α} {R : α} (h : (if c then A else B) = some R) (hc : ¬ c) : B = some R := by rw [if_neg hc] at h; exact h
theorem gd_of {α : Type} {c : Prop} [Decidable c] {A : Option α} {R : α} (h : (if c then A else none) = some R) : c ∧ A = some R := by
  by_cases hc : c
  · rw [if_pos hc] at h; exact ⟨hc, h⟩
  · rw [if_neg hc] at h; cases h
theorem bd_of {α β : Type} {x : Option α} {f : α → Option β} {R : β} (h : x.bind f = some R) : ∃ a, x = some a ∧ f a = some R := Option.bind_eq_some_iff.mp h
def FU : Nat := 100000
def gin {α : Type} (i : Int32) (n : Nat) (A : Option α) : Option α := if i < 0 ∨ n ≤ i.toNatClampNeg then none else A
theorem gin_of {α : Type} {i : Int32} {n : Nat} {A : Option α} {R : α} (h : gin i n A = some R) : vp_in i n ∧ A = some R := by
  unfold gin at h
  by_cases hc : i < 0 ∨ n ≤ i.toNatClampNeg
  · rw [if_pos hc] at h; cases h
  · rw [if_neg hc] at h; exact ⟨hc, h⟩
theorem in_lt {i : Int32} {n : Nat} (h : vp_in i n) : i.toNatClampNeg < n := Nat.not_le.mp fun q => h (Or.inr q)
def gnz {α : Type} (y : Int32) (A : Option α) : Option α := if y = 0 then none else A
theorem gnz_of {α : Type} {y : Int32} {A : Option α} {R : α} (h : gnz y A = some R) : ¬ y = 0 ∧ A = some R := by
  unfold gnz at h
  by_cases hc : y = 0
  · rw [if_pos hc] at h; cases h
  · rw [if_neg hc] at h; exact ⟨hc, h⟩
def gbz {α : Type} (v : Int32) (A : Option α) : Option α := if v = 0 ∨ v = 1 then A else none
theorem gbz_of {α : Type} {v : Int32} {A : Option α} {R : α} (h : gbz v A = some R) : (v = 0 ∨ v = 1) ∧ A = some R := gd_of h
theorem gbz_n {v : Int32} (h : v = 0 ∨ v = 1) : narrow .boolean (.int v) = .int v := by
  rcases h with rfl | rfl <;> rfl
def gch {α : Type} (v : Int32) (A : Option α) : Option α := if ¬ v < 0 ∧ v < 65536 then A else none
theorem gch_of {α : Type} {v : Int32} {A : Option α} {R : α} (h : gch v A = some R) : (¬ v < 0 ∧ v < 65536) ∧ A = some R := gd_of h
theorem gch_n {v : Int32} (h : ¬ v < 0 ∧ v < 65536) : narrow .char (.int v) = .int v := by
  obtain ⟨j, hj, rfl⟩ := nI_of h.1
  have h2 : j < 65536 := (nI_ltI hj (by decide)).mp h.2
  exact (pk_charN h2).1
def gcp {α : Type} (sp dp n : Int32) (n0 n1 : Nat) (A : Option α) : Option α := if ¬ sp < 0 ∧ ¬ dp < 0 ∧ ¬ n < 0 ∧ sp.toNatClampNeg + n.toNatClampNeg ≤ n0 ∧ dp.toNatClampNeg + n.toNatClampNeg ≤ n1 then A else none
theorem gcp_of {α : Type} {sp dp n : Int32} {n0 n1 : Nat} {A : Option α} {R : α} (h : gcp sp dp n n0 n1 A = some R) : (¬ sp < 0 ∧ ¬ dp < 0 ∧ ¬ n < 0 ∧ sp.toNatClampNeg + n.toNatClampNeg ≤ n0 ∧ dp.toNatClampNeg + n.toNatClampNeg ≤ n1) ∧ A = some R := gd_of h
theorem i_ne {x : Int32} (v : Int32) (n : Int) (hn : v.toInt = n) (h : ¬ x = v) : x.toInt ≠ n := fun e => h (Int32.toInt_inj.mp (e.trans hn.symm))
