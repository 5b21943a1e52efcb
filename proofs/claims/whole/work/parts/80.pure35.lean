/-! PURE, 35: even, few -/
section P35
variable {nm nd dy odd : Nat} {st ki we wo : Nat → Nat} {wr : Nat → Option Nat} {ld : Nat → Nat → Int32} {st' ki' we' wo' wr' : Nat → Int32}
def CE (nm nd odd : Nat) (ki we wo : Nat → Nat) (wr : Nat → Option Nat) (d c : Nat) : Nat := mx (fun m => lS_ nd ki we wo odd m (sw (wn nd wr) (dg (wn nd wr) nm c) m d)) nm
def CF (nm nd odd : Nat) (st ki we wo : Nat → Nat) (wr : Nat → Option Nat) (d c : Nat) : Nat := cn (chg nd wr nm c) d + 16 * cn (fun m => decide (st m < lS_ nd ki we wo odd m (sw (wn nd wr) (dg (wn nd wr) nm c) m d))) nm
theorem CE_6 (h6 : nd ≤ 6) : CE nm nd odd ki we wo wr 6 = FE nm nd odd ki we wo wr := by
  funext c
  exact mx_ext nm (fun m _ => (lSs_hw h6).symm)
theorem CF_6 (h6 : nd ≤ 6) : CF nm nd odd st ki we wo wr 6 = FF nm nd odd st ki we wo wr := by
  funext c
  unfold CF FF
  congr 2
  exact cn_ext nm (fun m _ => by rw [lSs_hw h6])
theorem CE_ext : ∀ d c c', d ≤ 6 → (∀ j, j < d → dg (wn nd wr) nm c j = dg (wn nd wr) nm c' j) → CE nm nd odd ki we wo wr d c = CE nm nd odd ki we wo wr d c' := fun d c c' _ h => mx_ext nm (fun m _ => by rw [sw_ext h])
theorem CF_ext : ∀ d c c', d ≤ 6 → (∀ j, j < d → dg (wn nd wr) nm c j = dg (wn nd wr) nm c' j) → CF nm nd odd st ki we wo wr d c = CF nm nd odd st ki we wo wr d c' := fun d c c' _ h => by
  unfold CF
  rw [cn_ext (Q := chg nd wr nm c') d (fun j hj => by unfold chg; rw [h j hj]), cn_ext (Q := fun m => decide (st m < lS_ nd ki we wo odd m (sw (wn nd wr) (dg (wn nd wr) nm c') m d))) nm (fun m _ => by rw [sw_ext h])]
theorem CE_f : ∀ d c, wn nd wr d = false → CE nm nd odd ki we wo wr (d + 1) c = CE nm nd odd ki we wo wr d c := fun d c w => mx_ext nm (fun m _ => by rw [sw_f w])
theorem CF_f : ∀ d c, wn nd wr d = false → CF nm nd odd st ki we wo wr (d + 1) c = CF nm nd odd st ki we wo wr d c := fun d c w => by
  unfold CF
  rw [cn_f (chg_f w), cn_ext (Q := fun m => decide (st m < lS_ nd ki we wo odd m (sw (wn nd wr) (dg (wn nd wr) nm c) m d))) nm (fun m _ => by rw [sw_f w])]
theorem CE_t {d c : Nat} (hm : dg (wn nd wr) nm c d < nm) : CE nm nd odd ki we wo wr (d + 1) c = if CE nm nd odd ki we wo wr d c < lS_ nd ki we wo odd (dg (wn nd wr) nm c d) (sw (wn nd wr) (dg (wn nd wr) nm c) (dg (wn nd wr) nm c d) (d + 1)) then lS_ nd ki we wo odd (dg (wn nd wr) nm c d) (sw (wn nd wr) (dg (wn nd wr) nm c) (dg (wn nd wr) nm c d) (d + 1)) else CE nm nd odd ki we wo wr d c :=
  mx_up (f := fun m => lS_ nd ki we wo odd m (sw (wn nd wr) (dg (wn nd wr) nm c) m d)) (g := fun m => lS_ nd ki we wo odd m (sw (wn nd wr) (dg (wn nd wr) nm c) m (d + 1))) (fun k hk => by
    show lS_ nd ki we wo odd k (sw _ _ k (d + 1)) = lS_ nd ki we wo odd k (sw _ _ k d)
    rw [sw_n (fun q => hk q.symm)]) lSs_mono nm hm
theorem CF_t {d c : Nat} (hm : dg (wn nd wr) nm c d < nm) : CF nm nd odd st ki we wo wr (d + 1) c = CF nm nd odd st ki we wo wr d c + ((if chg nd wr nm c d then 1 else 0) + 16 * (if lS_ nd ki we wo odd (dg (wn nd wr) nm c d) (sw (wn nd wr) (dg (wn nd wr) nm c) (dg (wn nd wr) nm c d) d) ≤ st (dg (wn nd wr) nm c d) ∧ ¬ lS_ nd ki we wo odd (dg (wn nd wr) nm c d) (sw (wn nd wr) (dg (wn nd wr) nm c) (dg (wn nd wr) nm c d) (d + 1)) ≤ st (dg (wn nd wr) nm c d) then 1 else 0)) := by
  have key := cn_up (P := fun m => decide (st m < lS_ nd ki we wo odd m (sw (wn nd wr) (dg (wn nd wr) nm c) m d))) (Q := fun m => decide (st m < lS_ nd ki we wo odd m (sw (wn nd wr) (dg (wn nd wr) nm c) m (d + 1)))) (m := dg (wn nd wr) nm c d) (fun k hk => by
    show decide (st k < lS_ nd ki we wo odd k (sw _ _ k (d + 1))) = decide (st k < lS_ nd ki we wo odd k (sw _ _ k d))
    rw [sw_n (fun q => hk q.symm)]) (fun q => by
    have q := of_decide_eq_true q
    exact decide_eq_true (Nat.lt_of_lt_of_le q lSs_mono)) nm hm
  unfold CF
  rw [key]
  show cn (chg nd wr nm c) d + (if chg nd wr nm c d then 1 else 0) + 16 * (_ + _) = _
  have e : (if (decide (st (dg (wn nd wr) nm c d) < lS_ nd ki we wo odd (dg (wn nd wr) nm c d) (sw (wn nd wr) (dg (wn nd wr) nm c) (dg (wn nd wr) nm c d) d)) = false ∧ decide (st (dg (wn nd wr) nm c d) < lS_ nd ki we wo odd (dg (wn nd wr) nm c d) (sw (wn nd wr) (dg (wn nd wr) nm c) (dg (wn nd wr) nm c d) (d + 1))) = true) then 1 else 0) = (if lS_ nd ki we wo odd (dg (wn nd wr) nm c d) (sw (wn nd wr) (dg (wn nd wr) nm c) (dg (wn nd wr) nm c d) d) ≤ st (dg (wn nd wr) nm c d) ∧ ¬ lS_ nd ki we wo odd (dg (wn nd wr) nm c d) (sw (wn nd wr) (dg (wn nd wr) nm c) (dg (wn nd wr) nm c d) (d + 1)) ≤ st (dg (wn nd wr) nm c d) then 1 else 0) := by
    congr 1
    rw [decide_eq_false_iff_not, decide_eq_true_eq, Nat.not_lt, Nat.not_le]
  rw [e]
  omega
theorem CE_le (hb : ∀ d, d < 6 → wn nd wr d = true → 0 < nm) : ∀ d c, d < 6 → CE nm nd odd ki we wo wr d c ≤ CE nm nd odd ki we wo wr (d + 1) c := fun d c hd => by
  cases w : wn nd wr d with
  | false => rw [CE_f d c w]; exact Nat.le_refl _
  | true =>
    rw [CE_t (dg_lt (hb d hd w))]
    split <;> omega
theorem CF_le (hb : ∀ d, d < 6 → wn nd wr d = true → 0 < nm) : ∀ d c, d < 6 → CF nm nd odd st ki we wo wr d c ≤ CF nm nd odd st ki we wo wr (d + 1) c := fun d c hd => by
  cases w : wn nd wr d with
  | false => rw [CF_f d c w]; exact Nat.le_refl _
  | true =>
    rw [CF_t (dg_lt (hb d hd w))]
    omega
theorem CE_B (h : okD nm nd ki we wo wr) (ho : odd ≤ 1) : ∀ d c, CE nm nd odd ki we wo wr d c < 1000000 := fun d c => by
  have := mx_le (f := fun m => lS_ nd ki we wo odd m (sw (wn nd wr) (dg (wn nd wr) nm c) m d)) (B := 276) nm (fun m _ => lSs_le h ho)
  unfold CE
  omega
theorem cn_le1 (P : Nat → Bool) : ∀ n, cn P n ≤ n := cn_le P
theorem CF_B (h : okD nm nd ki we wo wr) : ∀ d c, CF nm nd odd st ki we wo wr d c < 1000000 := fun d c => by
  have h1 := cn_le (fun m => decide (st m < lS_ nd ki we wo odd m (sw (wn nd wr) (dg (wn nd wr) nm c) m d))) nm
  have h2 : cn (chg nd wr nm c) d ≤ 6 := by
    by_cases e : d ≤ 6
    · exact Nat.le_trans (cn_mono _ 6 e) (cn_le _ 6)
    · rw [cn_stop (n := 6) d (by omega) (fun j hj _ => chg_f (wn_o (by have := h.2.1; omega)))]
      exact cn_le _ 6
  have h3 := h.1
  unfold CF
  omega
theorem s_bends {m S : Nat} (h : okD nm nd ki we wo wr) (ho : odd ≤ 1) (hL : LD nm nd ki we wo wr odd ld) (hst : rS nm st st') (hb : ∀ i, i < nm → st i < 100000) (hm : m < nm) (hS : S < 64) (hs : S &&& mk (wn nd wr) 6 = S) : fX0_bends (nI m) (nI S) ld st' = some (if lS_ nd ki we wo odd m S ≤ st m then 0 else 1) := by
  have h5 := h.1
  have hl := lSs_le (m := m) (S := S) h ho
  have := hb m hm
  unfold fX0_bends
  rw [gin_nI (by omega) (by decide), gin_nI hS (by decide), gin_nI (by omega) (by decide), n_cl (by omega), n_cl (by omega), hL m hm S hS hs, hst m hm]
  by_cases c : lS_ nd ki we wo odd m S ≤ st m
  · rw [if_pos ((n_le (by omega) (by omega)).mpr c), if_pos c]
  · rw [if_neg (fun q => c ((n_le (by omega) (by omega)).mp q)), if_neg c]
theorem CE_s (h : okD nm nd ki we wo wr) (ho : odd ≤ 1) : ∀ ld, LD nm nd ki we wo wr odd ld → ∀ d c so, d < 6 → wn nd wr d = true → (∀ k, k < nm → so k = nI (sw (wn nd wr) (dg (wn nd wr) nm c) k (d + 1))) → HC 0 (nI (CE nm nd odd ki we wo wr d c)) (nI (dg (wn nd wr) nm c d)) (nI (sw (wn nd wr) (dg (wn nd wr) nm c) (dg (wn nd wr) nm c d) d)) (nI d) ld so st' wr' = some (nI (CE nm nd odd ki we wo wr (d + 1) c)) := fun ld hL d c so hd w hso => by
  have h5 := h.1
  have hm : dg (wn nd wr) nm c d < nm := dg_lt (wn_b h d hd w)
  have hlt : sw (wn nd wr) (dg (wn nd wr) nm c) (dg (wn nd wr) nm c d) (d + 1) < 64 := sw_lt (by omega)
  have hB := CE_B h ho d c
  have hl := lSs_le (m := dg (wn nd wr) nm c d) (S := sw (wn nd wr) (dg (wn nd wr) nm c) (dg (wn nd wr) nm c d) (d + 1)) h ho
  unfold HC fX0_costOfEven
  rw [if_pos rfl, CE_t hm, gin_nI (by omega) (by decide), gin_nI (by omega) (by decide), n_cl (by omega), hso _ hm, gin_nI hlt (by decide), n_cl (by omega), hL _ hm _ hlt (sw_sub (by omega))]
  by_cases c1 : CE nm nd odd ki we wo wr d c < lS_ nd ki we wo odd (dg (wn nd wr) nm c d) (sw (wn nd wr) (dg (wn nd wr) nm c) (dg (wn nd wr) nm c d) (d + 1))
  · rw [if_pos ((n_lt (by omega) (by omega)).mpr c1), if_pos c1]
  · rw [if_neg (fun q => c1 ((n_lt (by omega) (by omega)).mp q)), if_neg c1]
theorem CF_s (h : okD nm nd ki we wo wr) (ho : odd ≤ 1) (hw : rW nd wr wr') (hst : rS nm st st') (hb : ∀ i, i < nm → st i < 100000) : ∀ ld, LD nm nd ki we wo wr odd ld → ∀ d c so, d < 6 → wn nd wr d = true → (∀ k, k < nm → so k = nI (sw (wn nd wr) (dg (wn nd wr) nm c) k (d + 1))) → HC 1 (nI (CF nm nd odd st ki we wo wr d c)) (nI (dg (wn nd wr) nm c d)) (nI (sw (wn nd wr) (dg (wn nd wr) nm c) (dg (wn nd wr) nm c d) d)) (nI d) ld so st' wr' = some (nI (CF nm nd odd st ki we wo wr (d + 1) c)) := fun ld hL d c so hd w hso => by
  have h5 := h.1
  have hm : dg (wn nd wr) nm c d < nm := dg_lt (wn_b h d hd w)
  obtain ⟨hdn, v, ev⟩ := wn_lt w
  have hlt : sw (wn nd wr) (dg (wn nd wr) nm c) (dg (wn nd wr) nm c d) (d + 1) < 64 := sw_lt (by omega)
  have hlt0 : sw (wn nd wr) (dg (wn nd wr) nm c) (dg (wn nd wr) nm c d) d < 64 := sw_lt (by omega)
  have b1 := s_bends h ho hL hst hb hm hlt0 (sw_sub (by omega))
  have b2 := s_bends h ho hL hst hb hm hlt (sw_sub (by omega))
  have hv := okW h d hdn v ev
  unfold HC fX0_costOfFew
  rw [if_neg n10, CF_t hm, gin_nI hd (by decide), n_cl (by omega), n_cl (by omega), hw d hdn, ev, b1, Option.bind_some, gin_nI (by omega) (by decide), hso _ hm, b2, Option.bind_some, chg_s hdn ev]
  generalize sw (wn nd wr) (dg (wn nd wr) nm c) (dg (wn nd wr) nm c d) (d + 1) = S1
  generalize sw (wn nd wr) (dg (wn nd wr) nm c) (dg (wn nd wr) nm c d) d = S0
  generalize CF nm nd odd st ki we wo wr d c = Z
  generalize dg (wn nd wr) nm c d = m at hm
  have c01 : (0 : Int32) + 16 = nI 16 := by decide
  have c11 : (1 : Int32) + 16 = nI 17 := by decide
  by_cases e : v = m
  · subst e
    rw [if_pos (show en (some v) = nI v from rfl), beq_self_eq_true]
    by_cases q1 : lS_ nd ki we wo odd v S0 ≤ st v
    · by_cases q2 : lS_ nd ki we wo odd v S1 ≤ st v
      · rw [if_pos q1, if_pos q2, if_pos rfl, if_pos rfl, if_neg (show ¬ (_ ∧ ¬ _) from fun z => z.2 q2), Int32.add_zero]
        rfl
      · rw [if_pos q1, if_neg q2, if_pos rfl, if_neg n10, if_pos (show (_ ∧ ¬ _) from ⟨q1, q2⟩), nm_def, c01, n_add]
        rfl
    · rw [if_neg q1, if_neg n10, if_neg (show ¬ (_ ∧ ¬ _) from fun z => q1 z.1), Int32.add_zero]
      rfl
  · rw [if_neg (show ¬ en (some v) = nI m from fun q => e ((n_eq (by omega) (by omega)).mp q)), beq_false_of_ne e]
    by_cases q1 : lS_ nd ki we wo odd m S0 ≤ st m
    · by_cases q2 : lS_ nd ki we wo odd m S1 ≤ st m
      · rw [if_pos q1, if_pos q2, Option.bind_some, if_pos n00, gin_nI (by omega) (by decide), Option.bind_some, if_pos n00, if_neg (show ¬ (_ ∧ ¬ _) from fun z => z.2 q2), n_add1]
        rfl
      · rw [if_pos q1, if_neg q2, Option.bind_some, if_pos n00, gin_nI (by omega) (by decide), Option.bind_some, if_neg n10, if_pos (show (_ ∧ ¬ _) from ⟨q1, q2⟩), nm_def, c11, n_add]
        rfl
    · rw [if_neg q1, Option.bind_some, if_neg n10, if_neg (show ¬ (_ ∧ ¬ _) from fun z => q1 z.1), n_add1]
      rfl
theorem s_find {few : Int32} {C : Nat → Nat → Nat} {so tr be : Nat → Int32} (h : okD nm nd ki we wo wr) (hr : rD nd ki we wo ki' we' wo') (hw : rW nd wr wr') (hdy : dy < 100000)
    (C_ext : ∀ d c c', d ≤ 6 → (∀ j, j < d → dg (wn nd wr) nm c j = dg (wn nd wr) nm c' j) → C d c = C d c')
    (C_f : ∀ d c, wn nd wr d = false → C (d + 1) c = C d c) (C_le : ∀ d c, d < 6 → C d c ≤ C (d + 1) c) (C_B : ∀ d c, C d c < 1000000) (C_0 : C 0 0 = 0)
    (C_s : ∀ ld, LD nm nd ki we wo wr (dy % 2) ld → ∀ d c so, d < 6 → wn nd wr d = true → (∀ k, k < nm → so k = nI (sw (wn nd wr) (dg (wn nd wr) nm c) k (d + 1))) → HC few (nI (C d c)) (nI (dg (wn nd wr) nm c d)) (nI (sw (wn nd wr) (dg (wn nd wr) nm c) (dg (wn nd wr) nm c d) d)) (nI d) ld so st' wr' = some (nI (C (d + 1) c))) :
    ∃ ld' so' tr' be', fX0_find few ld so tr be (nI nm) (nI nd) (nI dy) st' ki' we' wo' wr' = some (nI (mk (wn nd wr) 6), nI (bs (C 6) (nw (wn nd wr) nm 0)).1, ld', so', tr', be') ∧ BEc (wn nd wr) nm (bs (C 6) (nw (wn nd wr) nm 0)).2 be' := by
  obtain ⟨ld', p1, p2⟩ := s_prepare (ld := ld) h hr hw hdy
  have h5 := h.1
  have key := s_hangFrom h5 (wn_b h) C_ext C_f C_le C_B (C_s ld' p2) 6 0 0 8 (fun q => if q < 5 then 0 else so q) (fun q => if q < 6 then -4 else tr q) be (by omega) (by omega) (fun m hm => by
    show (if m < 5 then (0 : Int32) else so m) = _
    rw [if_pos (by omega)]
    rfl) (fun j hj => ⟨fun _ => if_pos hj, fun z => absurd z (Nat.not_lt_zero j)⟩) (fun z => absurd z (by rw [Nat.zero_mul]; decide))
  rw [Nat.zero_mul, Nat.zero_add, C_0] at key
  obtain ⟨tr', be', k1, k2, k3⟩ := key
  refine ⟨ld', fun q => if q < 5 then 0 else so q, tr', be', ?_, k3⟩
  unfold fX0_find
  rw [p1, Option.bind_some]
  refine lp_to (fun k => (nI k, fun q => if q < k then 0 else so q)) 5 ?_ (by omega) (fun k hk K => ?_) (fun K => ?_)
  · show (nI 0, _) = (0, so)
    congr 1
  · rw [bX0_find_6, if_neg (show ¬ 5 ≤ nI k from fun q => by have := (n_le (a := 5) (by omega) (by omega)).mp q; omega), gin_nI hk (by decide), nm_def, n_add1, n_cl (by omega)]
    congr 2
    funext q
    by_cases e : q = k
    · subst e
      rw [upd_self, if_pos (by omega)]
    · rw [upd_ne e]
      by_cases c : q < k
      · rw [if_pos c, if_pos (by omega)]
      · rw [if_neg c, if_neg (by omega)]
  · rw [bX0_find_6, if_pos (by decide)]
    refine lp_to (fun k => (nI k, fun q => if q < k then -4 else tr q)) 6 ?_ (by omega) (fun k hk K => ?_) (fun K => ?_)
    · show (nI 0, _) = (0, tr)
      congr 1
    · rw [bX0_find_26, if_neg (show ¬ 6 ≤ nI k from fun q => by have := (n_le (a := 6) (by omega) (by omega)).mp q; omega), gin_nI hk (by decide), nm_def, n_add1, n_cl (by omega)]
      congr 2
      funext q
      by_cases e : q = k
      · subst e
        rw [upd_self, if_pos (by omega)]
      · rw [upd_ne e]
        by_cases c : q < k
        · rw [if_pos c, if_pos (by omega)]
        · rw [if_neg c, if_neg (by omega)]
    · rw [bX0_find_26, if_pos (by decide)]
      show (lp (rX0_hangFrom (nI (mk (wn nd wr) 6)) few ld' (nI nm) st' wr') 8 (nI 0, nI 0, nI (bs (C 6) 0).1, _, _, be)).bind _ = _
      rw [k1, Option.bind_some]
theorem CE_0 : CE nm nd odd ki we wo wr 0 0 = 0 := by
  have := mx_le (f := fun m => lS_ nd ki we wo odd m (sw (wn nd wr) (dg (wn nd wr) nm 0) m 0)) (B := 0) nm (fun m _ => by
    show lS_ nd ki we wo odd m 0 ≤ 0
    rw [lSs_0]
    exact Nat.le_refl _)
  unfold CE
  omega
theorem CF_0 : CF nm nd odd st ki we wo wr 0 0 = 0 := by
  have : cn (fun m => decide (st m < lS_ nd ki we wo odd m (sw (wn nd wr) (dg (wn nd wr) nm 0) m 0))) nm = cn (fun _ => false) nm := cn_ext nm (fun m _ => by
    show decide (st m < lS_ nd ki we wo odd m 0) = false
    rw [lSs_0]
    exact decide_eq_false (Nat.not_lt_zero _))
  have z : ∀ n, cn (fun _ => false) n = 0 := fun n => by
    induction n with
    | zero => rfl
    | succ n ih => rw [cn_f rfl, ih]
  unfold CF
  rw [this, z]
  rfl
/-- the best ways say the same of each medal -/
theorem both_wear {p : Int32} {c : Nat} {be bes now : Nat → Int32} {dr : Nat} {bu : Nat → Nat} (h : okD nm nd ki we wo wr) (hR : RM nm nd dy dr bu st ki we wo wr now) (hb : BEc (wn nd wr) nm c be) (hr : BR nd nm wr c bes) : ∃ r, fX0_wouldWear p be = some r ∧ ((fX6_isMedal p now = some 0 ∧ r = -4) ∨ ∃ j, p = nI j ∧ j < 6 ∧ fX6_isMedal p now = some 1 ∧ r = bes j) := by
  have h6 := h.2.1
  unfold fX0_wouldWear
  rcases ixc p (n := nd) (by omega) with ⟨j, hj, rfl⟩ | out
  · have e1 := hr j hj
    have e2 := hb j (by omega)
    refine ⟨be j, ?_, Or.inr ⟨j, rfl, by omega, m_isMedal_y hR hj h6, ?_⟩⟩
    · rw [if_neg (nI_pos (by omega)), if_neg (show ¬ 6 ≤ nI j from fun q => by have := (n_le (a := 6) (by omega) (by omega)).mp q; omega), gin_nI (by omega) (by decide), n_cl (by omega)]
    · rw [e1, e2]
      unfold hw
      cases w : wn nd wr j with
      | false => rfl
      | true => rfl
  · refine ⟨-4, ?_, Or.inl ⟨m_isMedal_n hR h6 out, rfl⟩⟩
    by_cases c1 : p < 0
    · rw [if_pos c1]
    · by_cases c2 : 6 ≤ p
      · rw [if_neg c1, if_pos c2]
      · obtain ⟨j, hj, rfl⟩ := rng (hi := 5) (by decide) c1 (show ¬ nI 5 < p from fun q => c2 (by
          obtain ⟨j, hj, rfl⟩ := nI_of c1
          have := (n_lt (by omega) hj).mp q
          exact (n_le (a := 6) (by omega) hj).mpr (by omega)))
        have hnj : nd ≤ j := by
          rcases out with o | o
          · exact absurd o c1
          · exact (n_le (by omega) (by omega)).mp o
        rw [if_neg c1, if_neg c2, gin_nI (by omega) (by decide), n_cl (by omega), hb j (by omega), wn_o hnj]
        rfl
end P35
section P35b
variable {men md day drw : Int32} {bu st ki we wo wr now tri bes so tr be : Nat → Int32} {ld : Nat → Nat → Int32} {worn few bc bm bch p1 : Int32}
theorem pub_even (h : SY men md day drw bu st ki we wo wr now) : ∃ r a1 a2 a3 a4 a5 a6 a7 b1 b2 b3 b4, fX5_even p1 men md day st ki we wo wr worn few bc ld so tr be = some (r, a1, a2, a3, a4, a5, a6, a7) ∧ fX6_even p1 bm bch now tri bes = some (r, b1, b2, b3, b4) := by
  obtain ⟨nm, nd, dy, dr, bu0, st0, ki0, we0, wo0, wr0, ⟨hk, hb, hdy, hdr⟩, ⟨rfl, rfl, rfl, rfl, c5, c6, c7, c8⟩, hR⟩ := h
  have h6 := hk.2.1
  unfold fX5_even fX6_even
  by_cases a1 : (-1) ≤ p1
  · obtain ⟨bch', t', bes', f1, f2⟩ := m_layEven (t := tri) (bes := bes) hk hR (by omega)
    obtain ⟨ld', so', tr', be', g1, g2⟩ := s_find (few := 0) (ld := ld) (so := so) (tr := tr) (be := be) (st' := st) (C := CE nm nd (dy % 2) ki0 we0 wo0 wr0) hk c7 c8 (by omega) CE_ext CE_f (CE_le (wn_b hk)) (CE_B hk (by omega)) CE_0 (CE_s hk (by omega))
    rw [CE_6 h6] at g1 g2
    unfold fX0_findEven
    rw [if_pos a1, if_pos a1, f1, g1, Option.bind_some, Option.bind_some, Option.bind_some]
    by_cases a2 : p1 = -1
    · rw [if_pos a2, if_pos a2]
      exact ⟨_, _, _, _, _, _, _, _, _, _, _, _, rfl, rfl⟩
    · rw [if_neg a2, if_neg a2]
      obtain ⟨r, k1, k2⟩ := both_wear (p := p1) hk hR g2 f2
      dsimp only
      rw [k1, Option.bind_some]
      rcases k2 with ⟨k3, rfl⟩ | ⟨j, rfl, k4, k5, rfl⟩
      · rw [k3, Option.bind_some, if_pos n00]
        exact ⟨_, _, _, _, _, _, _, _, _, _, _, _, rfl, rfl⟩
      · rw [k5, Option.bind_some, if_neg n10, gin_nI k4 (by decide), n_cl (by omega)]
        exact ⟨_, _, _, _, _, _, _, _, _, _, _, _, rfl, rfl⟩
  · rw [if_neg a1, if_neg a1]
    exact ⟨_, _, _, _, _, _, _, _, _, _, _, _, rfl, rfl⟩
theorem pub_few (h : SY men md day drw bu st ki we wo wr now) : ∃ r a1 a2 a3 a4 a5 a6 a7 b1 b2 b3 b4, fX5_few p1 men md day st ki we wo wr worn few bc ld so tr be = some (r, a1, a2, a3, a4, a5, a6, a7) ∧ fX6_few p1 bm bch now tri bes = some (r, b1, b2, b3, b4) := by
  obtain ⟨nm, nd, dy, dr, bu0, st0, ki0, we0, wo0, wr0, ⟨hk, hb, hdy, hdr⟩, ⟨rfl, rfl, rfl, rfl, c5, c6, c7, c8⟩, hR⟩ := h
  have h6 := hk.2.1
  have hs : ∀ i, i < nm → st0 i < 100000 := fun i hi => by have := hb i hi; omega
  unfold fX5_few fX6_few
  by_cases a1 : (-2) ≤ p1
  · obtain ⟨t', bes', f1, f2⟩ := m_layFew (t := tri) (bes := bes) hk hR (by omega) hs
    obtain ⟨ld', so', tr', be', g1, g2⟩ := s_find (few := 1) (ld := ld) (so := so) (tr := tr) (be := be) (st' := st) (C := CF nm nd (dy % 2) st0 ki0 we0 wo0 wr0) hk c7 c8 (by omega) CF_ext CF_f (CF_le (wn_b hk)) (CF_B hk) CF_0 (CF_s hk (by omega) c8 c6 hs)
    rw [CF_6 h6] at g1 g2
    have hbl := bs_le (F := FF nm nd (dy % 2) st0 ki0 we0 wo0 wr0) (nw (wn nd wr0) nm 0)
    have d1 : nI (bs (FF nm nd (dy % 2) st0 ki0 we0 wo0 wr0) (nw (wn nd wr0) nm 0)).1 / 16 = nI ((bs (FF nm nd (dy % 2) st0 ki0 we0 wo0 wr0) (nw (wn nd wr0) nm 0)).1 / 16) := pk_div (d := 16) (by omega) (by decide) (by decide)
    have d2 : nI (bs (FF nm nd (dy % 2) st0 ki0 we0 wo0 wr0) (nw (wn nd wr0) nm 0)).1 - nI (bs (FF nm nd (dy % 2) st0 ki0 we0 wo0 wr0) (nw (wn nd wr0) nm 0)).1 / 16 * 16 = nI ((bs (FF nm nd (dy % 2) st0 ki0 we0 wo0 wr0) (nw (wn nd wr0) nm 0)).1 % 16) := pk_rem (d := 16) (by omega) (by decide) (by decide)
    unfold fX0_findFew
    rw [if_pos a1, if_pos a1, f1, g1, Option.bind_some, Option.bind_some, Option.bind_some]
    dsimp only
    by_cases a2 : p1 = -2
    · have a3 : ¬ p1 = -1 := by rw [a2]; decide
      rw [if_pos a2, if_neg a3, if_pos a2, d2]
      exact ⟨_, _, _, _, _, _, _, _, _, _, _, _, rfl, rfl⟩
    · by_cases a3 : p1 = -1
      · rw [if_neg a2, if_pos a3, if_pos a3, d1]
        exact ⟨_, _, _, _, _, _, _, _, _, _, _, _, rfl, rfl⟩
      · rw [if_neg a2, if_neg a3, if_neg a3, if_neg a2]
        obtain ⟨r, k1, k2⟩ := both_wear (p := p1) hk hR g2 f2
        rw [k1, Option.bind_some]
        rcases k2 with ⟨k3, rfl⟩ | ⟨j, rfl, k4, k5, rfl⟩
        · rw [k3, Option.bind_some, if_pos n00]
          exact ⟨_, _, _, _, _, _, _, _, _, _, _, _, rfl, rfl⟩
        · rw [k5, Option.bind_some, if_neg n10, gin_nI k4 (by decide), n_cl (by omega)]
          exact ⟨_, _, _, _, _, _, _, _, _, _, _, _, rfl, rfl⟩
  · rw [if_neg a1, if_neg a1]
    exact ⟨_, _, _, _, _, _, _, _, _, _, _, _, rfl, rfl⟩
end P35b
