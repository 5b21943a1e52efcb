/-! PURE, 33: the class's table of loads; sets -/
theorem lp_invF {α β γ ρ : Type} {body : γ → (α → Option ρ) → α → Option ρ} (n : Nat) (Inv : Nat → α → Prop) (Post : β → Prop) (G : γ → β → Option ρ) (hs : ∀ k, k < n → ∀ a, Inv k a → ∃ a', Inv (k + 1) a' ∧ ∀ g K, body g K a = K a') (he : ∀ a, Inv n a → ∃ r, Post r ∧ ∀ g K, body g K a = G g r) : ∀ d k a, k + d = n → Inv k a → ∃ r, Post r ∧ ∀ g f, d < f → lp (body g) f a = G g r := by
  intro d
  induction d with
  | zero =>
    intro k a hk hI
    have : k = n := by omega
    subst this
    obtain ⟨r, h1, h2⟩ := he a hI
    refine ⟨r, h1, fun g f hf => ?_⟩
    obtain ⟨f, rfl⟩ : ∃ g, f = g + 1 := ⟨f - 1, by omega⟩
    exact h2 _ _
  | succ d ih =>
    intro k a hk hI
    obtain ⟨a', h1, h2⟩ := hs k (by omega) a hI
    obtain ⟨r, h3, h4⟩ := ih (k + 1) a' (by omega) h1
    refine ⟨r, h3, fun g f hf => ?_⟩
    obtain ⟨f, rfl⟩ : ∃ g, f = g + 1 := ⟨f - 1, by omega⟩
    exact (h2 _ _).trans (h4 g f (by omega))
theorem q_sub {S V : Nat} (hS : S < 64) (hV : V < 64) : (nI S &&& (nI V ^^^ (-1))) = 0 ↔ S &&& V = S := by
  have : ∀ S : Fin 64, ∀ V : Fin 64, ((nI S.val &&& (nI V.val ^^^ (-1))) = 0 ↔ S.val &&& V.val = S.val) := by decide +kernel
  exact this ⟨S, hS⟩ ⟨V, hV⟩
theorem q_less {S V : Nat} (hS : S < 64) (hV : V < 64) (h : S &&& V = S) : nI V &&& (nI S ^^^ (-1)) = nI (V ^^^ S) := by
  have : ∀ S : Fin 64, ∀ V : Fin 64, S.val &&& V.val = S.val → nI V.val &&& (nI S.val ^^^ (-1)) = nI (V.val ^^^ S.val) := by decide +kernel
  exact this ⟨S, hS⟩ ⟨V, hV⟩ h
theorem q_all {n Z : Nat} (hn : n ≤ 6) (hZ : Z < 2 ^ n) : (((1 : Int32) <<< (nI n &&& 31)) - 1) &&& (nI Z ^^^ (-1)) = nI ((2 ^ n - 1) ^^^ Z) := by
  have : ∀ n : Fin 7, ∀ Z : Fin 64, Z.val < 2 ^ n.val → (((1 : Int32) <<< (nI n.val &&& 31)) - 1) &&& (nI Z.val ^^^ (-1)) = nI ((2 ^ n.val - 1) ^^^ Z.val) := by decide +kernel
  exact this ⟨n, by omega⟩ ⟨Z, Nat.lt_of_lt_of_le hZ (Nat.pow_le_pow_right (n := 2) (by decide) hn)⟩ hZ
theorem q_bit0 {S d : Nat} (hS : S < 64) (hd : d < 6) : ((nI S >>> (nI d &&& 31)) &&& 1) = 0 ↔ S.testBit d = false := by
  have : ∀ S : Fin 64, ∀ d : Fin 6, (((nI S.val >>> (nI d.val &&& 31)) &&& 1) = 0 ↔ S.val.testBit d.val = false) := by decide +kernel
  exact this ⟨S, hS⟩ ⟨d, hd⟩
section P33
variable {nm nd dy : Nat} {st ki we wo : Nat → Nat} {wr : Nat → Option Nat} {ki' we' wo' wr' : Nat → Int32}
theorem wm_lt : mk (wn nd wr) 6 < 64 := mk_lt _ 6
theorem wm_nd (h6 : nd ≤ 6) : mk (wn nd wr) 6 = mk (wn nd wr) nd := by
  apply Nat.eq_of_testBit_eq
  intro j
  rw [mk_bit, mk_bit]
  by_cases h : j < nd
  · rw [decide_eq_true h, decide_eq_true (show j < 6 by omega)]
  · rw [wn_o (by omega), Bool.and_false, Bool.and_false]
theorem s_allWorn (h : okD nm nd ki we wo wr) (hr : rW nd wr wr') : fX1_allWorn (nI nd) wr' = some (nI (mk (wn nd wr) 6)) := by
  have h6 := h.2.1
  unfold fX1_allWorn
  have e := s_wornBy (o := none) h hr (fun m q => by cases q)
  rw [show fX1_wornBy (-4) (nI nd) wr' = _ from e, Option.bind_some, q_all h6 (mk_lt _ nd), wm_nd h6]
  congr 2
  apply Nat.eq_of_testBit_eq
  intro j
  rw [Nat.testBit_xor, Nat.testBit_two_pow_sub_one, mk_bit, mk_bit]
  by_cases c : j < nd
  · rw [decide_eq_true c]
    cases e : wr j with
    | none => rw [wn_f e]; rfl
    | some m => rw [wn_t c e]; rfl
  · rw [decide_eq_false c]; rfl
/-- the load of m with the set S -/
def lS_ (nd : Nat) (ki we wo : Nat → Nat) (odd m S : Nat) : Nat := loadS nd ki we wo (fun j => S.testBit j) m odd
def LD (nm nd : Nat) (ki we wo : Nat → Nat) (wr : Nat → Option Nat) (odd : Nat) (ld : Nat → Nat → Int32) : Prop := ∀ m, m < nm → ∀ S, S < 64 → S &&& mk (wn nd wr) 6 = S → ld m S = nI (lS_ nd ki we wo odd m S)
theorem s_prepare {ld : Nat → Nat → Int32} (h : okD nm nd ki we wo wr) (hr : rD nd ki we wo ki' we' wo') (hw : rW nd wr wr') (hdy : dy < 100000) : ∃ ld', fX0_prepare ld (nI nm) (nI nd) (nI dy) ki' we' wo' wr' = some (nI (mk (wn nd wr) 6), ld') ∧ LD nm nd ki we wo wr (dy % 2) ld' := by
  have h6 := h.2.1
  have h5 := h.1
  have hV := wm_lt (nd := nd) (wr := wr)
  have hV2 : mk (wn nd wr) 6 < 2 ^ nd := by rw [wm_nd h6]; exact mk_lt _ nd
  unfold fX0_prepare
  rw [s_allWorn h hw, Option.bind_some]
  generalize hVe : mk (wn nd wr) 6 = V at hV hV2
  obtain ⟨⟨v, ld'⟩, ⟨e1, e2⟩, e3⟩ := lp_inv (β := Int32 × (Nat → Nat → Int32)) (body := bX0_prepare_13 (nI nm) (nI nd) (nI dy) ki' we' wo' (nI V)) nm
    (fun k a => a.1 = nI k ∧ ∀ m, m < k → ∀ S, S < 64 → S &&& V = S → a.2 m S = nI (lS_ nd ki we wo (dy % 2) m S))
    (fun r => r.1 = nI V ∧ ∀ m, m < nm → ∀ S, S < 64 → S &&& V = S → r.2 m S = nI (lS_ nd ki we wo (dy % 2) m S)) (fun r => some r)
    (a0 := (0, ld)) ⟨rfl, fun m hm => by omega⟩ (by omega)
    (fun k hk a hI => by
      obtain ⟨kk, l0⟩ := a
      obtain ⟨g1, g2⟩ := hI
      simp only at g1 g2
      subst g1
      obtain ⟨l1, ⟨p1, p2⟩, p3⟩ := lp_invF (β := Nat → Nat → Int32) (γ := (Int32 × (Nat → Nat → Int32)) → Option (Int32 × (Nat → Nat → Int32))) (body := bX0_prepare_26 (nI nd) (nI dy) ki' we' wo' (nI V) (nI k)) (V + 1)
        (fun i a => a.1 = nI i ∧ (∀ S, S < i → S &&& V = S → a.2 k S = nI (lS_ nd ki we wo (dy % 2) k S)) ∧ ∀ m, m ≠ k → a.2 m = l0 m)
        (fun r => (∀ S, S < V + 1 → S &&& V = S → r k S = nI (lS_ nd ki we wo (dy % 2) k S)) ∧ ∀ m, m ≠ k → r m = l0 m) (fun g r => g (nI (k + 1), r))
        (fun i hi a hJ => by
          obtain ⟨ii, l2⟩ := a
          obtain ⟨j1, j2, j3⟩ := hJ
          simp only at j1 j2 j3
          subst j1
          have z : ¬ nI V < nI i := fun q => by have := (n_lt (by omega) (by omega)).mp q; omega
          by_cases c : i &&& V = i
          · refine ⟨(nI (i + 1), va_up l2 k (upd (l2 k) i (nI (lS_ nd ki we wo (dy % 2) k i)))), ⟨rfl, fun S hS hs => ?_, fun m hm => ?_⟩, fun g K => ?_⟩
            · show va_up l2 k (upd (l2 k) i (nI (lS_ nd ki we wo (dy % 2) k i))) k S = _
              rw [va_up_self]
              by_cases e : S = i
              · subst e
                rw [upd_self]
              · rw [upd_ne e]
                exact j2 S (by omega) hs
            · show va_up l2 k _ m = _
              rw [va_up_ne _ _ hm]
              exact j3 m hm
            · rw [bX0_prepare_26, if_neg z, if_pos ((q_sub (by omega) hV).mpr c), gin_nI (by omega) (by decide), s_loadOfSet h hr (show i < 2 ^ nd by omega) (by omega) hdy, Option.bind_some, gin_nI (by omega) (by decide), nm_def, n_add1, n_cl (by omega), n_cl (by omega)]
              rfl
          · refine ⟨(nI (i + 1), l2), ⟨rfl, fun S hS hs => ?_, j3⟩, fun g K => ?_⟩
            · by_cases e : S = i
              · subst e
                exact absurd hs c
              · exact j2 S (by omega) hs
            · rw [bX0_prepare_26, if_neg z, if_neg (fun q => c ((q_sub (by omega) hV).mp q)), nm_def, n_add1])
        (fun a hJ => by
          obtain ⟨ii, l2⟩ := a
          obtain ⟨j1, j2, j3⟩ := hJ
          simp only at j1 j2 j3
          subst j1
          refine ⟨l2, ⟨j2, j3⟩, fun g K => ?_⟩
          rw [bX0_prepare_26, if_pos ((n_lt (by omega) (by omega)).mpr (by omega)), nm_def, n_add1])
        (V + 1) 0 (0, l0) (by omega) ⟨rfl, fun S hS => by omega, fun m _ => rfl⟩
      refine ⟨(nI (k + 1), l1), ⟨rfl, fun m hm S hS hs => ?_⟩, fun K => ?_⟩
      · show l1 m S = _
        by_cases e : m = k
        · subst e
          exact p1 S (by have := Nat.and_le_right (n := S) (m := V); omega) hs
        · rw [p2 m e]
          exact g2 m (by omega) S hS hs
      · rw [bX0_prepare_13, if_neg (by rw [n_le (by omega) (by omega)]; omega)]
        exact p3 K FU (by unfold FU; omega))
    (fun a hI => by
      obtain ⟨kk, l0⟩ := a
      obtain ⟨g1, g2⟩ := hI
      simp only at g1 g2
      subst g1
      refine ⟨(nI V, l0), ⟨rfl, g2⟩, fun K => ?_⟩
      rw [bX0_prepare_13, if_pos (Int32.le_refl _)])
  simp only at e1 e2
  subst e1
  refine ⟨ld', e3, ?_⟩
  unfold LD
  rw [hVe]
  exact e2
end P33
section P33b
variable {W : Nat → Bool} {a a' : Nat → Nat} {m d : Nat}
/-- what is hung on m of those below d -/
def sw (W : Nat → Bool) (a : Nat → Nat) (m d : Nat) : Nat := mk (fun j => W j && (a j == m)) d
theorem sw_lt (hd : d ≤ 6) : sw W a m d < 64 := Nat.lt_of_lt_of_le (mk_lt _ d) (Nat.pow_le_pow_right (n := 2) (by decide) hd)
theorem sw_ext (h : ∀ j, j < d → a j = a' j) : sw W a m d = sw W a' m d := mk_congr d (fun j hj => by rw [h j hj])
theorem sw_t (hW : W d = true) (h : a d = m) : sw W a m (d + 1) = sw W a m d + 2 ^ d := mk_t (by
  show (W d && (a d == m)) = true
  rw [hW, h, beq_self_eq_true]
  rfl)
theorem sw_f (hW : W d = false) : sw W a m (d + 1) = sw W a m d := mk_f (by
  show (W d && (a d == m)) = false
  rw [hW]
  rfl)
theorem sw_n (h : a d ≠ m) : sw W a m (d + 1) = sw W a m d := mk_f (by
  show (W d && (a d == m)) = false
  rw [beq_false_of_ne h, Bool.and_false])
theorem sw_sub (hd : d ≤ 6) : sw W a m d &&& mk W 6 = sw W a m d := by
  apply Nat.eq_of_testBit_eq
  intro j
  unfold sw
  rw [Nat.testBit_and, mk_bit, mk_bit]
  by_cases h1 : j < d
  · rw [decide_eq_true h1, decide_eq_true (show j < 6 by omega)]
    cases W j <;> cases (a j == m) <;> rfl
  · rw [decide_eq_false h1]
    rfl
theorem lSs_mono {nd odd : Nat} {ki we wo : Nat → Nat} : lS_ nd ki we wo odd m (sw W a m d) ≤ lS_ nd ki we wo odd m (sw W a m (d + 1)) := by
  unfold lS_
  refine loadS_mono (fun j _ h => ?_)
  unfold sw at h ⊢
  rw [mk_bit] at h ⊢
  rw [Bool.and_eq_true] at h ⊢
  exact ⟨decide_eq_true (by have := of_decide_eq_true h.1; omega), h.2⟩
theorem lSs_le {nm nd odd : Nat} {ki we wo : Nat → Nat} {wr : Nat → Option Nat} {m S : Nat} (h : okD nm nd ki we wo wr) (ho : odd ≤ 1) : lS_ nd ki we wo odd m S ≤ 276 := loadS_le h ho
theorem ldS_none {ki we wo : Nat → Nat} {oth odd m : Nat} {P : Nat → Bool} : ∀ n, (∀ d, d < n → P d = false) → ldS ki we wo oth odd m P n = 0 := by
  intro n
  induction n with
  | zero => intro _; rfl
  | succ n ih =>
    intro h
    show ldS ki we wo oth odd m P n + (if P n then _ else 0) = 0
    rw [ih (fun d hd => h d (by omega)), if_neg (by rw [h n (by omega)]; decide)]
theorem lSs_0 {nd odd : Nat} {ki we wo : Nat → Nat} {m : Nat} : lS_ nd ki we wo odd m 0 = 0 := ldS_none nd (fun d _ => Nat.zero_testBit d)
/-- the two sides' loads are one -/
theorem lSs_hw {nd nm c m odd : Nat} {ki we wo : Nat → Nat} {wr : Nat → Option Nat} (h6 : nd ≤ 6) : loadN nd ki we wo (hw nd wr nm c) m odd = lS_ nd ki we wo odd m (sw (wn nd wr) (dg (wn nd wr) nm c) m 6) := by
  unfold loadN lS_
  refine loadS_ext (fun j hj => ?_)
  unfold sw
  rw [mk_bit, decide_eq_true (show j < 6 by omega)]
  unfold hw
  cases e : wn nd wr j with
  | false => rfl
  | true => rfl
end P33b
