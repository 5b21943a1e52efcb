/-! PURE, 15: sheets -/
def SHT (th lan siz : Nat → Int32) (itm : Nat → Nat → Int64) (lanM sizM : Nat → Int32) (itmM : Nat → Int64) : Prop := ∀ j, j < 4 → (th j = 0 ∧ lanM j = -1) ∨ ∃ l n, l ≤ 3 ∧ n ≤ 24 ∧ th j = 1 ∧ lan j = nI l ∧ siz j = nI n ∧ lanM j = nI l ∧ sizM j = nI n ∧ ∀ q, q < 24 → itm j q = itmM (24 * j + q)
theorem sub_toInt {a b : Nat} (ha : a < 2147483648) (hb : b < 2147483648) : (nI a - nI b).toInt = (a : Int) - b := by
  rw [Int32.toInt_sub, nI_toInt ha, nI_toInt hb, Int.bmod_def]
  split <;> omega
theorem reach {p1 p2 : Int32} {sz : Nat} (h : sz ≤ 24) : (fX3_reaches p1 p2 (nI sz) = some 1 ∧ fX6_isPart p1 p2 (nI sz) = some 1 ∧ ∃ i n, p1 = nI i ∧ p2 = nI n ∧ i + n ≤ sz) ∨ (fX3_reaches p1 p2 (nI sz) = some 0 ∧ fX6_isPart p1 p2 (nI sz) = some 0) := by
  unfold fX3_reaches fX6_isPart
  by_cases a1 : p1 < 0
  · right
    rw [if_pos a1]
    refine ⟨rfl, ?_⟩
    by_cases a2 : p2 < 0
    · rw [if_pos a2]
    · rw [if_neg a2, if_pos a1]
  by_cases a2 : p2 < 0
  · right
    rw [if_neg a1, if_pos a2, if_pos a2]
    exact ⟨rfl, rfl⟩
  obtain ⟨i, hi, rfl⟩ := nI_of a1
  obtain ⟨n, hn, rfl⟩ := nI_of a2
  have l1 : nI sz - nI i < nI n ↔ (sz : Int) - i < n := by rw [Int32.lt_iff_toInt_lt, sub_toInt (by omega) hi, nI_toInt hn]
  have l2 : nI sz - nI n < nI i ↔ (sz : Int) - n < i := by rw [Int32.lt_iff_toInt_lt, sub_toInt (by omega) hn, nI_toInt hi]
  have l3 : nI sz < nI n ↔ sz < n := n_lt (by omega) hn
  rw [if_neg a1, if_neg a2, if_neg a2, if_neg a1]
  by_cases c : i + n ≤ sz
  · left
    rw [if_neg (by rw [l1]; omega), if_neg (by rw [l3]; omega), if_neg (by rw [l2]; omega)]
    exact ⟨rfl, rfl, i, n, rfl, rfl, c⟩
  · right
    rw [if_pos (by rw [l1]; omega)]
    refine ⟨rfl, ?_⟩
    by_cases c2 : nI sz < nI n
    · rw [if_pos c2]
    · rw [if_neg c2, if_pos (by rw [l2]; omega)]
theorem s_isSheet_y {j : Nat} (h : j < 4) : fX5_isSheet (nI j) = some 1 ∧ fX6_isSheet (nI j) = some 1 := by
  have a : ¬ nI j < 0 := nI_pos (by omega)
  unfold fX5_isSheet fX6_isSheet
  rw [if_neg a, if_neg (show ¬ 4 ≤ nI j from fun q => by have := (n_le (a := 4) (by omega) (by omega)).mp q; omega), in_y a (show ¬ 3 < nI j from fun q => by have := (n_lt (a := 3) (by omega) (by omega)).mp q; omega), Option.bind_some, gbz1]
  exact ⟨rfl, rfl⟩
theorem s_isSheet_n {p : Int32} (h : p < 0 ∨ nI 4 ≤ p) : fX5_isSheet p = some 0 ∧ fX6_isSheet p = some 0 := by
  unfold fX5_isSheet fX6_isSheet
  by_cases a : p < 0
  · rw [if_pos a, in_l a, Option.bind_some, gbz0]
    exact ⟨rfl, rfl⟩
  · have h2 := h.resolve_left a
    rw [if_neg a, if_pos (show 4 ≤ p from h2), in_h a (ile_trans (show (3 : Int32) < nI 4 by decide) h2), Option.bind_some, gbz0]
    exact ⟨rfl, rfl⟩
theorem s_isLane {p : Int32} : (fX5_isLane p = some 1 ∧ fX6_in p 0 3 = some 1 ∧ ∃ l, l ≤ 3 ∧ p = nI l) ∨ (fX5_isLane p = some 0 ∧ fX6_in p 0 3 = some 0) := by
  unfold fX5_isLane
  by_cases a : p < 0
  · right
    rw [if_pos a, in_l a]
    exact ⟨rfl, rfl⟩
  · by_cases b : 3 < p
    · right
      rw [if_neg a, if_pos b, in_h a b]
      exact ⟨rfl, rfl⟩
    · left
      rw [if_neg a, if_neg b, in_y a b]
      exact ⟨rfl, rfl, rng (hi := 3) (by decide) a b⟩
section P15
variable {th lan siz lanM sizM : Nat → Int32} {itm : Nat → Nat → Int64} {itmM : Nat → Int64}
theorem refuse {pl pi pn : Int32} {j : Nat} (h : SHT th lan siz itm lanM sizM itmM) (hj : j < 4) : ∃ v, fX3_refuses pl pi pn (th j) (lan j) (siz j) = some v ∧ fX6_wrong (nI j) pl pi pn lanM sizM = some v ∧ (v = 0 → ∃ l sz i n, l ≤ 3 ∧ sz ≤ 24 ∧ pl = nI l ∧ pi = nI i ∧ pn = nI n ∧ i + n ≤ sz ∧ th j = 1 ∧ lan j = nI l ∧ siz j = nI sz ∧ lanM j = nI l ∧ sizM j = nI sz ∧ ∀ q, q < 24 → itm j q = itmM (24 * j + q)) := by
  have g4 : ∀ {α : Type} (A : Option α), gin (nI j) 4 A = A := fun A => gin_nI hj (by decide)
  have kj : (nI j).toNatClampNeg = j := n_cl (by omega)
  unfold fX3_refuses fX6_wrong
  simp only [g4, kj]
  rcases h j hj with ⟨a, b⟩ | ⟨l, sz, hl, hsz, a1, a2, a3, a4, a5, a6⟩
  · rw [if_pos a, b, if_neg (by decide)]
    exact ⟨-11, rfl, rfl, fun q => absurd q (by decide)⟩
  · rw [a1, a2, a3, a4, a5, if_neg n10, if_pos (nI_pos' (by omega))]
    by_cases c : nI l = pl
    · rw [if_pos c, if_pos c]
      rcases reach (p1 := pi) (p2 := pn) hsz with ⟨e1, e2, i, n, e3, e4, e5⟩ | ⟨e1, e2⟩
      · rw [e1, e2, Option.bind_some, if_neg n10]
        exact ⟨0, rfl, rfl, fun _ => ⟨l, sz, i, n, hl, hsz, c.symm, e3, e4, e5, rfl, rfl, rfl, rfl, rfl, a6⟩⟩
      · rw [e1, e2, Option.bind_some, if_pos n00]
        exact ⟨-13, rfl, rfl, fun q => absurd q (by decide)⟩
    · rw [if_neg c, if_neg c]
      exact ⟨-12, rfl, rfl, fun q => absurd q (by decide)⟩
theorem pub_drop {p1 : Int32} (h : SHT th lan siz itm lanM sizM itmM) : ∃ r th' lanM', fX5_drop p1 th siz = some (r, th') ∧ fX6_drop p1 lanM sizM = some (r, lanM') ∧ SHT th' lan siz itm lanM' sizM itmM := by
  unfold fX5_drop fX6_drop
  rcases ixc p1 (n := 4) (by omega) with ⟨j, hj, rfl⟩ | hn
  · have g4 : ∀ {α : Type} (A : Option α), gin (nI j) 4 A = A := fun A => gin_nI hj (by decide)
    have kj : (nI j).toNatClampNeg = j := n_cl (by omega)
    rw [(s_isSheet_y hj).1, (s_isSheet_y hj).2, Option.bind_some, Option.bind_some, if_neg n10, if_neg n10]
    simp only [g4, kj]
    rcases h j hj with ⟨a, b⟩ | ⟨l, sz, hl, hsz, a1, a2, a3, a4, a5, a6⟩
    · rw [if_pos a, b, if_neg (by decide)]
      exact ⟨-11, _, _, rfl, rfl, h⟩
    · rw [a1, a3, a4, a5, if_neg n10, if_pos (nI_pos' (by omega))]
      refine ⟨_, _, _, rfl, rfl, fun i hi => ?_⟩
      by_cases e : i = j
      · subst e
        rw [va_up_self, pk_us]
        exact Or.inl ⟨rfl, rfl⟩
      · rw [va_up_ne _ _ e, pk_un e]
        exact h i hi
  · rw [(s_isSheet_n hn).1, (s_isSheet_n hn).2, Option.bind_some, Option.bind_some, if_pos n00, if_pos n00]
    exact ⟨-1, _, _, rfl, rfl, h⟩
/-- an item of a sheet becomes v on both sides -/
theorem SHT_put {j q0 : Nat} {v : Int64} (h : SHT th lan siz itm lanM sizM itmM) (hj : j < 4) (hq : q0 < 24) : SHT th lan siz (va_up itm j (vp_updL (itm j) q0 v)) lanM sizM (vp_updL itmM (24 * j + q0) v) := by
  intro i hi
  rcases h i hi with a | ⟨l, sz, hl, hsz, a1, a2, a3, a4, a5, a6⟩
  · exact Or.inl a
  · refine Or.inr ⟨l, sz, hl, hsz, a1, a2, a3, a4, a5, fun q hq2 => ?_⟩
    by_cases e : i = j
    · subst e
      rw [va_up_self]
      by_cases e2 : q = q0
      · subst e2
        rw [pk_uLs, pk_uLs]
      · rw [pk_uLn e2, pk_uLn (by omega), a6 q hq2]
    · rw [va_up_ne _ _ e, pk_uLn (by omega), a6 q hq2]
theorem pub_item {p1 p2 p3 : Int32} {p4 : Int64} (h : SHT th lan siz itm lanM sizM itmM) : ∃ r itm' itmM', fX5_item p1 p2 p3 p4 th lan siz itm = some (r, itm') ∧ fX6_item p1 p2 p3 p4 lanM sizM itmM = some (r, itmM') ∧ SHT th lan siz itm' lanM sizM itmM' := by
  unfold fX5_item fX6_item
  rcases ixc p1 (n := 4) (by omega) with ⟨j, hj, rfl⟩ | hn
  · have g4 : ∀ {α : Type} (A : Option α), gin (nI j) 4 A = A := fun A => gin_nI hj (by decide)
    have kj : (nI j).toNatClampNeg = j := n_cl (by omega)
    rw [(s_isSheet_y hj).1, (s_isSheet_y hj).2, Option.bind_some, Option.bind_some, if_neg n10, if_neg n10]
    rcases s_isLane (p := p2) with ⟨e1, e2, -⟩ | ⟨e1, e2⟩
    · rw [e1, e2, Option.bind_some, Option.bind_some, if_neg n10, if_neg n10]
      simp only [g4, kj]
      obtain ⟨v, f1, f2, f3⟩ := refuse (pl := p2) (pi := p3) (pn := 1) h hj
      rw [f1, f2, Option.bind_some, Option.bind_some]
      by_cases z : v = 0
      · obtain ⟨l, sz, i, n, hl, hsz, rfl, rfl, hn1, hin, -, b2, -, -, -, -⟩ := f3 z
        have hn1' : n = 1 := by
          rcases Nat.lt_or_ge n 2147483648 with q | q
          · exact ((n_eq (a := 1) (by omega) q).mp hn1).symm
          · omega
        subst hn1'
        have e24 : 24 * nI j + nI i = nI (24 * j + i) := by rw [show (24 : Int32) = nI 24 from rfl, pk_mul, n_add]
        have k24 : (nI (24 * j + i)).toNatClampNeg = 24 * j + i := n_cl (by omega)
        have ki : (nI i).toNatClampNeg = i := n_cl (by omega)
        have g96 : ∀ {α : Type} (A : Option α), gin (nI (24 * j + i)) 96 A = A := fun A => gin_nI (by omega) (by decide)
        have gi : ∀ {α : Type} (A : Option α), gin (nI i) 24 A = A := fun A => gin_nI (by omega) (by decide)
        rw [if_pos z, if_pos z]
        unfold fX3_put
        simp only [b2, e24, k24, ki, g96, gi]
        by_cases c0 : nI l = 0
        · rw [if_pos c0, if_pos c0]
          exact ⟨_, _, _, rfl, rfl, SHT_put h hj (by omega)⟩
        rw [if_neg c0, if_neg c0]
        by_cases c1 : nI l = 1
        · rw [if_pos c1, if_pos c1]
          exact ⟨_, _, _, rfl, rfl, SHT_put h hj (by omega)⟩
        rw [if_neg c1, if_neg c1]
        by_cases c2 : nI l = 2
        · rw [if_pos c2, if_pos c2]
          exact ⟨_, _, _, rfl, rfl, SHT_put h hj (by omega)⟩
        rw [if_neg c2, if_neg c2]
        exact ⟨_, _, _, rfl, rfl, SHT_put h hj (by omega)⟩
      · rw [if_neg z, if_neg z]
        exact ⟨v, _, _, rfl, rfl, h⟩
    · rw [e1, e2, Option.bind_some, Option.bind_some, if_pos n00, if_pos n00]
      exact ⟨-1, _, _, rfl, rfl, h⟩
  · rw [(s_isSheet_n hn).1, (s_isSheet_n hn).2, Option.bind_some, Option.bind_some, if_pos n00, if_pos n00]
    exact ⟨-1, _, _, rfl, rfl, h⟩
theorem pub_sheet {p1 p2 p3 : Int32} (h : SHT th lan siz itm lanM sizM itmM) : ∃ r th' lan' siz' itm' lanM' sizM' itmM', fX5_sheet p1 p2 p3 th lan siz itm = some (r, th', lan', siz', itm') ∧ fX6_sheet p1 p2 p3 lanM sizM itmM = some (r, lanM', sizM', itmM') ∧ SHT th' lan' siz' itm' lanM' sizM' itmM' := by
  unfold fX5_sheet fX6_sheet
  rcases ixc p1 (n := 4) (by omega) with ⟨j, hj, rfl⟩ | hn
  · have g4 : ∀ {α : Type} (A : Option α), gin (nI j) 4 A = A := fun A => gin_nI hj (by decide)
    have kj : (nI j).toNatClampNeg = j := n_cl (by omega)
    rw [(s_isSheet_y hj).1, (s_isSheet_y hj).2, Option.bind_some, Option.bind_some, if_neg n10, if_neg n10]
    rcases s_isLane (p := p2) with ⟨e1, e2, l, hl, rfl⟩ | ⟨e1, e2⟩
    · rw [e1, e2, Option.bind_some, Option.bind_some, if_neg n10, if_neg n10]
      by_cases a : p3 ≤ 24
      · rw [if_pos a, if_pos a]
        by_cases b : 0 ≤ p3
        · obtain ⟨n, hn, rfl⟩ := rng' (hi := 24) (by decide) (Int32.not_lt.mpr b) a
          rw [if_pos b, if_pos b]
          simp only [g4, kj]
          have f1 : fX3_begin (nI l) (nI n) (itm j) = some (1, nI l, nI n, fun q => if q < 24 then 0 else itm j q) := by
            unfold fX3_begin
            refine lp_to (fun k => (nI k, fun q => if q < k then 0 else itm j q)) 24 ?_ (by omega) (fun k hk K => ?_) (fun K => ?_)
            · show (nI 0, _) = (0, itm j)
              congr 1
            · rw [bX3_begin_17, if_neg (show ¬ 24 ≤ nI k from fun q => by have := (n_le (a := 24) (by omega) (by omega)).mp q; omega), gin_nI hk (by decide), nm_def, n_add1, n_cl (by omega)]
              congr 2
              funext q
              by_cases e : q = k
              · subst e
                rw [pk_uLs, if_pos (by omega)]
              · rw [pk_uLn e]
                by_cases c : q < k
                · rw [if_pos c, if_pos (by omega)]
                · rw [if_neg c, if_neg (by omega)]
            · rw [bX3_begin_17, if_pos (by decide)]
          have f2 : lp (bX6_sheet_48 lanM sizM (nI j) (nI l) (nI n)) FU (0, itmM) = some (nI n, upd lanM j (nI l), upd sizM j (nI n), fun q => if 24 * j ≤ q ∧ q < 24 * j + 24 then 0 else itmM q) := by
            refine lp_to (fun k => (nI k, fun q => if 24 * j ≤ q ∧ q < 24 * j + k then 0 else itmM q)) 24 ?_ (by omega) (fun k hk K => ?_) (fun K => ?_)
            · show (nI 0, _) = (0, itmM)
              congr 1
              funext q
              exact if_neg (by omega)
            · have e24 : 24 * nI j + nI k = nI (24 * j + k) := by rw [show (24 : Int32) = nI 24 from rfl, pk_mul, n_add]
              rw [bX6_sheet_48, if_neg (show ¬ 24 ≤ nI k from fun q => by have := (n_le (a := 24) (by omega) (by omega)).mp q; omega), e24, gin_nI (by omega) (by decide), nm_def, n_add1, n_cl (by omega)]
              congr 2
              funext q
              by_cases e : q = 24 * j + k
              · subst e
                rw [pk_uLs, if_pos (by omega)]
              · rw [pk_uLn e]
                by_cases c : 24 * j ≤ q ∧ q < 24 * j + k
                · rw [if_pos c, if_pos (by omega)]
                · rw [if_neg c, if_neg (by omega)]
            · rw [bX6_sheet_48, if_pos (by decide), kj]
          rw [f1, f2, Option.bind_some]
          refine ⟨_, _, _, _, _, _, _, _, rfl, rfl, fun i hi => ?_⟩
          by_cases e : i = j
          · subst e
            rw [va_up_self, va_up_self, va_up_self, va_up_self, pk_us, pk_us]
            refine Or.inr ⟨l, n, hl, hn, rfl, rfl, rfl, rfl, rfl, fun q hq => ?_⟩
            show (if q < 24 then 0 else itm i q) = if 24 * i ≤ 24 * i + q ∧ 24 * i + q < 24 * i + 24 then 0 else itmM (24 * i + q)
            rw [if_pos hq, if_pos (by omega)]
          · rw [va_up_ne _ _ e, va_up_ne _ _ e, va_up_ne _ _ e, va_up_ne _ _ e, pk_un e, pk_un e]
            rcases h i hi with q | ⟨l2, n2, c1, c2, c3, c4, c5, c6, c7, c8⟩
            · exact Or.inl q
            · refine Or.inr ⟨l2, n2, c1, c2, c3, c4, c5, c6, c7, fun q hq => ?_⟩
              show itm i q = if 24 * j ≤ 24 * i + q ∧ 24 * i + q < 24 * j + 24 then 0 else itmM (24 * i + q)
              rw [if_neg (by omega), c8 q hq]
        · rw [if_neg b, if_neg b]
          exact ⟨-14, _, _, _, _, _, _, _, rfl, rfl, h⟩
      · rw [if_neg a, if_neg a]
        exact ⟨-1, _, _, _, _, _, _, _, rfl, rfl, h⟩
    · rw [e1, e2, Option.bind_some, Option.bind_some, if_pos n00, if_pos n00]
      exact ⟨-1, _, _, _, _, _, _, _, rfl, rfl, h⟩
  · rw [(s_isSheet_n hn).1, (s_isSheet_n hn).2, Option.bind_some, Option.bind_some, if_pos n00, if_pos n00]
    exact ⟨-1, _, _, _, _, _, _, _, rfl, rfl, h⟩
end P15
