/-! PURE, 17: copy, ever -/
def cpL (a : Nat → Int64) (i j n : Nat) : Nat → Int64 := fun q => if j ≤ q ∧ q < j + n then a (i + (q - j)) else a q
theorem cpL_in {a : Nat → Int64} {i j n q : Nat} (h : j ≤ q) (h2 : q < j + n) : cpL a i j n q = a (i + (q - j)) := if_pos ⟨h, h2⟩
theorem cpL_out {a : Nat → Int64} {i j n q : Nat} (h : q < j ∨ j + n ≤ q) : cpL a i j n q = a q := if_neg (by omega)
theorem n_mul24 (a : Nat) : 24 * nI a = nI (24 * a) := pk_mul 24 a
theorem updL_self {a : Nat → Int64} {p : Nat} {v : Int64} : vp_updL a p v p = v := if_pos rfl
theorem updL_ne {a : Nat → Int64} {p q : Nat} {v : Int64} (h : q ≠ p) : vp_updL a p v q = a q := if_neg h
theorem m_copyF {f i t j n : Nat} {A : Nat → Int64} (h1 : i + n ≤ 24) (h2 : j + n ≤ 24) (hf : f < 4) (ht : t < 4) (h : f ≠ t ∨ j ≤ i) : lp (bX6_copy_110 (nI f) (nI i) (nI t) (nI j) (nI n)) FU (0, A) = some (nI n, cpL A (24 * f + i) (24 * t + j) n) := by
  refine lp_to (fun k => (nI k, cpL A (24 * f + i) (24 * t + j) k)) n ?_ (by omega) (fun k hk K => ?_) (fun K => ?_)
  · show (nI 0, _) = (0, A)
    congr 1
    funext q
    exact if_neg (by omega)
  · rw [bX6_copy_110, if_neg (show ¬ nI n ≤ nI k from fun q => by have := (n_le (by omega) (by omega)).mp q; omega), n_mul24, n_mul24, n_add, n_add, n_add, n_add, gin_nI (by omega) (by decide), gin_nI (by omega) (by decide), nm_def, n_add1, n_cl (by omega), n_cl (by omega), cpL_out (by omega)]
    congr 2
    funext q
    by_cases e : q = 24 * t + j + k
    · subst e
      rw [updL_self, cpL_in (by omega) (by omega)]
      congr 1
      omega
    · rw [updL_ne e]
      by_cases c : 24 * t + j ≤ q ∧ q < 24 * t + j + k
      · rw [cpL_in c.1 c.2, cpL_in c.1 (by omega)]
      · rw [cpL_out (by omega), cpL_out (by omega)]
  · rw [bX6_copy_110, if_pos (by rw [n_le (by omega) (by omega)]; omega)]
theorem m_copyB {f i t j n : Nat} {A : Nat → Int64} (h1 : i + n ≤ 24) (h2 : j + n ≤ 24) (hf : f < 4) (ht : t < 4) (h : f = t ∧ i < j) : lp (bX6_copy_110_2 (nI f) (nI i) (nI t) (nI j) (nI n)) FU (0, A) = some (nI n, cpL A (24 * f + i) (24 * t + j) n) := by
  refine lp_to (fun k => (nI k, cpL A (24 * f + i + (n - k)) (24 * t + j + (n - k)) k)) n ?_ (by omega) (fun k hk K => ?_) (fun K => ?_)
  · show (nI 0, _) = (0, A)
    congr 1
    funext q
    exact if_neg (by omega)
  · rw [bX6_copy_110_2, if_neg (show ¬ nI n ≤ nI k from fun q => by have := (n_le (by omega) (by omega)).mp q; omega), n_sub1 (by omega), pk_sub (by omega), nm_def, n_mul24, n_mul24, n_add, n_add, n_add, n_add, gin_nI (by omega) (by decide), gin_nI (by omega) (by decide), nm_def, n_add1, n_cl (by omega), n_cl (by omega), cpL_out (by omega)]
    congr 2
    funext q
    by_cases e : q = 24 * t + j + (n - 1 - k)
    · subst e
      rw [updL_self, cpL_in (by omega) (by omega)]
      congr 1
      omega
    · rw [updL_ne e]
      by_cases c : 24 * t + j + (n - k) ≤ q ∧ q < 24 * t + j + n
      · rw [cpL_in (by omega) (by omega), cpL_in (by omega) (by omega)]
        congr 1
        omega
      · rw [cpL_out (by omega), cpL_out (by omega)]
  · rw [bX6_copy_110_2, if_pos (by rw [n_le (by omega) (by omega)]; omega), Nat.sub_self, Nat.add_zero, Nat.add_zero]
theorem copy_same (a b c d e : Int32) : bX6_copy_110_1 a b c d e = bX6_copy_110 a b c d e := rfl
section P17
variable {th lan siz lanM sizM : Nat → Int32} {itm : Nat → Nat → Int64} {itmM : Nat → Int64}
theorem SHT_copy {f i t j n : Nat} (h : SHT th lan siz itm lanM sizM itmM) (h1 : i + n ≤ 24) (h2 : j + n ≤ 24) (hf : f < 4) (ht : t < 4) (hth : th f = 1) : SHT th lan siz (va_up itm t (va_cpy (itm f) (itm t) i j n)) lanM sizM (cpL itmM (24 * f + i) (24 * t + j) n) := by
  have ef : ∀ q, q < 24 → itm f q = itmM (24 * f + q) := by
    rcases h f hf with ⟨a, _⟩ | ⟨l, m, _, _, _, _, _, _, _, e⟩
    · rw [a] at hth
      exact absurd hth (by decide)
    · exact e
  intro k hk
  rcases h k hk with a | ⟨l, m, a1, a2, a3, a4, a5, a6, a7, a8⟩
  · exact Or.inl a
  · refine Or.inr ⟨l, m, a1, a2, a3, a4, a5, a6, a7, fun q hq => ?_⟩
    by_cases e : k = t
    · subst e
      rw [va_up_self]
      by_cases c : j ≤ q ∧ q < j + n
      · rw [pk_cpy_in c.1 c.2, cpL_in (by omega) (by omega), ef _ (by omega)]
        congr 1
        omega
      · rw [pk_cpy_out (by omega), cpL_out (by omega), a8 q hq]
    · rw [va_up_ne _ _ e, cpL_out (by omega), a8 q hq]
theorem pub_copy {p1 p2 p3 p4 p5 : Int32} (h : SHT th lan siz itm lanM sizM itmM) : ∃ r itm' itmM', fX5_copy p1 p2 p3 p4 p5 th lan siz itm = some (r, itm') ∧ fX6_copy p1 p2 p3 p4 p5 lanM sizM itmM = some (r, itmM') ∧ SHT th lan siz itm' lanM sizM itmM' := by
  unfold fX5_copy fX6_copy
  rcases ixc p1 (n := 4) (by omega) with ⟨f, hf, rfl⟩ | hn
  · rw [(s_isSheet_y hf).1, (s_isSheet_y hf).2, Option.bind_some, Option.bind_some, if_neg n10, if_neg n10]
    rcases ixc p3 (n := 4) (by omega) with ⟨t, ht, rfl⟩ | hn
    · rw [(s_isSheet_y ht).1, (s_isSheet_y ht).2, Option.bind_some, Option.bind_some, if_neg n10, if_neg n10]
      simp only [gin_nI hf (by decide), gin_nI ht (by decide), n_cl (show f < 2147483648 by omega), n_cl (show t < 2147483648 by omega)]
      rcases h f hf with ⟨a1, a2⟩ | ⟨l, m, a1, a2, a3, a4, a5, a6, a7, a8⟩
      · rw [if_pos a1, if_pos (by rw [a2]; decide)]
        exact ⟨_, _, _, rfl, rfl, h⟩
      · rw [if_neg (show ¬ th f = 0 by rw [a3]; decide), if_neg (show ¬ lanM f < 0 by rw [a6]; exact nI_pos (by omega))]
        rcases h t ht with ⟨b1, b2⟩ | ⟨l2, m2, b1, b2, b3, b4, b5, b6, b7, b8⟩
        · rw [if_pos b1, if_neg (show ¬ 0 ≤ lanM t by rw [b2]; decide)]
          exact ⟨_, _, _, rfl, rfl, h⟩
        · rw [if_neg (show ¬ th t = 0 by rw [b3]; decide), if_pos (show 0 ≤ lanM t by rw [b6]; exact nI_pos' (by omega)), a4, b4, a6, b6]
          by_cases c : nI l = nI l2
          · rw [if_pos c, if_pos c, a5, a7, b5, b7]
            rcases reach (p1 := p2) (p2 := p5) a2 with ⟨e1, e2, i, n, rfl, rfl, e5⟩ | ⟨e1, e2⟩
            · rw [e1, e2, Option.bind_some, Option.bind_some, if_neg n10, if_neg n10]
              rcases reach (p1 := p4) (p2 := nI n) b2 with ⟨g1, g2, j, n', rfl, g4, g5⟩ | ⟨g1, g2⟩
              · rw [g1, g2, Option.bind_some, Option.bind_some, if_neg n10, if_neg n10]
                obtain rfl := (n_eq (by omega) (by omega)).mp g4
                rw [gcp_n (by omega) (by omega) (by decide) (by decide), n_cl (by omega), n_cl (by omega), n_cl (by omega)]
                refine ⟨nI n, _, _, rfl, ?_, SHT_copy h (i := i) (j := j) (n := n) (by omega) (by omega) hf ht a3⟩
                by_cases q : nI f = nI t
                · obtain rfl := (n_eq (by omega) (by omega)).mp q
                  rw [if_pos rfl]
                  by_cases q2 : nI j ≤ nI i
                  · rw [if_pos q2, copy_same, m_copyF (by omega) (by omega) hf hf (Or.inr ((n_le (by omega) (by omega)).mp q2))]
                  · rw [if_neg q2, m_copyB (by omega) (by omega) hf hf ⟨rfl, by rw [n_le (by omega) (by omega)] at q2; omega⟩]
                · rw [if_neg q, m_copyF (by omega) (by omega) hf ht (Or.inl (fun z => q (by rw [z])))]
              · rw [g1, g2, Option.bind_some, Option.bind_some, if_pos n00, if_pos n00]
                exact ⟨_, _, _, rfl, rfl, h⟩
            · rw [e1, e2, Option.bind_some, Option.bind_some, if_pos n00, if_pos n00]
              exact ⟨_, _, _, rfl, rfl, h⟩
          · rw [if_neg c, if_neg c]
            exact ⟨_, _, _, rfl, rfl, h⟩
    · rw [(s_isSheet_n hn).1, (s_isSheet_n hn).2]
      exact ⟨_, _, _, rfl, rfl, h⟩
  · rw [(s_isSheet_n hn).1, (s_isSheet_n hn).2]
    exact ⟨_, _, _, rfl, rfl, h⟩
end P17
