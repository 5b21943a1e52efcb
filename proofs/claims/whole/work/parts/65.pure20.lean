/-! PURE, 20: two -/
theorem pow_bit (i d : Nat) : (2 ^ i).testBit d = decide (i = d) := by
  rw [Nat.testBit_two_pow]
theorem both_bits {P Q : Nat → Bool} {nd i j : Nat} (hi : i < nd) (hj : j < nd) (hij : i ≠ j) (hP : ∀ d, d ≠ i → d ≠ j → Q d = P d) (hqi : Q i = !P i) (hqj : Q j = !P j) : ∀ d, d < nd → (mk P nd ^^^ (2 ^ i ||| 2 ^ j)).testBit d = Q d := by
  intro d hd
  rw [Nat.testBit_xor, Nat.testBit_or, mk_test hd, pow_bit, pow_bit]
  by_cases e1 : d = i
  · subst e1
    rw [hqi, decide_eq_true (rfl : d = d)]
    cases P d <;> simp
  · by_cases e2 : d = j
    · subst e2
      rw [hqj, decide_eq_true (rfl : d = d)]
      cases P d <;> simp
    · rw [hP d e1 e2, decide_eq_false (fun z => e1 z.symm), decide_eq_false (fun z => e2 z.symm)]
      cases P d <;> rfl
theorem both_lt {P : Nat → Bool} {nd i j : Nat} (hi : i < nd) (hj : j < nd) : mk P nd ^^^ (2 ^ i ||| 2 ^ j) < 2 ^ nd := by
  have a := mk_lt P nd
  have b : 2 ^ i < 2 ^ nd := Nat.pow_lt_pow_right (by omega) hi
  have c : 2 ^ j < 2 ^ nd := Nat.pow_lt_pow_right (by omega) hj
  exact Nat.xor_lt_two_pow a (Nat.or_lt_two_pow b c)
section P20
variable {men md day drw : Int32} {bu st ki we wo wr now : Nat → Int32}
theorem s_change {nm nd dy i j a b : Nat} {ki0 we0 wo0 : Nat → Nat} {wr0 : Nat → Option Nat} (h : okD nm nd ki0 we0 wo0 wr0) (c7 : rD nd ki0 we0 wo0 ki we wo) (c8 : rW nd wr0 wr) (hdy : dy ≤ 9999) (hi : i < nd) (hj : j < nd) (hij : i ≠ j) (ea : wr0 i = some a) (eb : wr0 j = some b) (hab : a ≠ b) :
    fX1_loadsIfChanged (nI i) (nI j) (nI nd) (nI dy) ki we wo wr = some (nI (loadN nd ki0 we0 wo0 (va_up (va_up wr0 i (some b)) j (some a)) a (dy % 2)) + nI (loadN nd ki0 we0 wo0 (va_up (va_up wr0 i (some b)) j (some a)) b (dy % 2))) := by
  have h6 := h.2.1
  have ha := okW h i hi a ea
  have hb := okW h j hj b eb
  have w1 : wr i = en (some a) := by rw [c8 i hi, ea]
  have w2 : wr j = en (some b) := by rw [c8 j hj, eb]
  have W1 := s_wornBy (o := some a) h c8 (fun m e => by cases e; exact ha)
  have W2 := s_wornBy (o := some b) h c8 (fun m e => by cases e; exact hb)
  unfold fX1_loadsIfChanged
  rw [nm_def, gin_nI (by omega) (by decide), nm_def, gin_nI (by omega) (by decide), nm_def, n_cl (show i < 2147483648 by omega), n_cl (show j < 2147483648 by omega), w1, w2, W1, Option.bind_some, shl1 (by omega), shl1 (by omega), n_or, n_xor, show en (some a) = nI a from rfl, show en (some b) = nI b from rfl, s_loadOfSet h c7 (both_lt hi hj) ha (by omega), Option.bind_some, show nI b = en (some b) from rfl, W2, Option.bind_some, n_xor, show en (some b) = nI b from rfl, s_loadOfSet h c7 (both_lt hi hj) hb (by omega), Option.bind_some]
  have e1 : loadS nd ki0 we0 wo0 (fun q => (mk (fun d => wr0 d == some a) nd ^^^ (2 ^ i ||| 2 ^ j)).testBit q) a (dy % 2) = loadN nd ki0 we0 wo0 (va_up (va_up wr0 i (some b)) j (some a)) a (dy % 2) :=
    loadS_ext (both_bits hi hj hij (fun d d1 d2 => by rw [va_up_ne _ _ d2, va_up_ne _ _ d1]) (by rw [va_up_ne _ _ hij, va_up_self, ea]; simp [Ne.symm hab]) (by rw [va_up_self, eb]; simp [Ne.symm hab]))
  have e2 : loadS nd ki0 we0 wo0 (fun q => (mk (fun d => wr0 d == some b) nd ^^^ (2 ^ i ||| 2 ^ j)).testBit q) b (dy % 2) = loadN nd ki0 we0 wo0 (va_up (va_up wr0 i (some b)) j (some a)) b (dy % 2) :=
    loadS_ext (both_bits hi hj hij (fun d d1 d2 => by rw [va_up_ne _ _ d2, va_up_ne _ _ d1]) (by rw [va_up_ne _ _ hij, va_up_self, ea]; simp [hab]) (by rw [va_up_self, eb]; simp [hab]))
  rw [e1, e2]
theorem pub_two {p1 : Int32} {tri : Nat → Int32} (h : SY men md day drw bu st ki we wo wr now) : ∃ r tri', fX5_two p1 md day ki we wo wr = some r ∧ fX6_two p1 now tri = some (r, tri') := by
  obtain ⟨nm, nd, dy, dr, bu0, st0, ki0, we0, wo0, wr0, ⟨hk, hb, hdy, hdr⟩, ⟨rfl, rfl, rfl, rfl, c5, c6, c7, c8⟩, hR⟩ := h
  have h5 := hk.1
  have h6 := hk.2.1
  have e25 : ∀ {α : Type} (A : Option α), gin 25 191 A = A := fun A => gin_nI (k := 25) (by decide) (by decide)
  have c25 : Int32.toNatClampNeg 25 = 25 := by decide
  have e13 : (13 : Int32) = nI 13 := rfl
  unfold fX5_two fX6_two
  by_cases a1 : p1 < 0
  · rw [if_pos a1, in_l a1]
    exact ⟨_, _, rfl, rfl⟩
  rw [if_neg a1]
  by_cases a2 : p1 ≤ 1
  · rw [if_pos a2, in_y a1 (Int32.not_lt.mpr a2), Option.bind_some, if_neg n10]
    obtain ⟨r, s, q1, q2, q3⟩ := lp_sim (b1 := bX5_two_20 (nI nd) (nI dy) ki we wo wr p1) (b2 := bX6_two_20 now p1) nd
      (fun k a b => a.1 = b.1 ∧ a.2.1 = b.2.1 ∧ a.2.2 = nI k ∧ b.2.2.1 = nI k) (fun r s => r = s.1) (by omega)
      (fun i a b hi hrel => by
        obtain ⟨w, l, a3'⟩ := a
        obtain ⟨b1', b2', b3', tr⟩ := b
        obtain ⟨g1, g2, g3, g4⟩ := hrel
        simp only at g1 g2 g3 g4
        subst g1 g2 g3 g4
        obtain ⟨r, s, q1, q2, q3⟩ := lp_simK (b1 := bX5_two_38 (nI nd) (nI dy) ki we wo wr (nI i)) (b2 := bX6_two_38 now (nI i)) (nd - (i + 1))
          (fun k a b => a.1 = b.1 ∧ a.2.1 = b.2.1 ∧ a.2.2 = nI (i + 1 + k) ∧ b.2.2.1 = nI (i + 1 + k)) (fun a b => a.1 = b.1 ∧ a.2.1 = b.2.1 ∧ a.2.2 = nI (i + 1) ∧ b.2.2.1 = nI (i + 1)) (by omega)
          (fun k a b hk2 hrel => by
            obtain ⟨w, l, a3'⟩ := a
            obtain ⟨b1', b2', b3', tr⟩ := b
            obtain ⟨g1, g2, g3, g4⟩ := hrel
            simp only at g1 g2 g3 g4
            subst g1 g2 g3 g4
            have hj : i + 1 + k < nd := by omega
            have z : ¬ nI nd ≤ nI (i + 1 + k) := fun q => by have := (n_le (by omega) (by omega)).mp q; omega
            have wi : wr i = en (wr0 i) := c8 i hi
            have wj : wr (i + 1 + k) = en (wr0 (i + 1 + k)) := c8 _ hj
            have mi : now (13 + i) = en (wr0 i) := (hR.2.2.2.2.2 i hi).2.2.2
            have mj : now (13 + (i + 1 + k)) = en (wr0 (i + 1 + k)) := (hR.2.2.2.2.2 _ hj).2.2.2
            have ni : ∀ {α : Type} (A : Option α), gin (nI i) 6 A = A := fun A => gin_nI (by omega) (by decide)
            have nj : ∀ {α : Type} (A : Option α), gin (nI (i + 1 + k)) 6 A = A := fun A => gin_nI (by omega) (by decide)
            have n1i : ∀ {α : Type} (A : Option α), gin (13 + nI i) 191 A = A := fun A => gin_add (c := 13) (by omega) (by decide)
            have n1j : ∀ {α : Type} (A : Option α), gin (13 + nI (i + 1 + k)) 191 A = A := fun A => gin_add (c := 13) (by omega) (by decide)
            have ki' : (nI i).toNatClampNeg = i := n_cl (by omega)
            have kj' : (nI (i + 1 + k)).toNatClampNeg = i + 1 + k := n_cl (by omega)
            have k1i : (13 + nI i).toNatClampNeg = 13 + i := cl_add (c := 13) (by omega)
            have k1j : (13 + nI (i + 1 + k)).toNatClampNeg = 13 + (i + 1 + k) := cl_add (c := 13) (by omega)
            have ad : nI (i + 1 + k) + 1 = nI (i + 1 + (k + 1)) := n_add1 _
            rcases ea : wr0 i with _ | a
            · refine ⟨(w, l, nI (i + 1 + (k + 1))), (w, l, nI (i + 1 + (k + 1)), tr), fun J K => ?_, fun J K => ?_, rfl, rfl, rfl, rfl⟩
              · rw [bX5_two_38, if_neg z, fX1_wornByTwo, ni, ki', wi, ea, if_pos (show en none = -4 from rfl), Option.bind_some, if_pos n00, nm_def, ad]
              · rw [bX6_two_38, e25, c25, hR.2.1, if_neg z, n1i, nm_def, k1i, mi, n1j, nm_def, ea, if_pos (show en none = -4 from rfl), nm_def, ad]
            · have na : ¬ en (some a) = -4 := fun q => by have := (en_none (o := some a) (by rw [← ea]; exact okW hk i hi)).mp q; cases this
              rcases eb : wr0 (i + 1 + k) with _ | b
              · refine ⟨(w, l, nI (i + 1 + (k + 1))), (w, l, nI (i + 1 + (k + 1)), tr), fun J K => ?_, fun J K => ?_, rfl, rfl, rfl, rfl⟩
                · rw [bX5_two_38, if_neg z, fX1_wornByTwo, ni, ki', wi, ea, if_neg na, nj, kj', wj, eb, if_pos (show en none = -4 from rfl), Option.bind_some, if_pos n00, nm_def, ad]
                · rw [bX6_two_38, e25, c25, hR.2.1, if_neg z, n1i, nm_def, k1i, mi, n1j, nm_def, ea, if_neg na, k1j, mj, eb, if_pos (show en none = -4 from rfl), nm_def, ad]
              · have nb : ¬ en (some b) = -4 := fun q => by have := (en_none (o := some b) (by rw [← eb]; exact okW hk _ hj)).mp q; cases this
                by_cases hab : a = b
                · subst hab
                  refine ⟨(w, l, nI (i + 1 + (k + 1))), (w, l, nI (i + 1 + (k + 1)), tr), fun J K => ?_, fun J K => ?_, rfl, rfl, rfl, rfl⟩
                  · rw [bX5_two_38, if_neg z, fX1_wornByTwo, ni, ki', wi, ea, if_neg na, nj, kj', wj, eb, if_neg na, ni, nj, if_pos rfl, Option.bind_some, if_pos n00, nm_def, ad]
                  · rw [bX6_two_38, e25, c25, hR.2.1, if_neg z, n1i, nm_def, k1i, mi, n1j, nm_def, ea, if_neg na, k1j, mj, eb, if_neg na, if_pos rfl, nm_def, ad]
                · have ha := okW hk i hi a ea
                  have hb' := okW hk _ hj b eb
                  have nab : ¬ en (some a) = en (some b) := fun q => hab (by have := (en_eq (o := some a) (o' := some b) (fun m e => by cases e; exact ha) (fun m e => by cases e; exact hb')).mp q; injection this)
                  have hRb := RM_begin (t := tr) h6 h5 hR
                  have hk' : okD nm nd ki0 we0 wo0 (va_up (va_up wr0 i (some b)) (i + 1 + k) (some a)) := okD_wr (okD_wr hk (fun m q => by cases q; exact (hk.2.2.2 _ hj).2.2.2.2 b eb)) (fun m q => by cases q; exact (hk.2.2.2 _ hi).2.2.2.2 a ea)
                  have hR' := RM_wear (d := i + 1 + k) (o := some a) h6 h5 (by omega) (RM_wear (d := i) (o := some b) h6 h5 (by omega) hRb)
                  have M1 := m_load hk' hR' (by omega) ha
                  have M2 := m_load hk' hR' (by omega) hb'
                  have C1 := s_change hk c7 c8 hdy hi hj (by omega) ea eb hab
                  have m10 : 10 * nI i + nI (i + 1 + k) = nI (10 * i + (i + 1 + k)) := by rw [show (10 : Int32) * nI i = nI (10 * i) from pk_mul 10 i, n_add]
                  have A1 : ∀ J K, bX5_two_38 (nI nd) (nI dy) ki we wo wr (nI i) J K (w, l, nI (i + 1 + k)) = (if w = (-4) then K (nI (10 * i + (i + 1 + k)), nI (loadN nd ki0 we0 wo0 (va_up (va_up wr0 i (some b)) (i + 1 + k) (some a)) a (dy % 2)) + nI (loadN nd ki0 we0 wo0 (va_up (va_up wr0 i (some b)) (i + 1 + k) (some a)) b (dy % 2)), nI (i + 1 + (k + 1))) else if l ≤ nI (loadN nd ki0 we0 wo0 (va_up (va_up wr0 i (some b)) (i + 1 + k) (some a)) a (dy % 2)) + nI (loadN nd ki0 we0 wo0 (va_up (va_up wr0 i (some b)) (i + 1 + k) (some a)) b (dy % 2)) then K (w, l, nI (i + 1 + (k + 1))) else K (nI (10 * i + (i + 1 + k)), nI (loadN nd ki0 we0 wo0 (va_up (va_up wr0 i (some b)) (i + 1 + k) (some a)) a (dy % 2)) + nI (loadN nd ki0 we0 wo0 (va_up (va_up wr0 i (some b)) (i + 1 + k) (some a)) b (dy % 2)), nI (i + 1 + (k + 1)))) := fun J K => by
                    rw [bX5_two_38, if_neg z, fX1_wornByTwo, ni, ki', wi, ea, if_neg na, nj, kj', wj, eb, if_neg nb, ni, nj, if_neg nab, Option.bind_some, if_neg n10, C1, Option.bind_some]
                    simp only [nm_def, m10, ad]
                  have A2 : ∀ J K, bX6_two_38 now (nI i) J K (w, l, nI (i + 1 + k), tr) = (if w = (-4) then K (nI (10 * i + (i + 1 + k)), nI (loadN nd ki0 we0 wo0 (va_up (va_up wr0 i (some b)) (i + 1 + k) (some a)) a (dy % 2)) + nI (loadN nd ki0 we0 wo0 (va_up (va_up wr0 i (some b)) (i + 1 + k) (some a)) b (dy % 2)), nI (i + 1 + (k + 1)), upd (upd (fun q => if q < 38 then now q else tr q) (13 + i) (en (some b))) (13 + (i + 1 + k)) (en (some a))) else if l ≤ nI (loadN nd ki0 we0 wo0 (va_up (va_up wr0 i (some b)) (i + 1 + k) (some a)) a (dy % 2)) + nI (loadN nd ki0 we0 wo0 (va_up (va_up wr0 i (some b)) (i + 1 + k) (some a)) b (dy % 2)) then K (w, l, nI (i + 1 + (k + 1)), upd (upd (fun q => if q < 38 then now q else tr q) (13 + i) (en (some b))) (13 + (i + 1 + k)) (en (some a))) else K (nI (10 * i + (i + 1 + k)), nI (loadN nd ki0 we0 wo0 (va_up (va_up wr0 i (some b)) (i + 1 + k) (some a)) a (dy % 2)) + nI (loadN nd ki0 we0 wo0 (va_up (va_up wr0 i (some b)) (i + 1 + k) (some a)) b (dy % 2)), nI (i + 1 + (k + 1)), upd (upd (fun q => if q < 38 then now q else tr q) (13 + i) (en (some b))) (13 + (i + 1 + k)) (en (some a)))) := fun J K => by
                    rw [bX6_two_38, e25, c25, hR.2.1, if_neg z, n1i, nm_def, k1i, mi, n1j, nm_def, ea, if_neg na, k1j, mj, eb, if_neg nb, if_neg nab, m_begin, Option.bind_some, n1i, n1j, show fX6_load (en (some a)) _ = _ from M1, Option.bind_some, show fX6_load (en (some b)) _ = _ from M2, Option.bind_some]
                    simp only [nm_def, m10, ad]
                  by_cases c1 : w = -4
                  · exact ⟨_, _, fun J K => by rw [A1, if_pos c1], fun J K => by rw [A2, if_pos c1], rfl, rfl, rfl, rfl⟩
                  · by_cases c2 : l ≤ nI (loadN nd ki0 we0 wo0 (va_up (va_up wr0 i (some b)) (i + 1 + k) (some a)) a (dy % 2)) + nI (loadN nd ki0 we0 wo0 (va_up (va_up wr0 i (some b)) (i + 1 + k) (some a)) b (dy % 2))
                    · exact ⟨_, _, fun J K => by rw [A1, if_neg c1, if_pos c2], fun J K => by rw [A2, if_neg c1, if_pos c2], rfl, rfl, rfl, rfl⟩
                    · exact ⟨_, _, fun J K => by rw [A1, if_neg c1, if_neg c2], fun J K => by rw [A2, if_neg c1, if_neg c2], rfl, rfl, rfl, rfl⟩)
          (fun a b hrel => by
            obtain ⟨w, l, a3'⟩ := a
            obtain ⟨b1', b2', b3', tr⟩ := b
            obtain ⟨g1, g2, g3, g4⟩ := hrel
            simp only at g1 g2 g3 g4
            subst g1 g2 g3 g4
            have z : nI nd ≤ nI (i + 1 + (nd - (i + 1))) := by rw [n_le (by omega) (by omega)]; omega
            refine ⟨(w, l, nI (i + 1)), (w, l, nI (i + 1), tr), fun J K => ?_, fun J K => ?_, rfl, rfl, rfl, rfl⟩
            · rw [bX5_two_38, if_pos z, nm_def, n_add1]
            · rw [bX6_two_38, e25, c25, hR.2.1, if_pos z, nm_def, n_add1])
          (a0 := (w, l, nI (i + 1))) (b0 := (w, l, nI (i + 1), tr)) ⟨rfl, rfl, rfl, rfl⟩
        have z : ¬ nI nd ≤ nI i := fun q => by have := (n_le (by omega) (by omega)).mp q; omega
        exact ⟨r, s, fun K => by rw [bX5_two_20, if_neg z, nm_def, n_add1, q1], fun K => by rw [bX6_two_20, e25, c25, hR.2.1, if_neg z, nm_def, n_add1, q2], q3⟩)
      (fun a b hrel => by
        obtain ⟨w, l, a3'⟩ := a
        obtain ⟨b1', b2', b3', tr⟩ := b
        obtain ⟨g1, g2, g3, g4⟩ := hrel
        simp only at g1 g2 g3 g4
        subst g1 g2 g3 g4
        have z : nI nd ≤ nI nd := by rw [n_le (by omega) (by omega)]; omega
        by_cases c : p1 = 0
        · exact ⟨w, (w, tr), fun K => by rw [bX5_two_20, if_pos z, if_pos c], fun K => by rw [bX6_two_20, e25, c25, hR.2.1, if_pos z, if_pos c], rfl⟩
        · exact ⟨l, (l, tr), fun K => by rw [bX5_two_20, if_pos z, if_neg c], fun K => by rw [bX6_two_20, e25, c25, hR.2.1, if_pos z, if_neg c], rfl⟩)
      (a0 := (-4, -4, 0)) (b0 := (-4, -4, 0, tri)) ⟨rfl, rfl, rfl, rfl⟩
    obtain ⟨s1, s2⟩ := s
    simp only at q3
    subst q3
    exact ⟨_, _, q1, q2⟩
  · rw [if_neg a2, in_h a1 (Int32.not_le.mp a2)]
    exact ⟨_, _, rfl, rfl⟩
end P20
