/-! PURE, 31: the reference's ways -/
theorem q_g25 {α : Type} (A : Option α) : gin 25 191 A = A := gin_nI (k := 25) (by decide) (by decide)
theorem q_g19 {α : Type} (A : Option α) : gin 19 191 A = A := gin_nI (k := 19) (by decide) (by decide)
theorem q_c25 : Int32.toNatClampNeg 25 = 25 := by decide
theorem q_c19 : Int32.toNatClampNeg 19 = 19 := by decide
theorem q_13 : (13 : Int32) = nI 13 := rfl
theorem n_ne4 {x : Nat} (h : x < 2147483648) : ¬ nI x = -4 := fun e => nI_pos (n := x) h (by rw [e]; decide)
theorem i_m1 (x : Int32) : x + (-1) = x - 1 := (Int32.sub_eq_add_neg x 1).symm
section P31
variable {nm nd dy dr : Nat} {bu st ki we wo : Nat → Nat} {wr : Nat → Option Nat} {s : Nat → Int32}
/-- which medals are worn -/
def wn (nd : Nat) (wr : Nat → Option Nat) (d : Nat) : Bool := decide (d < nd) && (wr d).isSome
theorem wn_t {d m : Nat} (h : d < nd) (e : wr d = some m) : wn nd wr d = true := by
  unfold wn
  rw [e, decide_eq_true h]
  rfl
theorem wn_f {d : Nat} (e : wr d = none) : wn nd wr d = false := by
  unfold wn
  rw [e]
  exact Bool.and_false _
theorem wn_o {d : Nat} (h : nd ≤ d) : wn nd wr d = false := by
  unfold wn
  rw [decide_eq_false (by omega)]
  rfl
theorem wn_lt {d : Nat} (h : wn nd wr d = true) : d < nd ∧ ∃ m, wr d = some m := by
  unfold wn at h
  rw [Bool.and_eq_true] at h
  exact ⟨of_decide_eq_true h.1, Option.isSome_iff_exists.mp h.2⟩
theorem wn_nd (h6 : nd ≤ 6) : cn (wn nd wr) 6 = cn (wn nd wr) nd := cn_stop 6 h6 (fun d h _ => wn_o h)
theorem wn_b (h : okD nm nd ki we wo wr) : ∀ d, d < 6 → wn nd wr d = true → 0 < nm := fun d _ e => h.2.2.1 (by have := (wn_lt e).1; omega)
theorem nw_nd (h6 : nd ≤ 6) : nw (wn nd wr) nm nd = 1 := by
  unfold nw
  rw [wn_nd h6, Nat.sub_self, Nat.pow_zero]
theorem m_ways (h : okD nm nd ki we wo wr) (hR : RM nm nd dy dr bu st ki we wo wr s) : fX6_ways s = some (nI (nw (wn nd wr) nm 0)) := by
  obtain ⟨r1, r2, r3, r4, r5, r6⟩ := hR
  have h6 := h.2.1
  have h5 := h.1
  have eN : nw (wn nd wr) nm 0 = nm ^ cn (wn nd wr) nd := by
    unfold nw
    rw [wn_nd h6]
    rfl
  unfold fX6_ways
  rw [eN]
  refine lp_to (fun k => (nI (nm ^ cn (wn nd wr) k), nI k)) nd ?_ (by omega) (fun k hk K => ?_) (fun K => ?_)
  · show (nI (nm ^ 0), nI 0) = (1, 0)
    rw [Nat.pow_zero]
    rfl
  · rw [bX6_ways_4, q_g25, q_c25, r2, if_neg (by rw [n_le (by omega) (by omega)]; omega), q_13, gin_add (by omega) (by decide), cl_add (by omega), (r6 k hk).2.2.2]
    show _ = K (nI (nm ^ cn (wn nd wr) (k + 1)), nI (k + 1))
    cases e : wr k with
    | none => rw [if_pos (show en none = -4 from rfl), nm_def, nm_def, n_add1, Int32.mul_one, cn_f (wn_f e)]
    | some m => rw [if_neg (show ¬ en (some m) = -4 from n_ne4 (by have := okW h k hk m e; omega)), q_g19, q_c19, r1, nm_def, nm_def, n_add1, pk_mul, cn_t (wn_t hk e), Nat.pow_succ]
  · rw [bX6_ways_4, q_g25, q_c25, r2, if_pos (by rw [n_le (by omega) (by omega)]; omega)]
/-- who wears what, hung by the way c -/
def hw (nd : Nat) (wr : Nat → Option Nat) (b c : Nat) : Nat → Option Nat := fun j => if wn nd wr j = true then some (dg (wn nd wr) b c j) else none
theorem okD_hw {c : Nat} (h : okD nm nd ki we wo wr) : okD nm nd ki we wo (hw nd wr nm c) := by
  obtain ⟨a1, a2, a3, a4⟩ := h
  refine ⟨a1, a2, a3, fun d hd => ?_⟩
  obtain ⟨b1, b2, b3, b4, b5⟩ := a4 d hd
  refine ⟨b1, b2, b3, b4, fun m e => ?_⟩
  unfold hw at e
  by_cases c : wn nd wr d = true
  · rw [if_pos c] at e
    cases e
    exact dg_lt (a3 (by omega))
  · rw [if_neg c] at e
    cases e
def chg (nd : Nat) (wr : Nat → Option Nat) (b c : Nat) (j : Nat) : Bool := wn nd wr j && !(wr j == some (dg (wn nd wr) b c j))
theorem chg_f {c d : Nat} (e : wn nd wr d = false) : chg nd wr nm c d = false := by
  unfold chg
  rw [e]
  rfl
theorem chg_s {c d m : Nat} (hd : d < nd) (e : wr d = some m) : chg nd wr nm c d = !(m == dg (wn nd wr) nm c d) := by
  unfold chg
  rw [wn_t hd e, e]
  rfl
set_option maxHeartbeats 1000000 in
theorem m_hangBy {c : Nat} {t : Nat → Int32} (h : okD nm nd ki we wo wr) (hR : RM nm nd dy dr bu st ki we wo wr s) (hc : c < 1000000) : ∃ t', fX6_hangBy (nI c) s t = some (nI (cn (chg nd wr nm c) 6), t') ∧ RM nm nd dy dr bu st ki we wo (hw nd wr nm c) t' := by
  obtain ⟨r1, r2, r3, r4, r5, r6⟩ := hR
  have h6 := h.2.1
  have h5 := h.1
  have eP : cn (chg nd wr nm c) 6 = cn (chg nd wr nm c) nd := cn_stop 6 h6 (fun d h _ => chg_f (wn_o h))
  unfold fX6_hangBy
  rw [m_begin, Option.bind_some, q_g25, q_c25, r2, nm_def, eP]
  obtain ⟨⟨ch, t'⟩, ⟨e1, e2⟩, e3⟩ := lp_inv (β := Int32 × (Nat → Int32)) (body := bX6_hangBy_19 s) nd
    (fun i a => a.1 = nI (c / nw (wn nd wr) nm (nd - i)) ∧ a.2.1 = nI (cn (chg nd wr nm c) nd - cn (chg nd wr nm c) (nd - i)) ∧ a.2.2.1 = nI (nd - i) - 1 ∧ ∀ q, a.2.2.2 q = if 13 + (nd - i) ≤ q ∧ q < 13 + nd then en (hw nd wr nm c (q - 13)) else if q < 38 then s q else t q)
    (fun r => r.1 = nI (cn (chg nd wr nm c) nd) ∧ ∀ q, r.2 q = if 13 ≤ q ∧ q < 13 + nd then en (hw nd wr nm c (q - 13)) else if q < 38 then s q else t q) (fun r => some r)
    (a0 := (nI c, 0, nI nd - 1, fun q => if q < 38 then s q else t q))
    ⟨by show nI c = nI (c / nw (wn nd wr) nm nd); rw [nw_nd h6, Nat.div_one], by show (0 : Int32) = nI (cn (chg nd wr nm c) nd - cn (chg nd wr nm c) nd); rw [Nat.sub_self]; rfl, rfl, fun q => by show _ = if 13 + nd ≤ q ∧ q < 13 + nd then _ else _; rw [if_neg (show ¬ (13 + nd ≤ q ∧ q < 13 + nd) by omega)]⟩ (by omega)
    (fun i hi a hI => by
      obtain ⟨r, ch, dd, tt⟩ := a
      obtain ⟨g1, g2, g3, g4⟩ := hI
      simp only at g1 g2 g3 g4
      obtain ⟨d, hd⟩ : ∃ d, nd - i = d + 1 := ⟨nd - i - 1, by omega⟩
      have hd2 : nd - (i + 1) = d := by omega
      have hdn : d < nd := by omega
      rw [hd] at g1 g2 g3 g4
      rw [n_sub1 (by omega), show d + 1 - 1 = d by omega] at g3
      subst g1 g2 g3
      rw [hd2]
      have hcd : c / nw (wn nd wr) nm (d + 1) ≤ c := Nat.div_le_self _ _
      have lt0 : ¬ nI d < 0 := nI_pos (by omega)
      have w : s (13 + d) = en (wr d) := (r6 d hdn).2.2.2
      cases e : wr d with
      | none =>
        have z := wn_f (nd := nd) e
        refine ⟨(nI (c / nw (wn nd wr) nm (d + 1)), nI (cn (chg nd wr nm c) nd - cn (chg nd wr nm c) (d + 1)), nI d - 1, tt), ⟨by rw [nw_f z], by rw [cn_f (chg_f z)], rfl, fun q => ?_⟩, fun K => ?_⟩
        · show tt q = _
          rw [g4 q]
          by_cases e1 : q = 13 + d
          · subst e1
            rw [if_neg (by omega), if_pos (by omega), if_pos (by omega), w, e, show 13 + d - 13 = d by omega]
            unfold hw
            rw [if_neg (by rw [z]; decide)]
          · by_cases e2 : 13 + (d + 1) ≤ q ∧ q < 13 + nd
            · rw [if_pos e2, if_pos (by omega)]
            · rw [if_neg e2, if_neg (show ¬ (13 + d ≤ q ∧ q < 13 + nd) by omega)]
        · rw [bX6_hangBy_19, if_neg lt0, q_13, gin_add (by omega) (by decide), cl_add (by omega), w, e, if_pos (show en none = -4 from rfl), nm_def, i_m1]
      | some m =>
        have z := wn_t hdn e
        have hm : m < nm := (h.2.2.2 d hdn).2.2.2.2 m e
        have hg : dg (wn nd wr) nm c d < nm := dg_lt (by omega)
        have ed : c / nw (wn nd wr) nm (d + 1) / nm = c / nw (wn nd wr) nm d := by rw [Nat.div_div_eq_div_mul, ← nw_t (by omega) z]
        have er : nI (c / nw (wn nd wr) nm (d + 1)) - nI (c / nw (wn nd wr) nm (d + 1)) / nI nm * nI nm = nI (dg (wn nd wr) nm c d) := pk_rem (by omega) (by omega) (by omega)
        have edd : nI (c / nw (wn nd wr) nm (d + 1)) / nI nm = nI (c / nw (wn nd wr) nm d) := by rw [pk_div (by omega) (by omega) (by omega), ed]
        have hmo := cn_mono (chg nd wr nm c) nd (show d + 1 ≤ nd by omega)
        have ht : ∀ q, upd tt (13 + d) (nI (dg (wn nd wr) nm c d)) q = if 13 + d ≤ q ∧ q < 13 + nd then en (hw nd wr nm c (q - 13)) else if q < 38 then s q else t q := fun q => by
          by_cases e1 : q = 13 + d
          · subst e1
            rw [upd_self, if_pos (by omega), show 13 + d - 13 = d by omega]
            unfold hw
            rw [if_pos z]
            rfl
          · rw [upd_ne e1, g4 q]
            by_cases e2 : 13 + (d + 1) ≤ q ∧ q < 13 + nd
            · rw [if_pos e2, if_pos (by omega)]
            · rw [if_neg e2, if_neg (show ¬ (13 + d ≤ q ∧ q < 13 + nd) by omega)]
        by_cases e3 : dg (wn nd wr) nm c d = m
        · have cf : chg nd wr nm c d = false := by rw [chg_s hdn e, e3]; simp
          refine ⟨(nI (c / nw (wn nd wr) nm d), nI (cn (chg nd wr nm c) nd - cn (chg nd wr nm c) (d + 1)), nI d - 1, upd tt (13 + d) (nI (dg (wn nd wr) nm c d))), ⟨rfl, by rw [cn_f cf], rfl, ht⟩, fun K => ?_⟩
          rw [bX6_hangBy_19, if_neg lt0, q_13, gin_add (by omega) (by decide), cl_add (by omega), w, e, if_neg (show ¬ en (some m) = -4 from n_ne4 (by omega)), q_g19, q_c19, r1, gnz_y (by omega) (by omega), gin_add (by omega) (by decide), q_g19, gnz_y (by omega) (by omega), nm_def, gin_add (by omega) (by decide), gin_add (by omega) (by decide), er, edd, upd_self, if_pos (show nI (dg (wn nd wr) nm c d) = en (some m) by rw [e3]; rfl), nm_def, nm_def, i_m1, Int32.add_zero]
        · have cf : chg nd wr nm c d = true := by
            rw [chg_s hdn e]
            simp [Ne.symm e3]
          have ct := cn_t cf
          refine ⟨(nI (c / nw (wn nd wr) nm d), nI (cn (chg nd wr nm c) nd - cn (chg nd wr nm c) (d + 1)) + 1, nI d - 1, upd tt (13 + d) (nI (dg (wn nd wr) nm c d))), ⟨rfl, by show nI _ + 1 = _; rw [n_add1]; congr 1; omega, rfl, ht⟩, fun K => ?_⟩
          rw [bX6_hangBy_19, if_neg lt0, q_13, gin_add (by omega) (by decide), cl_add (by omega), w, e, if_neg (show ¬ en (some m) = -4 from n_ne4 (by omega)), q_g19, q_c19, r1, gnz_y (by omega) (by omega), gin_add (by omega) (by decide), q_g19, gnz_y (by omega) (by omega), nm_def, gin_add (by omega) (by decide), gin_add (by omega) (by decide), er, edd, upd_self, if_neg (show ¬ nI (dg (wn nd wr) nm c d) = en (some m) from fun q => e3 ((n_eq (by omega) (by omega)).mp q)), nm_def, nm_def, i_m1])
    (fun a hI => by
      obtain ⟨r, ch, dd, tt⟩ := a
      obtain ⟨g1, g2, g3, g4⟩ := hI
      simp only at g1 g2 g3 g4
      rw [Nat.sub_self] at g1 g2 g3 g4
      refine ⟨(ch, tt), ⟨by show ch = _; rw [g2]; rfl, fun q => by show tt q = _; rw [g4 q]⟩, fun K => ?_⟩
      rw [bX6_hangBy_19, g3, if_pos (by decide)])
  simp only at e1 e2
  subst e1
  refine ⟨t', e3, ?_⟩
  have o : ∀ q, (q < 13 ∨ 13 + nd ≤ q) → q < 38 → t' q = s q := fun q h1 h2 => by rw [e2 q, if_neg (by omega), if_pos h2]
  refine ⟨(o 19 (by omega) (by omega)).trans r1, (o 25 (by omega) (by omega)).trans r2, (o 0 (by omega) (by omega)).trans r3, (o 1 (by omega) (by omega)).trans r4, fun i hi => ⟨(o _ (by omega) (by omega)).trans (r5 i hi).1, (o _ (by omega) (by omega)).trans (r5 i hi).2⟩, fun d hd => ⟨(o _ (by omega) (by omega)).trans (r6 d hd).1, (o _ (by omega) (by omega)).trans (r6 d hd).2.1, (o _ (by omega) (by omega)).trans (r6 d hd).2.2.1, ?_⟩⟩
  rw [e2, if_pos (by omega), show 13 + d - 13 = d by omega]
theorem m_greatest (h : okD nm nd ki we wo wr) (hR : RM nm nd dy dr bu st ki we wo wr s) (hdy : dy < 100000) : fX6_greatest s = some (nI (mx (fun m => loadN nd ki we wo wr m (dy % 2)) nm)) := by
  have h5 := h.1
  have hl : ∀ m, loadN nd ki we wo wr m (dy % 2) ≤ 276 := fun m => loadS_le h (by omega)
  have r1 := hR.1
  unfold fX6_greatest
  refine lp_to (fun k => (nI (mx (fun m => loadN nd ki we wo wr m (dy % 2)) k), nI k)) nm rfl (by omega) (fun k hk K => ?_) (fun K => ?_)
  · have hx := mx_le (f := fun m => loadN nd ki we wo wr m (dy % 2)) (B := 276) k (fun d _ => hl d)
    have hlk := hl k
    rw [bX6_greatest_4, q_g19, q_c19, r1, if_neg (by rw [n_le (by omega) (by omega)]; omega), m_load h hR hdy (by omega), Option.bind_some]
    show _ = K (nI (if mx (fun m => loadN nd ki we wo wr m (dy % 2)) k < loadN nd ki we wo wr k (dy % 2) then loadN nd ki we wo wr k (dy % 2) else mx (fun m => loadN nd ki we wo wr m (dy % 2)) k), nI (k + 1))
    by_cases c : loadN nd ki we wo wr k (dy % 2) ≤ mx (fun m => loadN nd ki we wo wr m (dy % 2)) k
    · rw [if_pos ((n_le (by omega) (by omega)).mpr c), if_neg (by omega), nm_def, n_add1]
    · rw [if_neg (fun q => c ((n_le (by omega) (by omega)).mp q)), if_pos (by omega), Option.bind_some, nm_def, n_add1]
  · rw [bX6_greatest_4, q_g19, q_c19, r1, if_pos (by rw [n_le (by omega) (by omega)]; omega)]
end P31
