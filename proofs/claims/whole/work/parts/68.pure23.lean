/-! PURE, 22b: felt, the three loops -/
section P22
variable {nm nd dy dr : Nat} {bu0 st0 ki0 we0 wo0 : Nat → Nat} {wr0 : Nat → Option Nat}
theorem up_rel {f : Nat → Int32} {g : Nat → Nat} {d v nd : Nat} (h : ∀ q, q < nd → q ≠ d → f q = nI (g q)) : ∀ q, q < nd → upd f d (nI v) q = nI (va_up g d v q) := fun q hq => by
  by_cases e : q = d
  · subst e
    rw [upd_self, va_up_self]
  · rw [upd_ne e, va_up_ne _ _ e]
    exact h q hq e
variable {bu st ki we wo wr now : Nat → Int32} {itm : Nat → Nat → Int64} {itmM : Nat → Int64}
theorem felt_kind {m d w i n : Nat} {p7 : Int32} {tri : Nat → Int32} {but stt kit wet wot wrt : Nat → Int32} (h : okD nm nd ki0 we0 wo0 wr0) (t5 : rS nm bu0 but) (t6 : rS nm st0 stt) (t7 : rD nd ki0 we0 wo0 kit wet wot) (t8 : rW nd wr0 wrt) (hR : RM nm nd dy dr bu0 st0 ki0 we0 wo0 wr0 now) (hs : ∀ i, i < nm → st0 i ≤ bu0 i ∧ bu0 i < 100000) (hdy : dy ≤ 9999) (hm : m < nm) (hd : d < nd) (hw : w < 4) (hin : i + n ≤ 24) (hn1 : 1 ≤ n) (hit : ∀ q, q < 24 → itm w q = itmM (24 * w + q)) (h7 : p7 = 0) :
    ∃ r s, lp (bX5_felt_190_1 itm (nI m) (nI d) (nI w) (nI i) (nI n) (nI nm, nI nd, nI dy, nI dr, but, stt, kit, wet, wot, wrt)) FU (0, 0, kit, wet, wot) = some r ∧ lp (bX6_felt_93 itmM now (nI m) (nI d) (nI w) (nI i) (nI n) p7) FU (0, 0, tri) = some s ∧ r.1 = s.1 := by
  have h5 := h.1
  have h6 := h.2.1
  have nd6 : ∀ {α : Type} (A : Option α), gin (nI d) 6 A = A := fun A => gin_nI (by omega) (by decide)
  have nw4 : ∀ {α : Type} (A : Option α), gin (nI w) 4 A = A := fun A => gin_nI (by omega) (by decide)
  have kd : (nI d).toNatClampNeg = d := n_cl (by omega)
  have kw : (nI w).toNatClampNeg = w := n_cl (by omega)
  have no : ∀ {α : Type} (A : Option α), gin (26 + nI d) 191 A = A := fun A => gin_add (c := 26) (by omega) (by decide)
  have ko : (26 + nI d).toNatClampNeg = 26 + d := cl_add (c := 26) (by omega)
  have e19 : ∀ {α : Type} (A : Option α), gin 19 191 A = A := fun A => gin_nI (k := 19) (by decide) (by decide)
  have c19 : Int32.toNatClampNeg 19 = 19 := by decide
  refine lp_sim (b1 := bX5_felt_190_1 itm (nI m) (nI d) (nI w) (nI i) (nI n) (nI nm, nI nd, nI dy, nI dr, but, stt, kit, wet, wot, wrt)) (b2 := bX6_felt_93 itmM now (nI m) (nI d) (nI w) (nI i) (nI n) p7) (5) (fun k a b => a.1 = b.1 ∧ a.2.1 = nI (k) ∧ b.2.1 = nI (k) ∧ (∀ q, q < nd → q ≠ d → a.2.2.1 q = nI (ki0 q)) ∧ (∀ q, q < nd → a.2.2.2.1 q = nI (we0 q)) ∧ (∀ q, q < nd → a.2.2.2.2 q = nI (wo0 q))) (fun r s => r.1 = s.1) (by omega) (fun k a b hk hrel => ?_) (fun a b hrel => ?_) ?_
  · obtain ⟨s1, v1, kt, wt, ot⟩ := a
    obtain ⟨s2, v2, tr⟩ := b
    obtain ⟨g1, g2, g3, g4, g5, g6⟩ := hrel
    simp only at g1 g2 g3 g4 g5 g6
    subst g1 g2 g3
    have hRb := RM_begin (t := tr) h6 h5 hR
    have hR' := RM_kind (d := d) (v := k) h6 h5 (by omega) hRb
    have h' := okD_kind (d := d) (v := k) h (by omega)
    have t7' : rD nd (va_up ki0 d (k)) we0 wo0 (upd kt d (nI (k))) (wt) (ot) := fun q hq => ⟨up_rel g4 q hq, g5 q hq, g6 q hq⟩
    obtain ⟨bt, t, e1, e2⟩ := both_told (it := itm w) (itM := itmM) h' t7' t8 t5 t6 hR' hs hdy hm hw hin hn1 hit
    have z : ¬ 4 < nI k := fun q => by have := (n_lt (a := 4) (by omega) (by omega)).mp q; omega
    by_cases c : bt = 0
    · refine ⟨(s1, nI (k + 1), upd kt d (nI (k)), wt, ot), (s1, nI (k + 1), t), fun K => ?_, fun K => ?_, rfl, rfl, rfl, fun q hq e => by show upd kt d _ q = _; rw [upd_ne e]; exact g4 q hq e, g5, g6⟩
      · rw [bX5_felt_190_1, if_neg z, nd6, nw4, kd, kw, e1, Option.bind_some, if_pos c, nm_def, n_add1]
      · rw [bX6_felt_93, if_pos h7, if_neg z, m_begin, Option.bind_some, no, ko, e2, Option.bind_some, if_pos c, nm_def, nm_def, n_add1, i_or0]
    · refine ⟨(s1 ||| (1 <<< (nI (k) &&& 31)), nI (k + 1), upd kt d (nI (k)), wt, ot), (s1 ||| (1 <<< (nI (k) &&& 31)), nI (k + 1), t), fun K => ?_, fun K => ?_, rfl, rfl, rfl, fun q hq e => by show upd kt d _ q = _; rw [upd_ne e]; exact g4 q hq e, g5, g6⟩
      · rw [bX5_felt_190_1, if_neg z, nd6, nw4, kd, kw, e1, Option.bind_some, if_neg c, nm_def, nm_def, n_add1]
      · rw [bX6_felt_93, if_pos h7, if_neg z, m_begin, Option.bind_some, no, ko, e2, Option.bind_some, if_neg c, nm_def, nm_def, n_add1]
  · obtain ⟨s1, v1, kt, wt, ot⟩ := a
    obtain ⟨s2, v2, tr⟩ := b
    obtain ⟨g1, g2, g3, g4, g5, g6⟩ := hrel
    simp only at g1 g2 g3 g4 g5 g6
    subst g1 g2 g3
    have z : 4 < nI 5 := by decide
    refine ⟨(s1, nI nm, nI nd, nI dy, nI dr, but, stt, kt, wt, ot, wrt), (s1, tr), fun K => ?_, fun K => ?_, rfl⟩
    · rw [bX5_felt_190_1, if_pos z]
    · rw [bX6_felt_93, if_pos h7, if_pos z]
  · exact ⟨rfl, rfl, rfl, fun q hq e => (t7 q hq).1, fun q hq => (t7 q hq).2.1, fun q hq => (t7 q hq).2.2⟩
theorem felt_weight {m d w i n : Nat} {p7 : Int32} {tri : Nat → Int32} {but stt kit wet wot wrt : Nat → Int32} (h : okD nm nd ki0 we0 wo0 wr0) (t5 : rS nm bu0 but) (t6 : rS nm st0 stt) (t7 : rD nd ki0 we0 wo0 kit wet wot) (t8 : rW nd wr0 wrt) (hR : RM nm nd dy dr bu0 st0 ki0 we0 wo0 wr0 now) (hs : ∀ i, i < nm → st0 i ≤ bu0 i ∧ bu0 i < 100000) (hdy : dy ≤ 9999) (hm : m < nm) (hd : d < nd) (hw : w < 4) (hin : i + n ≤ 24) (hn1 : 1 ≤ n) (hit : ∀ q, q < 24 → itm w q = itmM (24 * w + q)) (h7 : ¬ p7 = 0) :
    ∃ r s, lp (bX5_felt_190_2 itm (nI m) (nI d) (nI w) (nI i) (nI n) (nI nm, nI nd, nI dy, nI dr, but, stt, kit, wet, wot, wrt)) FU (0, 1, kit, wet, wot) = some r ∧ lp (bX6_felt_93_1 itmM now (nI m) (nI d) (nI w) (nI i) (nI n) p7) FU (0, 1, tri) = some s ∧ r.1 = s.1 := by
  have h5 := h.1
  have h6 := h.2.1
  have nd6 : ∀ {α : Type} (A : Option α), gin (nI d) 6 A = A := fun A => gin_nI (by omega) (by decide)
  have nw4 : ∀ {α : Type} (A : Option α), gin (nI w) 4 A = A := fun A => gin_nI (by omega) (by decide)
  have kd : (nI d).toNatClampNeg = d := n_cl (by omega)
  have kw : (nI w).toNatClampNeg = w := n_cl (by omega)
  have no : ∀ {α : Type} (A : Option α), gin (7 + nI d) 191 A = A := fun A => gin_add (c := 7) (by omega) (by decide)
  have ko : (7 + nI d).toNatClampNeg = 7 + d := cl_add (c := 7) (by omega)
  have e19 : ∀ {α : Type} (A : Option α), gin 19 191 A = A := fun A => gin_nI (k := 19) (by decide) (by decide)
  have c19 : Int32.toNatClampNeg 19 = 19 := by decide
  refine lp_sim (b1 := bX5_felt_190_2 itm (nI m) (nI d) (nI w) (nI i) (nI n) (nI nm, nI nd, nI dy, nI dr, but, stt, kit, wet, wot, wrt)) (b2 := bX6_felt_93_1 itmM now (nI m) (nI d) (nI w) (nI i) (nI n) p7) (20) (fun k a b => a.1 = b.1 ∧ a.2.1 = nI (k + 1) ∧ b.2.1 = nI (k + 1) ∧ (∀ q, q < nd → a.2.2.1 q = nI (ki0 q)) ∧ (∀ q, q < nd → q ≠ d → a.2.2.2.1 q = nI (we0 q)) ∧ (∀ q, q < nd → a.2.2.2.2 q = nI (wo0 q))) (fun r s => r.1 = s.1) (by omega) (fun k a b hk hrel => ?_) (fun a b hrel => ?_) ?_
  · obtain ⟨s1, v1, kt, wt, ot⟩ := a
    obtain ⟨s2, v2, tr⟩ := b
    obtain ⟨g1, g2, g3, g4, g5, g6⟩ := hrel
    simp only at g1 g2 g3 g4 g5 g6
    subst g1 g2 g3
    have hRb := RM_begin (t := tr) h6 h5 hR
    have hR' := RM_weigh (d := d) (v := k + 1) h6 h5 (by omega) hRb
    have h' := okD_weigh (d := d) (v := k + 1) h (by omega) (by omega)
    have t7' : rD nd ki0 (va_up we0 d (k + 1)) wo0 (kt) (upd wt d (nI (k + 1))) (ot) := fun q hq => ⟨g4 q hq, up_rel g5 q hq, g6 q hq⟩
    obtain ⟨bt, t, e1, e2⟩ := both_told (it := itm w) (itM := itmM) h' t7' t8 t5 t6 hR' hs hdy hm hw hin hn1 hit
    have z : ¬ 20 < nI (k + 1) := fun q => by have := (n_lt (a := 20) (by omega) (by omega)).mp q; omega
    by_cases c : bt = 0
    · refine ⟨(s1, nI (k + 1 + 1), kt, upd wt d (nI (k + 1)), ot), (s1, nI (k + 1 + 1), t), fun K => ?_, fun K => ?_, rfl, rfl, rfl, g4, fun q hq e => by show upd wt d _ q = _; rw [upd_ne e]; exact g5 q hq e, g6⟩
      · rw [bX5_felt_190_2, if_neg z, nd6, nw4, kd, kw, e1, Option.bind_some, if_pos c, nm_def, n_add1]
      · rw [bX6_felt_93_1, if_neg h7, if_neg z, m_begin, Option.bind_some, no, ko, e2, Option.bind_some, if_pos c, nm_def, nm_def, n_add1, i_or0]
    · refine ⟨(s1 ||| (1 <<< (nI (k + 1) &&& 31)), nI (k + 1 + 1), kt, upd wt d (nI (k + 1)), ot), (s1 ||| (1 <<< (nI (k + 1) &&& 31)), nI (k + 1 + 1), t), fun K => ?_, fun K => ?_, rfl, rfl, rfl, g4, fun q hq e => by show upd wt d _ q = _; rw [upd_ne e]; exact g5 q hq e, g6⟩
      · rw [bX5_felt_190_2, if_neg z, nd6, nw4, kd, kw, e1, Option.bind_some, if_neg c, nm_def, nm_def, n_add1]
      · rw [bX6_felt_93_1, if_neg h7, if_neg z, m_begin, Option.bind_some, no, ko, e2, Option.bind_some, if_neg c, nm_def, nm_def, n_add1]
  · obtain ⟨s1, v1, kt, wt, ot⟩ := a
    obtain ⟨s2, v2, tr⟩ := b
    obtain ⟨g1, g2, g3, g4, g5, g6⟩ := hrel
    simp only at g1 g2 g3 g4 g5 g6
    subst g1 g2 g3
    have z : 20 < nI (20 + 1) := by decide
    refine ⟨(s1, nI nm, nI nd, nI dy, nI dr, but, stt, kt, wt, ot, wrt), (s1, tr), fun K => ?_, fun K => ?_, rfl⟩
    · rw [bX5_felt_190_2, if_pos z]
    · rw [bX6_felt_93_1, if_neg h7, if_pos z]
  · exact ⟨rfl, rfl, rfl, fun q hq => (t7 q hq).1, fun q hq e => (t7 q hq).2.1, fun q hq => (t7 q hq).2.2⟩
theorem felt_wound {m d w i n : Nat} {p7 : Int32} {tri : Nat → Int32} {but stt kit wet wot wrt : Nat → Int32} (h : okD nm nd ki0 we0 wo0 wr0) (t5 : rS nm bu0 but) (t6 : rS nm st0 stt) (t7 : rD nd ki0 we0 wo0 kit wet wot) (t8 : rW nd wr0 wrt) (hR : RM nm nd dy dr bu0 st0 ki0 we0 wo0 wr0 now) (hs : ∀ i, i < nm → st0 i ≤ bu0 i ∧ bu0 i < 100000) (hdy : dy ≤ 9999) (hm : m < nm) (hd : d < nd) (hw : w < 4) (hin : i + n ≤ 24) (hn1 : 1 ≤ n) (hit : ∀ q, q < 24 → itm w q = itmM (24 * w + q)) (h7 : ¬ p7 = 0) :
    ∃ r s, lp (bX5_felt_190 itm (nI m) (nI d) (nI w) (nI i) (nI n) (nI (nm - 1)) (nI nm, nI nd, nI dy, nI dr, but, stt, kit, wet, wot, wrt)) FU (0, 0, kit, wet, wot) = some r ∧ lp (bX6_felt_93 itmM now (nI m) (nI d) (nI w) (nI i) (nI n) p7) FU (0, 0, tri) = some s ∧ r.1 = s.1 := by
  have h5 := h.1
  have h6 := h.2.1
  have nd6 : ∀ {α : Type} (A : Option α), gin (nI d) 6 A = A := fun A => gin_nI (by omega) (by decide)
  have nw4 : ∀ {α : Type} (A : Option α), gin (nI w) 4 A = A := fun A => gin_nI (by omega) (by decide)
  have kd : (nI d).toNatClampNeg = d := n_cl (by omega)
  have kw : (nI w).toNatClampNeg = w := n_cl (by omega)
  have no : ∀ {α : Type} (A : Option α), gin (32 + nI d) 191 A = A := fun A => gin_add (c := 32) (by omega) (by decide)
  have ko : (32 + nI d).toNatClampNeg = 32 + d := cl_add (c := 32) (by omega)
  have e19 : ∀ {α : Type} (A : Option α), gin 19 191 A = A := fun A => gin_nI (k := 19) (by decide) (by decide)
  have c19 : Int32.toNatClampNeg 19 = 19 := by decide
  refine lp_sim (b1 := bX5_felt_190 itm (nI m) (nI d) (nI w) (nI i) (nI n) (nI (nm - 1)) (nI nm, nI nd, nI dy, nI dr, but, stt, kit, wet, wot, wrt)) (b2 := bX6_felt_93 itmM now (nI m) (nI d) (nI w) (nI i) (nI n) p7) (nm) (fun k a b => a.1 = b.1 ∧ a.2.1 = nI (k) ∧ b.2.1 = nI (k) ∧ (∀ q, q < nd → a.2.2.1 q = nI (ki0 q)) ∧ (∀ q, q < nd → a.2.2.2.1 q = nI (we0 q)) ∧ (∀ q, q < nd → q ≠ d → a.2.2.2.2 q = nI (wo0 q))) (fun r s => r.1 = s.1) (by omega) (fun k a b hk hrel => ?_) (fun a b hrel => ?_) ?_
  · obtain ⟨s1, v1, kt, wt, ot⟩ := a
    obtain ⟨s2, v2, tr⟩ := b
    obtain ⟨g1, g2, g3, g4, g5, g6⟩ := hrel
    simp only at g1 g2 g3 g4 g5 g6
    subst g1 g2 g3
    have hRb := RM_begin (t := tr) h6 h5 hR
    have hR' := RM_wound (d := d) (v := k) h6 h5 (by omega) hRb
    have h' := okD_wound (d := d) (v := k) h hk
    have t7' : rD nd ki0 we0 (va_up wo0 d (k)) (kt) (wt) (upd ot d (nI (k))) := fun q hq => ⟨g4 q hq, g5 q hq, up_rel g6 q hq⟩
    obtain ⟨bt, t, e1, e2⟩ := both_told (it := itm w) (itM := itmM) h' t7' t8 t5 t6 hR' hs hdy hm hw hin hn1 hit
    have z : ¬ nI (nm - 1) < nI k := fun q => by have := (n_lt (by omega) (by omega)).mp q; omega
    by_cases c : bt = 0
    · refine ⟨(s1, nI (k + 1), kt, wt, upd ot d (nI (k))), (s1, nI (k + 1), t), fun K => ?_, fun K => ?_, rfl, rfl, rfl, g4, g5, fun q hq e => by show upd ot d _ q = _; rw [upd_ne e]; exact g6 q hq e⟩
      · rw [bX5_felt_190, if_neg z, nd6, nw4, kd, kw, e1, Option.bind_some, if_pos c, nm_def, n_add1]
      · rw [bX6_felt_93, if_neg h7, e19, c19, hR.1, n_sub1 (show 0 < nm by omega), if_neg z, m_begin, Option.bind_some, no, ko, e2, Option.bind_some, if_pos c, nm_def, nm_def, n_add1, i_or0]
    · refine ⟨(s1 ||| (1 <<< (nI (k) &&& 31)), nI (k + 1), kt, wt, upd ot d (nI (k))), (s1 ||| (1 <<< (nI (k) &&& 31)), nI (k + 1), t), fun K => ?_, fun K => ?_, rfl, rfl, rfl, g4, g5, fun q hq e => by show upd ot d _ q = _; rw [upd_ne e]; exact g6 q hq e⟩
      · rw [bX5_felt_190, if_neg z, nd6, nw4, kd, kw, e1, Option.bind_some, if_neg c, nm_def, nm_def, n_add1]
      · rw [bX6_felt_93, if_neg h7, e19, c19, hR.1, n_sub1 (show 0 < nm by omega), if_neg z, m_begin, Option.bind_some, no, ko, e2, Option.bind_some, if_neg c, nm_def, nm_def, n_add1]
  · obtain ⟨s1, v1, kt, wt, ot⟩ := a
    obtain ⟨s2, v2, tr⟩ := b
    obtain ⟨g1, g2, g3, g4, g5, g6⟩ := hrel
    simp only at g1 g2 g3 g4 g5 g6
    subst g1 g2 g3
    have z : nI (nm - 1) < nI nm := by rw [n_lt (by omega) (by omega)]; omega
    refine ⟨(s1, nI nm, nI nd, nI dy, nI dr, but, stt, kt, wt, ot, wrt), (s1, tr), fun K => ?_, fun K => ?_, rfl⟩
    · rw [bX5_felt_190, if_pos z]
    · rw [bX6_felt_93, if_neg h7, e19, c19, hR.1, n_sub1 (show 0 < nm by omega), if_pos z]
  · exact ⟨rfl, rfl, rfl, fun q hq => (t7 q hq).1, fun q hq => (t7 q hq).2.1, fun q hq e => (t7 q hq).2.2⟩
end P22
