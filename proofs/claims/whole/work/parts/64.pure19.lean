/-! PURE, 19: off, two -/
theorem upd_ne {f : Nat → Int32} {k j : Nat} {x : Int32} (h : j ≠ k) : upd f k x j = f j := if_neg h
theorem upd_self {f : Nat → Int32} {k : Nat} {x : Int32} : upd f k x k = x := if_pos rfl
theorem RM_wear {nm nd dy dr d : Nat} {bu st ki we wo : Nat → Nat} {wr : Nat → Option Nat} {s : Nat → Int32} {o : Option Nat} (h6 : nd ≤ 6) (h5 : nm ≤ 5) (hd : d < 6) (hR : RM nm nd dy dr bu st ki we wo wr s) : RM nm nd dy dr bu st ki we wo (va_up wr d o) (upd s (13 + d) (en o)) := by
  obtain ⟨a1, a2, a3, a4, a5, a6⟩ := hR
  refine ⟨by rw [upd_ne (by omega), a1], by rw [upd_ne (by omega), a2], by rw [upd_ne (by omega), a3], by rw [upd_ne (by omega), a4], fun i hi => ?_, fun q hq => ?_⟩
  · rw [upd_ne (by omega), upd_ne (by omega)]
    exact a5 i hi
  · obtain ⟨b1, b2, b3, b4⟩ := a6 q hq
    refine ⟨by rw [upd_ne (by omega), b1], by rw [upd_ne (by omega), b2], by rw [upd_ne (by omega), b3], ?_⟩
    by_cases e : q = d
    · subst e
      rw [upd_self, va_up_self]
    · rw [upd_ne (by omega), va_up_ne _ _ e, b4]
section P19
variable {men md day drw : Int32} {bu st ki we wo wr now : Nat → Int32}
theorem bent_lt {L : Nat → Nat → Nat} {st : Nat → Nat} {nm dy : Nat} (h : nm ≤ 5) : bentM L st nm dy < 64 := by
  have := mk_lt (fun m => decide (st m < L m (dy % 2))) nm
  have : 2 ^ nm ≤ 2 ^ 5 := Nat.pow_le_pow_right (by omega) h
  unfold bentM
  omega
theorem pub_off {p1 p2 : Int32} {tri : Nat → Int32} {men_t md_t day_t drw_t : Int32} {bu_t st_t ki_t we_t wo_t wr_t : Nat → Int32} (h : SY men md day drw bu st ki we wo wr now) : ∃ r a1 a2 a3 a4 a5 a6 a7 a8 a9 a10 tri', fX5_off p1 p2 men md day drw bu st ki we wo wr men_t md_t day_t drw_t bu_t st_t ki_t we_t wo_t wr_t = some (r, a1, a2, a3, a4, a5, a6, a7, a8, a9, a10) ∧ fX6_off p1 p2 now tri = some (r, tri') := by
  obtain ⟨nm, nd, dy, dr, bu0, st0, ki0, we0, wo0, wr0, ⟨hk, hb, hdy, hdr⟩, ⟨rfl, rfl, rfl, rfl, c5, c6, c7, c8⟩, hR⟩ := h
  have h5 := hk.1
  have h6 := hk.2.1
  have hs : ∀ i, i < nm → st0 i ≤ bu0 i ∧ bu0 i < 100000 := fun i hi => by have := hb i hi; omega
  unfold fX5_off fX6_off
  by_cases a1 : p1 < 1
  · rw [if_pos a1, in_l a1]
    exact ⟨_, _, _, _, _, _, _, _, _, _, _, _, rfl, rfl⟩
  rw [if_neg a1]
  by_cases a2 : 40 < p1
  · rw [if_pos a2, in_h a1 a2]
    exact ⟨_, _, _, _, _, _, _, _, _, _, _, _, rfl, rfl⟩
  rw [if_neg a2, in_y a1 a2, Option.bind_some, if_neg n10]
  obtain ⟨n, hn1, hn2, rfl⟩ := rng1 (hi := 40) (by decide) a1 a2
  by_cases a3 : p2 < 0
  · rw [if_pos a3, in_l a3]
    exact ⟨_, _, _, _, _, _, _, _, _, _, _, _, rfl, rfl⟩
  rw [if_neg a3]
  by_cases a4 : p2 ≤ 1
  · rw [if_pos a4, in_y a3 (Int32.not_lt.mpr a4), Option.bind_some, if_neg n10, s_take, Option.bind_some]
    have t5 : rS nm bu0 (va_cpy bu bu_t 0 0 5) := fun i hi => by rw [pk_cpy_in (by omega) (by omega), show 0 + (i - 0) = i by omega]; exact c5 i hi
    have t6 : rS nm st0 (va_cpy st st_t 0 0 5) := fun i hi => by rw [pk_cpy_in (by omega) (by omega), show 0 + (i - 0) = i by omega]; exact c6 i hi
    have t7 : rD nd ki0 we0 wo0 (va_cpy ki ki_t 0 0 6) (va_cpy we we_t 0 0 6) (va_cpy wo wo_t 0 0 6) := fun i hi => by rw [pk_cpy_in (by omega) (by omega), pk_cpy_in (by omega) (by omega), pk_cpy_in (by omega) (by omega), show 0 + (i - 0) = i by omega]; exact c7 i hi
    have t8 : rW nd wr0 (va_cpy wr wr_t 0 0 6) := fun i hi => by rw [pk_cpy_in (by omega) (by omega), show 0 + (i - 0) = i by omega]; exact c8 i hi
    obtain ⟨r, s, q1, q2, q3⟩ := lp_sim (b1 := bX5_off_43 (nI nd) wr (nI n) p2 (nI nm, nI nd, nI dy, nI dr, va_cpy bu bu_t 0 0 5, va_cpy st st_t 0 0 5, va_cpy ki ki_t 0 0 6, va_cpy we we_t 0 0 6, va_cpy wo wo_t 0 0 6, va_cpy wr wr_t 0 0 6)) (b2 := bX6_off_31 now (nI n) p2) nd
      (fun k a b => a.1 = b.1 ∧ a.2.1 = b.2.1 ∧ a.2.2.1 = nI k ∧ b.2.2.1 = nI k ∧ rW nd wr0 a.2.2.2) (fun r s => r.1 = s.1) (by omega)
      (fun k a b hk2 hrel => by
        obtain ⟨a1', a2', a3', wt⟩ := a
        obtain ⟨b1', b2', b3', tr⟩ := b
        obtain ⟨g1, g2, g3, g4, g5⟩ := hrel
        simp only at g1 g2 g3 g4 g5
        subst g1 g2 g3 g4
        have hRb := RM_begin (t := tr) h6 h5 hR
        have e25 : ∀ {α : Type} (A : Option α), gin 25 191 A = A := fun A => gin_nI (k := 25) (by decide) (by decide)
        have c25 : Int32.toNatClampNeg 25 = 25 := by decide
        have e13 : (13 : Int32) = nI 13 := rfl
        have w : wr k = en (wr0 k) := c8 k hk2
        have w2 : now (13 + k) = en (wr0 k) := (hR.2.2.2.2.2 k hk2).2.2.2
        have z : ¬ nI nd ≤ nI k := fun q => by have := (n_le (by omega) (by omega)).mp q; omega
        by_cases e : wr0 k = none
        · refine ⟨(a1', a2', nI (k + 1), wt), (a1', a2', nI (k + 1), tr), fun K => ?_, fun K => ?_, rfl, rfl, rfl, rfl, g5⟩
          · rw [bX5_off_43, if_neg z, gin_nI (by omega) (by decide), n_cl (by omega), w, e, if_pos (show en none = -4 from rfl), nm_def, n_add1]
          · rw [bX6_off_31, e25, c25, hR.2.1, if_neg z, e13, gin_add (by omega) (by decide), cl_add (by omega), w2, e, if_pos (show en none = -4 from rfl), nm_def, n_add1]
        · have ne : ¬ en (wr0 k) = -4 := fun q => e ((en_none (okW hk k hk2)).mp q)
          have hk' : okD nm nd ki0 we0 wo0 (va_up wr0 k none) := okD_wr hk (fun m q => by cases q)
          have hR' := RM_wear (d := k) (o := none) h6 h5 (by omega) hRb
          have hw' : rW nd (va_up wr0 k none) (upd wt k (-4)) := rW_up (o := none) g5
          obtain ⟨q1, -⟩ := itD_RM hk' hR' (by omega) hs n (by omega)
          have B1 := s_bentBehind (n := n) (dy := dy) hk' t7 hw' t5 t6 hs (by omega) (by omega)
          have B2 := m_bentOnes hk' q1 (by omega) (fun i hi => by have := stB_le (L := loadN nd ki0 we0 wo0 (va_up wr0 k none)) (dy := dy) (hs i hi).1 n; have := (hs i hi).2; omega)
          have G := m_goOn (n := n) hk' hR' (by omega) hs (by omega)
          have w5 : rW nd wr0 (upd (upd wt k (-4)) k (en (wr0 k))) := fun d hd => by
            by_cases ed : d = k
            · subst ed
              rw [upd_self]
            · rw [upd_ne ed, upd_ne ed]
              exact g5 d hd
          have G' : fX6_goOn (nI n) (upd (fun q => if q < 38 then now q else tr q) (13 + k) (-4)) = some (itD (upd (fun q => if q < 38 then now q else tr q) (13 + k) (en none)) n) := G
          by_cases c1 : a1' = -4
          · exact ⟨(nI k, nI (cn (fun j => (bentM (loadN nd ki0 we0 wo0 (va_up wr0 k none)) (fun m => stB (loadN nd ki0 we0 wo0 (va_up wr0 k none)) bu0 st0 dy m n) nm (dy + n)).testBit j) 6), nI (k + 1), upd (upd wt k (-4)) k (en (wr0 k))), (nI k, nI (cn (fun j => (bentM (loadN nd ki0 we0 wo0 (va_up wr0 k none)) (fun m => stB (loadN nd ki0 we0 wo0 (va_up wr0 k none)) bu0 st0 dy m n) nm (dy + n)).testBit j) 6), nI (k + 1), itD (upd (fun q => if q < 38 then now q else tr q) (13 + k) (en none)) n), fun K => by rw [bX5_off_43, if_neg z, gin_nI (by omega) (by decide), n_cl (by omega), w, if_neg ne, gin_nI (by omega) (by decide), B1, Option.bind_some, s_bitCount (bent_lt h5), Option.bind_some, gin_nI (by omega) (by decide), gin_nI (by omega) (by decide), if_pos c1, nm_def, n_add1], fun K => by rw [bX6_off_31, e25, c25, hR.2.1, if_neg z, e13, gin_add (by omega) (by decide), cl_add (by omega), w2, if_neg ne, m_begin, Option.bind_some, gin_add (by omega) (by decide), G', Option.bind_some, B2, Option.bind_some, m_bits (bent_lt h5), Option.bind_some, if_pos c1, nm_def, n_add1], rfl, rfl, rfl, rfl, w5⟩
          · by_cases c2 : a2' ≤ nI (cn (fun j => (bentM (loadN nd ki0 we0 wo0 (va_up wr0 k none)) (fun m => stB (loadN nd ki0 we0 wo0 (va_up wr0 k none)) bu0 st0 dy m n) nm (dy + n)).testBit j) 6)
            · exact ⟨(a1', a2', nI (k + 1), upd (upd wt k (-4)) k (en (wr0 k))), (a1', a2', nI (k + 1), itD (upd (fun q => if q < 38 then now q else tr q) (13 + k) (en none)) n), fun K => by rw [bX5_off_43, if_neg z, gin_nI (by omega) (by decide), n_cl (by omega), w, if_neg ne, gin_nI (by omega) (by decide), B1, Option.bind_some, s_bitCount (bent_lt h5), Option.bind_some, gin_nI (by omega) (by decide), gin_nI (by omega) (by decide), if_neg c1, if_pos c2, nm_def, n_add1], fun K => by rw [bX6_off_31, e25, c25, hR.2.1, if_neg z, e13, gin_add (by omega) (by decide), cl_add (by omega), w2, if_neg ne, m_begin, Option.bind_some, gin_add (by omega) (by decide), G', Option.bind_some, B2, Option.bind_some, m_bits (bent_lt h5), Option.bind_some, if_neg c1, if_pos c2, nm_def, n_add1], rfl, rfl, rfl, rfl, w5⟩
            · exact ⟨(nI k, nI (cn (fun j => (bentM (loadN nd ki0 we0 wo0 (va_up wr0 k none)) (fun m => stB (loadN nd ki0 we0 wo0 (va_up wr0 k none)) bu0 st0 dy m n) nm (dy + n)).testBit j) 6), nI (k + 1), upd (upd wt k (-4)) k (en (wr0 k))), (nI k, nI (cn (fun j => (bentM (loadN nd ki0 we0 wo0 (va_up wr0 k none)) (fun m => stB (loadN nd ki0 we0 wo0 (va_up wr0 k none)) bu0 st0 dy m n) nm (dy + n)).testBit j) 6), nI (k + 1), itD (upd (fun q => if q < 38 then now q else tr q) (13 + k) (en none)) n), fun K => by rw [bX5_off_43, if_neg z, gin_nI (by omega) (by decide), n_cl (by omega), w, if_neg ne, gin_nI (by omega) (by decide), B1, Option.bind_some, s_bitCount (bent_lt h5), Option.bind_some, gin_nI (by omega) (by decide), gin_nI (by omega) (by decide), if_neg c1, if_neg c2, nm_def, n_add1], fun K => by rw [bX6_off_31, e25, c25, hR.2.1, if_neg z, e13, gin_add (by omega) (by decide), cl_add (by omega), w2, if_neg ne, m_begin, Option.bind_some, gin_add (by omega) (by decide), G', Option.bind_some, B2, Option.bind_some, m_bits (bent_lt h5), Option.bind_some, if_neg c1, if_neg c2, nm_def, n_add1], rfl, rfl, rfl, rfl, w5⟩)
      (fun a b hrel => by
        obtain ⟨a1', a2', a3', wt⟩ := a
        obtain ⟨b1', b2', b3', tr⟩ := b
        obtain ⟨g1, g2, g3, g4, g5⟩ := hrel
        simp only at g1 g2 g3 g4 g5
        subst g1 g2 g3 g4
        have e25 : ∀ {α : Type} (A : Option α), gin 25 191 A = A := fun A => gin_nI (k := 25) (by decide) (by decide)
        have c25 : Int32.toNatClampNeg 25 = 25 := by decide
        by_cases c : p2 = 0
        · exact ⟨(_, _, _, _, _, _, _, _, _, _, _), (_, _), fun K => by rw [bX5_off_43, if_pos (by rw [n_le (by omega) (by omega)]; omega), if_pos c], fun K => by rw [bX6_off_31, e25, c25, hR.2.1, if_pos (by rw [n_le (by omega) (by omega)]; omega), if_pos c], rfl⟩
        · exact ⟨(_, _, _, _, _, _, _, _, _, _, _), (_, _), fun K => by rw [bX5_off_43, if_pos (by rw [n_le (by omega) (by omega)]; omega), if_neg c], fun K => by rw [bX6_off_31, e25, c25, hR.2.1, if_pos (by rw [n_le (by omega) (by omega)]; omega), if_neg c], rfl⟩)
      (a0 := (-4, -4, 0, va_cpy wr wr_t 0 0 6)) (b0 := (-4, -4, 0, tri)) ⟨rfl, rfl, rfl, rfl, t8⟩
    obtain ⟨r1, r2, r3, r4, r5, r6, r7, r8, r9, r10, r11⟩ := r
    obtain ⟨s1, s2⟩ := s
    simp only at q3
    subst q3
    exact ⟨_, _, _, _, _, _, _, _, _, _, _, _, q1, q2⟩
  · rw [if_neg a4, in_h a3 (Int32.not_le.mp a4)]
    exact ⟨_, _, _, _, _, _, _, _, _, _, _, _, rfl, rfl⟩
end P19
