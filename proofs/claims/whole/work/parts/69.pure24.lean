/-! PURE, 22c: felt -/
section P24
variable {men md day drw : Int32} {bu st ki we wo wr now : Nat → Int32}
variable {th lan siz lanM sizM : Nat → Int32} {itm : Nat → Nat → Int64} {itmM : Nat → Int64}
theorem pub_felt {p1 p2 p3 p4 p5 p6 p7 : Int32} {tri : Nat → Int32} {men_t md_t day_t drw_t : Int32} {bu_t st_t ki_t we_t wo_t wr_t : Nat → Int32} (h : SY men md day drw bu st ki we wo wr now) (hT : SHT th lan siz itm lanM sizM itmM) : ∃ r a1 a2 a3 a4 a5 a6 a7 a8 a9 a10 tri', fX5_felt p1 p2 p3 p4 p5 p6 p7 men md day drw bu st ki we wo wr men_t md_t day_t drw_t bu_t st_t ki_t we_t wo_t wr_t th lan siz itm = some (r, a1, a2, a3, a4, a5, a6, a7, a8, a9, a10) ∧ fX6_felt p1 p2 p3 p4 p5 p6 p7 lanM sizM itmM now tri = some (r, tri') := by
  obtain ⟨nm, nd, dy, dr, bu0, st0, ki0, we0, wo0, wr0, ⟨hk, hb, hdy, hdr⟩, ⟨rfl, rfl, rfl, rfl, c5, c6, c7, c8⟩, hR⟩ := h
  have h5 := hk.1
  have h6 := hk.2.1
  have hs : ∀ i, i < nm → st0 i ≤ bu0 i ∧ bu0 i < 100000 := fun i hi => by have := hb i hi; omega
  have t5 : rS nm bu0 (va_cpy bu bu_t 0 0 5) := fun i hi => by rw [pk_cpy_in (by omega) (by omega), show 0 + (i - 0) = i by omega]; exact c5 i hi
  have t6 : rS nm st0 (va_cpy st st_t 0 0 5) := fun i hi => by rw [pk_cpy_in (by omega) (by omega), show 0 + (i - 0) = i by omega]; exact c6 i hi
  have t7 : rD nd ki0 we0 wo0 (va_cpy ki ki_t 0 0 6) (va_cpy we we_t 0 0 6) (va_cpy wo wo_t 0 0 6) := fun i hi => by rw [pk_cpy_in (by omega) (by omega), pk_cpy_in (by omega) (by omega), pk_cpy_in (by omega) (by omega), show 0 + (i - 0) = i by omega]; exact c7 i hi
  have t8 : rW nd wr0 (va_cpy wr wr_t 0 0 6) := fun i hi => by rw [pk_cpy_in (by omega) (by omega), show 0 + (i - 0) = i by omega]; exact c8 i hi
  unfold fX5_felt fX6_felt
  rcases ixc p1 (n := nm) (by omega) with ⟨m, hm, rfl⟩ | hn
  · rw [s_hasMan_y hm (by omega), m_isMan_y hR hm h5, Option.bind_some, Option.bind_some, if_neg n10, if_neg n10]
    rcases ixc p2 (n := nd) (by omega) with ⟨d, hd, rfl⟩ | hn
    · rw [s_hasMedal_y hd (by omega), m_isMedal_y hR hd h6, Option.bind_some, Option.bind_some, if_neg n10, if_neg n10]
      rcases ixc p3 (n := 4) (by omega) with ⟨w, hw, rfl⟩ | hn
      · rw [(s_isSheet_y hw).1, (s_isSheet_y hw).2, Option.bind_some, Option.bind_some, if_neg n10, if_neg n10]
        rcases s_isLane (p := p4) with ⟨e1, e2, l, hl, rfl⟩ | ⟨e1, e2⟩
        · rw [e1, e2, Option.bind_some, Option.bind_some, if_neg n10, if_neg n10]
          by_cases a1 : p6 < 1
          · rw [if_pos a1, in_l a1]
            exact ⟨_, _, _, _, _, _, _, _, _, _, _, _, rfl, rfl⟩
          rw [if_neg a1]
          by_cases a2 : 8 < p6
          · rw [if_pos a2, in_h a1 a2]
            exact ⟨_, _, _, _, _, _, _, _, _, _, _, _, rfl, rfl⟩
          rw [if_neg a2, in_y a1 a2, Option.bind_some, if_neg n10]
          obtain ⟨n, hn1, hn8, rfl⟩ := rng1 (hi := 8) (by decide) a1 a2
          by_cases a3 : p7 < 0
          · rw [if_pos a3, in_l a3]
            exact ⟨_, _, _, _, _, _, _, _, _, _, _, _, rfl, rfl⟩
          rw [if_neg a3]
          by_cases a4 : p7 ≤ 2
          · rw [if_pos a4, in_y a3 (Int32.not_lt.mpr a4), Option.bind_some, if_neg n10, gin_nI hw (by decide), n_cl (show w < 2147483648 by omega)]
            obtain ⟨v, f1, f2, f3⟩ := refuse (pl := nI l) (pi := p5) (pn := nI n) hT hw
            rw [f1, f2, Option.bind_some, Option.bind_some]
            by_cases z : v = 0
            · rw [if_pos z, if_pos z]
              obtain ⟨l', sz, i, n', g1, g2, g3, rfl, g5, g6, g7, g8, g9, g10, g11, hit⟩ := f3 z
              obtain rfl := (n_eq (by omega) (by omega)).mp g5
              by_cases b1 : p7 = 1
              · have b0 : ¬ p7 = 0 := by rw [b1]; decide
                rw [if_pos b1, if_pos b1, if_neg b0, s_take, Option.bind_some]
                obtain ⟨⟨r1, r2, r3, r4, r5, r6, r7, r8, r9, r10, r11⟩, ⟨s1, s2⟩, q1, q2, q3⟩ := felt_weight (p7 := p7) (tri := tri) (i := i) (n := n) hk t5 t6 t7 t8 hR hs hdy hm hd hw (by omega) hn1 hit b0
                simp only at q3
                subst q3
                exact ⟨_, _, _, _, _, _, _, _, _, _, _, _, q1, q2⟩
              · rw [if_neg b1, if_neg b1]
                by_cases b0 : p7 = 0
                · rw [if_pos b0, s_take, Option.bind_some]
                  obtain ⟨⟨r1, r2, r3, r4, r5, r6, r7, r8, r9, r10, r11⟩, ⟨s1, s2⟩, q1, q2, q3⟩ := felt_kind (p7 := p7) (tri := tri) (i := i) (n := n) hk t5 t6 t7 t8 hR hs hdy hm hd hw (by omega) hn1 hit b0
                  simp only at q3
                  subst q3
                  exact ⟨_, _, _, _, _, _, _, _, _, _, _, _, q1, q2⟩
                · rw [if_neg b0, nm_def, s_take, Option.bind_some, n_sub1 (by omega)]
                  obtain ⟨⟨r1, r2, r3, r4, r5, r6, r7, r8, r9, r10, r11⟩, ⟨s1, s2⟩, q1, q2, q3⟩ := felt_wound (p7 := p7) (tri := tri) (i := i) (n := n) hk t5 t6 t7 t8 hR hs hdy hm hd hw (by omega) hn1 hit b0
                  simp only at q3
                  subst q3
                  exact ⟨_, _, _, _, _, _, _, _, _, _, _, _, q1, q2⟩
            · rw [if_neg z, if_neg z]
              exact ⟨_, _, _, _, _, _, _, _, _, _, _, _, rfl, rfl⟩
          · rw [if_neg a4, in_h a3 (Int32.not_le.mp a4)]
            exact ⟨_, _, _, _, _, _, _, _, _, _, _, _, rfl, rfl⟩
        · rw [e1, e2]
          exact ⟨_, _, _, _, _, _, _, _, _, _, _, _, rfl, rfl⟩
      · rw [(s_isSheet_n hn).1, (s_isSheet_n hn).2]
        exact ⟨_, _, _, _, _, _, _, _, _, _, _, _, rfl, rfl⟩
    · rw [s_hasMedal_n hn, m_isMedal_n hR h6 hn]
      exact ⟨_, _, _, _, _, _, _, _, _, _, _, _, rfl, rfl⟩
  · rw [s_hasMan_n hn, m_isMan_n hR h5 hn]
    exact ⟨_, _, _, _, _, _, _, _, _, _, _, _, rfl, rfl⟩
end P24
