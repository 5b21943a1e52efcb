/-! PURE, 16: film, copy, ever -/
def cutv (l : Int32) (v : Int64) : Int64 := if l = 0 then Int32.toInt64 ((Int32.toInt8 (Int64.toInt32 v)).toInt32) else if l = 1 then Int32.toInt64 ((Int32.toInt16 (Int64.toInt32 v)).toInt32) else if l = 2 then Int32.toInt64 (Int64.toInt32 v) else v
theorem put_eq {q : Nat} {l : Int32} {v : Int64} {row : Nat → Int64} (hq : q < 24) : fX3_put (nI q) v l row = some (vp_updL row q (cutv l v)) := by
  unfold fX3_put cutv
  have g : ∀ {α : Type} (A : Option α), gin (nI q) 24 A = A := fun A => gin_nI hq (by decide)
  have k : (nI q).toNatClampNeg = q := n_cl (by omega)
  simp only [g, k]
  by_cases c0 : l = 0
  · rw [if_pos c0, if_pos c0]
  rw [if_neg c0, if_neg c0]
  by_cases c1 : l = 1
  · rw [if_pos c1, if_pos c1]
  rw [if_neg c1, if_neg c1]
  by_cases c2 : l = 2
  · rw [if_pos c2, if_pos c2]
  rw [if_neg c2, if_neg c2]
theorem cut_eq {l : Int32} {v : Int64} : fX6_cutTo l v = some (cutv l v) := by
  unfold fX6_cutTo cutv
  by_cases c0 : l = 0
  · rw [if_pos c0, if_pos c0]
  rw [if_neg c0, if_neg c0]
  by_cases c1 : l = 1
  · rw [if_pos c1, if_pos c1]
  rw [if_neg c1, if_neg c1]
  by_cases c2 : l = 2
  · rw [if_pos c2, if_pos c2]
  rw [if_neg c2, if_neg c2]
section P16
variable {men md day drw : Int32} {bu st ki we wo wr now : Nat → Int32}
variable {th lan siz lanM sizM : Nat → Int32} {itm : Nat → Nat → Int64} {itmM : Nat → Int64}
theorem pub_film {p1 p2 p3 p4 p5 : Int32} {tri : Nat → Int32} (h : SY men md day drw bu st ki we wo wr now) (hT : SHT th lan siz itm lanM sizM itmM) : ∃ r itm' itmM' tri', fX5_film p1 p2 p3 p4 p5 men md day bu st ki we wo wr th lan siz itm = some (r, itm') ∧ fX6_film p1 p2 p3 p4 p5 lanM sizM itmM now tri = some (r, itmM', tri') ∧ SHT th lan siz itm' lanM sizM itmM' := by
  obtain ⟨nm, nd, dy, dr, bu0, st0, ki0, we0, wo0, wr0, ⟨hk, hb, hdy, hdr⟩, ⟨rfl, rfl, rfl, rfl, c5, c6, c7, c8⟩, hR⟩ := h
  have h5 := hk.1
  have h6 := hk.2.1
  have hs : ∀ i, i < nm → st0 i ≤ bu0 i ∧ bu0 i < 100000 := fun i hi => by have := hb i hi; omega
  unfold fX5_film fX6_film
  rcases ixc p1 (n := nm) (by omega) with ⟨j, hj, rfl⟩ | hn
  · rw [s_hasMan_y hj (by omega), m_isMan_y hR hj h5, Option.bind_some, Option.bind_some, if_neg n10, if_neg n10]
    by_cases a1 : p2 < 1
    · rw [if_pos a1, in_l a1]
      exact ⟨-1, _, _, _, rfl, rfl, hT⟩
    rw [if_neg a1]
    by_cases a2 : 24 < p2
    · rw [if_pos a2, in_h a1 a2]
      exact ⟨-1, _, _, _, rfl, rfl, hT⟩
    obtain ⟨n, hn1, hn24, rfl⟩ := rng1 (hi := 24) (by decide) a1 a2
    rw [if_neg a2, in_y a1 a2, Option.bind_some, if_neg n10]
    rcases ixc p3 (n := 4) (by omega) with ⟨w, hw, rfl⟩ | hw
    · rw [(s_isSheet_y hw).1, (s_isSheet_y hw).2, Option.bind_some, Option.bind_some, if_neg n10, if_neg n10]
      rcases s_isLane (p := p4) with ⟨e1, e2, -⟩ | ⟨e1, e2⟩
      · have kw : (nI w).toNatClampNeg = w := n_cl (by omega)
        rw [e1, e2, Option.bind_some, Option.bind_some, if_neg n10, if_neg n10, gin_nI hw (by decide), kw]
        obtain ⟨v, f1, f2, f3⟩ := refuse (pl := p4) (pi := p5) (pn := nI n) hT hw
        rw [f1, f2, Option.bind_some, Option.bind_some]
        by_cases z : v = 0
        · obtain ⟨l, sz, i, n', hl, hsz, rfl, rfl, hnn, hin, -, b2, -, -, -, -⟩ := f3 z
          have hnn' : n' = n := by
            rcases Nat.lt_or_ge n' 2147483648 with q | q
            · exact ((n_eq (by omega) q).mp hnn).symm
            · omega
          subst hnn'
          have hRb := RM_begin (t := tri) h6 h5 hR
          rw [if_pos z, if_pos z, m_begin, Option.bind_some, gin_nI (by omega) (by decide), nm_def, n_cl (by omega), c6 j hj]
          obtain ⟨r, s, q1, q2, q3⟩ := lp_sim (b1 := bX5_film_81 (nI nd) (nI dy) bu ki we wo wr lan (nI j) (nI n') (nI w) (nI i)) (b2 := bX6_film_64 (nI j) (nI n') (nI w) (nI l) (nI i)) n' (fun k a b => a.1 = nI (stB (loadN nd ki0 we0 wo0 wr0) bu0 st0 dy j k) ∧ a.2.1 = nI k ∧ b.1 = nI k ∧ b.2.2 = itD (fun q => if q < 38 then now q else tri q) k ∧ SHT th lan siz a.2.2 lanM sizM b.2.1) (fun r s => r.1 = s.1 ∧ SHT th lan siz r.2 lanM sizM s.2.1) (by omega)
            (fun k a b hk2 hrel => by
              obtain ⟨v8, v9, itm2⟩ := a
              obtain ⟨v7, itmM2, tri2⟩ := b
              obtain ⟨g1, g2, g3, g4, g5⟩ := hrel
              simp only at g1 g2 g3 g4 g5
              subst g1 g2 g3 g4
              have hst := stB_le (L := loadN nd ki0 we0 wo0 wr0) (dy := dy) (hs j hj).1 k
              have hbj := (hs j hj).2
              obtain ⟨-, y2⟩ := itD_RM hk hRb (by omega) hs k (by omega)
              obtain ⟨y1, -⟩ := itD_RM hk hRb (by omega) hs (k + 1) (by omega)
              have e24 : 24 * nI w + nI i + nI k = nI (24 * w + (i + k)) := by rw [show (24 : Int32) = nI 24 from rfl, pk_mul, n_add, n_add, Nat.add_assoc]
              refine ⟨(nI (stB (loadN nd ki0 we0 wo0 wr0) bu0 st0 dy j (k + 1)), nI (k + 1), va_up itm2 w (vp_updL (itm2 w) (i + k) (cutv (nI l) (Int32.toInt64 (nI (stB (loadN nd ki0 we0 wo0 wr0) bu0 st0 dy j (k + 1))))))), (nI (k + 1), vp_updL itmM2 (24 * w + (i + k)) (cutv (nI l) (Int32.toInt64 (nI (stB (loadN nd ki0 we0 wo0 wr0) bu0 st0 dy j (k + 1))))), itD (fun q => if q < 38 then now q else tri q) (k + 1)), fun K => ?_, fun K => ?_, rfl, rfl, rfl, rfl, SHT_put g5 hw (by omega)⟩
              · rw [bX5_film_81, if_neg (by rw [n_le (by omega) (by omega)]; omega), n_add, s_strengthAfter hk c7 c8 c5 (fun i hi => (hs i hi).2) hj (by omega) (by omega), Option.bind_some, kw, b2, n_add, put_eq (by omega), Option.bind_some, nm_def, n_add1]
                rfl
              · rw [bX6_film_64, if_neg (by rw [n_le (by omega) (by omega)]; omega), y2, Option.bind_some, show (2 : Int32) = nI 2 from rfl, gin_add (by omega) (by decide), cl_add (by omega), (y1.2.2.2.2.1 j hj).2, cut_eq, Option.bind_some, e24, gin_nI (by omega) (by decide), nm_def, n_add1, n_cl (by omega)])
            (fun a b hrel => by
              obtain ⟨v8, v9, itm2⟩ := a
              obtain ⟨v7, itmM2, tri2⟩ := b
              obtain ⟨g1, g2, g3, g4, g5⟩ := hrel
              simp only at g1 g2 g3 g4 g5
              subst g1 g2 g3 g4
              refine ⟨(nI n', itm2), (nI n', itmM2, itD (fun q => if q < 38 then now q else tri q) n'), fun K => ?_, fun K => ?_, rfl, g5⟩
              · rw [bX5_film_81, if_pos (by rw [n_le (by omega) (by omega)]; omega)]
              · rw [bX6_film_64, if_pos (by rw [n_le (by omega) (by omega)]; omega)])
            (a0 := (nI (st0 j), 0, itm)) (b0 := (0, itmM, fun q => if q < 38 then now q else tri q)) ⟨rfl, rfl, rfl, rfl, hT⟩
          obtain ⟨r1, itm5⟩ := r
          obtain ⟨s1, itmM5, tri5⟩ := s
          obtain ⟨t1, t2⟩ := q3
          simp only at t1 t2
          subst t1
          exact ⟨_, _, _, _, q1, q2, t2⟩
        · rw [if_neg z, if_neg z]
          exact ⟨v, _, _, _, rfl, rfl, hT⟩
      · rw [e1, e2, Option.bind_some, Option.bind_some, if_pos n00, if_pos n00]
        exact ⟨-1, _, _, _, rfl, rfl, hT⟩
    · rw [(s_isSheet_n hw).1, (s_isSheet_n hw).2, Option.bind_some, Option.bind_some, if_pos n00, if_pos n00]
      exact ⟨-1, _, _, _, rfl, rfl, hT⟩
  · rw [s_hasMan_n hn, m_isMan_n hR h5 hn, Option.bind_some, Option.bind_some, if_pos n00, if_pos n00]
    exact ⟨-1, _, _, _, rfl, rfl, hT⟩
end P16
