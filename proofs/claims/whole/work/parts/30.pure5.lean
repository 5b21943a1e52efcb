/-! PURE, 5: the questions: both sides answer alike -/
theorem n10 : ¬ (1 : Int32) = 0 := by decide
theorem n00 : (0 : Int32) = 0 := rfl
theorem rng {p : Int32} {hi : Nat} (hh : hi < 100000) (h1 : ¬ p < 0) (h2 : ¬ nI hi < p) : ∃ n, n ≤ hi ∧ p = nI n := by
  obtain ⟨j, hj, rfl⟩ := nI_of h1
  refine ⟨j, ?_, rfl⟩
  rw [n_lt (by omega) hj] at h2
  omega
theorem rng' {p : Int32} {hi : Nat} (hh : hi < 100000) (h1 : ¬ p < 0) (h2 : p ≤ nI hi) : ∃ n, n ≤ hi ∧ p = nI n := by
  obtain ⟨j, hj, rfl⟩ := nI_of h1
  refine ⟨j, ?_, rfl⟩
  rw [n_le hj (by omega)] at h2
  exact h2
def OKA (nm nd dy dr : Nat) (bu st ki we wo : Nat → Nat) (wr : Nat → Option Nat) : Prop := okD nm nd ki we wo wr ∧ (∀ i, i < nm → st i ≤ bu i ∧ 1 ≤ bu i ∧ bu i ≤ 60) ∧ dy ≤ 9999 ∧ dr < 2147483648
def RC (nm nd dy dr : Nat) (bu st ki we wo : Nat → Nat) (wr : Nat → Option Nat) (men md day drw : Int32) (bu' st' ki' we' wo' wr' : Nat → Int32) : Prop := men = nI nm ∧ md = nI nd ∧ day = nI dy ∧ drw = nI dr ∧ rS nm bu bu' ∧ rS nm st st' ∧ rD nd ki we wo ki' we' wo' ∧ rW nd wr wr'
def SY (men md day drw : Int32) (bu' st' ki' we' wo' wr' now : Nat → Int32) : Prop := ∃ (nm nd dy dr : Nat) (bu st ki we wo : Nat → Nat) (wr : Nat → Option Nat), OKA nm nd dy dr bu st ki we wo wr ∧ RC nm nd dy dr bu st ki we wo wr men md day drw bu' st' ki' we' wo' wr' ∧ RM nm nd dy dr bu st ki we wo wr now
theorem s_medalsWith_wo {nd m : Nat} {wo : Nat → Nat} {wo' : Nat → Int32} (h6 : nd ≤ 6) (hr : ∀ d, d < nd → wo' d = nI (wo d)) (hb : ∀ d, d < nd → wo d < 1000) (hm : m < 1000) :
    fX1_medalsWith_wo (nI m) (nI nd) wo' = some (nI (mk (fun d => wo d == m) nd)) := by
  unfold fX1_medalsWith_wo
  refine lp_to (fun k => (nI (mk (fun d => wo d == m) k), nI k)) nd rfl (by omega) (fun k hk K => ?_) (fun K => ?_)
  · have hl := mk_lt (fun d => wo d == m) k
    have := hb k hk
    rw [bX1_medalsWith_wo_5, if_neg (by rw [n_le (by omega) (by omega)]; omega), gin_nI (by omega) (by decide), n_cl (by omega), hr k hk]
    by_cases e : wo k = m
    · rw [if_pos (by rw [e])]
      simp only [nm_def, n_add1]
      rw [or_nI hl (by omega)]
      show _ = K (nI (_ + if (wo k == m) then _ else 0), _)
      rw [if_pos (by simpa using e)]
    · rw [if_neg (by rw [n_eq (by omega) (by omega)]; exact e)]
      simp only [nm_def, n_add1]
      show _ = K (nI (_ + if (wo k == m) then _ else 0), _)
      rw [if_neg (by simpa using e)]
      rfl
  · rw [bX1_medalsWith_wo_5, if_pos (by rw [n_le (by omega) (by omega)]; omega)]
section M5
variable {nm nd dy dr : Nat} {bu st ki we wo : Nat → Nat} {wr : Nat → Option Nat} {s : Nat → Int32}
theorem m_woundsOf {m : Nat} (h : okD nm nd ki we wo wr) (hR : RM nm nd dy dr bu st ki we wo wr s) (hm : m < 1000) : fX6_woundsOf (nI m) s = some (nI (mk (fun d => wo d == m) nd)) := by
  obtain ⟨r1, r2, r3, r4, r5, r6⟩ := hR
  have h6 := h.2.1
  have h5 := h.1
  unfold fX6_woundsOf
  refine lp_to (fun k => (nI (mk (fun d => wo d == m) k), nI k)) nd rfl (by omega) (fun k hk K => ?_) (fun K => ?_)
  · have hl := mk_lt (fun d => wo d == m) k
    have := (h.2.2.2 k hk).2.2.2.1
    rw [bX6_woundsOf_4, show (25 : Int32) = nI 25 from rfl, show (32 : Int32) = nI 32 from rfl, gin_nI (by decide) (by decide), n_cl (by decide), r2, if_neg (by rw [n_le (by omega) (by omega)]; omega), gin_add (by omega) (by decide), cl_add (by omega), (r6 k hk).2.2.1]
    by_cases e : wo k = m
    · rw [if_pos (by rw [e])]
      simp only [nm_def, n_add1]
      rw [or_nI hl (by omega)]
      show _ = K (nI (_ + if (wo k == m) then _ else 0), _)
      rw [if_pos (by simpa using e)]
    · rw [if_neg (by rw [n_eq (by omega) (by omega)]; exact e)]
      simp only [nm_def, n_add1]
      show K (nI _ ||| 0, _) = K (nI (_ + if (wo k == m) then _ else 0), _)
      rw [if_neg (by simpa using e), Int32.or_zero]
      rfl
  · rw [bX6_woundsOf_4, show (25 : Int32) = nI 25 from rfl, gin_nI (by decide) (by decide), n_cl (by decide), r2, if_pos (by rw [n_le (by omega) (by omega)]; omega)]
end M5
section P5
variable {men md day drw : Int32} {bu st ki we wo wr now : Nat → Int32}
theorem pub_of {p1 p2 : Int32} (h : SY men md day drw bu st ki we wo wr now) : ∃ r, fX5_of p1 p2 men md day bu st ki we wo wr = some r ∧ fX6_of p1 p2 now = some r := by
  obtain ⟨nm, nd, dy, dr, bu0, st0, ki0, we0, wo0, wr0, ⟨hk, hb, hdy, hdr⟩, ⟨rfl, rfl, rfl, rfl, c5, c6, c7, c8⟩, hR⟩ := h
  have h5 := hk.1
  have h6 := hk.2.1
  unfold fX5_of fX6_of
  rcases ixc p1 (n := nm) (by omega) with ⟨j, hj, rfl⟩ | hn
  · have hbj := hb j hj
    have hs : ∀ i, i < nm → st0 i < 100000 := fun i hi => by have := hb i hi; omega
    rw [s_hasMan_y hj (by omega), m_isMan_y hR hj h5, Option.bind_some, Option.bind_some, if_neg n10, if_neg n10]
    by_cases c0 : p2 = 0
    · rw [if_pos c0, if_pos c0]
      exact ⟨nI (bu0 j), by rw [gin_nI (by omega) (by decide), n_cl (by omega), c5 j hj], by rw [show (20 : Int32) = nI 20 from rfl, gin_add (by omega) (by decide), cl_add (by omega), (hR.2.2.2.2.1 j hj).1]⟩
    rw [if_neg c0, if_neg c0]
    by_cases c1 : p2 = 1
    · rw [if_pos c1, if_pos c1]
      exact ⟨nI (st0 j), by rw [gin_nI (by omega) (by decide), n_cl (by omega), c6 j hj], by rw [show (2 : Int32) = nI 2 from rfl, gin_add (by omega) (by decide), cl_add (by omega), (hR.2.2.2.2.1 j hj).2]⟩
    rw [if_neg c1, if_neg c1]
    by_cases c2 : p2 = 2
    · rw [if_pos c2, if_pos c2, s_loadOn hk c7 c8 (by omega) (by omega), m_load hk hR (by omega) (by omega)]
      exact ⟨_, rfl, rfl⟩
    rw [if_neg c2, if_neg c2]
    by_cases c3 : p2 = 3
    · rw [if_pos c3, if_pos c3, s_isBent hk c7 c8 c6 hs hj (by omega), m_isBent hk hR (by omega) hj (hs j hj), Option.bind_some]
      by_cases q : loadN nd ki0 we0 wo0 wr0 j (dy % 2) ≤ st0 j
      · rw [if_pos q]
        exact ⟨0, rfl, rfl⟩
      · rw [if_neg q]
        exact ⟨1, rfl, rfl⟩
    rw [if_neg c3, if_neg c3]
    by_cases c4 : p2 = 4
    · have e1 := s_wornBy (o := some j) hk c8 (fun k q => by cases q; omega)
      have e2 := m_wornBy (o := some j) hk hR (fun k q => by cases q; omega)
      rw [if_pos c4, if_pos c4, show fX1_wornBy (nI j) (nI nd) wr = _ from e1, show fX6_wornBy (nI j) now = _ from e2]
      exact ⟨_, rfl, rfl⟩
    rw [if_neg c4, if_neg c4]
    by_cases c5' : p2 = 5
    · rw [if_pos c5', if_pos c5', m_woundsOf hk hR (by omega)]
      unfold fX1_woundsOf
      rw [s_medalsWith_wo h6 (fun d hd => (c7 d hd).2.2) (fun d hd => by have := (hk.2.2.2 d hd).2.2.2.1; omega) (by omega)]
      exact ⟨_, rfl, rfl⟩
    rw [if_neg c5', if_neg c5']
    exact ⟨_, rfl, rfl⟩
  · rw [s_hasMan_n hn, m_isMan_n hR h5 hn]
    exact ⟨-1, rfl, rfl⟩
theorem pub_ahead {p1 p2 p3 : Int32} {tri : Nat → Int32} (h : SY men md day drw bu st ki we wo wr now) : ∃ r tri', fX5_ahead p1 p2 p3 men md day bu st ki we wo wr = some r ∧ fX6_ahead p1 p2 p3 now tri = some (r, tri') := by
  obtain ⟨nm, nd, dy, dr, bu0, st0, ki0, we0, wo0, wr0, ⟨hk, hb, hdy, hdr⟩, ⟨rfl, rfl, rfl, rfl, c5, c6, c7, c8⟩, hR⟩ := h
  have h5 := hk.1
  have h6 := hk.2.1
  unfold fX5_ahead fX6_ahead
  rcases ixc p1 (n := nm) (by omega) with ⟨j, hj, rfl⟩ | hn
  · have hbj := hb j hj
    have hs : ∀ i, i < nm → st0 i ≤ bu0 i ∧ bu0 i < 100000 := fun i hi => by have := hb i hi; omega
    rw [s_hasMan_y hj (by omega), m_isMan_y hR hj h5, Option.bind_some, Option.bind_some, if_neg n10, if_neg n10]
    unfold fX6_in
    by_cases a1 : p2 < 0
    · rw [if_pos a1, if_pos a1]
      exact ⟨-1, tri, rfl, rfl⟩
    rw [if_neg a1, if_neg a1]
    by_cases a2 : 60 < p2
    · rw [if_pos a2, if_pos a2]
      exact ⟨-1, tri, rfl, rfl⟩
    rw [if_neg a2, if_neg a2, Option.bind_some, if_neg n10]
    by_cases a3 : p3 < 0
    · rw [if_pos a3, if_pos a3]
      exact ⟨-1, tri, rfl, rfl⟩
    rw [if_neg a3, if_neg a3]
    by_cases a4 : p3 ≤ 1
    · obtain ⟨n, hn, rfl⟩ := rng (hi := 60) (by decide) a1 a2
      have hRb := RM_begin (t := tri) h6 h5 hR
      rw [if_pos a4, if_neg (Int32.not_lt.mpr a4), Option.bind_some, if_neg n10, m_begin, Option.bind_some, m_goOn hk hRb (by omega) hs (by omega), Option.bind_some]
      obtain ⟨q1, -⟩ := itD_RM hk hRb (by omega) hs n (by omega)
      by_cases c0 : p3 = 0
      · rw [if_pos c0, if_pos c0, s_strengthBehind hk c7 c8 c5 c6 hs hj (by omega) (by omega), Option.bind_some, show (2 : Int32) = nI 2 from rfl, gin_add (by omega) (by decide), cl_add (by omega), (q1.2.2.2.2.1 j hj).2]
        exact ⟨_, _, rfl, rfl⟩
      · rw [if_neg c0, if_neg c0, n_add, s_loadOn hk c7 c8 (by omega) (by omega), m_load hk q1 (by omega) (by omega)]
        exact ⟨_, _, rfl, rfl⟩
    · rw [if_neg a4, if_pos (Int32.not_le.mp a4)]
      exact ⟨-1, tri, rfl, rfl⟩
  · rw [s_hasMan_n hn, m_isMan_n hR h5 hn]
    exact ⟨-1, tri, rfl, rfl⟩
theorem pub_then {p1 : Int32} {tri : Nat → Int32} (h : SY men md day drw bu st ki we wo wr now) : ∃ r tri', fX5_then p1 men md day bu st ki we wo wr = some r ∧ fX6_then p1 now tri = some (r, tri') := by
  obtain ⟨nm, nd, dy, dr, bu0, st0, ki0, we0, wo0, wr0, ⟨hk, hb, hdy, hdr⟩, ⟨rfl, rfl, rfl, rfl, c5, c6, c7, c8⟩, hR⟩ := h
  have h5 := hk.1
  have h6 := hk.2.1
  have hs : ∀ i, i < nm → st0 i ≤ bu0 i ∧ bu0 i < 100000 := fun i hi => by have := hb i hi; omega
  unfold fX5_then fX6_then fX6_in
  by_cases a1 : p1 < 0
  · rw [if_pos a1, if_pos a1]
    exact ⟨-1, tri, rfl, rfl⟩
  rw [if_neg a1, if_neg a1]
  by_cases a2 : p1 ≤ 60
  · obtain ⟨n, hn, rfl⟩ := rng' (hi := 60) (by decide) a1 a2
    have hRb := RM_begin (t := tri) h6 h5 hR
    rw [if_pos a2, if_neg (Int32.not_lt.mpr a2), Option.bind_some, if_neg n10, m_begin, Option.bind_some, m_goOn hk hRb (by omega) hs (by omega), Option.bind_some]
    obtain ⟨q1, -⟩ := itD_RM hk hRb (by omega) hs n (by omega)
    rw [s_bentBehind hk c7 c8 c5 c6 hs (by omega) (by omega), m_bentOnes hk q1 (by omega) (fun i hi => by have := stB_le (L := loadN nd ki0 we0 wo0 wr0) (dy := dy) (hs i hi).1 n; have := (hs i hi).2; omega)]
    exact ⟨_, _, rfl, rfl⟩
  · rw [if_neg a2, if_pos (Int32.not_le.mp a2)]
    exact ⟨-1, tri, rfl, rfl⟩
end P5
