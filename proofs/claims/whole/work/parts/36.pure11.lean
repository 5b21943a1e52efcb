/-! PURE, 11: two loops side by side; days and drift -/
theorem lp_sim {α β ρ σ : Type} {b1 : (α → Option ρ) → α → Option ρ} {b2 : (β → Option σ) → β → Option σ} (n : Nat) (Rel : Nat → α → β → Prop) (Post : ρ → σ → Prop) (hn : n < 100000)
    (hs : ∀ k a b, k < n → Rel k a b → ∃ a' b', (∀ K, b1 K a = K a') ∧ (∀ K, b2 K b = K b') ∧ Rel (k + 1) a' b') (he : ∀ a b, Rel n a b → ∃ r s, (∀ K, b1 K a = some r) ∧ (∀ K, b2 K b = some s) ∧ Post r s) {a0 : α} {b0 : β} (h0 : Rel 0 a0 b0) :
    ∃ r s, lp b1 FU a0 = some r ∧ lp b2 FU b0 = some s ∧ Post r s := by
  have key : ∀ d k a b f, k + d = n → d < f → Rel k a b → ∃ r s, lp b1 f a = some r ∧ lp b2 f b = some s ∧ Post r s := by
    intro d
    induction d with
    | zero =>
      intro k a b f hk hf h
      obtain ⟨f, rfl⟩ : ∃ g, f = g + 1 := ⟨f - 1, by omega⟩
      have : k = n := by omega
      subst this
      obtain ⟨r, s, e1, e2, e3⟩ := he a b h
      exact ⟨r, s, e1 _, e2 _, e3⟩
    | succ d ih =>
      intro k a b f hk hf h
      obtain ⟨f, rfl⟩ : ∃ g, f = g + 1 := ⟨f - 1, by omega⟩
      obtain ⟨a', b', e1, e2, e3⟩ := hs k a b (by omega) h
      obtain ⟨r, s, q1, q2, q3⟩ := ih (k + 1) a' b' f (by omega) (by omega) e3
      exact ⟨r, s, (e1 _).trans q1, (e2 _).trans q2, q3⟩
  exact key n 0 a0 b0 FU (by omega) hn h0
theorem s_passDay {nm nd dy : Nat} {bu st ki we wo : Nat → Nat} {wr : Nat → Option Nat} {bu' st' ki' we' wo' wr' : Nat → Int32} (h : okD nm nd ki we wo wr) (hr : rD nd ki we wo ki' we' wo') (hw : rW nd wr wr') (hbu : rS nm bu bu') (hst : rS nm st st') (hb : ∀ i, i < nm → st i ≤ bu i ∧ bu i < 100000) (hdy : dy < 50000) :
    ∃ st2, fX1_passDay (nI nm) (nI nd) (nI dy) bu' st' ki' we' wo' wr' = some (nI (dy + 1), st2) ∧ rS nm (fun i => nxt (st i) (bu i) (loadN nd ki we wo wr i (dy % 2))) st2 := by
  have h5 := h.1
  refine ⟨fun j => if j < nm then nI (nxt (st j) (bu j) (loadN nd ki we wo wr j (dy % 2))) else st' j, ?_, fun i hi => if_pos hi⟩
  unfold fX1_passDay
  refine lp_to (fun k => (nI k, fun j => if j < k then nI (nxt (st j) (bu j) (loadN nd ki we wo wr j (dy % 2))) else st' j)) nm ?_ (by omega) (fun k hk K => ?_) (fun K => ?_)
  · show (nI 0, _) = (0, st')
    congr 1
  · have hbk := hb k hk
    rw [bX1_passDay_2, if_neg (by rw [n_le (by omega) (by omega)]; omega), gin_nI (by omega) (by decide), n_cl (by omega), if_neg (Nat.lt_irrefl k), hst k hk, s_strengthAfter h hr hw hbu (fun i hi => (hb i hi).2) hk (by omega) (by omega), Option.bind_some, gin_nI (by omega) (by decide), nm_def, n_add1]
    congr 2
    funext j
    by_cases e : j = k
    · subst e
      rw [pk_us, if_pos (by omega)]
    · rw [pk_un e]
      by_cases c : j < k
      · rw [if_pos c, if_pos (by omega)]
      · rw [if_neg c, if_neg (by omega)]
  · rw [bX1_passDay_2, if_pos (by rw [n_le (by omega) (by omega)]; omega), n_add1]
section P11
variable {men md day drw kn nx : Int32} {bu st ki we wo wr now : Nat → Int32} {ke : Nat → Nat → Int32}
theorem both_day {dy0 : Nat} (h : SYH men md day drw bu st ki we wo wr kn nx ke now) (hd : day = nI dy0) (hl : dy0 + 1 ≤ 9999) : ∃ st' now', fX1_passDay men md day bu st ki we wo wr = some (nI (dy0 + 1), st') ∧ fX6_dayIn now = some now' ∧ SYH men md (nI (dy0 + 1)) drw bu st' ki we wo wr kn nx ke now' := by
  obtain ⟨nm, nd, dy, dr, bu0, st0, ki0, we0, wo0, wr0, kn0, nx0, ⟨hk, hb, hdy, hdr⟩, ⟨rfl, rfl, rfl, rfl, c5, c6, c7, c8⟩, hR, rfl, rfl, hH⟩ := h
  have : dy = dy0 := (n_eq (by omega) (by omega)).mp hd
  subst this
  have hs : ∀ i, i < nm → st0 i ≤ bu0 i ∧ bu0 i < 100000 := fun i hi => by have := hb i hi; omega
  have h5 := hk.1
  obtain ⟨st2, e1, e2⟩ := s_passDay hk c7 c8 c5 c6 hs (dy := dy) (by omega)
  obtain ⟨now', e3, e4, e5⟩ := m_dayIn hk hR (by omega) hs
  exact ⟨st2, now', e1, e3, nm, nd, dy + 1, dr, bu0, _, ki0, we0, wo0, wr0, kn0, nx0, ⟨hk, fun i hi => ⟨nxt_le (hb i hi).1, (hb i hi).2⟩, hl, hdr⟩, ⟨rfl, rfl, rfl, rfl, c5, e2, c7, c8⟩, e4, rfl, rfl, HI_kept hH (fun q hq => e5 q (by omega) (by omega))⟩
theorem both_bent (h : SYH men md day drw bu st ki we wo wr kn nx ke now) : ∃ r, fX1_allBent men md day st ki we wo wr = some r ∧ fX6_bentOnes now = some r := by
  obtain ⟨nm, nd, dy, dr, bu0, st0, ki0, we0, wo0, wr0, kn0, nx0, ⟨hk, hb, hdy, hdr⟩, ⟨rfl, rfl, rfl, rfl, c5, c6, c7, c8⟩, hR, rfl, rfl, hH⟩ := h
  have hs : ∀ i, i < nm → st0 i < 100000 := fun i hi => by have := hb i hi; omega
  exact ⟨_, s_allBent hk c7 c8 c6 hs (by omega), m_bentOnes hk hR (by omega) hs⟩
theorem pub_days {p1 : Int32} (h : SYH men md day drw bu st ki we wo wr kn nx ke now) : ∃ r day' drw' st' wr' kn' nx' ke' now', fX5_days p1 men md day drw bu st ki we wo wr kn nx ke = some (r, day', drw', st', wr', kn', nx', ke') ∧ fX6_days p1 now = some (r, now') ∧ SYH men md day' drw' bu st' ki we wo wr' kn' nx' ke' now' := by
  have h0 := h
  obtain ⟨nm, nd, dy, dr, bu0, st0, ki0, we0, wo0, wr0, kn0, nx0, ⟨hk, hb, hdy, hdr⟩, ⟨e1, e2, e3, e4, c5, c6, c7, c8⟩, hR, e5, e6, hH⟩ := h
  unfold fX5_days fX5_passDays fX6_days
  have g0 : ∀ {α : Type} (A : Option α), gin 0 191 A = A := fun A => gin_nI (k := 0) (by decide) (by decide)
  have z0 : Int32.toNatClampNeg 0 = 0 := by decide
  by_cases a1 : p1 < 1
  · rw [if_pos a1, in_l a1]
    exact ⟨-1, _, _, _, _, _, _, _, _, rfl, rfl, h0⟩
  rw [if_neg a1]
  by_cases a2 : p1 ≤ 40
  · obtain ⟨n, hn1, hn, rfl⟩ := rng1 (hi := 40) (by decide) a1 (Int32.not_lt.mpr a2)
    rw [if_pos a2, in_y a1 (Int32.not_lt.mpr a2), Option.bind_some, if_neg n10, g0, z0, hR.2.2.1, e3, n_add]
    by_cases a3 : dy + n ≤ 9999
    · have a3' : nI (dy + n) ≤ 9999 := (n_le (b := 9999) (by omega) (by omega)).mpr a3
      rw [if_pos a3', if_pos a3']
      obtain ⟨r, s, q1, q2, q3⟩ := lp_sim (b1 := bX5_passDays_33 men md bu ki we wo (nI n) 0) (b2 := bX6_days_31 (nI n)) n (fun k a b => a.1 = nI k ∧ b.1 = nI k ∧ a.2.1 = nI (dy + k) ∧ SYH men md a.2.1 a.2.2.1 bu a.2.2.2.1 ki we wo a.2.2.2.2.1 a.2.2.2.2.2.1 a.2.2.2.2.2.2.1 a.2.2.2.2.2.2.2 b.2) (fun r s => r.1 = s.1 ∧ SYH men md r.2.1 r.2.2.1 bu r.2.2.2.1 ki we wo r.2.2.2.2.1 r.2.2.2.2.2.1 r.2.2.2.2.2.2.1 r.2.2.2.2.2.2.2 s.2) (by omega)
        (fun k a b hk2 hrel => by
          obtain ⟨v3, day2, drw2, st2, wr2, kn2, nx2, ke2⟩ := a
          obtain ⟨v2, now2⟩ := b
          obtain ⟨f1, f2, f3, f4⟩ := hrel
          simp only at f1 f2 f3 f4
          subst f1 f2
          obtain ⟨kn3, nx3, ke3, now3, i1, i2, i3, i4⟩ := both_note f4
          obtain ⟨st4, now4, j1, j2, j3⟩ := both_day i3 f3 (by omega)
          refine ⟨(nI (k + 1), nI (dy + k + 1), drw2, st4, wr2, kn3, nx3, ke3), (nI (k + 1), now4), fun K => ?_, fun K => ?_, rfl, rfl, rfl, j3⟩
          · rw [bX5_passDays_33, if_neg (by rw [n_le (by omega) (by omega)]; omega), i1, Option.bind_some, if_pos (show (0 : Int32) = 0 from rfl), j1, Option.bind_some, nm_def, n_add1]
          · rw [bX6_days_31, if_neg (by rw [n_le (by omega) (by omega)]; omega), i2, Option.bind_some, j2, Option.bind_some, nm_def, n_add1])
        (fun a b hrel => by
          obtain ⟨v3, day2, drw2, st2, wr2, kn2, nx2, ke2⟩ := a
          obtain ⟨v2, now2⟩ := b
          obtain ⟨f1, f2, f3, f4⟩ := hrel
          simp only at f1 f2 f3 f4
          subst f1 f2
          obtain ⟨r, i1, i2⟩ := both_bent f4
          refine ⟨(r, day2, drw2, st2, wr2, kn2, nx2, ke2), (r, now2), fun K => ?_, fun K => ?_, rfl, f4⟩
          · rw [bX5_passDays_33, if_pos (by rw [n_le (by omega) (by omega)]; omega), i1, Option.bind_some]
          · rw [bX6_days_31, if_pos (by rw [n_le (by omega) (by omega)]; omega), i2, Option.bind_some])
        (a0 := (0, nI dy, drw, st, wr, kn, nx, ke)) (b0 := (0, now)) ⟨rfl, rfl, rfl, by rw [← e3]; exact h0⟩
      obtain ⟨r1, day5, drw5, st5, wr5, kn5, nx5, ke5⟩ := r
      obtain ⟨s1, now5⟩ := s
      obtain ⟨t1, t2⟩ := q3
      simp only at t1 t2
      subst t1
      rw [q1, q2, Option.bind_some]
      exact ⟨_, _, _, _, _, _, _, _, _, rfl, rfl, t2⟩
    · have a3' : ¬ nI (dy + n) ≤ 9999 := fun q => a3 ((n_le (b := 9999) (by omega) (by omega)).mp q)
      rw [if_neg a3', if_neg a3', Option.bind_some]
      exact ⟨-3, _, _, _, _, _, _, _, _, rfl, rfl, by rw [← e3]; exact h0⟩
  · rw [if_neg a2, in_h a1 (Int32.not_le.mp a2)]
    exact ⟨-1, _, _, _, _, _, _, _, _, rfl, rfl, h0⟩
end P11
