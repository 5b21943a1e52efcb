/-! PURE, 22: felt -/
theorem i_or0 (x : Int32) : x ||| 0 = x := by simp
theorem cmp0 {x y : Int64} : lg_cmp x y = 0 ↔ x = y := by
  unfold lg_cmp
  by_cases a : x > y
  · rw [if_pos a]
    refine ⟨fun q => absurd q (by decide), fun q => ?_⟩
    subst q
    exact absurd a (Int64.lt_irrefl)
  · rw [if_neg a]
    by_cases b : x = y
    · rw [if_pos b]
      exact ⟨fun _ => b, fun _ => rfl⟩
    · rw [if_neg b]
      exact ⟨fun q => absurd q (by decide), fun q => absurd q b⟩
section P22
variable {nm nd dy dr : Nat} {bu0 st0 ki0 we0 wo0 : Nat → Nat} {wr0 : Nat → Option Nat}
theorem RM_kind {d v : Nat} {s : Nat → Int32} (h6 : nd ≤ 6) (h5 : nm ≤ 5) (hd : d < 6) (hR : RM nm nd dy dr bu0 st0 ki0 we0 wo0 wr0 s) : RM nm nd dy dr bu0 st0 (va_up ki0 d v) we0 wo0 wr0 (upd s (26 + d) (nI v)) := by
  obtain ⟨a1, a2, a3, a4, a5, a6⟩ := hR
  refine ⟨by rw [upd_ne (by omega), a1], by rw [upd_ne (by omega), a2], by rw [upd_ne (by omega), a3], by rw [upd_ne (by omega), a4], fun i hi => ?_, fun q hq => ?_⟩
  · rw [upd_ne (by omega), upd_ne (by omega)]
    exact a5 i hi
  · obtain ⟨b1, b2, b3, b4⟩ := a6 q hq
    refine ⟨?_, by rw [upd_ne (by omega), b2], by rw [upd_ne (by omega), b3], by rw [upd_ne (by omega), b4]⟩
    by_cases e : q = d
    · subst e
      rw [upd_self, va_up_self]
    · rw [upd_ne (by omega), va_up_ne _ _ e, b1]
theorem RM_weigh {d v : Nat} {s : Nat → Int32} (h6 : nd ≤ 6) (h5 : nm ≤ 5) (hd : d < 6) (hR : RM nm nd dy dr bu0 st0 ki0 we0 wo0 wr0 s) : RM nm nd dy dr bu0 st0 ki0 (va_up we0 d v) wo0 wr0 (upd s (7 + d) (nI v)) := by
  obtain ⟨a1, a2, a3, a4, a5, a6⟩ := hR
  refine ⟨by rw [upd_ne (by omega), a1], by rw [upd_ne (by omega), a2], by rw [upd_ne (by omega), a3], by rw [upd_ne (by omega), a4], fun i hi => ?_, fun q hq => ?_⟩
  · rw [upd_ne (by omega), upd_ne (by omega)]
    exact a5 i hi
  · obtain ⟨b1, b2, b3, b4⟩ := a6 q hq
    refine ⟨by rw [upd_ne (by omega), b1], ?_, by rw [upd_ne (by omega), b3], by rw [upd_ne (by omega), b4]⟩
    by_cases e : q = d
    · subst e
      rw [upd_self, va_up_self]
    · rw [upd_ne (by omega), va_up_ne _ _ e, b2]
theorem RM_wound {d v : Nat} {s : Nat → Int32} (h6 : nd ≤ 6) (h5 : nm ≤ 5) (hd : d < 6) (hR : RM nm nd dy dr bu0 st0 ki0 we0 wo0 wr0 s) : RM nm nd dy dr bu0 st0 ki0 we0 (va_up wo0 d v) wr0 (upd s (32 + d) (nI v)) := by
  obtain ⟨a1, a2, a3, a4, a5, a6⟩ := hR
  refine ⟨by rw [upd_ne (by omega), a1], by rw [upd_ne (by omega), a2], by rw [upd_ne (by omega), a3], by rw [upd_ne (by omega), a4], fun i hi => ?_, fun q hq => ?_⟩
  · rw [upd_ne (by omega), upd_ne (by omega)]
    exact a5 i hi
  · obtain ⟨b1, b2, b3, b4⟩ := a6 q hq
    refine ⟨by rw [upd_ne (by omega), b1], by rw [upd_ne (by omega), b2], ?_, by rw [upd_ne (by omega), b4]⟩
    by_cases e : q = d
    · subst e
      rw [upd_self, va_up_self]
    · rw [upd_ne (by omega), va_up_ne _ _ e, b3]
theorem both_told {bu st ki we wo wr s : Nat → Int32} {it itM : Nat → Int64} {m w i n : Nat} (h : okD nm nd ki0 we0 wo0 wr0) (c7 : rD nd ki0 we0 wo0 ki we wo) (c8 : rW nd wr0 wr) (c5 : rS nm bu0 bu) (c6 : rS nm st0 st) (hR : RM nm nd dy dr bu0 st0 ki0 we0 wo0 wr0 s) (hs : ∀ i, i < nm → st0 i ≤ bu0 i ∧ bu0 i < 100000) (hdy : dy ≤ 9999) (hm : m < nm) (hw : w < 4) (hin : i + n ≤ 24) (hn1 : 1 ≤ n) (hit : ∀ q, q < 24 → it q = itM (24 * w + q)) :
    ∃ bt t, fX5_trialIsTold (nI m) (nI i) (nI n) (nI nd) (nI dy) bu st ki we wo wr it = some bt ∧ fX6_isFelt (nI m) (nI w) (nI i) (nI n) itM s = some (bt, t) := by
  have h5 := h.1
  have hst : ∀ k, stB (loadN nd ki0 we0 wo0 wr0) bu0 st0 dy m k < 100000 := fun k => by
    have := stB_le (L := loadN nd ki0 we0 wo0 wr0) (dy := dy) (hs m hm).1 k
    have := (hs m hm).2
    omega
  obtain ⟨f, f1, f2, f3⟩ := first_bad (fun k => itM (24 * w + (i + k)) = Int32.toInt64 (nI (stB (loadN nd ki0 we0 wo0 wr0) bu0 st0 dy m (k + 1)))) (n - 1)
  have e24 : 24 * nI w + nI i = nI (24 * w + i) := by rw [n_mul24, n_add]
  have SA : ∀ k, k < 100 → fX1_strengthAfter (nI m) (nI (stB (loadN nd ki0 we0 wo0 wr0) bu0 st0 dy m k)) (nI (dy + k)) (nI nd) bu ki we wo wr = some (nI (stB (loadN nd ki0 we0 wo0 wr0) bu0 st0 dy m (k + 1))) := fun k hk => s_strengthAfter h c7 c8 c5 (fun i hi => (hs i hi).2) hm (hst k) (by omega)
  refine ⟨if f = n then 1 else 0, itD s (if f = n then n else f + 1), ?_, ?_⟩
  · unfold fX5_trialIsTold
    rw [gin_nI (by omega) (by decide), nm_def, n_cl (by omega), c6 m hm]
    refine lp_to (fun k => (nI (stB (loadN nd ki0 we0 wo0 wr0) bu0 st0 dy m k), nI k)) f rfl (by omega) (fun k hk K => ?_) (fun K => ?_)
    · rw [bX5_trialIsTold_14, if_neg (show ¬ nI n ≤ nI k from fun q => by have := (n_le (by omega) (by omega)).mp q; omega), n_add, SA k (by omega), Option.bind_some, n_add, gin_nI (by omega) (by decide), n_cl (by omega), hit _ (by omega), if_pos (cmp0.mpr (f2 k hk)), nm_def, n_add1]
    · rw [bX5_trialIsTold_14]
      by_cases e : f = n
      · rw [if_pos (show nI n ≤ nI f by rw [n_le (by omega) (by omega)]; omega), if_pos e]
      · have z := f3.resolve_left (by omega)
        rw [if_neg (show ¬ nI n ≤ nI f from fun q => by have := (n_le (by omega) (by omega)).mp q; omega), n_add, SA f (by omega), Option.bind_some, n_add, gin_nI (by omega) (by decide), n_cl (by omega), hit _ (by omega), if_neg (fun q => z (cmp0.mp q)), if_neg e]
  · unfold fX6_isFelt
    have n2 : ∀ {α : Type} (A : Option α), gin (2 + nI m) 191 A = A := fun A => gin_add (c := 2) (by omega) (by decide)
    have k2 : (2 + nI m).toNatClampNeg = 2 + m := cl_add (c := 2) (by omega)
    by_cases e : f = n
    · rw [if_pos e, if_pos e]
      refine lp_to (fun k => (1, nI k, itD s k)) n rfl (by omega) (fun k hk K => ?_) (fun K => ?_)
      · obtain ⟨-, q2⟩ := itD_RM h hR (by omega) hs k (by omega)
        obtain ⟨q1, -⟩ := itD_RM h hR (by omega) hs (k + 1) (by omega)
        rw [bX6_isFelt_6, if_neg (show ¬ nI n ≤ nI k from fun q => by have := (n_le (by omega) (by omega)).mp q; omega), if_neg n10, q2, Option.bind_some, n2, e24, n_add, gin_nI (by omega) (by decide), k2, (q1.2.2.2.2.1 m hm).2, n_cl (by omega), Nat.add_assoc, if_pos (cmp0.mpr (f2 k (by omega)).symm), nm_def, n_add1]
      · rw [bX6_isFelt_6, if_pos (by rw [n_le (by omega) (by omega)]; omega), gbz1]
    · have z := f3.resolve_left (by omega)
      rw [if_neg e, if_neg e]
      refine lp_to (fun k => (if k = f + 1 then 0 else 1, nI k, itD s k)) (f + 1) (by show (if 0 = f + 1 then _ else _, nI 0, itD s 0) = _; rw [if_neg (by omega)]; rfl) (by omega) (fun k hk K => ?_) (fun K => ?_)
      · obtain ⟨-, q2⟩ := itD_RM h hR (by omega) hs k (by omega)
        obtain ⟨q1, -⟩ := itD_RM h hR (by omega) hs (k + 1) (by omega)
        rw [if_neg (show ¬ k = f + 1 by omega), bX6_isFelt_6, if_neg (show ¬ nI n ≤ nI k from fun q => by have := (n_le (by omega) (by omega)).mp q; omega), if_neg n10, q2, Option.bind_some, n2, e24, n_add, gin_nI (by omega) (by decide), k2, (q1.2.2.2.2.1 m hm).2, n_cl (by omega), Nat.add_assoc]
        by_cases e3 : k = f
        · subst e3
          rw [if_neg (fun q => z (cmp0.mp q).symm), nm_def, n_add1, if_pos rfl]
        · rw [if_pos (cmp0.mpr (f2 k (by omega)).symm), nm_def, n_add1, if_neg (by omega)]
      · rw [if_pos rfl, bX6_isFelt_6]
        by_cases e4 : nI n ≤ nI (f + 1)
        · rw [if_pos e4, gbz0]
        · rw [if_neg e4, if_pos n00, gbz0]
theorem okD_kind {d v : Nat} (h : okD nm nd ki0 we0 wo0 wr0) (hv : v ≤ 4) : okD nm nd (va_up ki0 d v) we0 wo0 wr0 := by
  refine ⟨h.1, h.2.1, h.2.2.1, fun q hq => ?_⟩
  obtain ⟨b1, b2, b3, b4, b5⟩ := h.2.2.2 q hq
  by_cases e : q = d
  · subst e
    rw [va_up_self]
    exact ⟨hv, b2, b3, b4, b5⟩
  · rw [va_up_ne _ _ e]
    exact ⟨b1, b2, b3, b4, b5⟩
theorem okD_weigh {d v : Nat} (h : okD nm nd ki0 we0 wo0 wr0) (hv1 : 1 ≤ v) (hv : v ≤ 20) : okD nm nd ki0 (va_up we0 d v) wo0 wr0 := by
  refine ⟨h.1, h.2.1, h.2.2.1, fun q hq => ?_⟩
  obtain ⟨b1, b2, b3, b4, b5⟩ := h.2.2.2 q hq
  by_cases e : q = d
  · subst e
    rw [va_up_self]
    exact ⟨b1, hv1, hv, b4, b5⟩
  · rw [va_up_ne _ _ e]
    exact ⟨b1, b2, b3, b4, b5⟩
theorem okD_wound {d v : Nat} (h : okD nm nd ki0 we0 wo0 wr0) (hv : v < nm) : okD nm nd ki0 we0 (va_up wo0 d v) wr0 := by
  refine ⟨h.1, h.2.1, h.2.2.1, fun q hq => ?_⟩
  obtain ⟨b1, b2, b3, b4, b5⟩ := h.2.2.2 q hq
  by_cases e : q = d
  · subst e
    rw [va_up_self]
    exact ⟨b1, b2, b3, hv, b5⟩
  · rw [va_up_ne _ _ e]
    exact ⟨b1, b2, b3, b4, b5⟩
end P22
