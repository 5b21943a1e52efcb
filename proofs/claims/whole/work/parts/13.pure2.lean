/-! PURE, 2: the Muster's answers -/
theorem loadS_ext {nd : Nat} {ki we wo : Nat → Nat} {P Q : Nat → Bool} {m odd : Nat} (h : ∀ d, d < nd → P d = Q d) : loadS nd ki we wo P m odd = loadS nd ki we wo Q m odd := by
  unfold loadS
  rw [cn_ext nd h, ldS_ext nd h]
theorem okW {nm nd : Nat} {ki we wo : Nat → Nat} {wr : Nat → Option Nat} (h : okD nm nd ki we wo wr) : ∀ d, d < nd → ∀ m, wr d = some m → m < 1000 := fun d hd m e => by
  have := (h.2.2.2 d hd).2.2.2.2 m e
  have := h.1
  omega
theorem s_wornBy {nm nd : Nat} {ki we wo : Nat → Nat} {wr : Nat → Option Nat} {wr' : Nat → Int32} {o : Option Nat} (h : okD nm nd ki we wo wr) (hr : rW nd wr wr') (ho : ∀ m, o = some m → m < 1000) :
    fX1_wornBy (en o) (nI nd) wr' = some (nI (mk (fun d => wr d == o) nd)) := by
  unfold fX1_wornBy
  rw [s_medalsWith_wr h.2.1 hr (okW h) ho, Option.bind_some]
theorem mk_test {P : Nat → Bool} {n d : Nat} (hd : d < n) : (mk P n).testBit d = P d := by
  rw [mk_bit]
  simp [hd]
theorem s_loadOn {nm nd m dy : Nat} {ki we wo : Nat → Nat} {wr : Nat → Option Nat} {ki' we' wo' wr' : Nat → Int32} (h : okD nm nd ki we wo wr) (hr : rD nd ki we wo ki' we' wo') (hw : rW nd wr wr') (hm : m < 1000) (hdy : dy < 100000) :
    fX1_loadOn (nI m) (nI dy) (nI nd) ki' we' wo' wr' = some (nI (loadN nd ki we wo wr m (dy % 2))) := by
  unfold fX1_loadOn
  have e : nI m = en (some m) := rfl
  have h1 := s_wornBy (o := some m) h hw (fun k q => by cases q; exact hm)
  rw [show fX1_wornBy (nI m) (nI nd) wr' = _ from h1, Option.bind_some, s_loadOfSet h hr (mk_lt _ nd) hm hdy, Option.bind_some, loadS_ext (Q := fun d => wr d == some m) (fun d hd => mk_test hd)]
  rfl
def nxt (s b l : Nat) : Nat := if l ≤ s then (if s + 1 < b then s + 1 else b) else s - 1
theorem nxt_le {s b l : Nat} (h : s ≤ b) : nxt s b l ≤ b := by
  unfold nxt
  split
  · split <;> omega
  · omega
theorem s_strengthNext {s b l : Nat} (hs : s < 100000) (hb : b < 100000) (hl : l < 100000) : fX5_strengthNext (nI s) (nI b) (nI l) = some (nI (nxt s b l)) := by
  unfold fX5_strengthNext nxt
  rw [n_add1]
  by_cases h : l ≤ s
  · rw [if_pos ((n_le (by omega) (by omega)).mpr h), if_pos h]
    by_cases h2 : s + 1 < b
    · rw [if_pos ((n_lt (by omega) (by omega)).mpr h2), if_pos h2]
    · rw [if_neg (fun q => h2 ((n_lt (by omega) (by omega)).mp q)), if_neg h2]
  · rw [if_neg (fun q => h ((n_le (by omega) (by omega)).mp q)), if_neg h]
    by_cases z : 0 < s
    · rw [n_sub1 z]
      by_cases h2 : 0 < s - 1
      · rw [if_pos (show (0 : Int32) < nI (s - 1) from (n_lt (a := 0) (by omega) (by omega)).mpr h2)]
      · rw [if_neg (show ¬ (0 : Int32) < nI (s - 1) from fun q => h2 ((n_lt (a := 0) (by omega) (by omega)).mp q)), show s - 1 = 0 by omega]
        rfl
    · have : s = 0 := by omega
      subst this
      rw [if_neg (by decide)]
      rfl
def rS (nm : Nat) (f : Nat → Nat) (f' : Nat → Int32) : Prop := ∀ i, i < nm → f' i = nI (f i)
theorem s_strengthAfter {nm nd m dy s : Nat} {bu ki we wo : Nat → Nat} {wr : Nat → Option Nat} {bu' ki' we' wo' wr' : Nat → Int32} (h : okD nm nd ki we wo wr) (hr : rD nd ki we wo ki' we' wo') (hw : rW nd wr wr') (hbu : rS nm bu bu') (hb : ∀ i, i < nm → bu i < 100000) (hm : m < nm) (hs : s < 100000) (hdy : dy < 100000) :
    fX1_strengthAfter (nI m) (nI s) (nI dy) (nI nd) bu' ki' we' wo' wr' = some (nI (nxt s (bu m) (loadN nd ki we wo wr m (dy % 2)))) := by
  unfold fX1_strengthAfter
  have h5 := h.1
  have hl : loadN nd ki we wo wr m (dy % 2) ≤ 276 := loadS_le h (by omega)
  rw [gin_nI (by omega) (by decide), s_loadOn h hr hw (by omega) hdy, Option.bind_some, n_cl (by omega), hbu m hm, s_strengthNext hs (hb m hm) (by omega), Option.bind_some]
/-- strength of m behind k days from now -/
def stB (L : Nat → Nat → Nat) (bu st : Nat → Nat) (dy m : Nat) : Nat → Nat
  | 0 => st m
  | k + 1 => nxt (stB L bu st dy m k) (bu m) (L m ((dy + k) % 2))
theorem stB_le {L : Nat → Nat → Nat} {bu st : Nat → Nat} {dy m : Nat} (h : st m ≤ bu m) : ∀ k, stB L bu st dy m k ≤ bu m := by
  intro k
  induction k with
  | zero => exact h
  | succ k ih => exact nxt_le ih
theorem s_isBent {nm nd m dy : Nat} {st ki we wo : Nat → Nat} {wr : Nat → Option Nat} {st' ki' we' wo' wr' : Nat → Int32} (h : okD nm nd ki we wo wr) (hr : rD nd ki we wo ki' we' wo') (hw : rW nd wr wr') (hst : rS nm st st') (hb : ∀ i, i < nm → st i < 100000) (hm : m < nm) (hdy : dy < 100000) :
    fX1_isBent (nI m) (nI nd) (nI dy) st' ki' we' wo' wr' = some (if loadN nd ki we wo wr m (dy % 2) ≤ st m then 0 else 1) := by
  unfold fX1_isBent
  have h5 := h.1
  have hl : loadN nd ki we wo wr m (dy % 2) ≤ 276 := loadS_le h (by omega)
  have := hb m hm
  rw [s_loadOn h hr hw (by omega) hdy, Option.bind_some, gin_nI (by omega) (by decide), n_cl (by omega), hst m hm]
  by_cases c : loadN nd ki we wo wr m (dy % 2) ≤ st m
  · rw [if_pos ((n_le (by omega) (by omega)).mpr c), if_pos c]
  · rw [if_neg (fun q => c ((n_le (by omega) (by omega)).mp q)), if_neg c]
/-- who is bent: a set -/
def bentM (L : Nat → Nat → Nat) (st : Nat → Nat) (nm dy : Nat) : Nat := mk (fun m => decide (st m < L m (dy % 2))) nm
theorem s_allBent {nm nd dy : Nat} {st ki we wo : Nat → Nat} {wr : Nat → Option Nat} {st' ki' we' wo' wr' : Nat → Int32} (h : okD nm nd ki we wo wr) (hr : rD nd ki we wo ki' we' wo') (hw : rW nd wr wr') (hst : rS nm st st') (hb : ∀ i, i < nm → st i < 100000) (hdy : dy < 100000) :
    fX1_allBent (nI nm) (nI nd) (nI dy) st' ki' we' wo' wr' = some (nI (bentM (loadN nd ki we wo wr) st nm dy)) := by
  unfold fX1_allBent
  have h5 := h.1
  refine lp_to (fun k => (nI (mk (fun m => decide (st m < loadN nd ki we wo wr m (dy % 2))) k), nI k)) nm rfl (by omega) (fun k hk K => ?_) (fun K => ?_)
  · have hl := mk_lt (fun m => decide (st m < loadN nd ki we wo wr m (dy % 2))) k
    rw [bX1_allBent_4, if_neg (by rw [n_le (by omega) (by omega)]; omega), s_isBent h hr hw hst hb hk hdy, Option.bind_some]
    by_cases c : loadN nd ki we wo wr k (dy % 2) ≤ st k
    · rw [if_pos c, if_pos rfl]
      simp only [nm_def, n_add1]
      show _ = K (nI (_ + if decide (st k < loadN nd ki we wo wr k (dy % 2)) then _ else 0), _)
      rw [if_neg (by simpa using c)]
      rfl
    · rw [if_neg c, if_neg (by decide)]
      simp only [nm_def, n_add1]
      rw [or_nI hl (by omega)]
      show _ = K (nI (_ + if decide (st k < loadN nd ki we wo wr k (dy % 2)) then _ else 0), _)
      rw [if_pos (by simpa using c)]
  · rw [bX1_allBent_4, if_pos (by rw [n_le (by omega) (by omega)]; omega)]
    rfl
theorem s_strengthBehind {nm nd m dy n : Nat} {bu st ki we wo : Nat → Nat} {wr : Nat → Option Nat} {bu' st' ki' we' wo' wr' : Nat → Int32} (h : okD nm nd ki we wo wr) (hr : rD nd ki we wo ki' we' wo') (hw : rW nd wr wr') (hbu : rS nm bu bu') (hst : rS nm st st') (hb : ∀ i, i < nm → st i ≤ bu i ∧ bu i < 100000) (hm : m < nm) (hdy : dy < 50000) (hn : n < 1000) :
    fX1_strengthBehind (nI m) (nI n) (nI nd) (nI dy) bu' st' ki' we' wo' wr' = some (nI (stB (loadN nd ki we wo wr) bu st dy m n)) := by
  unfold fX1_strengthBehind
  have h5 := h.1
  obtain ⟨b1, b2⟩ := hb m hm
  rw [gin_nI (by omega) (by decide), nm_def, n_cl (by omega), hst m hm]
  refine lp_to (fun k => (nI (stB (loadN nd ki we wo wr) bu st dy m k), nI k)) n rfl (by omega) (fun k hk K => ?_) (fun K => ?_)
  · have hl := stB_le (L := loadN nd ki we wo wr) (dy := dy) b1 k
    rw [bX1_strengthBehind_10, if_neg (by rw [n_le (by omega) (by omega)]; omega), n_add, s_strengthAfter h hr hw hbu (fun i hi => (hb i hi).2) hm (by omega) (by omega), Option.bind_some, nm_def, n_add1]
    rfl
  · rw [bX1_strengthBehind_10, if_pos (by rw [n_le (by omega) (by omega)]; omega)]
theorem s_bentBehind {nm nd dy n : Nat} {bu st ki we wo : Nat → Nat} {wr : Nat → Option Nat} {bu' st' ki' we' wo' wr' : Nat → Int32} (h : okD nm nd ki we wo wr) (hr : rD nd ki we wo ki' we' wo') (hw : rW nd wr wr') (hbu : rS nm bu bu') (hst : rS nm st st') (hb : ∀ i, i < nm → st i ≤ bu i ∧ bu i < 100000) (hdy : dy < 50000) (hn : n < 1000) :
    fX1_bentBehind (nI n) (nI nm) (nI nd) (nI dy) bu' st' ki' we' wo' wr' = some (nI (bentM (loadN nd ki we wo wr) (fun m => stB (loadN nd ki we wo wr) bu st dy m n) nm (dy + n))) := by
  unfold fX1_bentBehind
  have h5 := h.1
  refine lp_to (fun k => (nI (mk (fun m => decide (stB (loadN nd ki we wo wr) bu st dy m n < loadN nd ki we wo wr m ((dy + n) % 2))) k), nI k)) nm rfl (by omega) (fun k hk K => ?_) (fun K => ?_)
  · have hl := mk_lt (fun m => decide (stB (loadN nd ki we wo wr) bu st dy m n < loadN nd ki we wo wr m ((dy + n) % 2))) k
    have hl2 := stB_le (L := loadN nd ki we wo wr) (dy := dy) (hb k hk).1 n
    have hl3 : loadN nd ki we wo wr k ((dy + n) % 2) ≤ 276 := loadS_le h (by omega)
    have := (hb k hk).2
    rw [bX1_bentBehind_4, if_neg (by rw [n_le (by omega) (by omega)]; omega), n_add, s_loadOn h hr hw (by omega) (by omega), Option.bind_some, s_strengthBehind h hr hw hbu hst hb hk hdy hn, Option.bind_some]
    by_cases c : loadN nd ki we wo wr k ((dy + n) % 2) ≤ stB (loadN nd ki we wo wr) bu st dy k n
    · rw [if_pos ((n_le (by omega) (by omega)).mpr c)]
      simp only [nm_def, n_add1]
      show _ = K (nI (_ + if decide (stB (loadN nd ki we wo wr) bu st dy k n < loadN nd ki we wo wr k ((dy + n) % 2)) then _ else 0), _)
      rw [if_neg (by simpa using c)]
      rfl
    · rw [if_neg (fun q => c ((n_le (by omega) (by omega)).mp q))]
      simp only [nm_def, n_add1]
      rw [or_nI hl (by omega)]
      show _ = K (nI (_ + if decide (stB (loadN nd ki we wo wr) bu st dy k n < loadN nd ki we wo wr k ((dy + n) % 2)) then _ else 0), _)
      rw [if_pos (by simpa using c)]
  · rw [bX1_bentBehind_4, if_pos (by rw [n_le (by omega) (by omega)]; omega)]
    rfl
