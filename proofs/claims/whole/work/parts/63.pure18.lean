/-! PURE, 18: ever, off, two -/
theorem lp_simx {α β ρ σ : Type} {b1 : (α → Option ρ) → α → Option ρ} {b2 : (β → Option σ) → β → Option σ} (n : Nat) (Rel : Nat → α → β → Prop) (Post : ρ → σ → Prop) (hn : n < 100000)
    (hs : ∀ k a b, k ≤ n → Rel k a b → (k < n ∧ ∃ a' b', (∀ K, b1 K a = K a') ∧ (∀ K, b2 K b = K b') ∧ Rel (k + 1) a' b') ∨ ∃ r s, (∀ K, b1 K a = some r) ∧ (∀ K, b2 K b = some s) ∧ Post r s) {a0 : α} {b0 : β} (h0 : Rel 0 a0 b0) :
    ∃ r s, lp b1 FU a0 = some r ∧ lp b2 FU b0 = some s ∧ Post r s := by
  have key : ∀ d k a b f, k + d = n → d < f → Rel k a b → ∃ r s, lp b1 f a = some r ∧ lp b2 f b = some s ∧ Post r s := by
    intro d
    induction d with
    | zero =>
      intro k a b f hk hf h
      obtain ⟨f, rfl⟩ : ∃ g, f = g + 1 := ⟨f - 1, by omega⟩
      rcases hs k a b (by omega) h with ⟨z, _⟩ | ⟨r, s, h1, h2, h3⟩
      · omega
      · exact ⟨r, s, by rw [lp_succ, h1], by rw [lp_succ, h2], h3⟩
    | succ d ih =>
      intro k a b f hk hf h
      obtain ⟨f, rfl⟩ : ∃ g, f = g + 1 := ⟨f - 1, by omega⟩
      rcases hs k a b (by omega) h with ⟨z, a', b', h1, h2, h3⟩ | ⟨r, s, h1, h2, h3⟩
      · obtain ⟨r, s, e1, e2, e3⟩ := ih (k + 1) a' b' f (by omega) (by omega) h3
        exact ⟨r, s, by rw [lp_succ, h1, e1], by rw [lp_succ, h2, e2], e3⟩
      · exact ⟨r, s, by rw [lp_succ, h1], by rw [lp_succ, h2], h3⟩
  exact key n 0 a0 b0 FU (by omega) (by unfold FU; omega) h0
theorem lp_simK {α β α' β' ρ σ : Type} {b1 : (α' → Option ρ) → (α → Option ρ) → α → Option ρ} {b2 : (β' → Option σ) → (β → Option σ) → β → Option σ} (n : Nat) (Rel : Nat → α → β → Prop) (Post : α' → β' → Prop) (hn : n < 100000)
    (hs : ∀ k a b, k < n → Rel k a b → ∃ a' b', (∀ J K, b1 J K a = K a') ∧ (∀ J K, b2 J K b = K b') ∧ Rel (k + 1) a' b') (he : ∀ a b, Rel n a b → ∃ r s, (∀ J K, b1 J K a = J r) ∧ (∀ J K, b2 J K b = J s) ∧ Post r s) {a0 : α} {b0 : β} (h0 : Rel 0 a0 b0) :
    ∃ r s, (∀ J, lp (b1 J) FU a0 = J r) ∧ (∀ J, lp (b2 J) FU b0 = J s) ∧ Post r s := by
  have key : ∀ d k a b f, k + d = n → d < f → Rel k a b → ∃ r s, (∀ J, lp (b1 J) f a = J r) ∧ (∀ J, lp (b2 J) f b = J s) ∧ Post r s := by
    intro d
    induction d with
    | zero =>
      intro k a b f hk hf h
      obtain ⟨f, rfl⟩ : ∃ g, f = g + 1 := ⟨f - 1, by omega⟩
      have hkn : k = n := by omega
      subst hkn
      obtain ⟨r, s, h1, h2, h3⟩ := he a b h
      exact ⟨r, s, fun J => by rw [lp_succ, h1], fun J => by rw [lp_succ, h2], h3⟩
    | succ d ih =>
      intro k a b f hk hf h
      obtain ⟨f, rfl⟩ : ∃ g, f = g + 1 := ⟨f - 1, by omega⟩
      obtain ⟨a', b', h1, h2, h3⟩ := hs k a b (by omega) h
      obtain ⟨r, s, e1, e2, e3⟩ := ih (k + 1) a' b' f (by omega) (by omega) h3
      exact ⟨r, s, fun J => by rw [lp_succ, h1, e1], fun J => by rw [lp_succ, h2, e2], e3⟩
  exact key n 0 a0 b0 FU (by omega) (by unfold FU; omega) h0
theorem n_or (a b : Nat) : nI a ||| nI b = nI (a ||| b) := by
  apply Int32.toBitVec_inj.mp
  show (nI a).toBitVec ||| (nI b).toBitVec = _
  unfold nI
  apply BitVec.eq_of_toNat_eq
  simp [BitVec.toNat_or, Nat.or_mod_two_pow]
theorem n_xor (a b : Nat) : nI a ^^^ nI b = nI (a ^^^ b) := by
  apply Int32.toBitVec_inj.mp
  show (nI a).toBitVec ^^^ (nI b).toBitVec = _
  unfold nI
  apply BitVec.eq_of_toNat_eq
  simp [BitVec.toNat_xor, Nat.xor_mod_two_pow]
theorem shl1 {k : Nat} (hk : k < 31) : (1 : Int32) <<< (nI k &&& 31) = nI (2 ^ k) := by
  have : ∀ k : Fin 31, (1 : Int32) <<< (nI k.val &&& 31) = nI (2 ^ k.val) := by decide +kernel
  exact this ⟨k, hk⟩
theorem mk_or (P Q : Nat → Bool) (n : Nat) : mk P n ||| mk Q n = mk (fun j => P j || Q j) n := by
  apply Nat.eq_of_testBit_eq
  intro j
  rw [Nat.testBit_or, mk_bit, mk_bit, mk_bit]
  cases decide (j < n) <;> simp
theorem mk_false (n : Nat) : mk (fun _ => false) n = 0 := by
  induction n with
  | zero => rfl
  | succ n ih =>
    show mk (fun _ => false) n + (if false = true then 2 ^ n else 0) = 0
    rw [ih]
    rfl
def evB (L : Nat → Nat → Nat) (bu st : Nat → Nat) (dy m : Nat) : Nat → Bool
  | 0 => false
  | n + 1 => evB L bu st dy m n || decide (stB L bu st dy m n < L m ((dy + n) % 2))
theorem evB_f {L : Nat → Nat → Nat} {bu st : Nat → Nat} {dy m : Nat} : ∀ n, (∀ k, k < n → ¬ stB L bu st dy m k < L m ((dy + k) % 2)) → evB L bu st dy m n = false := by
  intro n
  induction n with
  | zero => intro _; rfl
  | succ n ih =>
    intro h
    show (evB L bu st dy m n || decide _) = false
    rw [ih (fun k hk => h k (by omega)), decide_eq_false (h n (by omega))]
    rfl
theorem evB_t {L : Nat → Nat → Nat} {bu st : Nat → Nat} {dy m k : Nat} (h : stB L bu st dy m k < L m ((dy + k) % 2)) : ∀ n, k < n → evB L bu st dy m n = true := by
  intro n
  induction n with
  | zero => intro z; omega
  | succ n ih =>
    intro z
    show (evB L bu st dy m n || decide _) = true
    by_cases e : k = n
    · subst e
      rw [decide_eq_true h, Bool.or_true]
    · rw [ih (by omega), Bool.true_or]
section P18
variable {men md day drw : Int32} {bu st ki we wo wr now : Nat → Int32}
theorem s_isBentWithin {nm nd m dy : Nat} {bu0 st0 ki0 we0 wo0 : Nat → Nat} {wr0 : Nat → Option Nat} (h : okD nm nd ki0 we0 wo0 wr0) (c7 : rD nd ki0 we0 wo0 ki we wo) (c8 : rW nd wr0 wr) (c5 : rS nm bu0 bu) (c6 : rS nm st0 st) (hs : ∀ i, i < nm → st0 i ≤ bu0 i ∧ bu0 i < 100000) (hj : m < nm) (hdy : dy ≤ 9999) :
    fX1_isBentWithin (nI m) 60 (nI nd) (nI dy) bu st ki we wo wr = some (if evB (loadN nd ki0 we0 wo0 wr0) bu0 st0 dy m 61 then 1 else 0) := by
  have h5 := h.1
  have hst := fun k => stB_le (L := loadN nd ki0 we0 wo0 wr0) (dy := dy) (hs m hj).1 k
  have hbj := (hs m hj).2
  unfold fX1_isBentWithin
  rw [gin_nI (by omega) (by decide), nm_def, n_cl (by omega), c6 m hj]
  obtain ⟨n, hn, hlt, hend⟩ : ∃ n, n ≤ 61 ∧ (∀ k, k < n → ¬ stB (loadN nd ki0 we0 wo0 wr0) bu0 st0 dy m k < loadN nd ki0 we0 wo0 wr0 m ((dy + k) % 2)) ∧ (n = 61 ∨ stB (loadN nd ki0 we0 wo0 wr0) bu0 st0 dy m n < loadN nd ki0 we0 wo0 wr0 m ((dy + n) % 2)) := by
    by_cases q : ∃ k, k < 61 ∧ stB (loadN nd ki0 we0 wo0 wr0) bu0 st0 dy m k < loadN nd ki0 we0 wo0 wr0 m ((dy + k) % 2)
    · obtain ⟨k, ⟨k1, k2⟩, k3⟩ := pk_least (fun k => k < 61 ∧ stB (loadN nd ki0 we0 wo0 wr0) bu0 st0 dy m k < loadN nd ki0 we0 wo0 wr0 m ((dy + k) % 2)) q
      exact ⟨k, by omega, fun i hi e => k3 i hi ⟨by omega, e⟩, Or.inr k2⟩
    · exact ⟨61, by omega, fun i hi e => q ⟨i, hi, e⟩, Or.inl rfl⟩
  refine lp_to (fun k => (nI (stB (loadN nd ki0 we0 wo0 wr0) bu0 st0 dy m k), nI k)) n rfl (by omega) (fun k hk2 K => ?_) (fun K => ?_)
  · have q1 := hst k
    have q2 := loadS_le (P := fun d => wr0 d == some m) (m := m) (odd := (dy + k) % 2) h (by omega)
    have q3 : loadN nd ki0 we0 wo0 wr0 m ((dy + k) % 2) ≤ 276 := q2
    have q4 := hlt k hk2
    rw [bX1_isBentWithin_10, if_neg (show ¬ 60 < nI k from fun q => by have := (n_lt (a := 60) (by omega) (by omega)).mp q; omega), n_add, s_loadOn h c7 c8 (by omega) (by omega), Option.bind_some, if_pos (by rw [n_le (by omega) (by omega)]; omega), s_strengthAfter h c7 c8 c5 (fun i hi => (hs i hi).2) hj (by omega) (by omega), Option.bind_some, nm_def, n_add1]
    rfl
  · rw [bX1_isBentWithin_10]
    by_cases e2 : n = 61
    · subst e2
      rw [if_pos (show (60 : Int32) < nI 61 by decide), evB_f 61 hlt]
      rfl
    · have e := hend.resolve_left e2
      have q1 := hst n
      have q2 := loadS_le (P := fun d => wr0 d == some m) (m := m) (odd := (dy + n) % 2) h (by omega)
      have q3 : loadN nd ki0 we0 wo0 wr0 m ((dy + n) % 2) ≤ 276 := q2
      rw [if_neg (show ¬ 60 < nI n from fun q => by have := (n_lt (a := 60) (by omega) (by omega)).mp q; omega), n_add, s_loadOn h c7 c8 (by omega) (by omega), Option.bind_some, if_neg (by rw [n_le (by omega) (by omega)]; omega), evB_t e 61 (by omega)]
      rfl
theorem pub_ever {tri : Nat → Int32} (h : SY men md day drw bu st ki we wo wr now) : ∃ r tri', fX5_ever men md day bu st ki we wo wr = some r ∧ fX6_ever now tri = some (r, tri') := by
  obtain ⟨nm, nd, dy, dr, bu0, st0, ki0, we0, wo0, wr0, ⟨hk, hb, hdy, hdr⟩, ⟨rfl, rfl, rfl, rfl, c5, c6, c7, c8⟩, hR⟩ := h
  have h5 := hk.1
  have h6 := hk.2.1
  have hs : ∀ i, i < nm → st0 i ≤ bu0 i ∧ bu0 i < 100000 := fun i hi => by have := hb i hi; omega
  have hRb := RM_begin (t := tri) h6 h5 hR
  refine ⟨nI (mk (fun m => evB (loadN nd ki0 we0 wo0 wr0) bu0 st0 dy m 61) nm), itD (fun q => if q < 38 then now q else tri q) 61, ?_, ?_⟩
  · unfold fX5_ever
    refine lp_to (fun k => (nI (mk (fun m => evB (loadN nd ki0 we0 wo0 wr0) bu0 st0 dy m 61) k), nI k)) nm rfl (by omega) (fun k hk2 K => ?_) (fun K => ?_)
    · rw [bX5_ever_4, if_neg (show ¬ nI nm ≤ nI k from fun q => by have := (n_le (by omega) (by omega)).mp q; omega), s_isBentWithin hk c7 c8 c5 c6 hs hk2 hdy, Option.bind_some]
      by_cases e : evB (loadN nd ki0 we0 wo0 wr0) bu0 st0 dy k 61 = true
      · rw [if_pos e, if_neg n10, nm_def, nm_def, n_add1, or_nI (mk_lt _ k) (by omega)]
        show K (_, _) = K (nI (mk _ k + (if _ then _ else _)), _)
        rw [if_pos e]
      · rw [if_neg e, if_pos n00, nm_def, n_add1]
        show K (_, _) = K (nI (mk _ k + (if _ then _ else _)), _)
        rw [if_neg e]
        rfl
    · rw [bX5_ever_4, if_pos (by rw [n_le (by omega) (by omega)]; omega)]
  · unfold fX6_ever
    rw [m_begin, Option.bind_some]
    refine lp_to (fun k => (nI (mk (fun m => evB (loadN nd ki0 we0 wo0 wr0) bu0 st0 dy m k) nm), nI k, itD (fun q => if q < 38 then now q else tri q) k)) 61 ?_ (by omega) (fun k hk2 K => ?_) (fun K => ?_)
    · show (nI (mk (fun m => false) nm), nI 0, _) = _
      rw [mk_false]
      rfl
    · obtain ⟨q1, q2⟩ := itD_RM hk hRb (by omega) hs k (by omega)
      rw [bX6_ever_8, if_neg (show ¬ 60 < nI k from fun q => by have := (n_lt (a := 60) (by omega) (by omega)).mp q; omega), m_bentOnes hk q1 (by omega) (fun i hi => by have := stB_le (L := loadN nd ki0 we0 wo0 wr0) (dy := dy) (hs i hi).1 k; have := (hs i hi).2; omega), Option.bind_some, nm_def, q2, Option.bind_some, nm_def, n_add1, n_or]
      unfold bentM
      rw [mk_or]
      rfl
    · rw [bX6_ever_8, if_pos (by decide)]
end P18
