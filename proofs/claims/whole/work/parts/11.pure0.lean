/-! PURE, 0: loops, numbers -/
theorem lp_key {α ρ : Type} {body : (α → Option ρ) → α → Option ρ} (x : Nat → α) (n : Nat) {F : Option ρ} (hs : ∀ k, k < n → ∀ K, body K (x k) = K (x (k + 1))) (he : ∀ K, body K (x n) = F) : ∀ d k f, k + d = n → d < f → lp body f (x k) = F := by
  intro d
  induction d with
  | zero =>
    intro k f hk hf
    obtain ⟨f, rfl⟩ : ∃ g, f = g + 1 := ⟨f - 1, by omega⟩
    have : k = n := by omega
    subst this
    exact he _
  | succ d ih =>
    intro k f hk hf
    obtain ⟨f, rfl⟩ : ∃ g, f = g + 1 := ⟨f - 1, by omega⟩
    show body (lp body f) (x k) = F
    rw [hs k (by omega)]
    exact ih (k + 1) f (by omega) (by omega)
theorem lp_to {α ρ : Type} {body : (α → Option ρ) → α → Option ρ} (x : Nat → α) (n : Nat) {a0 : α} (h0 : x 0 = a0) {F : Option ρ} (hn : n < 100000) (hs : ∀ k, k < n → ∀ K, body K (x k) = K (x (k + 1))) (he : ∀ K, body K (x n) = F) : lp body FU a0 = F := by
  rw [← h0]
  exact lp_key x n hs he n 0 FU (by omega) hn
theorem lit32 (n : Nat) : (OfNat.ofNat n : Int32) = nI n := rfl
theorem gin_nI {α : Type} {k n : Nat} {A : Option α} (h : k < n) (hn : n < 2147483648) : gin (nI k) n A = A := by
  unfold gin
  exact if_neg (vp_in_nI h hn)
theorem n_le {a b : Nat} (ha : a < 2147483648) (hb : b < 2147483648) : nI a ≤ nI b ↔ a ≤ b := nI_leI ha hb
theorem n_lt {a b : Nat} (ha : a < 2147483648) (hb : b < 2147483648) : nI a < nI b ↔ a < b := nI_ltI ha hb
theorem n_eq {a b : Nat} (ha : a < 2147483648) (hb : b < 2147483648) : nI a = nI b ↔ a = b := nI_eq ha hb
theorem n_cl {n : Nat} (h : n < 2147483648) : (nI n).toNatClampNeg = n := nI_clamp h
theorem nm_def {α β : Type} (a : α) (f : α → β) : nm a f = f a := rfl
theorem p_or {b i : Nat} (h : b < 2 ^ i) : 2 ^ i + b = 2 ^ i ||| b := by
  have := Nat.two_pow_add_eq_or_of_lt h 1
  rwa [Nat.mul_one] at this
/-- a set of numbers below n, as bits -/
def mk (P : Nat → Bool) : Nat → Nat
  | 0 => 0
  | n + 1 => mk P n + if P n then 2 ^ n else 0
theorem mk_lt (P : Nat → Bool) : ∀ n, mk P n < 2 ^ n := by
  intro n
  induction n with
  | zero => exact Nat.lt_succ_self 0
  | succ n ih =>
    show mk P n + (if P n then 2 ^ n else 0) < 2 ^ (n + 1)
    rw [Nat.pow_succ]
    split <;> omega
theorem mk_congr {P Q : Nat → Bool} : ∀ n, (∀ d, d < n → P d = Q d) → mk P n = mk Q n := by
  intro n
  induction n with
  | zero => intro _; rfl
  | succ n ih =>
    intro h
    show mk P n + _ = mk Q n + _
    rw [ih (fun d hd => h d (by omega)), h n (by omega)]
theorem mk_bit (P : Nat → Bool) : ∀ n j, (mk P n).testBit j = (decide (j < n) && P j) := by
  intro n
  induction n with
  | zero => intro j; simp [mk]
  | succ n ih =>
    intro j
    show (mk P n + (if P n then 2 ^ n else 0)).testBit j = _
    by_cases hp : P n
    · rw [if_pos hp, Nat.add_comm, p_or (mk_lt P n), Nat.testBit_or, Nat.testBit_two_pow, ih]
      by_cases hj : j = n
      · subst hj; simp [hp]
      · by_cases hl : j < n
        · simp [hl, Nat.lt_succ_of_lt hl, Ne.symm hj]
        · simp [hl, show ¬ j < n + 1 by omega, Ne.symm hj]
    · rw [if_neg hp, Nat.add_zero, ih]
      by_cases hj : j = n
      · subst hj; simp [hp]
      · by_cases hl : j < n
        · simp [hl, Nat.lt_succ_of_lt hl]
        · simp [hl, show ¬ j < n + 1 by omega]
theorem or_nI {a k : Nat} (h : a < 2 ^ k) (hk : k < 31) : nI a ||| ((1 : Int32) <<< (nI k &&& 31)) = nI (a + 2 ^ k) := by
  have e : (1 : Int32) <<< (nI k &&& 31) = nI (2 ^ k) := by
    have : ∀ k : Fin 31, (1 : Int32) <<< (nI k.val &&& 31) = nI (2 ^ k.val) := by decide +kernel
    exact this ⟨k, hk⟩
  rw [e]
  have o : nI a ||| nI (2 ^ k) = nI (a ||| 2 ^ k) := by
    apply Int32.toBitVec_inj.mp
    show (nI a).toBitVec ||| (nI (2 ^ k)).toBitVec = _
    unfold nI
    apply BitVec.eq_of_toNat_eq
    simp [BitVec.toNat_or, Nat.or_mod_two_pow]
  rw [o, Nat.or_comm, ← p_or h, Nat.add_comm]
