/-! PURE, 30: loads grow with what is worn; ways to hang, by number -/
theorem lp_invk {α β ρ : Type} {body : (α → Option ρ) → α → Option ρ} (n : Nat) (Inv : Nat → α → Prop) (Post : β → Prop) (G : β → Option ρ) (hs : ∀ k, k < n → ∀ a, Inv k a → ∃ a', Inv (k + 1) a' ∧ ∀ K, body K a = K a') (he : ∀ a, Inv n a → ∃ r, Post r ∧ ∀ K, body K a = G r) : ∀ d k f a, k + d = n → d < f → Inv k a → ∃ r, Post r ∧ lp body f a = G r := by
  intro d
  induction d with
  | zero =>
    intro k f a hk hf hI
    obtain ⟨f, rfl⟩ : ∃ g, f = g + 1 := ⟨f - 1, by omega⟩
    have : k = n := by omega
    subst this
    obtain ⟨r, h1, h2⟩ := he a hI
    exact ⟨r, h1, h2 _⟩
  | succ d ih =>
    intro k f a hk hf hI
    obtain ⟨f, rfl⟩ : ∃ g, f = g + 1 := ⟨f - 1, by omega⟩
    obtain ⟨a', h1, h2⟩ := hs k (by omega) a hI
    obtain ⟨r, h3, h4⟩ := ih (k + 1) f a' (by omega) (by omega) h1
    exact ⟨r, h3, (h2 _).trans h4⟩
theorem lp_inv {α β ρ : Type} {body : (α → Option ρ) → α → Option ρ} (n : Nat) (Inv : Nat → α → Prop) (Post : β → Prop) (G : β → Option ρ) {a0 : α} (h0 : Inv 0 a0) (hn : n < 100000) (hs : ∀ k, k < n → ∀ a, Inv k a → ∃ a', Inv (k + 1) a' ∧ ∀ K, body K a = K a') (he : ∀ a, Inv n a → ∃ r, Post r ∧ ∀ K, body K a = G r) : ∃ r, Post r ∧ lp body FU a0 = G r :=
  lp_invk n Inv Post G hs he n 0 FU a0 (by omega) hn h0
theorem bearN_mono {k w o1 o2 odd : Nat} {own : Bool} (h : o1 ≤ o2) : bearN k w o1 odd own ≤ bearN k w o2 odd own := by
  unfold bearN
  repeat' split
  all_goals omega
theorem cn_sub {P Q : Nat → Bool} : ∀ n, (∀ d, d < n → P d = true → Q d = true) → cn P n ≤ cn Q n := by
  intro n
  induction n with
  | zero => intro _; exact Nat.le_refl _
  | succ n ih =>
    intro h
    have h1 := ih (fun d hd => h d (by omega))
    show cn P n + (if P n then 1 else 0) ≤ cn Q n + (if Q n then 1 else 0)
    by_cases c : P n = true
    · rw [if_pos c, if_pos (h n (by omega) c)]; omega
    · rw [if_neg c]; omega
theorem ldS_mono {ki we wo : Nat → Nat} {o1 o2 odd m : Nat} {P Q : Nat → Bool} (ho : o1 ≤ o2) : ∀ n, (∀ d, d < n → P d = true → Q d = true) → ldS ki we wo o1 odd m P n ≤ ldS ki we wo o2 odd m Q n := by
  intro n
  induction n with
  | zero => intro _; exact Nat.le_refl _
  | succ n ih =>
    intro h
    have h1 := ih (fun d hd => h d (by omega))
    have h2 := bearN_mono (k := ki n) (w := we n) (odd := odd) (own := (wo n == m)) ho
    show ldS ki we wo o1 odd m P n + (if P n then _ else 0) ≤ ldS ki we wo o2 odd m Q n + (if Q n then _ else 0)
    by_cases c : P n = true
    · rw [if_pos c, if_pos (h n (by omega) c)]; omega
    · rw [if_neg c]; omega
theorem loadS_mono {nd : Nat} {ki we wo : Nat → Nat} {P Q : Nat → Bool} {m odd : Nat} (h : ∀ d, d < nd → P d = true → Q d = true) : loadS nd ki we wo P m odd ≤ loadS nd ki we wo Q m odd := by
  unfold loadS
  have := cn_sub nd h
  exact ldS_mono (by omega) nd h
theorem cn_mono (W : Nat → Bool) {d : Nat} : ∀ e, d ≤ e → cn W d ≤ cn W e := by
  intro e
  induction e with
  | zero => intro h; rw [show d = 0 by omega]; exact Nat.le_refl _
  | succ e ih =>
    intro h
    by_cases q : d = e + 1
    · rw [q]; exact Nat.le_refl _
    · exact Nat.le_trans (ih (by omega)) (Nat.le_add_right _ _)
theorem cn_t {W : Nat → Bool} {d : Nat} (h : W d = true) : cn W (d + 1) = cn W d + 1 := by
  show cn W d + (if W d then 1 else 0) = _
  rw [if_pos h]
theorem cn_f {W : Nat → Bool} {d : Nat} (h : W d = false) : cn W (d + 1) = cn W d := by
  show cn W d + (if W d then 1 else 0) = _
  rw [if_neg (by rw [h]; decide)]
  rfl
theorem mk_t {W : Nat → Bool} {d : Nat} (h : W d = true) : mk W (d + 1) = mk W d + 2 ^ d := by
  show mk W d + (if W d then 2 ^ d else 0) = _
  rw [if_pos h]
theorem mk_f {W : Nat → Bool} {d : Nat} (h : W d = false) : mk W (d + 1) = mk W d := by
  show mk W d + (if W d then 2 ^ d else 0) = _
  rw [if_neg (by rw [h]; decide)]
  rfl
section P30
variable {W : Nat → Bool} {b : Nat}
/-- how many ways there are to hang those from d on -/
def nw (W : Nat → Bool) (b d : Nat) : Nat := b ^ (cn W 6 - cn W d)
theorem nw_t {d : Nat} (hd : d < 6) (h : W d = true) : nw W b d = nw W b (d + 1) * b := by
  unfold nw
  have e := cn_t h
  have := cn_mono W 6 (show d + 1 ≤ 6 by omega)
  rw [show cn W 6 - cn W d = (cn W 6 - cn W (d + 1)) + 1 by omega, Nat.pow_succ]
theorem nw_f {d : Nat} (h : W d = false) : nw W b d = nw W b (d + 1) := by
  unfold nw
  rw [cn_f h]
theorem nw_6 : nw W b 6 = 1 := by unfold nw; rw [Nat.sub_self, Nat.pow_zero]
theorem nw_q {j d : Nat} (h : j ≤ d) (hd : d ≤ 6) : nw W b j = nw W b d * b ^ (cn W d - cn W j) := by
  unfold nw
  have h1 := cn_mono W d h
  have h2 := cn_mono W 6 hd
  rw [← Nat.pow_add]
  congr 1
  omega
theorem cn_some {W : Nat → Bool} : ∀ n, 0 < cn W n → ∃ d, d < n ∧ W d = true := by
  intro n
  induction n with
  | zero => intro h; exact absurd h (Nat.lt_irrefl 0)
  | succ n ih =>
    intro h
    by_cases c : W n = true
    · exact ⟨n, by omega, c⟩
    · rw [cn_f (by simpa using c)] at h
      obtain ⟨d, h1, h2⟩ := ih h
      exact ⟨d, by omega, h2⟩
theorem nw_pos {d : Nat} (hb : ∀ d, d < 6 → W d = true → 0 < b) : 0 < nw W b d := by
  unfold nw
  by_cases h : 0 < cn W 6
  · obtain ⟨j, h1, h2⟩ := cn_some 6 h
    exact Nat.pow_pos (hb j h1 h2)
  · rw [show cn W 6 - cn W d = 0 by omega, Nat.pow_zero]
    decide
theorem nw_le {d : Nat} (hb : b ≤ 5) : nw W b d ≤ 15625 := by
  unfold nw
  have h := cn_le W 6
  refine Nat.le_trans (Nat.pow_le_pow_left hb _) (Nat.le_trans (Nat.pow_le_pow_right (by decide) (show cn W 6 - cn W d ≤ 6 by omega)) (by decide))
/-- on whom the way c hangs the medal j -/
def dg (W : Nat → Bool) (b c j : Nat) : Nat := c / nw W b (j + 1) % b
theorem dg_same {d p r j : Nat} (hd : d ≤ 6) (hj : j < d) (hr : r < nw W b d) : dg W b (p * nw W b d + r) j = dg W b (p * nw W b d) j := by
  unfold dg
  rw [nw_q (W := W) (b := b) (show j + 1 ≤ d by omega) hd, ← Nat.div_div_eq_div_mul, ← Nat.div_div_eq_div_mul, Nat.mul_comm p, Nat.mul_add_div (by omega), Nat.div_eq_of_lt hr, Nat.add_zero, Nat.mul_div_cancel_left p (by omega)]
theorem dg_at {d p m r : Nat} (hd : d < 6) (h : W d = true) (hm : m < b) (hr : r < nw W b (d + 1)) : dg W b (p * nw W b d + m * nw W b (d + 1) + r) d = m := by
  unfold dg
  have e : p * nw W b d + m * nw W b (d + 1) + r = nw W b (d + 1) * (b * p + m) + r := by
    rw [nw_t hd h, Nat.mul_add, Nat.mul_comm m, ← Nat.mul_assoc, Nat.mul_comm p, Nat.mul_assoc (nw W b (d + 1)) p b, Nat.mul_comm p b]
  rw [e, Nat.mul_add_div (by omega), Nat.div_eq_of_lt hr, Nat.add_zero, Nat.mul_add_mod, Nat.mod_eq_of_lt hm]
theorem dg_lt {c j : Nat} (hb : 0 < b) : dg W b c j < b := Nat.mod_lt _ hb
/-- the best of the first k ways: what it costs, which one -/
def bs (F : Nat → Nat) : Nat → Nat × Nat
  | 0 => (1000000, 0)
  | k + 1 => if F k < (bs F k).1 then (F k, k) else bs F k
theorem bs_stay {F : Nat → Nat} {s : Nat} : ∀ n, (∀ r, r < n → (bs F s).1 ≤ F (s + r)) → bs F (s + n) = bs F s := by
  intro n
  induction n with
  | zero => intro _; rfl
  | succ n ih =>
    intro h
    have e := ih (fun r hr => h r (by omega))
    show (if F (s + n) < (bs F (s + n)).1 then _ else bs F (s + n)) = bs F s
    rw [e, if_neg (by have := h n (by omega); omega)]
theorem bs_le {F : Nat → Nat} : ∀ n, (bs F n).1 ≤ 1000000 := by
  intro n
  induction n with
  | zero => exact Nat.le_refl _
  | succ n ih =>
    show (if F n < (bs F n).1 then (F n, n) else bs F n).1 ≤ _
    split
    · show F n ≤ _; omega
    · exact ih
end P30
/-- the greatest of n numbers -/
def mx (f : Nat → Nat) : Nat → Nat
  | 0 => 0
  | n + 1 => if mx f n < f n then f n else mx f n
theorem mx_ext {f g : Nat → Nat} : ∀ n, (∀ d, d < n → f d = g d) → mx f n = mx g n := by
  intro n
  induction n with
  | zero => intro _; rfl
  | succ n ih =>
    intro h
    show (if mx f n < f n then _ else _) = (if mx g n < g n then _ else _)
    rw [ih (fun d hd => h d (by omega)), h n (by omega)]
theorem mx_up {f g : Nat → Nat} {m : Nat} (h1 : ∀ k, k ≠ m → g k = f k) (h2 : f m ≤ g m) : ∀ n, m < n → mx g n = if mx f n < g m then g m else mx f n := by
  intro n
  induction n with
  | zero => intro h; omega
  | succ n ih =>
    intro h
    show (if mx g n < g n then g n else mx g n) = if (if mx f n < f n then f n else mx f n) < g m then g m else (if mx f n < f n then f n else mx f n)
    by_cases e : m = n
    · subst e
      rw [mx_ext m (fun d hd => h1 d (by omega))]
      repeat' split
      all_goals omega
    · rw [ih (by omega), h1 n (fun q => e q.symm)]
      repeat' split
      all_goals omega
theorem mx_le {f : Nat → Nat} {B : Nat} : ∀ n, (∀ d, d < n → f d ≤ B) → mx f n ≤ B := by
  intro n
  induction n with
  | zero => intro _; exact Nat.zero_le _
  | succ n ih =>
    intro h
    show (if mx f n < f n then f n else mx f n) ≤ B
    split
    · exact h n (by omega)
    · exact ih (fun d hd => h d (by omega))
theorem cn_up {P Q : Nat → Bool} {m : Nat} (h1 : ∀ k, k ≠ m → Q k = P k) (h2 : P m = true → Q m = true) : ∀ n, m < n → cn Q n = cn P n + if P m = false ∧ Q m = true then 1 else 0 := by
  intro n
  induction n with
  | zero => intro h; omega
  | succ n ih =>
    intro h
    show cn Q n + (if Q n then 1 else 0) = cn P n + (if P n then 1 else 0) + _
    by_cases e : m = n
    · subst e
      rw [cn_ext m (fun d hd => h1 d (by omega))]
      cases hp : P m <;> cases hq : Q m <;> simp
      rw [h2 hp] at hq
      cases hq
    · rw [ih (by omega), h1 n (fun q => e q.symm)]
      omega
