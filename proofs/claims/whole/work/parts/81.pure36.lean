/-! PURE, 36: counting ways -/
def sg (f : Nat → Nat) : Nat → Nat
  | 0 => 0
  | n + 1 => sg f n + f n
theorem sg_ext {f g : Nat → Nat} : ∀ n, (∀ k, k < n → f k = g k) → sg f n = sg g n := by
  intro n
  induction n with
  | zero => intro _; rfl
  | succ n ih =>
    intro h
    show sg f n + f n = sg g n + g n
    rw [ih (fun k hk => h k (by omega)), h n (by omega)]
theorem sg_add {f g : Nat → Nat} : ∀ n, sg (fun k => f k + g k) n = sg f n + sg g n := by
  intro n
  induction n with
  | zero => rfl
  | succ n ih =>
    show sg (fun k => f k + g k) n + (f n + g n) = sg f n + f n + (sg g n + g n)
    rw [ih]
    omega
theorem sg_zero : ∀ n, sg (fun _ => 0) n = 0 := by
  intro n
  induction n with
  | zero => rfl
  | succ n ih =>
    show sg (fun _ => 0) n + 0 = 0
    rw [ih]
theorem sg_split {f : Nat → Nat} (m : Nat) : ∀ n, sg f (m + n) = sg f m + sg (fun k => f (m + k)) n := by
  intro n
  induction n with
  | zero => rfl
  | succ n ih =>
    show sg f (m + n) + f (m + n) = sg f m + (sg (fun k => f (m + k)) n + f (m + n))
    rw [ih]
    omega
theorem sg_stop {f : Nat → Nat} {n N : Nat} (h : n ≤ N) (hz : ∀ k, n ≤ k → k < N → f k = 0) : sg f N = sg f n := by
  obtain ⟨e, rfl⟩ : ∃ e, N = n + e := ⟨N - n, by omega⟩
  rw [sg_split n e, sg_ext (g := fun _ => 0) e (fun k hk => hz (n + k) (by omega) (by omega)), sg_zero]
  rfl
theorem sg_prod {f : Nat → Nat → Nat} {b : Nat} (hb : 0 < b) : ∀ M, sg (fun c => f (c / b) (c % b)) (M * b) = sg (fun q => sg (f q) b) M := by
  intro M
  induction M with
  | zero => rw [Nat.zero_mul]; rfl
  | succ M ih =>
    rw [Nat.add_mul, Nat.one_mul, sg_split (M * b) b, ih]
    show _ = sg (fun q => sg (f q) b) M + sg (f M) b
    congr 1
    refine sg_ext b (fun k hk => ?_)
    rw [Nat.mul_comm M b, Nat.mul_add_div hb, Nat.div_eq_of_lt hk, Nat.add_zero, Nat.mul_add_mod, Nat.mod_eq_of_lt hk]
theorem sg_one {m x y : Nat} : ∀ b, m < b → sg (fun r => if r = m then x else y) b = x + (b - 1) * y := by
  intro b
  induction b with
  | zero => intro h; omega
  | succ b ih =>
    intro h
    show sg (fun r => if r = m then x else y) b + (if b = m then x else y) = _
    by_cases e : b = m
    · subst e
      rw [if_pos rfl, sg_ext (g := fun _ => y) b (fun k hk => if_neg (by omega))]
      have : ∀ n, sg (fun _ => y) n = n * y := fun n => by
        induction n with
        | zero => rw [Nat.zero_mul]; rfl
        | succ n ih => show sg (fun _ => y) n + y = _; rw [ih, Nat.add_mul, Nat.one_mul]
      rw [this, show b + 1 - 1 = b by omega, Nat.add_comm]
    · rw [if_neg e, ih (by omega)]
      obtain ⟨b, rfl⟩ : ∃ g, b = g + 1 := ⟨b - 1, by omega⟩
      rw [show b + 1 - 1 = b by omega, show b + 1 + 1 - 1 = b + 1 by omega, Nat.add_mul, Nat.one_mul, Nat.add_assoc]
theorem sub_iff {S V : Nat} : S &&& V = S ↔ ∀ j, S.testBit j = true → V.testBit j = true := by
  constructor
  · intro h j hj
    have := congrArg (fun x => x.testBit j) h
    simp only [Nat.testBit_and, hj, Bool.true_and] at this
    exact this
  · intro h
    apply Nat.eq_of_testBit_eq
    intro j
    rw [Nat.testBit_and]
    cases e : S.testBit j with
    | false => rfl
    | true => rw [h j e]; rfl
theorem hi_bit {d T : Nat} (h : T < 2 ^ d) (j : Nat) : (2 ^ d + T).testBit j = if j = d then true else T.testBit j := by
  rw [p_or h, Nat.testBit_or, Nat.testBit_two_pow]
  by_cases e : j = d
  · subst e
    rw [if_pos rfl, decide_eq_true rfl]
    rfl
  · rw [if_neg e, decide_eq_false (fun q => e q.symm)]
    rfl
theorem lo_bit {d T j : Nat} (h : T < 2 ^ d) (hj : d ≤ j) : T.testBit j = false := Nat.testBit_lt_two_pow (Nat.lt_of_lt_of_le h (Nat.pow_le_pow_right (by decide) hj))
section P36
variable {V : Nat → Bool} {d T : Nat}
theorem sub_lo (h : T < 2 ^ d) : T &&& mk V (d + 1) = T ↔ T &&& mk V d = T := by
  rw [sub_iff, sub_iff]
  constructor
  · intro q j hj
    have hjd : j < d := Nat.lt_of_not_le (fun z => by rw [lo_bit h z] at hj; cases hj)
    have := q j hj
    rw [mk_bit, Bool.and_eq_true] at this
    rw [mk_bit, decide_eq_true hjd, this.2]
    rfl
  · intro q j hj
    have := q j hj
    rw [mk_bit, Bool.and_eq_true] at this
    rw [mk_bit, decide_eq_true (show j < d + 1 by have := of_decide_eq_true this.1; omega), this.2]
    rfl
theorem sub_hi (w : V d = true) (h : T < 2 ^ d) : (2 ^ d + T) &&& mk V (d + 1) = 2 ^ d + T ↔ T &&& mk V d = T := by
  rw [← sub_lo h, sub_iff, sub_iff]
  constructor
  · intro q j hj
    refine q j ?_
    rw [hi_bit h, hj]
    split <;> rfl
  · intro q j hj
    rw [hi_bit h] at hj
    by_cases e : j = d
    · subst e
      rw [mk_bit, decide_eq_true (Nat.lt_succ_self j), w]
      rfl
    · rw [if_neg e] at hj
      exact q j hj
theorem sub_no (w : V d = false) : ¬ (2 ^ d + T) &&& mk V (d + 1) = 2 ^ d + T := fun q => by
  have h1 := Nat.and_le_right (n := 2 ^ d + T) (m := mk V (d + 1))
  rw [q, mk_f w] at h1
  have := mk_lt V d
  omega
/-- the sum of f over all ways to hang those of V below d on b men -/
def SA (b : Nat) (V : Nat → Bool) : Nat → ((Nat → Nat) → Nat) → Nat
  | 0, f => f (fun _ => 0)
  | d + 1, f => if V d = true then SA b V d (fun a => sg (fun r => f (va_up a d r)) b) else SA b V d f
theorem SA_t {b : Nat} {f : (Nat → Nat) → Nat} (w : V d = true) : SA b V (d + 1) f = SA b V d (fun a => sg (fun r => f (va_up a d r)) b) := if_pos w
theorem SA_f {b : Nat} {f : (Nat → Nat) → Nat} (w : V d = false) : SA b V (d + 1) f = SA b V d f := if_neg (by rw [w]; decide)
theorem SA_ext {b : Nat} : ∀ (d : Nat) (f g : (Nat → Nat) → Nat), (∀ a, (∀ j, j < d → V j = true → a j < b) → f a = g a) → SA b V d f = SA b V d g := by
  intro d
  induction d with
  | zero => intro f g h; exact h _ (fun j hj => by omega)
  | succ d ih =>
    intro f g h
    cases w : V d with
    | false =>
      rw [SA_f w, SA_f w]
      refine ih f g (fun a ha => h a (fun j hj e => ?_))
      refine ha j (Nat.lt_of_le_of_ne (Nat.le_of_lt_succ hj) (fun z => ?_)) e
      rw [z, w] at e
      cases e
    | true =>
      rw [SA_t w, SA_t w]
      refine ih _ _ (fun a ha => sg_ext b (fun r hr => h _ (fun j hj e => ?_)))
      by_cases z : j = d
      · subst z
        rw [va_up_self]
        exact hr
      · rw [va_up_ne _ _ z]
        exact ha j (by omega) e
theorem SA_V {b : Nat} {V V' : Nat → Bool} : ∀ (d : Nat) (f : (Nat → Nat) → Nat), (∀ j, j < d → V j = V' j) → SA b V d f = SA b V' d f := by
  intro d
  induction d with
  | zero => intro f _; rfl
  | succ d ih =>
    intro f h
    have e := h d (by omega)
    cases w : V d with
    | false => rw [SA_f w, SA_f (by rw [← e, w])]; exact ih f (fun j hj => h j (by omega))
    | true => rw [SA_t w, SA_t (by rw [← e, w])]; exact ih _ (fun j hj => h j (by omega))
theorem SA_add {b : Nat} : ∀ (d : Nat) (f g : (Nat → Nat) → Nat), SA b V d (fun a => f a + g a) = SA b V d f + SA b V d g := by
  intro d
  induction d with
  | zero => intro f g; rfl
  | succ d ih =>
    intro f g
    cases w : V d with
    | false => rw [SA_f w, SA_f w, SA_f w]; exact ih f g
    | true =>
      rw [SA_t w, SA_t w, SA_t w, ← ih]
      exact SA_ext d _ _ (fun a _ => sg_add b)
theorem SA_zero {b : Nat} : ∀ (d : Nat), SA b V d (fun _ => 0) = 0 := by
  intro d
  induction d with
  | zero => rfl
  | succ d ih =>
    cases w : V d with
    | false => rw [SA_f w]; exact ih
    | true =>
      rw [SA_t w]
      rw [SA_ext d _ (fun _ => 0) (fun a _ => sg_zero b)]
      exact ih
theorem SA_none {j : Nat} (hV : V j = true) : ∀ (d : Nat) (f : (Nat → Nat) → Nat), j < d → SA 0 V d f = 0 := by
  intro d
  induction d with
  | zero => intro f h; omega
  | succ d ih =>
    intro f h
    cases w : V d with
    | false =>
      rw [SA_f w]
      exact ih f (Nat.lt_of_le_of_ne (Nat.le_of_lt_succ h) (fun z => by rw [z, w] at hV; cases hV))
    | true =>
      rw [SA_t w]
      exact SA_zero d
theorem SA_empty {b : Nat} : ∀ (d : Nat) (f : (Nat → Nat) → Nat), (∀ j, j < d → V j = false) → SA b V d f = f (fun _ => 0) := by
  intro d
  induction d with
  | zero => intro f _; rfl
  | succ d ih =>
    intro f h
    rw [SA_f (h d (by omega))]
    exact ih f (fun j hj => h j (by omega))
/-- the ways by number, from the highest medal down -/
def asg (W : Nat → Bool) (b : Nat) : Nat → Nat → Nat → Nat
  | 0, _ => fun _ => 0
  | d + 1, c => if W d = true then va_up (asg W b d (c / b)) d (c % b) else asg W b d c
theorem SA_codes {b : Nat} : ∀ (d : Nat) (f : (Nat → Nat) → Nat), SA b V d f = sg (fun c => f (asg V b d c)) (b ^ cn V d) := by
  intro d
  induction d with
  | zero => intro f; show f _ = sg _ (b ^ 0); rw [Nat.pow_zero]; show _ = 0 + f _; rw [Nat.zero_add]; rfl
  | succ d ih =>
    intro f
    cases w : V d with
    | false =>
      rw [SA_f w, ih f, cn_f w]
      refine sg_ext _ (fun c _ => ?_)
      show f _ = f (if V d = true then _ else _)
      rw [if_neg (by rw [w]; decide)]
    | true =>
      rw [SA_t w, ih, cn_t w, Nat.pow_succ]
      by_cases hb : 0 < b
      · rw [← sg_prod (f := fun q r => f (va_up (asg V b d q) d r)) hb]
        refine sg_ext _ (fun c _ => ?_)
        show f _ = f (if V d = true then _ else _)
        rw [if_pos w]
      · have : b = 0 := by omega
        subst this
        rw [Nat.mul_zero]
        exact sg_zero _
theorem asg_dg {b : Nat} : ∀ (d c j : Nat), j < d → V j = true → asg V b d c j = c / b ^ (cn V d - cn V (j + 1)) % b := by
  intro d
  induction d with
  | zero => intro c j h; omega
  | succ d ih =>
    intro c j h e
    show (if V d = true then va_up (asg V b d (c / b)) d (c % b) else asg V b d c) j = _
    cases w : V d with
    | false =>
      have hj : j < d := Nat.lt_of_le_of_ne (Nat.le_of_lt_succ h) (fun z => by rw [z, w] at e; cases e)
      rw [if_neg (by decide), ih c j hj e, cn_f w]
    | true =>
      rw [if_pos rfl]
      by_cases z : j = d
      · subst z
        rw [va_up_self, Nat.sub_self, Nat.pow_zero, Nat.div_one]
      · have := cn_mono V d (show j + 1 ≤ d by omega)
        rw [va_up_ne _ _ z, ih (c / b) j (by omega) e, cn_t w, show cn V d + 1 - cn V (j + 1) = 1 + (cn V d - cn V (j + 1)) by omega, Nat.pow_add, Nat.pow_one, Nat.div_div_eq_div_mul]
theorem sw_extW {W : Nat → Bool} {a a' : Nat → Nat} {m d : Nat} (h : ∀ j, j < d → W j = true → a j = a' j) : sw W a m d = sw W a' m d := mk_congr d (fun j hj => by
  show (W j && (a j == m)) = (W j && (a' j == m))
  cases w : W j with
  | false => rfl
  | true => rw [h j hj w])
/-- of one man: by the sets that he may wear -/
theorem SA_man {b m : Nat} (hm : m < b) : ∀ (d : Nat) (g : Nat → Nat), SA b V d (fun a => g (sw V a m d)) = sg (fun S => if S &&& mk V d = S then g S * (b - 1) ^ cn (fun j => V j && !S.testBit j) d else 0) (2 ^ d) := by
  intro d
  induction d with
  | zero =>
    intro g
    show g 0 = 0 + (if 0 &&& mk V 0 = 0 then g 0 * (b - 1) ^ 0 else 0)
    rw [if_pos (Nat.zero_and (mk V 0)), Nat.pow_zero, Nat.mul_one, Nat.zero_add]
  | succ d ih =>
    intro g
    rw [show 2 ^ (d + 1) = 2 ^ d + 2 ^ d by rw [Nat.pow_succ]; omega, sg_split]
    cases w : V d with
    | false =>
      rw [SA_f w, sg_ext (g := fun _ => 0) (f := fun k => if (2 ^ d + k) &&& mk V (d + 1) = 2 ^ d + k then _ else 0) (2 ^ d) (fun k _ => if_neg (sub_no w)), sg_zero, Nat.add_zero]
      rw [SA_ext d _ (fun a => g (sw V a m d)) (fun a _ => by rw [sw_f w]), ih g]
      refine sg_ext _ (fun S hS => ?_)
      rw [cn_f (W := fun j => V j && !S.testBit j) (by show (V d && _) = false; rw [w]; rfl)]
      by_cases c : S &&& mk V d = S
      · rw [if_pos c, if_pos ((sub_lo hS).mpr c)]
      · rw [if_neg c, if_neg (fun q => c ((sub_lo hS).mp q))]
    | true =>
      rw [SA_t w, SA_ext d _ (fun a => (fun S => g (2 ^ d + S) + (b - 1) * g S) (sw V a m d)) (fun a _ => ?_), ih (fun S => g (2 ^ d + S) + (b - 1) * g S), ← sg_add]
      · refine sg_ext _ (fun S hS => ?_)
        have lo : cn (fun j => V j && !S.testBit j) (d + 1) = cn (fun j => V j && !S.testBit j) d + 1 := cn_t (by
          show (V d && !S.testBit d) = true
          rw [w, lo_bit hS (Nat.le_refl d)]
          rfl)
        have hi : cn (fun j => V j && !(2 ^ d + S).testBit j) (d + 1) = cn (fun j => V j && !S.testBit j) d := by
          rw [cn_f (W := fun j => V j && !(2 ^ d + S).testBit j) (by
            show (V d && !(2 ^ d + S).testBit d) = false
            rw [hi_bit hS, if_pos rfl]
            exact Bool.and_false _)]
          refine cn_ext d (fun j hj => ?_)
          show (V j && !(2 ^ d + S).testBit j) = _
          rw [hi_bit hS, if_neg (by omega)]
        rw [lo, hi]
        by_cases c : S &&& mk V d = S
        · rw [if_pos c, if_pos ((sub_lo hS).mpr c), if_pos ((sub_hi w hS).mpr c), Nat.pow_succ, Nat.add_mul, Nat.add_comm, Nat.mul_comm (b - 1) (g S), Nat.mul_assoc, Nat.mul_comm (b - 1)]
        · rw [if_neg c, if_neg (fun q => c ((sub_lo hS).mp q)), if_neg (fun q => c ((sub_hi w hS).mp q))]
      · show sg (fun r => g (sw V (va_up a d r) m (d + 1))) b = g (2 ^ d + sw V a m d) + (b - 1) * g (sw V a m d)
        rw [← sg_one b hm]
        refine sg_ext b (fun r hr => ?_)
        have same : sw V (va_up a d r) m d = sw V a m d := sw_ext (fun j hj => va_up_ne _ _ (by omega))
        by_cases e : r = m
        · rw [if_pos e, sw_t w (by rw [va_up_self]; exact e), same, Nat.add_comm]
        · rw [if_neg e, sw_n (by rw [va_up_self]; exact e), same]
end P36
