/-! PURE, 37: counting ways, man by man -/
def ov (T k : Nat) (a : Nat → Nat) : Nat → Nat := fun j => if T.testBit j = true then k else a j
def wo_ (V : Nat → Bool) (T : Nat) : Nat → Bool := fun j => V j && !T.testBit j
section P37
variable {V : Nat → Bool} {k : Nat}
theorem SA_parts : ∀ (d : Nat) (f : (Nat → Nat) → Nat), SA (k + 1) V d f = sg (fun T => if T &&& mk V d = T then SA k (wo_ V T) d (fun a => f (ov T k a)) else 0) (2 ^ d) := by
  intro d
  induction d with
  | zero =>
    intro f
    show f (fun _ => 0) = 0 + (if 0 &&& mk V 0 = 0 then f (ov 0 k (fun _ => 0)) else 0)
    rw [if_pos (Nat.zero_and (mk V 0)), Nat.zero_add]
    congr 1
    funext j
    show 0 = if (0 : Nat).testBit j = true then k else 0
    rw [Nat.zero_testBit, if_neg (by decide)]
  | succ d ih =>
    intro f
    rw [show 2 ^ (d + 1) = 2 ^ d + 2 ^ d by rw [Nat.pow_succ]; omega, sg_split]
    cases w : V d with
    | false =>
      rw [SA_f w, sg_ext (g := fun _ => 0) (f := fun q => if (2 ^ d + q) &&& mk V (d + 1) = 2 ^ d + q then _ else 0) (2 ^ d) (fun q _ => if_neg (sub_no w)), sg_zero, Nat.add_zero, ih f]
      refine sg_ext _ (fun T hT => ?_)
      by_cases c : T &&& mk V d = T
      · rw [if_pos c, if_pos ((sub_lo hT).mpr c), SA_f (V := wo_ V T) (by show (V d && _) = false; rw [w]; rfl)]
      · rw [if_neg c, if_neg (fun q => c ((sub_lo hT).mp q))]
    | true =>
      rw [SA_t w, ih, ← sg_add]
      refine sg_ext _ (fun T hT => ?_)
      by_cases c : T &&& mk V d = T
      · rw [if_pos c, if_pos ((sub_lo hT).mpr c), if_pos ((sub_hi w hT).mpr c)]
        rw [SA_t (V := wo_ V T) (by show (V d && !T.testBit d) = true; rw [w, lo_bit hT (Nat.le_refl d)]; rfl)]
        rw [SA_f (V := wo_ V (2 ^ d + T)) (by show (V d && !(2 ^ d + T).testBit d) = false; rw [hi_bit hT, if_pos rfl]; exact Bool.and_false _)]
        rw [SA_V (V := wo_ V (2 ^ d + T)) (V' := wo_ V T) d _ (fun j hj => by show (V j && !(2 ^ d + T).testBit j) = (V j && !T.testBit j); rw [hi_bit hT, if_neg (by omega)]), ← SA_add]
        refine SA_ext d _ _ (fun a _ => ?_)
        show sg (fun r => f (va_up (ov T k a) d r)) k + f (va_up (ov T k a) d k) = sg (fun r => f (ov T k (va_up a d r))) k + f (ov (2 ^ d + T) k a)
        have e1 : ∀ r, va_up (ov T k a) d r = ov T k (va_up a d r) := fun r => by
          funext j
          by_cases z : j = d
          · subst z
            rw [va_up_self]
            show r = if T.testBit j = true then k else va_up a j r j
            rw [lo_bit hT (Nat.le_refl j), if_neg (by decide), va_up_self]
          · rw [va_up_ne _ _ z]
            show (if T.testBit j = true then k else a j) = if T.testBit j = true then k else va_up a d r j
            rw [va_up_ne _ _ z]
        have e2 : va_up (ov T k a) d k = ov (2 ^ d + T) k a := by
          funext j
          by_cases z : j = d
          · subst z
            rw [va_up_self]
            show k = if (2 ^ j + T).testBit j = true then k else a j
            rw [hi_bit hT, if_pos rfl, if_pos rfl]
          · rw [va_up_ne _ _ z]
            show (if T.testBit j = true then k else a j) = if (2 ^ d + T).testBit j = true then k else a j
            rw [hi_bit hT, if_neg z]
        rw [e2, sg_ext k (fun r _ => by rw [e1 r])]
      · rw [if_neg c, if_neg (fun q => c ((sub_lo hT).mp q)), if_neg (fun q => c ((sub_hi w hT).mp q))]
def alB (P : Nat → Bool) : Nat → Bool
  | 0 => true
  | n + 1 => alB P n && P n
theorem alB_ext {P Q : Nat → Bool} : ∀ n, (∀ m, m < n → P m = Q m) → alB P n = alB Q n := by
  intro n
  induction n with
  | zero => intro _; rfl
  | succ n ih =>
    intro h
    show (alB P n && P n) = (alB Q n && Q n)
    rw [ih (fun m hm => h m (by omega)), h n (by omega)]
theorem alB_mk {P : Nat → Bool} : ∀ n, mk P n = 0 ↔ alB (fun m => !P m) n = true := by
  intro n
  induction n with
  | zero => exact ⟨fun _ => rfl, fun _ => rfl⟩
  | succ n ih =>
    show mk P n + (if P n then 2 ^ n else 0) = 0 ↔ (alB (fun m => !P m) n && !P n) = true
    have := Nat.two_pow_pos n
    cases w : P n with
    | false => rw [if_neg (by decide), Nat.add_zero, ih]; simp
    | true => rw [if_pos rfl]; constructor
              · intro h; omega
              · intro h; rw [Bool.and_eq_true] at h; exact absurd h.2 (by decide)
def idn (ok : Nat → Nat → Bool) (k : Nat) (V : Nat → Bool) (a : Nat → Nat) : Nat := if alB (fun m => ok m (sw V a m 6)) k = true then 1 else 0
/-- in how many ways those of V hang on the first k men so that each of them may wear what he wears -/
def Wy (ok : Nat → Nat → Bool) (k : Nat) (V : Nat → Bool) : Nat := SA k V 6 (idn ok k V)
theorem sw_V {V V' : Nat → Bool} {a : Nat → Nat} {m d : Nat} (h : ∀ j, j < d → V j = V' j) : sw V a m d = sw V' a m d := mk_congr d (fun j hj => by rw [h j hj])
theorem Wy_V {ok : Nat → Nat → Bool} {V V' : Nat → Bool} (h : ∀ j, j < 6 → V j = V' j) : Wy ok k V = Wy ok k V' := by
  unfold Wy
  rw [SA_V 6 _ h]
  refine SA_ext 6 _ _ (fun a _ => ?_)
  unfold idn
  rw [alB_ext k (fun m _ => by rw [sw_V h])]
theorem Wy_0 {ok : Nat → Nat → Bool} {S : Nat} (hS : S < 64) : Wy ok 0 (fun j => S.testBit j) = if S = 0 then 1 else 0 := by
  unfold Wy
  by_cases e : S = 0
  · subst e
    rw [if_pos rfl, SA_empty 6 _ (fun j _ => Nat.zero_testBit j)]
    rfl
  · rw [if_neg e]
    obtain ⟨j, hj⟩ : ∃ j, S.testBit j = true := Nat.exists_testBit_of_ne_zero e
    refine SA_none (j := j) hj 6 _ (Nat.lt_of_not_le (fun z => ?_))
    rw [lo_bit (d := 6) hS z] at hj
    cases hj
theorem Wy_step {ok : Nat → Nat → Bool} : Wy ok (k + 1) V = sg (fun T => if T &&& mk V 6 = T then (if ok k T = true then Wy ok k (wo_ V T) else 0) else 0) 64 := by
  unfold Wy
  rw [SA_parts]
  show sg _ 64 = _
  refine sg_ext 64 (fun T hT => ?_)
  by_cases c : T &&& mk V 6 = T
  · rw [if_pos c, if_pos c]
    have sb := sub_iff.mp c
    have key : ∀ a : Nat → Nat, (∀ j, j < 6 → wo_ V T j = true → a j < k) → idn ok (k + 1) V (ov T k a) = if ok k T = true then idn ok k (wo_ V T) a else 0 := fun a ha => by
      have m1 : ∀ m, m < k → sw V (ov T k a) m 6 = sw (wo_ V T) a m 6 := fun m hm => mk_congr 6 (fun j hj => by
        show (V j && ((if T.testBit j = true then k else a j) == m)) = ((V j && !T.testBit j) && (a j == m))
        cases t : T.testBit j with
        | true =>
          rw [if_pos rfl, beq_false_of_ne (by omega), Bool.and_false]
          cases V j <;> rfl
        | false =>
          rw [if_neg (by decide)]
          cases V j <;> rfl)
      have m2 : sw V (ov T k a) k 6 = T := by
        apply Nat.eq_of_testBit_eq
        intro j
        unfold sw
        rw [mk_bit]
        by_cases h6 : j < 6
        · rw [decide_eq_true h6]
          show (true && (V j && ((if T.testBit j = true then k else a j) == k))) = _
          cases t : T.testBit j with
          | true =>
            have := sb j t
            rw [mk_bit, decide_eq_true h6, Bool.true_and] at this
            rw [if_pos rfl, this, beq_self_eq_true]
            rfl
          | false =>
            rw [if_neg (by decide)]
            cases v : V j with
            | false => rfl
            | true =>
              have := ha j h6 (by show (V j && !T.testBit j) = true; rw [v, t]; rfl)
              rw [beq_false_of_ne (by omega)]
              rfl
        · rw [decide_eq_false h6, lo_bit (d := 6) hT (by omega)]
          rfl
      unfold idn
      show (if (alB (fun m => ok m (sw V (ov T k a) m 6)) k && ok k (sw V (ov T k a) k 6)) = true then 1 else 0) = _
      rw [m2, alB_ext k (fun m hm => by rw [m1 m hm])]
      cases o : ok k T with
      | true => rw [Bool.and_true, if_pos rfl]
      | false => rw [Bool.and_false, if_neg (by decide), if_neg (by decide)]
    rw [SA_ext 6 _ (fun a => if ok k T = true then idn ok k (wo_ V T) a else 0) key]
    by_cases o : ok k T = true
    · rw [if_pos o]
      refine SA_ext 6 _ _ (fun a _ => if_pos o)
    · rw [if_neg o, SA_ext 6 _ (fun _ => 0) (fun a _ => if_neg o), SA_zero]
  · rw [if_neg c, if_neg c]
end P37
