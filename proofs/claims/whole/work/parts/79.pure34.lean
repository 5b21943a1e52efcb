/-! PURE, 34: the class's search -/
def HC (few p2 v x7 p1 : Int32) (ld : Nat → Nat → Int32) (so st wr : Nat → Int32) : Option Int32 := if few = 0 then fX0_costOfEven p2 v ld so else fX0_costOfFew p2 v x7 p1 ld so st wr
theorem upd_back {f : Nat → Int32} {k : Nat} {x : Int32} : upd (upd f k x) k (f k) = f := by
  funext j
  by_cases e : j = k
  · subst e
    rw [upd_self]
  · rw [upd_ne e, upd_ne e]
section P34
variable {W : Nat → Bool} {nm : Nat} {few : Int32} {ld : Nat → Nat → Int32} {st' wr' : Nat → Int32} {C : Nat → Nat → Nat}
def BEc (W : Nat → Bool) (nm c : Nat) (be : Nat → Int32) : Prop := ∀ j, j < 6 → be j = if W j = true then nI (dg W nm c j) else -4
def TRc (W : Nat → Bool) (nm d c : Nat) (tr : Nat → Int32) : Prop := ∀ j, j < 6 → (W j = false → tr j = -4) ∧ (j < d → W j = true → tr j = nI (dg W nm c j))
set_option maxHeartbeats 1000000 in
theorem s_hangFrom (h5 : nm ≤ 5) (hb : ∀ d, d < 6 → W d = true → 0 < nm)
    (C_ext : ∀ d c c', d ≤ 6 → (∀ j, j < d → dg W nm c j = dg W nm c' j) → C d c = C d c')
    (C_f : ∀ d c, W d = false → C (d + 1) c = C d c) (C_le : ∀ d c, d < 6 → C d c ≤ C (d + 1) c) (C_B : ∀ d c, C d c < 1000000)
    (C_s : ∀ d c so, d < 6 → W d = true → (∀ k, k < nm → so k = nI (sw W (dg W nm c) k (d + 1))) → HC few (nI (C d c)) (nI (dg W nm c d)) (nI (sw W (dg W nm c) (dg W nm c d) d)) (nI d) ld so st' wr' = some (nI (C (d + 1) c))) :
    ∀ (k d p f : Nat) (so tr be : Nat → Int32), d + k = 6 → k < f → (∀ m, m < nm → so m = nI (sw W (dg W nm (p * nw W nm d)) m d)) → TRc W nm d (p * nw W nm d) tr → (0 < p * nw W nm d → BEc W nm (bs (C 6) (p * nw W nm d)).2 be) →
    ∃ tr' be', lp (rX0_hangFrom (nI (mk W 6)) few ld (nI nm) st' wr') f (nI d, nI (C d (p * nw W nm d)), nI (bs (C 6) (p * nw W nm d)).1, so, tr, be) = some (nI (bs (C 6) (p * nw W nm d + nw W nm d)).1, so, tr', be') ∧ TRc W nm d (p * nw W nm d) tr' ∧ BEc W nm (bs (C 6) (p * nw W nm d + nw W nm d)).2 be' := by
  have C_6 : ∀ e d c, d + e = 6 → C d c ≤ C 6 c := by
    intro e
    induction e with
    | zero => intro d c h; rw [show d = 6 by omega]; exact Nat.le_refl _
    | succ e ih => intro d c h; exact Nat.le_trans (C_le d c (by omega)) (ih (d + 1) c (by omega))
  have prune : ∀ (d p f : Nat) (so tr be : Nat → Int32), d ≤ 6 → ¬ C d (p * nw W nm d) < (bs (C 6) (p * nw W nm d)).1 → TRc W nm d (p * nw W nm d) tr → (0 < p * nw W nm d → BEc W nm (bs (C 6) (p * nw W nm d)).2 be) →
      ∃ tr' be', lp (rX0_hangFrom (nI (mk W 6)) few ld (nI nm) st' wr') (f + 1) (nI d, nI (C d (p * nw W nm d)), nI (bs (C 6) (p * nw W nm d)).1, so, tr, be) = some (nI (bs (C 6) (p * nw W nm d + nw W nm d)).1, so, tr', be') ∧ TRc W nm d (p * nw W nm d) tr' ∧ BEc W nm (bs (C 6) (p * nw W nm d + nw W nm d)).2 be' := by
    intro d p f so tr be hd hp hT hB
    have hbl := bs_le (F := C 6) (p * nw W nm d)
    have hCB := C_B d (p * nw W nm d)
    have st : bs (C 6) (p * nw W nm d + nw W nm d) = bs (C 6) (p * nw W nm d) := bs_stay _ (fun r hr => by
      have h1 := C_6 (6 - d) d (p * nw W nm d + r) (by omega)
      have h2 := C_ext d (p * nw W nm d + r) (p * nw W nm d) hd (fun j hj => dg_same hd hj hr)
      omega)
    refine ⟨tr, be, ?_, hT, ?_⟩
    · rw [lp_succ, rX0_hangFrom, if_neg (fun q => hp ((n_lt (by omega) (by omega)).mp q)), st]
    · rw [st]
      refine hB (Nat.pos_of_ne_zero (fun z => ?_))
      rw [z] at hp hCB
      exact hp hCB
  intro k
  induction k with
  | zero =>
    intro d p f so tr be hd hf hso hT hB
    obtain ⟨f, rfl⟩ : ∃ g, f = g + 1 := ⟨f - 1, by omega⟩
    have : d = 6 := by omega
    subst this
    by_cases hp : C 6 (p * nw W nm 6) < (bs (C 6) (p * nw W nm 6)).1
    · have hbl := bs_le (F := C 6) (p * nw W nm 6)
      have hCB := C_B 6 (p * nw W nm 6)
      have e : bs (C 6) (p * nw W nm 6 + nw W nm 6) = (C 6 (p * nw W nm 6), p * nw W nm 6) := by
        rw [show nw W nm 6 = 1 from nw_6] at hp ⊢
        exact bs_y hp
      have g6 : ∀ {α : Type} (A : Option α), gcp 0 0 6 6 6 A = A := fun A => gcp_n (sp := 0) (dp := 0) (n := 6) (by decide) (by decide) (by decide) (by decide)
      refine ⟨tr, va_cpy tr be 0 0 6, ?_, hT, ?_⟩
      · rw [lp_succ, rX0_hangFrom, if_pos ((n_lt (by omega) (by omega)).mpr hp), if_neg (show ¬ nI 6 < 6 by decide), g6, e]
        rfl
      · rw [e]
        intro j hj
        rw [pk_cpy_in (by omega) (by omega), show 0 + (j - 0) = j by omega]
        cases w : W j with
        | false => rw [(hT j hj).1 w, if_neg (by decide)]
        | true => rw [(hT j hj).2 hj w, if_pos rfl]
    · exact prune 6 p f so tr be (by omega) hp hT hB
  | succ k ih =>
    intro d p f so tr be hd hf hso hT hB
    obtain ⟨f, rfl⟩ : ∃ g, f = g + 1 := ⟨f - 1, by omega⟩
    by_cases hp : C d (p * nw W nm d) < (bs (C 6) (p * nw W nm d)).1
    · have hbl := bs_le (F := C 6) (p * nw W nm d)
      have hCB := C_B d (p * nw W nm d)
      have hd6 : d < 6 := by omega
      have l6 : nI d < 6 := (n_lt (b := 6) (by omega) (by omega)).mpr hd6
      have hWm : mk W 6 < 64 := mk_lt _ 6
      have bt : (mk W 6).testBit d = W d := mk_test hd6
      rw [lp_succ, rX0_hangFrom, if_pos ((n_lt (by omega) (by omega)).mpr hp), if_pos l6]
      cases w : W d with
      | false =>
        have en := nw_f (b := nm) w
        rw [if_pos ((q_bit0 hWm hd6).mpr (bt.trans w)), n_add1]
        have key := ih (d + 1) p f so tr be (by omega) (by omega) (by rw [← en]; intro m hm; rw [sw_f w]; exact hso m hm) (by
          rw [← en]
          intro j hj
          refine ⟨(hT j hj).1, fun h1 h2 => (hT j hj).2 (Nat.lt_of_le_of_ne (Nat.le_of_lt_succ h1) (fun z => ?_)) h2⟩
          rw [z, w] at h2
          cases h2) (by rw [← en]; exact hB)
        rw [← en, C_f d _ w] at key
        obtain ⟨tr', be', k1, k2, k3⟩ := key
        rw [k1, Option.bind_some]
        refine ⟨tr', be', rfl, fun j hj => ⟨(k2 j hj).1, fun h1 h2 => (k2 j hj).2 (by omega) h2⟩, k3⟩
      | true =>
        have en := nw_t (b := nm) hd6 w
        have hn1 : 0 < nw W nm (d + 1) := nw_pos hb
        rw [if_neg (fun q => by have := (q_bit0 hWm hd6).mp q; rw [bt, w] at this; cases this)]
        generalize hs : p * nw W nm d = s at hp hso hT hB hbl hCB ⊢
        have step : ∀ m, m < nm → s + m * nw W nm (d + 1) = (p * nm + m) * nw W nm (d + 1) := fun m hm => by
          rw [← hs, en, Nat.add_mul, Nat.mul_assoc, Nat.mul_comm nm]
        obtain ⟨⟨r1, r2, r3, r4⟩, ⟨e1, e2, e3, e4⟩, e5⟩ := lp_inv (β := Int32 × (Nat → Int32) × (Nat → Int32) × (Nat → Int32)) (body := bX0_hangFrom_58 (lp (rX0_hangFrom (nI (mk W 6)) few ld (nI nm) st' wr') f) few ld (nI nm) st' wr' (nI d) (nI (C d s))) nm
          (fun m a => a.1 = nI m ∧ a.2.1 = nI (bs (C 6) (s + m * nw W nm (d + 1))).1 ∧ a.2.2.1 = so ∧ TRc W nm d s a.2.2.2.1 ∧ (0 < s + m * nw W nm (d + 1) → BEc W nm (bs (C 6) (s + m * nw W nm (d + 1))).2 a.2.2.2.2))
          (fun r => r.1 = nI (bs (C 6) (s + nm * nw W nm (d + 1))).1 ∧ r.2.1 = so ∧ TRc W nm d s r.2.2.1 ∧ BEc W nm (bs (C 6) (s + nm * nw W nm (d + 1))).2 r.2.2.2) (fun r => some r)
          (a0 := (0, nI (bs (C 6) s).1, so, tr, be)) ⟨rfl, by show _ = nI (bs (C 6) (s + 0 * _)).1; rw [Nat.zero_mul, Nat.add_zero], rfl, hT, by rw [Nat.zero_mul, Nat.add_zero]; exact hB⟩ (by omega)
          (fun m hm a hI => by
            obtain ⟨v, bc, so1, tr1, be1⟩ := a
            obtain ⟨g1, g2, g3, g4, g5⟩ := hI
            simp only at g1 g2 g3 g4 g5
            subst g1 g2 g3
            have hm5 : m < 5 := by omega
            have hmn : m * nw W nm (d + 1) < nw W nm d := by rw [en, Nat.mul_comm]; exact Nat.mul_lt_mul_of_pos_left hm hn1
            have dj : ∀ j, j < d → dg W nm (s + m * nw W nm (d + 1)) j = dg W nm s j := fun j hj => by
              rw [← hs]
              exact dg_same (by omega) hj hmn
            have dd : dg W nm (s + m * nw W nm (d + 1)) d = m := by
              have := dg_at (p := p) (r := 0) hd6 w hm hn1
              rw [hs, Nat.add_zero] at this
              exact this
            have hx : so1 m = nI (sw W (dg W nm s) m d) := hso m hm
            have hxl : sw W (dg W nm s) m d < 2 ^ d := mk_lt _ d
            have so2 : ∀ k, k < nm → upd so1 m (so1 m ||| (1 <<< (nI d &&& 31))) k = nI (sw W (dg W nm (s + m * nw W nm (d + 1))) k (d + 1)) := fun k hk => by
              by_cases e : k = m
              · subst e
                rw [upd_self, hx, or_nI hxl (by omega), sw_t w dd, sw_ext (fun j hj => (dj j hj).symm)]
              · rw [upd_ne e, hso k hk, sw_n (by rw [dd]; exact fun q => e q.symm), sw_ext (fun j hj => (dj j hj).symm)]
            have cost := C_s d (s + m * nw W nm (d + 1)) _ hd6 w so2
            rw [dd, C_ext d (s + m * nw W nm (d + 1)) s (by omega) dj, sw_ext (a' := dg W nm s) dj, ← hx] at cost
            obtain ⟨tr2, be2, k1, k2, k3⟩ := ih (d + 1) (p * nm + m) f (upd so1 m (so1 m ||| (1 <<< (nI d &&& 31)))) (upd tr1 d (nI m)) be1 (by omega) (by omega) (by rw [← step m hm]; exact so2) (by
              rw [← step m hm]
              intro j hj
              refine ⟨fun h1 => ?_, fun h1 h2 => ?_⟩
              · rw [upd_ne (fun z => by rw [z, w] at h1; cases h1)]
                exact (g4 j hj).1 h1
              · by_cases e : j = d
                · subst e
                  rw [upd_self, dd]
                · rw [upd_ne e, dj j (by omega)]
                  exact (g4 j hj).2 (by omega) h2) (by rw [← step m hm]; exact g5)
            rw [← step m hm] at k1 k2 k3
            refine ⟨(nI (m + 1), nI (bs (C 6) (s + m * nw W nm (d + 1) + nw W nm (d + 1))).1, so1, tr2, be2), ⟨rfl, ?_, rfl, fun j hj => ⟨(k2 j hj).1, fun h1 h2 => ?_⟩, fun _ => ?_⟩, fun K => ?_⟩
            · show nI _ = nI (bs (C 6) (s + (m + 1) * nw W nm (d + 1))).1
              rw [Nat.add_mul, Nat.one_mul, ← Nat.add_assoc]
            · rw [← dj j h1]
              exact (k2 j hj).2 (by omega) h2
            · rw [Nat.add_mul, Nat.one_mul, ← Nat.add_assoc]
              exact k3
            · unfold HC at cost
              rw [bX0_hangFrom_58, if_neg (by rw [n_le (by omega) (by omega)]; omega), gin_nI hm5 (by decide), nm_def, gin_nI hm5 (by decide), gin_nI hd6 (by decide), n_cl (by omega), n_cl (by omega), n_add1]
              by_cases z : few = 0
              · rw [if_pos z] at cost ⊢
                rw [cost, Option.bind_some, k1, Option.bind_some, gin_nI hm5 (by decide), nm_def, n_add1]
                show K (_, _, upd (upd so1 m _) m (so1 m), _, _) = _
                rw [upd_back]
              · rw [if_neg z] at cost ⊢
                rw [cost, Option.bind_some, k1, Option.bind_some, gin_nI hm5 (by decide), nm_def, n_add1]
                show K (_, _, upd (upd so1 m _) m (so1 m), _, _) = _
                rw [upd_back])
          (fun a hI => by
            obtain ⟨v, bc, so1, tr1, be1⟩ := a
            obtain ⟨g1, g2, g3, g4, g5⟩ := hI
            simp only at g1 g2 g3 g4 g5
            subst g1
            refine ⟨(bc, so1, tr1, be1), ⟨g2, g3, g4, g5 ?_⟩, fun K => ?_⟩
            · have := Nat.mul_pos (hb d hd6 w) hn1
              omega
            · rw [bX0_hangFrom_58, if_pos (Int32.le_refl _)])
        simp only at e1 e2 e3 e4
        subst e1 e2
        rw [show s + nw W nm d = s + nm * nw W nm (d + 1) by rw [en, Nat.mul_comm]]
        exact ⟨r3, r4, e5, e3, e4⟩
    · exact prune d p f so tr be (by omega) hp hT hB
end P34
