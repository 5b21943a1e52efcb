/-! THE START: what the tables say of it -/
section ST
variable {s : State} {args : Array Value}
theorem arr_of {ty : FieldType} {c : ClassId} {k : Class} {comp : ClassId} (h2 : s.vm.classes[c]? = some k) (h3 : k.kind = .array comp ty) : ArrOfT s c ty := fun N z => ⟨(fun k h => by cases h), k, h2, comp, h3⟩
theorem st_K (hts : ∀ w ∈ lw_tbl, w.before args s = true) : ∃ (D : va_G) (g : Nat → ClassId), va_K D vwCl (gty g) s := by
  obtain ⟨c0, i0, k0⟩ := u_known (C := RX0) (T := TX0) (N := 9) (n := 9) hts wlX00 (hts (.instantiable RX0 9) (List.mem_of_getElem? (i := 153) (by decide +kernel)))
  obtain ⟨c1, i1, k1⟩ := u_known (C := RX1) (T := TX1) (N := 10) (n := 10) hts wlX10 (hts (.instantiable RX1 10) (List.mem_of_getElem? (i := 58) (by decide +kernel)))
  obtain ⟨c2, i2, k2⟩ := u_known (C := RX2) (T := TX2) (N := 3) (n := 3) hts wlX20 (hts (.instantiable RX2 3) (List.mem_of_getElem? (i := 115) (by decide +kernel)))
  obtain ⟨c3, i3, k3⟩ := u_known (C := RX3) (T := TX3) (N := 4) (n := 4) hts wlX30 (hts (.instantiable RX3 4) (List.mem_of_getElem? (i := 190) (by decide +kernel)))
  obtain ⟨c4, i4, k4⟩ := u_known (C := RX4) (T := TX4) (N := 3) (n := 3) hts wlX40 (hts (.instantiable RX4 3) (List.mem_of_getElem? (i := 134) (by decide +kernel)))
  obtain ⟨c5, i5, k5⟩ := u_known (C := RX5) (T := TX5) (N := 9) (n := 9) hts wlX50 (hts (.instantiable RX5 9) (List.mem_of_getElem? (i := 50) (by decide +kernel)))
  obtain ⟨c6, i6, k6⟩ := u_known (C := RX6) (T := TX6) (N := 15) (n := 15) hts wlX60 (hts (.instantiable RX6 15) (List.mem_of_getElem? (i := 669) (by decide +kernel)))
  obtain ⟨a0, b0, m0, f0, g0, h0⟩ := Cond.arrayClass_spec (hts (.arrayClass .int) (List.mem_of_getElem? (i := 113) (by decide +kernel)))
  obtain ⟨a1, b1, m1, f1, g1, h1⟩ := Cond.arrayClass_spec (hts (.arrayClass .long) (List.mem_of_getElem? (i := 212) (by decide +kernel)))
  obtain ⟨a2, b2, m2, f2, g2, h2⟩ := Cond.arrayClass_spec (hts (.arrayClass .char) (List.mem_of_getElem? (i := 151) (by decide +kernel)))
  obtain ⟨m3, a3, b3, d3, g3, h3, f3⟩ := Cond.arrayOver_specA (hts (.arrayOver (.array .int)) (List.mem_of_getElem? (i := 121) (by decide +kernel)))
  obtain ⟨m4, a4, b4, d4, e4, g4, h4, f4⟩ := Cond.arrayOver_spec (hts (.arrayOver (.object RX3)) (List.mem_of_getElem? (i := 189) (by decide +kernel)))
  refine ⟨(fun k => match k with | 0 => c0 | 1 => c1 | 2 => c2 | 3 => c3 | 4 => c4 | 5 => c5 | _ => c6, fun k => match k with | 0 => i0 | 1 => i1 | 2 => i2 | 3 => i3 | 4 => i4 | 5 => i5 | _ => i6), fun k => match k with | 0 => a0 | 1 => a1 | 2 => a2 | 3 => a3 | _ => a4, ?_, ?_⟩
  · intro k q hq
    match k, hq with
    | 0, hq => cases hq; exact k0
    | 1, hq => cases hq; exact k1
    | 2, hq => cases hq; exact k2
    | 3, hq => cases hq; exact k3
    | 4, hq => cases hq; exact k4
    | 5, hq => cases hq; exact k5
    | 6, hq => cases hq; exact k6
    | k + 7, hq => simp at hq
  · intro k q hq
    match k, hq with
    | 0, hq => cases hq; exact ⟨arr_of g0 h0, f0⟩
    | 1, hq => cases hq; exact ⟨arr_of g1 h1, f1⟩
    | 2, hq => cases hq; exact ⟨arr_of g2 h2, f2⟩
    | 3, hq => cases hq; exact ⟨arr_of g3 h3, f3⟩
    | 4, hq => cases hq; exact ⟨arr_of g4 h4, ⟨_, _, g4, h4, d4, f4⟩⟩
    | k + 5, hq => simp [gty] at hq
theorem st_T (hts : ∀ w ∈ lw_tbl, w.before args s = true) : tF s := ⟨⟨va_Nw.of rfl (hts (.methodLinkNest RX5 9 yX1_init "WoundMedals") (List.mem_of_getElem? (i := 59) (by decide +kernel))), va_Nw.of rfl (hts (.methodLinkNest RX5 18 yX2_init "WoundMedals") (List.mem_of_getElem? (i := 116) (by decide +kernel))), va_Nw.of rfl (hts (.methodLinkNest RX5 38 yX4_init "WoundMedals") (List.mem_of_getElem? (i := 135) (by decide +kernel))), va_Nw.of rfl (hts (.methodLinkNest RX5 58 yX3_init "WoundMedals") (List.mem_of_getElem? (i := 191) (by decide +kernel)))⟩, (hts (.arrayOver (.array .int)) (List.mem_of_getElem? (i := 121) (by decide +kernel))), va_AO.of (hts (.arrayOver (.object RX3)) (List.mem_of_getElem? (i := 189) (by decide +kernel)))⟩
theorem st_N (hts : ∀ w ∈ lw_tbl, w.before args s = true) : gN s := va_Nw.of rfl (hts (.methodLinkNest RX1 74 yX5_strengthNext "WoundMedals") (List.mem_of_getElem? (i := 438) (by decide +kernel)))
end ST
/-! THE WORLD as the two constructors leave it -/
def wA (g : Nat → ClassId) (h0 : Nat) (u : Nat → Nat → Nat) : va_W := [(h0, .inr (5, [.ref (u 0 1), .ref (u 0 8), .ref (u 0 10), .ref (u 0 17), .int 0, .ref (u 0 19), .ref (u 0 26), .ref (u 0 28), .ref (u 0 34)])), ((u 0 1), .inr (1, [.int 0, .ref (u 0 2), .ref (u 0 3), .int 0, .ref (u 0 4), .ref (u 0 5), .ref (u 0 6), .ref (u 0 7), .int 0, .int 1])), ((u 0 2), .inl (g 0, 5, .inl (fun _ => 0))), ((u 0 3), .inl (g 0, 5, .inl (fun _ => 0))), ((u 0 4), .inl (g 0, 6, .inl (fun _ => 0))), ((u 0 5), .inl (g 0, 6, .inl (fun _ => 0))), ((u 0 6), .inl (g 0, 6, .inl (fun _ => 0))), ((u 0 7), .inl (g 0, 6, .inl (fun _ => 0))), ((u 0 8), .inr (2, [.ref (u 0 9), .int 0, .int 0])), ((u 0 9), .inl (g 3, 8, .inr (.inr (.inr (.inr (fun i => if i < 8 then some (u 1 i) else none)))))), ((u 1 0), .inl (g 0, 19, .inl (fun _ => 0))), ((u 1 1), .inl (g 0, 19, .inl (fun _ => 0))), ((u 1 2), .inl (g 0, 19, .inl (fun _ => 0))), ((u 1 3), .inl (g 0, 19, .inl (fun _ => 0))), ((u 1 4), .inl (g 0, 19, .inl (fun _ => 0))), ((u 1 5), .inl (g 0, 19, .inl (fun _ => 0))), ((u 1 6), .inl (g 0, 19, .inl (fun _ => 0))), ((u 1 7), .inl (g 0, 19, .inl (fun _ => 0))), ((u 0 10), .inr (1, [.int 0, .ref (u 0 11), .ref (u 0 12), .int 0, .ref (u 0 13), .ref (u 0 14), .ref (u 0 15), .ref (u 0 16), .int 0, .int 1])), ((u 0 11), .inl (g 0, 5, .inl (fun _ => 0))), ((u 0 12), .inl (g 0, 5, .inl (fun _ => 0))), ((u 0 13), .inl (g 0, 6, .inl (fun _ => 0))), ((u 0 14), .inl (g 0, 6, .inl (fun _ => 0))), ((u 0 15), .inl (g 0, 6, .inl (fun _ => 0))), ((u 0 16), .inl (g 0, 6, .inl (fun _ => 0))), ((u 0 17), .inr (2, [.ref (u 0 18), .int 0, .int 0])), ((u 0 18), .inl (g 3, 8, .inr (.inr (.inr (.inr (fun i => if i < 8 then some (u 2 i) else none)))))), ((u 2 0), .inl (g 0, 19, .inl (fun _ => 0))), ((u 2 1), .inl (g 0, 19, .inl (fun _ => 0))), ((u 2 2), .inl (g 0, 19, .inl (fun _ => 0))), ((u 2 3), .inl (g 0, 19, .inl (fun _ => 0))), ((u 2 4), .inl (g 0, 19, .inl (fun _ => 0))), ((u 2 5), .inl (g 0, 19, .inl (fun _ => 0))), ((u 2 6), .inl (g 0, 19, .inl (fun _ => 0))), ((u 2 7), .inl (g 0, 19, .inl (fun _ => 0))), ((u 0 19), .inr (1, [.int 0, .ref (u 0 20), .ref (u 0 21), .int 0, .ref (u 0 22), .ref (u 0 23), .ref (u 0 24), .ref (u 0 25), .int 0, .int 1])), ((u 0 20), .inl (g 0, 5, .inl (fun _ => 0))), ((u 0 21), .inl (g 0, 5, .inl (fun _ => 0))), ((u 0 22), .inl (g 0, 6, .inl (fun _ => 0))), ((u 0 23), .inl (g 0, 6, .inl (fun _ => 0))), ((u 0 24), .inl (g 0, 6, .inl (fun _ => 0))), ((u 0 25), .inl (g 0, 6, .inl (fun _ => 0))), ((u 0 26), .inr (4, [.ref (u 0 27), .int 0, .int 0])), ((u 0 27), .inl (g 2, 90, .inl (fun _ => 0))), ((u 0 28), .inr (0, [.ref (u 0 1), .ref (u 0 29), .int 0, .ref (u 0 30), .ref (u 0 31), .ref (u 0 32), .ref (u 0 33), .int 0, .int 0])), ((u 0 29), .inl (g 3, 5, .inr (.inr (.inr (.inr (fun i => if i < 5 then some (u 3 i) else none)))))), ((u 3 0), .inl (g 0, 64, .inl (fun _ => 0))), ((u 3 1), .inl (g 0, 64, .inl (fun _ => 0))), ((u 3 2), .inl (g 0, 64, .inl (fun _ => 0))), ((u 3 3), .inl (g 0, 64, .inl (fun _ => 0))), ((u 3 4), .inl (g 0, 64, .inl (fun _ => 0))), ((u 0 30), .inl (g 0, 5, .inl (fun _ => 0))), ((u 0 31), .inl (g 0, 6, .inl (fun _ => 0))), ((u 0 32), .inl (g 0, 6, .inl (fun _ => 0))), ((u 0 33), .inl (g 0, 64, .inl (fun _ => 0))), ((u 0 34), .inl (g 4, 4, .inr (.inr (.inr (.inr (va_up (va_up (va_up (va_up (fun _ => none) (Int32.toNatClampNeg 0) (some (u 0 35))) (Int32.toNatClampNeg 1) (some (u 0 37))) (Int32.toNatClampNeg 2) (some (u 0 39))) (Int32.toNatClampNeg 3) (some (u 0 41)))))))), ((u 0 35), .inr (3, [.int 0, .int 0, .int 0, .ref (u 0 36)])), ((u 0 36), .inl (g 1, 24, .inr (.inl (fun _ => 0)))), ((u 0 37), .inr (3, [.int 0, .int 0, .int 0, .ref (u 0 38)])), ((u 0 38), .inl (g 1, 24, .inr (.inl (fun _ => 0)))), ((u 0 39), .inr (3, [.int 0, .int 0, .int 0, .ref (u 0 40)])), ((u 0 40), .inl (g 1, 24, .inr (.inl (fun _ => 0)))), ((u 0 41), .inr (3, [.int 0, .int 0, .int 0, .ref (u 0 42)])), ((u 0 42), .inl (g 1, 24, .inr (.inl (fun _ => 0))))]
def wB (g : Nat → ClassId) (h0 : Nat) (u : Nat → Nat → Nat) : va_W := [(h0, .inr (6, [.ref (u 0 1), .ref (u 0 2), .ref (u 0 3), .int 0, .ref (u 0 4), .int 0, .int 0, .ref (u 0 5), .ref (u 0 6), .ref (u 0 7), .ref (u 0 8), .int 0, .ref (u 0 9), .int 0, .int 0])), ((u 0 1), .inl (g 0, 4, .inl (upd (upd (upd (upd (fun _ => 0) (Int32.toNatClampNeg 0) (-1)) (Int32.toNatClampNeg 1) (-1)) (Int32.toNatClampNeg 2) (-1)) (Int32.toNatClampNeg 3) (-1)))), ((u 0 2), .inl (g 0, 4, .inl (fun _ => 0))), ((u 0 3), .inl (g 1, 96, .inr (.inl (fun _ => 0)))), ((u 0 4), .inl (g 0, 90, .inl (fun _ => 0))), ((u 0 5), .inl (g 0, 191, .inl (upd (fun _ => 0) (Int32.toNatClampNeg 1) 1))), ((u 0 6), .inl (g 0, 191, .inl (fun _ => 0))), ((u 0 7), .inl (g 0, 191, .inl (fun _ => 0))), ((u 0 8), .inl (g 0, 191, .inl (fun _ => 0))), ((u 0 9), .inl (g 0, 6, .inl (fun _ => 0)))]
def w0 (g : Nat → ClassId) (h0 h6 : Nat) (u v : Nat → Nat → Nat) : va_W := [(h0, .inr (5, [.ref (u 0 1), .ref (u 0 8), .ref (u 0 10), .ref (u 0 17), .int 0, .ref (u 0 19), .ref (u 0 26), .ref (u 0 28), .ref (u 0 34)])), ((u 0 1), .inr (1, [.int 0, .ref (u 0 2), .ref (u 0 3), .int 0, .ref (u 0 4), .ref (u 0 5), .ref (u 0 6), .ref (u 0 7), .int 0, .int 1])), ((u 0 2), .inl (g 0, 5, .inl (fun _ => 0))), ((u 0 3), .inl (g 0, 5, .inl (fun _ => 0))), ((u 0 4), .inl (g 0, 6, .inl (fun _ => 0))), ((u 0 5), .inl (g 0, 6, .inl (fun _ => 0))), ((u 0 6), .inl (g 0, 6, .inl (fun _ => 0))), ((u 0 7), .inl (g 0, 6, .inl (fun _ => 0))), ((u 0 8), .inr (2, [.ref (u 0 9), .int 0, .int 0])), ((u 0 9), .inl (g 3, 8, .inr (.inr (.inr (.inr (fun i => if i < 8 then some (u 1 i) else none)))))), ((u 1 0), .inl (g 0, 19, .inl (fun _ => 0))), ((u 1 1), .inl (g 0, 19, .inl (fun _ => 0))), ((u 1 2), .inl (g 0, 19, .inl (fun _ => 0))), ((u 1 3), .inl (g 0, 19, .inl (fun _ => 0))), ((u 1 4), .inl (g 0, 19, .inl (fun _ => 0))), ((u 1 5), .inl (g 0, 19, .inl (fun _ => 0))), ((u 1 6), .inl (g 0, 19, .inl (fun _ => 0))), ((u 1 7), .inl (g 0, 19, .inl (fun _ => 0))), ((u 0 10), .inr (1, [.int 0, .ref (u 0 11), .ref (u 0 12), .int 0, .ref (u 0 13), .ref (u 0 14), .ref (u 0 15), .ref (u 0 16), .int 0, .int 1])), ((u 0 11), .inl (g 0, 5, .inl (fun _ => 0))), ((u 0 12), .inl (g 0, 5, .inl (fun _ => 0))), ((u 0 13), .inl (g 0, 6, .inl (fun _ => 0))), ((u 0 14), .inl (g 0, 6, .inl (fun _ => 0))), ((u 0 15), .inl (g 0, 6, .inl (fun _ => 0))), ((u 0 16), .inl (g 0, 6, .inl (fun _ => 0))), ((u 0 17), .inr (2, [.ref (u 0 18), .int 0, .int 0])), ((u 0 18), .inl (g 3, 8, .inr (.inr (.inr (.inr (fun i => if i < 8 then some (u 2 i) else none)))))), ((u 2 0), .inl (g 0, 19, .inl (fun _ => 0))), ((u 2 1), .inl (g 0, 19, .inl (fun _ => 0))), ((u 2 2), .inl (g 0, 19, .inl (fun _ => 0))), ((u 2 3), .inl (g 0, 19, .inl (fun _ => 0))), ((u 2 4), .inl (g 0, 19, .inl (fun _ => 0))), ((u 2 5), .inl (g 0, 19, .inl (fun _ => 0))), ((u 2 6), .inl (g 0, 19, .inl (fun _ => 0))), ((u 2 7), .inl (g 0, 19, .inl (fun _ => 0))), ((u 0 19), .inr (1, [.int 0, .ref (u 0 20), .ref (u 0 21), .int 0, .ref (u 0 22), .ref (u 0 23), .ref (u 0 24), .ref (u 0 25), .int 0, .int 1])), ((u 0 20), .inl (g 0, 5, .inl (fun _ => 0))), ((u 0 21), .inl (g 0, 5, .inl (fun _ => 0))), ((u 0 22), .inl (g 0, 6, .inl (fun _ => 0))), ((u 0 23), .inl (g 0, 6, .inl (fun _ => 0))), ((u 0 24), .inl (g 0, 6, .inl (fun _ => 0))), ((u 0 25), .inl (g 0, 6, .inl (fun _ => 0))), ((u 0 26), .inr (4, [.ref (u 0 27), .int 0, .int 0])), ((u 0 27), .inl (g 2, 90, .inl (fun _ => 0))), ((u 0 28), .inr (0, [.ref (u 0 1), .ref (u 0 29), .int 0, .ref (u 0 30), .ref (u 0 31), .ref (u 0 32), .ref (u 0 33), .int 0, .int 0])), ((u 0 29), .inl (g 3, 5, .inr (.inr (.inr (.inr (fun i => if i < 5 then some (u 3 i) else none)))))), ((u 3 0), .inl (g 0, 64, .inl (fun _ => 0))), ((u 3 1), .inl (g 0, 64, .inl (fun _ => 0))), ((u 3 2), .inl (g 0, 64, .inl (fun _ => 0))), ((u 3 3), .inl (g 0, 64, .inl (fun _ => 0))), ((u 3 4), .inl (g 0, 64, .inl (fun _ => 0))), ((u 0 30), .inl (g 0, 5, .inl (fun _ => 0))), ((u 0 31), .inl (g 0, 6, .inl (fun _ => 0))), ((u 0 32), .inl (g 0, 6, .inl (fun _ => 0))), ((u 0 33), .inl (g 0, 64, .inl (fun _ => 0))), ((u 0 34), .inl (g 4, 4, .inr (.inr (.inr (.inr (va_up (va_up (va_up (va_up (fun _ => none) (Int32.toNatClampNeg 0) (some (u 0 35))) (Int32.toNatClampNeg 1) (some (u 0 37))) (Int32.toNatClampNeg 2) (some (u 0 39))) (Int32.toNatClampNeg 3) (some (u 0 41)))))))), ((u 0 35), .inr (3, [.int 0, .int 0, .int 0, .ref (u 0 36)])), ((u 0 37), .inr (3, [.int 0, .int 0, .int 0, .ref (u 0 38)])), ((u 0 39), .inr (3, [.int 0, .int 0, .int 0, .ref (u 0 40)])), ((u 0 41), .inr (3, [.int 0, .int 0, .int 0, .ref (u 0 42)])), ((u 0 36), .inl (g 1, 24, .inr (.inl (fun _ => 0)))), ((u 0 38), .inl (g 1, 24, .inr (.inl (fun _ => 0)))), ((u 0 40), .inl (g 1, 24, .inr (.inl (fun _ => 0)))), ((u 0 42), .inl (g 1, 24, .inr (.inl (fun _ => 0)))), (h6, .inr (6, [.ref (v 0 1), .ref (v 0 2), .ref (v 0 3), .int 0, .ref (v 0 4), .int 0, .int 0, .ref (v 0 5), .ref (v 0 6), .ref (v 0 7), .ref (v 0 8), .int 0, .ref (v 0 9), .int 0, .int 0])), ((v 0 1), .inl (g 0, 4, .inl (upd (upd (upd (upd (fun _ => 0) (Int32.toNatClampNeg 0) (-1)) (Int32.toNatClampNeg 1) (-1)) (Int32.toNatClampNeg 2) (-1)) (Int32.toNatClampNeg 3) (-1)))), ((v 0 2), .inl (g 0, 4, .inl (fun _ => 0))), ((v 0 3), .inl (g 1, 96, .inr (.inl (fun _ => 0)))), ((v 0 4), .inl (g 0, 90, .inl (fun _ => 0))), ((v 0 5), .inl (g 0, 191, .inl (upd (fun _ => 0) (Int32.toNatClampNeg 1) 1))), ((v 0 6), .inl (g 0, 191, .inl (fun _ => 0))), ((v 0 7), .inl (g 0, 191, .inl (fun _ => 0))), ((v 0 8), .inl (g 0, 191, .inl (fun _ => 0))), ((v 0 9), .inl (g 0, 6, .inl (fun _ => 0)))]
def qaL (ws : va_W) (k : Nat) : Nat := (ws.getD k (0, .inr (0, []))).1
def EL (ws : va_W) (k : Nat) : va_E := (ws.getD k (0, .inr (0, []))).2
theorem L_get {ws : va_W} {k : Nat} (h : k < ws.length) : ws[k]? = some (qaL ws k, EL ws k) := by
  unfold qaL EL
  rw [List.getD_eq_getElem?_getD, List.getElem?_eq_getElem h]
  rfl
theorem WD_of {ws : va_W} (h : ws.length = 74) : WD (qaL ws) (EL ws) = ws := by
  apply List.ext_getElem?
  intro j
  by_cases hj : j < 74
  · rw [WD_get hj, L_get (by omega)]
  · rw [List.getElem?_eq_none (by simp [WD]; omega), List.getElem?_eq_none (by omega)]
theorem gJ_of {A : Nat → Prop} {ws : va_W} (hD : va_D A ws) (h : ws.length = 74) : gJ (qaL ws) := fun i j hi hj e => hD.1 i j _ _ (L_get (by omega)) (L_get (by omega)) e
theorem old_of {A : Nat → Prop} {ws : va_W} (hD : va_D A ws) (h : ws.length = 74) : ∀ k, k < 74 → A (qaL ws k) := fun k hk => hD.2 k _ (L_get (by omega))
theorem S_up {A B : Nat → Prop} {H0 H : Heap} {locs : List Loc} (hAB : ∀ q, A q → B q) (h : va_S A H0 H locs) : va_S B H0 H locs := ⟨h.1, fun q hq hn => h.2.1 q hq (fun a => hn (hAB q a)), fun l hl => hAB _ (h.2.2 l hl)⟩
theorem grd_eq {qa : Nat → Nat} {b n : Nat} {f : Nat → Option Nat} (h : ∀ j, f j = if j < n then some (qa (b + j)) else none) : ((n, .inr (.inr (.inr (.inr f)))) : vp_A) = grd qa b n := by
  unfold grd
  rw [show f = fun j => if j < n then some (qa (b + j)) else none from funext h]
theorem lt_4 {j : Nat} (h : j < 4) : j = 0 ∨ j = 1 ∨ j = 2 ∨ j = 3 := by omega
theorem lt_5 {j : Nat} (h : j < 5) : j = 0 ∨ j = 1 ∨ j = 2 ∨ j = 3 ∨ j = 4 := by omega
theorem lt_8 {j : Nat} (h : j < 8) : j = 0 ∨ j = 1 ∨ j = 2 ∨ j = 3 ∨ j = 4 ∨ j = 5 ∨ j = 6 ∨ j = 7 := by omega
section SH
variable {g : Nat → ClassId} {h0 h6 : Nat} {u v : Nat → Nat → Nat}
theorem w0_len : (w0 g h0 h6 u v).length = 74 := rfl
theorem sh_x : Xo g (qaL (w0 g h0 h6 u v)) (EL (w0 g h0 h6 u v)) 0 0 := rfl
theorem sh_n : Mu g (qaL (w0 g h0 h6 u v)) (EL (w0 g h0 h6 u v)) 1 0 0 0 1 (fun _ => 0) (fun _ => 0) (fun _ => 0) (fun _ => 0) (fun _ => 0) (fun _ => 0) := ⟨rfl, rfl, rfl, rfl, rfl, rfl, rfl⟩
theorem sh_a : Mu g (qaL (w0 g h0 h6 u v)) (EL (w0 g h0 h6 u v)) 18 0 0 0 1 (fun _ => 0) (fun _ => 0) (fun _ => 0) (fun _ => 0) (fun _ => 0) (fun _ => 0) := ⟨rfl, rfl, rfl, rfl, rfl, rfl, rfl⟩
theorem sh_t : Mu g (qaL (w0 g h0 h6 u v)) (EL (w0 g h0 h6 u v)) 35 0 0 0 1 (fun _ => 0) (fun _ => 0) (fun _ => 0) (fun _ => 0) (fun _ => 0) (fun _ => 0) := ⟨rfl, rfl, rfl, rfl, rfl, rfl, rfl⟩
theorem sh_p : Pa g (qaL (w0 g h0 h6 u v)) (EL (w0 g h0 h6 u v)) 8 0 0 (fun _ _ => 0) := by
  refine ⟨rfl, congrArg (fun z => (Sum.inl (g 3, z) : va_E)) (grd_eq (f := fun i => if i < 8 then some (u 1 i) else none) (fun j => ?_)), fun j hj => ?_⟩
  · by_cases h : j < 8
    · rcases lt_8 h with rfl | rfl | rfl | rfl | rfl | rfl | rfl | rfl <;> rfl
    · show (if j < 8 then some (u 1 j) else none) = _
      rw [if_neg h, if_neg h]
  · rcases lt_8 hj with rfl | rfl | rfl | rfl | rfl | rfl | rfl | rfl <;> rfl
theorem sh_q : Pa g (qaL (w0 g h0 h6 u v)) (EL (w0 g h0 h6 u v)) 25 0 0 (fun _ _ => 0) := by
  refine ⟨rfl, congrArg (fun z => (Sum.inl (g 3, z) : va_E)) (grd_eq (f := fun i => if i < 8 then some (u 2 i) else none) (fun j => ?_)), fun j hj => ?_⟩
  · by_cases h : j < 8
    · rcases lt_8 h with rfl | rfl | rfl | rfl | rfl | rfl | rfl | rfl <;> rfl
    · show (if j < 8 then some (u 2 j) else none) = _
      rw [if_neg h, if_neg h]
  · rcases lt_8 hj with rfl | rfl | rfl | rfl | rfl | rfl | rfl | rfl <;> rfl
theorem sh_T : Ta g (qaL (w0 g h0 h6 u v)) (EL (w0 g h0 h6 u v)) 42 0 0 (fun _ => 0) := ⟨rfl, rfl⟩
theorem sh_h : Ha g (qaL (w0 g h0 h6 u v)) (EL (w0 g h0 h6 u v)) 44 0 0 0 (fun _ _ => 0) (fun _ => 0) (fun _ => 0) (fun _ => 0) (fun _ => 0) := by
  refine ⟨rfl, congrArg (fun z => (Sum.inl (g 3, z) : va_E)) (grd_eq (f := fun i => if i < 5 then some (u 3 i) else none) (fun j => ?_)), fun j hj => ?_, rfl, rfl, rfl, rfl⟩
  · by_cases h : j < 5
    · rcases lt_5 h with rfl | rfl | rfl | rfl | rfl <;> rfl
    · show (if j < 5 then some (u 3 j) else none) = _
      rw [if_neg h, if_neg h]
  · rcases lt_5 hj with rfl | rfl | rfl | rfl | rfl <;> rfl
theorem sh_r : Rs g (qaL (w0 g h0 h6 u v)) (EL (w0 g h0 h6 u v)) 55 (fun _ => 0) (fun _ => 0) (fun _ => 0) (fun _ _ => 0) := by
  refine ⟨congrArg (fun z => (Sum.inl (g 4, z) : va_E)) (grd_eq (fun j => ?_)), fun j hj => ?_, fun j hj => ?_⟩
  · by_cases h : j < 4
    · rcases lt_4 h with rfl | rfl | rfl | rfl
      · rfl
      · rfl
      · rfl
      · rfl
    · rw [if_neg h, show Int32.toNatClampNeg 0 = 0 from rfl, show Int32.toNatClampNeg 1 = 1 from rfl, show Int32.toNatClampNeg 2 = 2 from rfl, show Int32.toNatClampNeg 3 = 3 from rfl, va_up_ne _ _ (by omega), va_up_ne _ _ (by omega), va_up_ne _ _ (by omega), va_up_ne _ _ (by omega)]
  · rcases lt_4 hj with rfl | rfl | rfl | rfl <;> rfl
  · rcases lt_4 hj with rfl | rfl | rfl | rfl <;> rfl
theorem sh_M : Mo g (qaL (w0 g h0 h6 u v)) (EL (w0 g h0 h6 u v)) 64 0 0 0 0 0 0 (upd (upd (upd (upd (fun _ => 0) (Int32.toNatClampNeg 0) (-1)) (Int32.toNatClampNeg 1) (-1)) (Int32.toNatClampNeg 2) (-1)) (Int32.toNatClampNeg 3) (-1)) (fun _ => 0) (fun _ => 0) (fun _ => 0) (upd (fun _ => 0) (Int32.toNatClampNeg 1) 1) (fun _ => 0) (fun _ => 0) (fun _ => 0) (fun _ => 0) := ⟨rfl, rfl, rfl, rfl, rfl, rfl, rfl, rfl, rfl, rfl⟩
end SH
theorem law_0 : IT 0 (0, 0, 0, 0, 0, 1, (fun _ => 0), (fun _ => 0), (fun _ => 0), (fun _ => 0), (fun _ => 0), (fun _ => 0), 0, 0, (fun _ _ => 0), 0, 0, 0, 1, (fun _ => 0), (fun _ => 0), (fun _ => 0), (fun _ => 0), (fun _ => 0), (fun _ => 0), 0, 0, (fun _ _ => 0), 0, 0, 0, 1, (fun _ => 0), (fun _ => 0), (fun _ => 0), (fun _ => 0), (fun _ => 0), (fun _ => 0), 0, 0, (fun _ => 0), 0, 0, 0, (fun _ _ => 0), (fun _ => 0), (fun _ => 0), (fun _ => 0), (fun _ => 0), (fun _ => 0), (fun _ => 0), (fun _ => 0), (fun _ _ => 0), 0, 0, 0, 0, 0, 0, (upd (upd (upd (upd (fun _ => 0) (Int32.toNatClampNeg 0) (-1)) (Int32.toNatClampNeg 1) (-1)) (Int32.toNatClampNeg 2) (-1)) (Int32.toNatClampNeg 3) (-1)), (fun _ => 0), (fun _ => 0), (fun _ => 0), (upd (fun _ => 0) (Int32.toNatClampNeg 1) 1), (fun _ => 0), (fun _ => 0), (fun _ => 0), (fun _ => 0)) := by
  have z : ∀ {p : Nat → Prop}, ∀ i, i < 0 → p i := fun {p} i hi => absurd hi (Nat.not_lt_zero i)
  have a0 : (upd (fun _ => 0) (Int32.toNatClampNeg 1) 1) 0 = nI 0 := by decide +kernel
  have a1 : (upd (fun _ => 0) (Int32.toNatClampNeg 1) 1) 1 = nI 1 := by decide +kernel
  have a2 : (upd (fun _ => 0) (Int32.toNatClampNeg 1) 1) 19 = nI 0 := by decide +kernel
  have a3 : (upd (fun _ => 0) (Int32.toNatClampNeg 1) 1) 25 = nI 0 := by decide +kernel
  have a4 : (upd (fun _ => 0) (Int32.toNatClampNeg 1) 1) 38 = nI 0 := by decide +kernel
  refine ⟨rfl, ⟨0, 0, 0, 1, fun _ => 0, fun _ => 0, fun _ => 0, fun _ => 0, fun _ => 0, fun _ => none, 0, 0, ⟨⟨by omega, by omega, fun h => absurd h (Nat.lt_irrefl 0), fun d hd => absurd hd (Nat.not_lt_zero d)⟩, fun i hi => absurd hi (Nat.not_lt_zero i), by omega, by omega⟩, ⟨rfl, rfl, rfl, rfl, fun i hi => absurd hi (Nat.not_lt_zero i), fun i hi => absurd hi (Nat.not_lt_zero i), fun i hi => absurd hi (Nat.not_lt_zero i), fun i hi => absurd hi (Nat.not_lt_zero i)⟩, ⟨a2, a3, a0, a1, fun i hi => absurd hi (Nat.not_lt_zero i), fun i hi => absurd hi (Nat.not_lt_zero i)⟩, rfl, rfl, ⟨by omega, by omega, a4, fun i hi => absurd hi (Nat.not_lt_zero i)⟩⟩, rfl, Or.inl rfl, TP_0, fun j hj => Or.inl ⟨rfl, ?_⟩⟩
  rcases lt_4 hj with rfl | rfl | rfl | rfl <;> decide +kernel
