/-! from the pure state to the machine: what holds at the law's entry -/
section
variable {s : State} {args : Array Value}
theorem w_cls (hts : ∀ w ∈ qw, w.before args s = true) : ∃ D : va_G, ∀ (k : Nat) (q : vw_C), qcl[k]? = some q → u_Kn s q.1 q.2.1 q.2.2 (D.1 k) (D.2 k) := by
  obtain ⟨c0, i0, h0⟩ := u_known (C := RX0) (T := TX0) (N := 7) (n := 7) hts qin0 (hts _ qii0.1)
  obtain ⟨c1, i1, h1⟩ := u_known (C := RX1) (T := TX1) (N := 13) (n := 13) hts qin1 (hts _ qii1.1)
  obtain ⟨c2, i2, h2⟩ := u_known (C := RX2) (T := TX2) (N := 10) (n := 10) hts qin2 (hts _ qii2.1)
  obtain ⟨c3, i3, h3⟩ := u_known (C := RX3) (T := TX3) (N := 14) (n := 14) hts qin3 (hts _ qii3.1)
  obtain ⟨c4, i4, h4⟩ := u_known (C := RX4) (T := TX4) (N := 15) (n := 15) hts qin4 (hts _ qii4.1)
  obtain ⟨c5, i5, h5⟩ := u_known (C := RX5) (T := TX5) (N := 14) (n := 14) hts qin5 (hts _ qii5.1)
  obtain ⟨c6, i6, h6⟩ := u_known (C := RX6) (T := TX6) (N := 6) (n := 6) hts qin6 (hts _ qii6.1)
  obtain ⟨c7, i7, h7⟩ := u_known (C := RX7) (T := TX7) (N := 12) (n := 12) hts qin7 (hts _ qii7.1)
  obtain ⟨c8, i8, h8⟩ := u_known (C := RX8) (T := TX8) (N := 4) (n := 4) hts qin8 (hts _ qii8.1)
  obtain ⟨c9, i9, h9⟩ := u_known (C := RX9) (T := TX9) (N := 6) (n := 6) hts qin9 (hts _ qii9.1)
  obtain ⟨c10, i10, h10⟩ := u_known (C := RX10) (T := TX10) (N := 17) (n := 17) hts qin10 (hts _ qii10.1)
  obtain ⟨c11, i11, h11⟩ := u_known (C := RX11) (T := TX11) (N := 102) (n := 102) hts qin11 (hts _ qii11.1)
  refine ⟨(fun k => match k with | 0 => c0 | 1 => c1 | 2 => c2 | 3 => c3 | 4 => c4 | 5 => c5 | 6 => c6 | 7 => c7 | 8 => c8 | 9 => c9 | 10 => c10 | _ => c11, fun k => match k with | 0 => i0 | 1 => i1 | 2 => i2 | 3 => i3 | 4 => i4 | 5 => i5 | 6 => i6 | 7 => i7 | 8 => i8 | 9 => i9 | 10 => i10 | _ => i11), ?_⟩
  intro k q hq
  match k, hq with
  | 0, hq => cases hq; exact h0
  | 1, hq => cases hq; exact h1
  | 2, hq => cases hq; exact h2
  | 3, hq => cases hq; exact h3
  | 4, hq => cases hq; exact h4
  | 5, hq => cases hq; exact h5
  | 6, hq => cases hq; exact h6
  | 7, hq => cases hq; exact h7
  | 8, hq => cases hq; exact h8
  | 9, hq => cases hq; exact h9
  | 10, hq => cases hq; exact h10
  | 11, hq => cases hq; exact h11
  | k + 12, hq => simp [qcl] at hq
theorem w_arr {ty : FieldType} (h : (Cond.arrayClass ty).before args s = true) : ∃ cA : ClassId, ArrOfT s cA ty ∧ s.vm.findClass ("[" ++ ty.toString) = some cA := by
  obtain ⟨c, k, comp, h1, h2, h3⟩ := Cond.arrayClass_spec h
  exact ⟨c, fun n z => ⟨fun k h => (by cases h), k, h2, comp, h3⟩, h1⟩
theorem w_K (hts : ∀ w ∈ qw, w.before args s = true) (ho : va_AO RX8 s) : ∃ (D : va_G) (kA : Nat → ClassId), va_K D qcl (qtys kA) s := by
  obtain ⟨D, hD⟩ := w_cls hts
  obtain ⟨c0, a0, b0⟩ := w_arr (hts _ q_arrw.1)
  obtain ⟨c1, a1, b1⟩ := w_arr (hts _ q_arrw.2.1)
  obtain ⟨c2, a2, b2⟩ := w_arr (hts _ q_arrw.2.2.1)
  obtain ⟨c3, a3, b3⟩ := w_arr (hts _ q_arrw.2.2.2)
  obtain ⟨comp, c4, k4, g1, g2, g3, g4, g5⟩ := Cond.arrayOver_spec ho
  refine ⟨D, (fun k => match k with | 0 => c0 | 1 => c1 | 2 => c2 | 3 => c3 | _ => c4), hD, ?_⟩
  intro k q hq
  match k, hq with
  | 0, hq => cases hq; exact ⟨a0, b0⟩
  | 1, hq => cases hq; exact ⟨a1, b1⟩
  | 2, hq => cases hq; exact ⟨a2, b2⟩
  | 3, hq => cases hq; exact ⟨a3, b3⟩
  | 4, hq => cases hq; exact ⟨fun n z => ⟨fun k h => (by cases h), k4, g3, comp, g4⟩, k4, comp, g3, g4, g1, g5⟩
  | k + 5, hq => simp [qtys] at hq
end
theorem w_stE {s : State} {args : Array Value} (hts : ∀ w ∈ lw_tbl, w.before args s = true) (hgv : (Jvm.Cond.and given_1 narrow_1).before args s = true) : ∃ t : Nat, va_T .int t 8 (fun j => qrv 0 (qstE j)) (fun q => s.heap.size ≤ q) s s.heap ∧ va_Z "DrillField$Ground" "EAST_STEP" "[I" (.ref t) (fun q => s.heap.size ≤ q) s s.heap := by
  have hs := flat_of_before _ hgv
  have hA : ∀ a : Nat, a < s.heap.size → ¬ (fun q : Nat => s.heap.size ≤ q) a := fun a h => Nat.not_le.mpr h
  have harr : (Cond.arrayOf (Term.static "DrillField$Ground" "EAST_STEP" "[I") .int).before args s = true := hs _ (by decide +kernel)
  have hlen : (Cond.eq (Term.length (Term.static "DrillField$Ground" "EAST_STEP" "[I")) (.int 8)).before args s = true := hs _ (by decide +kernel)
  have e0 : (Term.elem (Term.static "DrillField$Ground" "EAST_STEP" "[I") (.int 0)).eval args s none [] s = some (qrv 0 (qstE (0 : Nat))) := by
    have h : (Cond.eq (Term.elem (Term.static "DrillField$Ground" "EAST_STEP" "[I") (.int 0)) (.int 0)).before args s = true := hs _ (by decide +kernel)
    rw [show qrv 0 (qstE (0 : Nat)) = .int 0 from congrArg Value.int (by decide +kernel)]
    exact va_eqt h
  have e1 : (Term.elem (Term.static "DrillField$Ground" "EAST_STEP" "[I") (.int 1)).eval args s none [] s = some (qrv 0 (qstE (1 : Nat))) := by
    have h : (Cond.eq (Term.elem (Term.static "DrillField$Ground" "EAST_STEP" "[I") (.int 1)) (.int 1)).before args s = true := hs _ (by decide +kernel)
    rw [show qrv 0 (qstE (1 : Nat)) = .int 1 from congrArg Value.int (by decide +kernel)]
    exact va_eqt h
  have e2 : (Term.elem (Term.static "DrillField$Ground" "EAST_STEP" "[I") (.int 2)).eval args s none [] s = some (qrv 0 (qstE (2 : Nat))) := by
    have h : (Cond.eq (Term.elem (Term.static "DrillField$Ground" "EAST_STEP" "[I") (.int 2)) (.int 1)).before args s = true := hs _ (by decide +kernel)
    rw [show qrv 0 (qstE (2 : Nat)) = .int 1 from congrArg Value.int (by decide +kernel)]
    exact va_eqt h
  have e3 : (Term.elem (Term.static "DrillField$Ground" "EAST_STEP" "[I") (.int 3)).eval args s none [] s = some (qrv 0 (qstE (3 : Nat))) := by
    have h : (Cond.eq (Term.elem (Term.static "DrillField$Ground" "EAST_STEP" "[I") (.int 3)) (.int 1)).before args s = true := hs _ (by decide +kernel)
    rw [show qrv 0 (qstE (3 : Nat)) = .int 1 from congrArg Value.int (by decide +kernel)]
    exact va_eqt h
  have e4 : (Term.elem (Term.static "DrillField$Ground" "EAST_STEP" "[I") (.int 4)).eval args s none [] s = some (qrv 0 (qstE (4 : Nat))) := by
    have h : (Cond.eq (Term.elem (Term.static "DrillField$Ground" "EAST_STEP" "[I") (.int 4)) (.int 0)).before args s = true := hs _ (by decide +kernel)
    rw [show qrv 0 (qstE (4 : Nat)) = .int 0 from congrArg Value.int (by decide +kernel)]
    exact va_eqt h
  have e5 : (Term.elem (Term.static "DrillField$Ground" "EAST_STEP" "[I") (.int 5)).eval args s none [] s = some (qrv 0 (qstE (5 : Nat))) := by
    have h : (Cond.eq (Term.elem (Term.static "DrillField$Ground" "EAST_STEP" "[I") (.int 5)) (.int (-1))).before args s = true := hs _ (by decide +kernel)
    rw [show qrv 0 (qstE (5 : Nat)) = .int (-1) from congrArg Value.int (by decide +kernel)]
    exact va_eqt h
  have e6 : (Term.elem (Term.static "DrillField$Ground" "EAST_STEP" "[I") (.int 6)).eval args s none [] s = some (qrv 0 (qstE (6 : Nat))) := by
    have h : (Cond.eq (Term.elem (Term.static "DrillField$Ground" "EAST_STEP" "[I") (.int 6)) (.int (-1))).before args s = true := hs _ (by decide +kernel)
    rw [show qrv 0 (qstE (6 : Nat)) = .int (-1) from congrArg Value.int (by decide +kernel)]
    exact va_eqt h
  have e7 : (Term.elem (Term.static "DrillField$Ground" "EAST_STEP" "[I") (.int 7)).eval args s none [] s = some (qrv 0 (qstE (7 : Nat))) := by
    have h : (Cond.eq (Term.elem (Term.static "DrillField$Ground" "EAST_STEP" "[I") (.int 7)) (.int (-1))).before args s = true := hs _ (by decide +kernel)
    rw [show qrv 0 (qstE (7 : Nat)) = .int (-1) from congrArg Value.int (by decide +kernel)]
    exact va_eqt h
  have hel : ∀ j : Nat, j < 8 → (Term.elem (Term.static "DrillField$Ground" "EAST_STEP" "[I") (.int (Int32.ofNat j))).eval args s none [] s = some (qrv 0 (qstE j)) := by
    intro j hj
    match j, hj with
    | 0, _ => exact e0
    | 1, _ => exact e1
    | 2, _ => exact e2
    | 3, _ => exact e3
    | 4, _ => exact e4
    | 5, _ => exact e5
    | 6, _ => exact e6
    | 7, _ => exact e7
    | j + 8, hj => omega
  obtain ⟨t, h1, h2⟩ := va_Tof (N := 8) (f := fun j => qrv 0 (qstE j)) (A := fun q => s.heap.size ≤ q) (by decide) harr (va_eqt hlen) hel hA
  exact ⟨t, h2, va_Zref (hts _ (by decide +kernel)) (hts _ (by decide +kernel)) h1 hA⟩
theorem w_stN {s : State} {args : Array Value} (hts : ∀ w ∈ lw_tbl, w.before args s = true) (hgv : (Jvm.Cond.and given_1 narrow_1).before args s = true) : ∃ t : Nat, va_T .int t 8 (fun j => qrv 0 (qstN j)) (fun q => s.heap.size ≤ q) s s.heap ∧ va_Z "DrillField$Ground" "NORTH_STEP" "[I" (.ref t) (fun q => s.heap.size ≤ q) s s.heap := by
  have hs := flat_of_before _ hgv
  have hA : ∀ a : Nat, a < s.heap.size → ¬ (fun q : Nat => s.heap.size ≤ q) a := fun a h => Nat.not_le.mpr h
  have harr : (Cond.arrayOf (Term.static "DrillField$Ground" "NORTH_STEP" "[I") .int).before args s = true := hs _ (by decide +kernel)
  have hlen : (Cond.eq (Term.length (Term.static "DrillField$Ground" "NORTH_STEP" "[I")) (.int 8)).before args s = true := hs _ (by decide +kernel)
  have e0 : (Term.elem (Term.static "DrillField$Ground" "NORTH_STEP" "[I") (.int 0)).eval args s none [] s = some (qrv 0 (qstN (0 : Nat))) := by
    have h : (Cond.eq (Term.elem (Term.static "DrillField$Ground" "NORTH_STEP" "[I") (.int 0)) (.int 1)).before args s = true := hs _ (by decide +kernel)
    rw [show qrv 0 (qstN (0 : Nat)) = .int 1 from congrArg Value.int (by decide +kernel)]
    exact va_eqt h
  have e1 : (Term.elem (Term.static "DrillField$Ground" "NORTH_STEP" "[I") (.int 1)).eval args s none [] s = some (qrv 0 (qstN (1 : Nat))) := by
    have h : (Cond.eq (Term.elem (Term.static "DrillField$Ground" "NORTH_STEP" "[I") (.int 1)) (.int 1)).before args s = true := hs _ (by decide +kernel)
    rw [show qrv 0 (qstN (1 : Nat)) = .int 1 from congrArg Value.int (by decide +kernel)]
    exact va_eqt h
  have e2 : (Term.elem (Term.static "DrillField$Ground" "NORTH_STEP" "[I") (.int 2)).eval args s none [] s = some (qrv 0 (qstN (2 : Nat))) := by
    have h : (Cond.eq (Term.elem (Term.static "DrillField$Ground" "NORTH_STEP" "[I") (.int 2)) (.int 0)).before args s = true := hs _ (by decide +kernel)
    rw [show qrv 0 (qstN (2 : Nat)) = .int 0 from congrArg Value.int (by decide +kernel)]
    exact va_eqt h
  have e3 : (Term.elem (Term.static "DrillField$Ground" "NORTH_STEP" "[I") (.int 3)).eval args s none [] s = some (qrv 0 (qstN (3 : Nat))) := by
    have h : (Cond.eq (Term.elem (Term.static "DrillField$Ground" "NORTH_STEP" "[I") (.int 3)) (.int (-1))).before args s = true := hs _ (by decide +kernel)
    rw [show qrv 0 (qstN (3 : Nat)) = .int (-1) from congrArg Value.int (by decide +kernel)]
    exact va_eqt h
  have e4 : (Term.elem (Term.static "DrillField$Ground" "NORTH_STEP" "[I") (.int 4)).eval args s none [] s = some (qrv 0 (qstN (4 : Nat))) := by
    have h : (Cond.eq (Term.elem (Term.static "DrillField$Ground" "NORTH_STEP" "[I") (.int 4)) (.int (-1))).before args s = true := hs _ (by decide +kernel)
    rw [show qrv 0 (qstN (4 : Nat)) = .int (-1) from congrArg Value.int (by decide +kernel)]
    exact va_eqt h
  have e5 : (Term.elem (Term.static "DrillField$Ground" "NORTH_STEP" "[I") (.int 5)).eval args s none [] s = some (qrv 0 (qstN (5 : Nat))) := by
    have h : (Cond.eq (Term.elem (Term.static "DrillField$Ground" "NORTH_STEP" "[I") (.int 5)) (.int (-1))).before args s = true := hs _ (by decide +kernel)
    rw [show qrv 0 (qstN (5 : Nat)) = .int (-1) from congrArg Value.int (by decide +kernel)]
    exact va_eqt h
  have e6 : (Term.elem (Term.static "DrillField$Ground" "NORTH_STEP" "[I") (.int 6)).eval args s none [] s = some (qrv 0 (qstN (6 : Nat))) := by
    have h : (Cond.eq (Term.elem (Term.static "DrillField$Ground" "NORTH_STEP" "[I") (.int 6)) (.int 0)).before args s = true := hs _ (by decide +kernel)
    rw [show qrv 0 (qstN (6 : Nat)) = .int 0 from congrArg Value.int (by decide +kernel)]
    exact va_eqt h
  have e7 : (Term.elem (Term.static "DrillField$Ground" "NORTH_STEP" "[I") (.int 7)).eval args s none [] s = some (qrv 0 (qstN (7 : Nat))) := by
    have h : (Cond.eq (Term.elem (Term.static "DrillField$Ground" "NORTH_STEP" "[I") (.int 7)) (.int 1)).before args s = true := hs _ (by decide +kernel)
    rw [show qrv 0 (qstN (7 : Nat)) = .int 1 from congrArg Value.int (by decide +kernel)]
    exact va_eqt h
  have hel : ∀ j : Nat, j < 8 → (Term.elem (Term.static "DrillField$Ground" "NORTH_STEP" "[I") (.int (Int32.ofNat j))).eval args s none [] s = some (qrv 0 (qstN j)) := by
    intro j hj
    match j, hj with
    | 0, _ => exact e0
    | 1, _ => exact e1
    | 2, _ => exact e2
    | 3, _ => exact e3
    | 4, _ => exact e4
    | 5, _ => exact e5
    | 6, _ => exact e6
    | 7, _ => exact e7
    | j + 8, hj => omega
  obtain ⟨t, h1, h2⟩ := va_Tof (N := 8) (f := fun j => qrv 0 (qstN j)) (A := fun q => s.heap.size ≤ q) (by decide) harr (va_eqt hlen) hel hA
  exact ⟨t, h2, va_Zref (hts _ (by decide +kernel)) (hts _ (by decide +kernel)) h1 hA⟩
theorem w_stW {s : State} {args : Array Value} (hts : ∀ w ∈ lw_tbl, w.before args s = true) (hgv : (Jvm.Cond.and given_1 narrow_1).before args s = true) : ∃ t : Nat, va_T .long t 11 (fun j => qrv 1 (qstW j)) (fun q => s.heap.size ≤ q) s s.heap ∧ va_Z "DrillField$Reader" "ORDER_WORDS" "[J" (.ref t) (fun q => s.heap.size ≤ q) s s.heap := by
  have hs := flat_of_before _ hgv
  have hA : ∀ a : Nat, a < s.heap.size → ¬ (fun q : Nat => s.heap.size ≤ q) a := fun a h => Nat.not_le.mpr h
  have harr : (Cond.arrayOf (Term.static "DrillField$Reader" "ORDER_WORDS" "[J") .long).before args s = true := hs _ (by decide +kernel)
  have hlen : (Cond.eq (Term.length (Term.static "DrillField$Reader" "ORDER_WORDS" "[J")) (.int 11)).before args s = true := hs _ (by decide +kernel)
  have e0 : (Term.elem (Term.static "DrillField$Reader" "ORDER_WORDS" "[J") (.int 0)).eval args s none [] s = some (qrv 1 (qstW (0 : Nat))) := by
    have h : (Cond.eq (Term.elem (Term.static "DrillField$Reader" "ORDER_WORDS" "[J") (.int 0)) (.long 239)).before args s = true := hs _ (by decide +kernel)
    rw [show qrv 1 (qstW (0 : Nat)) = .long 239 from congrArg Value.long (by decide +kernel)]
    exact va_eqtl h
  have e1 : (Term.elem (Term.static "DrillField$Reader" "ORDER_WORDS" "[J") (.int 1)).eval args s none [] s = some (qrv 1 (qstW (1 : Nat))) := by
    have h : (Cond.eq (Term.elem (Term.static "DrillField$Reader" "ORDER_WORDS" "[J") (.int 1)) (.long 66667)).before args s = true := hs _ (by decide +kernel)
    rw [show qrv 1 (qstW (1 : Nat)) = .long 66667 from congrArg Value.long (by decide +kernel)]
    exact va_eqtl h
  have e2 : (Term.elem (Term.static "DrillField$Reader" "ORDER_WORDS" "[J") (.int 2)).eval args s none [] s = some (qrv 1 (qstW (2 : Nat))) := by
    have h : (Cond.eq (Term.elem (Term.static "DrillField$Reader" "ORDER_WORDS" "[J") (.int 2)) (.long 427595)).before args s = true := hs _ (by decide +kernel)
    rw [show qrv 1 (qstW (2 : Nat)) = .long 427595 from congrArg Value.long (by decide +kernel)]
    exact va_eqtl h
  have e3 : (Term.elem (Term.static "DrillField$Reader" "ORDER_WORDS" "[J") (.int 3)).eval args s none [] s = some (qrv 1 (qstW (3 : Nat))) := by
    have h : (Cond.eq (Term.elem (Term.static "DrillField$Reader" "ORDER_WORDS" "[J") (.int 3)) (.long 263572)).before args s = true := hs _ (by decide +kernel)
    rw [show qrv 1 (qstW (3 : Nat)) = .long 263572 from congrArg Value.long (by decide +kernel)]
    exact va_eqtl h
  have e4 : (Term.elem (Term.static "DrillField$Reader" "ORDER_WORDS" "[J") (.int 4)).eval args s none [] s = some (qrv 1 (qstW (4 : Nat))) := by
    have h : (Cond.eq (Term.elem (Term.static "DrillField$Reader" "ORDER_WORDS" "[J") (.int 4)) (.long 217461239)).before args s = true := hs _ (by decide +kernel)
    rw [show qrv 1 (qstW (4 : Nat)) = .long 217461239 from congrArg Value.long (by decide +kernel)]
    exact va_eqtl h
  have e5 : (Term.elem (Term.static "DrillField$Reader" "ORDER_WORDS" "[J") (.int 5)).eval args s none [] s = some (qrv 1 (qstW (5 : Nat))) := by
    have h : (Cond.eq (Term.elem (Term.static "DrillField$Reader" "ORDER_WORDS" "[J") (.int 5)) (.long 677454)).before args s = true := hs _ (by decide +kernel)
    rw [show qrv 1 (qstW (5 : Nat)) = .long 677454 from congrArg Value.long (by decide +kernel)]
    exact va_eqtl h
  have e6 : (Term.elem (Term.static "DrillField$Reader" "ORDER_WORDS" "[J") (.int 6)).eval args s none [] s = some (qrv 1 (qstW (6 : Nat))) := by
    have h : (Cond.eq (Term.elem (Term.static "DrillField$Reader" "ORDER_WORDS" "[J") (.int 6)) (.long 24384684)).before args s = true := hs _ (by decide +kernel)
    rw [show qrv 1 (qstW (6 : Nat)) = .long 24384684 from congrArg Value.long (by decide +kernel)]
    exact va_eqtl h
  have e7 : (Term.elem (Term.static "DrillField$Reader" "ORDER_WORDS" "[J") (.int 7)).eval args s none [] s = some (qrv 1 (qstW (7 : Nat))) := by
    have h : (Cond.eq (Term.elem (Term.static "DrillField$Reader" "ORDER_WORDS" "[J") (.int 7)) (.long 508078)).before args s = true := hs _ (by decide +kernel)
    rw [show qrv 1 (qstW (7 : Nat)) = .long 508078 from congrArg Value.long (by decide +kernel)]
    exact va_eqtl h
  have e8 : (Term.elem (Term.static "DrillField$Reader" "ORDER_WORDS" "[J") (.int 8)).eval args s none [] s = some (qrv 1 (qstW (8 : Nat))) := by
    have h : (Cond.eq (Term.elem (Term.static "DrillField$Reader" "ORDER_WORDS" "[J") (.int 8)) (.long 3554917)).before args s = true := hs _ (by decide +kernel)
    rw [show qrv 1 (qstW (8 : Nat)) = .long 3554917 from congrArg Value.long (by decide +kernel)]
    exact va_eqtl h
  have e9 : (Term.elem (Term.static "DrillField$Reader" "ORDER_WORDS" "[J") (.int 9)).eval args s none [] s = some (qrv 1 (qstW (9 : Nat))) := by
    have h : (Cond.eq (Term.elem (Term.static "DrillField$Reader" "ORDER_WORDS" "[J") (.int 9)) (.long 20194516)).before args s = true := hs _ (by decide +kernel)
    rw [show qrv 1 (qstW (9 : Nat)) = .long 20194516 from congrArg Value.long (by decide +kernel)]
    exact va_eqtl h
  have e10 : (Term.elem (Term.static "DrillField$Reader" "ORDER_WORDS" "[J") (.int 10)).eval args s none [] s = some (qrv 1 (qstW (10 : Nat))) := by
    have h : (Cond.eq (Term.elem (Term.static "DrillField$Reader" "ORDER_WORDS" "[J") (.int 10)) (.long 1279278)).before args s = true := hs _ (by decide +kernel)
    rw [show qrv 1 (qstW (10 : Nat)) = .long 1279278 from congrArg Value.long (by decide +kernel)]
    exact va_eqtl h
  have hel : ∀ j : Nat, j < 11 → (Term.elem (Term.static "DrillField$Reader" "ORDER_WORDS" "[J") (.int (Int32.ofNat j))).eval args s none [] s = some (qrv 1 (qstW j)) := by
    intro j hj
    match j, hj with
    | 0, _ => exact e0
    | 1, _ => exact e1
    | 2, _ => exact e2
    | 3, _ => exact e3
    | 4, _ => exact e4
    | 5, _ => exact e5
    | 6, _ => exact e6
    | 7, _ => exact e7
    | 8, _ => exact e8
    | 9, _ => exact e9
    | 10, _ => exact e10
    | j + 11, hj => omega
  obtain ⟨t, h1, h2⟩ := va_Tof (N := 11) (f := fun j => qrv 1 (qstW j)) (A := fun q => s.heap.size ≤ q) (by decide) harr (va_eqt hlen) hel hA
  exact ⟨t, h2, va_Zref (hts _ (by decide +kernel)) (hts _ (by decide +kernel)) h1 hA⟩
