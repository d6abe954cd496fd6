/-! the making: what the two constructors leave, cell by cell -/
def qtab : qS := [(15, 17), (4, 4), (7, 10), (0, 20), (0, 20), (0, 20), (1, 40), (1, 8), (0, 8), (9, 15), (0, 500), (0, 3), (6, 13), (0, 20), (0, 20), (0, 20), (0, 20), (0, 3), (0, 3), (8, 14), (0, 6), (0, 6), (0, 6), (0, 6), (0, 6), (0, 36), (0, 1476), (3, 1296), (14, 6), (1, 40), (10, 14), (0, 20), (0, 16), (0, 60), (0, 60), (0, 60), (0, 60), (0, 20), (0, 16), (0, 20), (0, 16), (11, 6), (0, 3), (0, 162), (12, 12), (0, 60), (0, 60), (0, 60), (0, 60), (0, 60), (0, 60), (0, 8), (0, 8), (12, 12), (0, 60), (0, 60), (0, 60), (0, 60), (0, 60), (0, 60), (0, 8), (0, 8), (5, 7), (0, 3020), (0, 20), (0, 20), (5, 7), (0, 3020), (0, 20), (0, 20), (13, 4), (1, 40), (13, 4), (1, 40), (13, 4), (1, 40), (13, 4), (1, 40), (16, 102), (0, 4), (0, 4), (1, 160), (0, 20), (0, 20), (0, 20), (0, 8), (3, 2400), (1, 8), (2, 500), (0, 8), (0, 9), (0, 8), (0, 8), (0, 9), (0, 60), (0, 60), (0, 60), (0, 60), (0, 60), (0, 60), (0, 60), (0, 60), (0, 60), (0, 60), (0, 60), (0, 60), (0, 3020), (0, 3020), (0, 3020), (0, 3020), (0, 3020), (0, 3020), (0, 20), (0, 20), (0, 20), (0, 6), (0, 6), (0, 6), (0, 6), (0, 6), (0, 19200), (0, 19200), (0, 19200), (0, 2500), (0, 16), (0, 60), (0, 60), (0, 60), (0, 60), (0, 20), (0, 16), (3, 16), (3, 16), (3, 16), (0, 162), (0, 3)]
def cS (n : Nat) : qS := qtab.take n
theorem cS_at {n k : Nat} {c : Nat × Int} {a : Int} (ea : a = (k : Int)) (hk : k < n) (e : qtab[k]? = some c) : qsh (cS n) a = some c := by
  subst ea
  show (qtab.take n)[k]? = some c
  rw [List.getElem?_take, if_pos hk, e]
theorem cS_len {n : Nat} (hn : n ≤ 136) : (cS n).length = n := by
  show (qtab.take n).length = n
  rw [List.length_take, show qtab.length = 136 from rfl]
  omega
theorem cS_push {n : Nat} {c : Nat × Int} (e : qtab[n]? = some c) : cS n ++ [c] = cS (n + 1) := by
  show qtab.take n ++ [c] = qtab.take (n + 1)
  rw [List.take_succ, e]
  rfl
def lowR (m : qM) (d : Int) (n : Nat) : Prop := ∀ b j, (n : Int) ≤ b → m b j = d
theorem lowR_mo {m : qM} {d : Int} {n n1 : Nat} (q : n ≤ n1) (r : lowR m d n) : lowR m d n1 := fun b j z => r b j (by omega)
theorem lowR_fl {m : qM} {d : Int} {n : Nat} (r : lowR m d n) : qfl m n d = m := by
  funext b j
  unfold qfl
  by_cases c : b = n
  · rw [if_pos c, r b j (by omega)]
  · rw [if_neg c]
theorem lowR_up {m : qM} {d a i v : Int} {n : Nat} (q : a < (n : Int)) (r : lowR m d n) : lowR (qup m a i v) d n := fun b j z => by
  rw [qup_of (by omega)]
  exact r b j z
def qfr (m : qM) (a n v : Int) : qM := fun b j => if b = a ∧ 0 ≤ j ∧ j < n then v else m b j
theorem qfr_0 {m : qM} {a v : Int} : qfr m a 0 v = m := by
  funext b j
  unfold qfr
  rw [if_neg (by omega)]
theorem qfr_s {m : qM} {a i v : Int} (q : 0 ≤ i) : qup (qfr m a i v) a i v = qfr m a (i + 1) v := by
  funext b j
  unfold qfr qup
  by_cases c : b = a ∧ j = i
  · rw [if_pos c, if_pos (by omega)]
  · rw [if_neg c]
    dsimp only
    by_cases e : b = a ∧ 0 ≤ j ∧ j < i
    · rw [if_pos e, if_pos (by omega)]
    · rw [if_neg e, if_neg (by omega)]
theorem qfr_at {m : qM} {a n v i : Int} (q : 0 ≤ i ∧ i < n) : qfr m a n v a i = v := if_pos ⟨rfl, q⟩
theorem qfr_of {m : qM} {a n v b i : Int} (q : ¬ b = a) : qfr m a n v b i = m b i := if_neg (fun z => q z.1)
theorem lowR_fr {m : qM} {d a u v : Int} {n : Nat} (q : a < (n : Int)) (r : lowR m d n) : lowR (qfr m a u v) d n := fun b j z => by
  rw [qfr_of (by omega)]
  exact r b j z
section
variable {X : qX} {d rc rs : Nat} {y : qMT} {pc : Nat} {L S : List qV} {sh : qS} {pt h : qM} {Q : Option qV → qG → Prop}
theorem en_new {idx ci : Nat} {K : String} {T : u_T} {N : Nat} (n : Nat) (a : Int) (ea : (n : Int) = a) (hn : n ≤ 136) (et : qtab[n]? = some (ci + 5, (N : Int))) (lp : lowR pt (-1) n) (lh : lowR h 0 n) (nx : Nat) (hnx : pc + 3 = nx) (hd : decode y.2.1 pc = .ok (.new idx, 3)) (hw : Cond.classLink y.1.cls idx K ∈ qw) (hc : qcl[ci]? = some (K, T, N)) (hN : N ≤ 1000) (k : Ev X d rc rs y nx L ((2, a) :: S) (cS (n + 1), pt, h) Q) : Ev X d (rc + 1) (rs + N) y pc L S (cS n, pt, h) Q := by
  refine ev_new nx hnx hd hw hc hN ?_
  rw [cS_len hn, lowR_fl lp, lowR_fl lh, cS_push et, ea]
  exact k
theorem en_arr {kd : Nat} {m : Int} {ms : Nat} (hkd : kd ≤ 3) (n : Nat) (a : Int) (ea : (n : Int) = a) (hn : n ≤ 136) (et : qtab[n]? = some (kd, m)) (em : m.toNat = ms) (lp : lowR pt (-1) n) (lh : lowR h 0 n) (nx : Nat) (hnx : pc + 2 = nx) (hd : decode y.2.1 pc = .ok (.newarray (qat kd), 2)) (h0 : 0 ≤ m) (h1 : m ≤ 100000) (k : Ev X d rc rs y nx L ((2, a) :: S) (cS (n + 1), pt, h) Q) : Ev X d (rc + 1) (rs + ms) y pc L ((0, m) :: S) (cS n, pt, h) Q := by
  subst em
  refine ev_newarr hkd nx hnx hd h0 h1 ?_
  rw [cS_len hn, lowR_fl lp, lowR_fl lh, cS_push et, ea]
  exact k
theorem en_anew {idx : Nat} {m : Int} {ms : Nat} (n : Nat) (a : Int) (ea : (n : Int) = a) (hn : n ≤ 136) (et : qtab[n]? = some (4, m)) (em : m.toNat = ms) (lp : lowR pt (-1) n) (lh : lowR h 0 n) (nx : Nat) (hnx : pc + 3 = nx) (hd : decode y.2.1 pc = .ok (.anewarray idx, 3)) (hw : Cond.classLink y.1.cls idx RX8 ∈ qw) (h0 : 0 ≤ m) (h1 : m ≤ 100000) (k : Ev X d rc rs y nx L ((2, a) :: S) (cS (n + 1), pt, h) Q) : Ev X d (rc + 1) (rs + ms) y pc L ((0, m) :: S) (cS n, pt, h) Q := by
  subst em
  refine ev_anew nx hnx hd hw h0 h1 ?_
  rw [cS_len hn, lowR_fl lp, lowR_fl lh, cS_push et, ea]
  exact k
theorem en_putI {ki : Int} {idx ci k t : Nat} {a N v : Int} (h1 : qM) (e1 : qup h a ki v = h1) (nx : Nat) (hnx : pc + 3 = nx) (hd : decode y.2.1 pc = .ok (.putfield idx, 3)) (hf : qLF y.1.cls idx ci k t false) (ht : t = 0 ∨ (t = 3 ∧ 0 ≤ v ∧ v ≤ 1)) (hs : qsh sh a = some (ci + 5, N)) (hkN : (k : Int) < N) (hki : (k : Int) = ki) (kk : Ev X d rc rs y nx L S (sh, pt, h1) Q) : Ev X d rc rs y pc L ((0, v) :: (2, a) :: S) (sh, pt, h) Q := by
  subst e1
  exact ev_putI nx hnx hd hf ht hs hkN hki kk
theorem en_putL {ki : Int} {idx ci k : Nat} {a N v : Int} (h1 : qM) (e1 : qup h a ki v = h1) (nx : Nat) (hnx : pc + 3 = nx) (hd : decode y.2.1 pc = .ok (.putfield idx, 3)) (hf : qLF y.1.cls idx ci k 1 false) (hs : qsh sh a = some (ci + 5, N)) (hkN : (k : Int) < N) (hki : (k : Int) = ki) (kk : Ev X d rc rs y nx L S (sh, pt, h1) Q) : Ev X d rc rs y pc L ((1, v) :: (2, a) :: S) (sh, pt, h) Q := by
  subst e1
  exact ev_putL nx hnx hd hf hs hkN hki kk
theorem en_putR {ki : Int} {idx ci k : Nat} {fin : Bool} {a N v : Int} (p1 : qM) (e1 : qup pt a ki v = p1) (nx : Nat) (hnx : pc + 3 = nx) (hd : decode y.2.1 pc = .ok (.putfield idx, 3)) (hf : qLF y.1.cls idx ci k 9 fin) (hfin : fin = false ∨ (y.1.name = "<init>" ∧ ∀ q, qcl[ci]? = some q → q.1 = y.1.cls)) (hs : qsh sh a = some (ci + 5, N)) (hkN : (k : Int) < N) (hki : (k : Int) = ki) (kk : Ev X d rc rs y nx L S (sh, p1, h) Q) : Ev X d rc rs y pc L ((2, v) :: (2, a) :: S) (sh, pt, h) Q := by
  subst e1
  exact ev_putR nx hnx hd hf hfin hs hkN hki kk
theorem en_aas {a i n v N : Int} (p1 : qM) (e1 : qup pt a i v = p1) (nx : Nat) (hnx : pc + 1 = nx) (hd : decode y.2.1 pc = .ok (.aastore, 1)) (hs : qsh sh a = some (4, n)) (hsv : qsh sh v = some (13, N)) (h0 : 0 ≤ i) (h1 : i < n) (k : Ev X d rc rs y nx L S (sh, p1, h) Q) : Ev X d rc rs y pc L ((2, v) :: (0, i) :: (2, a) :: S) (sh, pt, h) Q := by
  subst e1
  exact ev_aastore nx hnx hd hs hsv h0 h1 k
/-- an array of ints is filled -/
theorem k_fill {a v n : Int} {hz : qM} (ha : qsh sh a = some (0, n)) (n0 : 0 ≤ n) (n1 : n ≤ 100000) (ez : qfr h a n v = hz) : Run X d 0 0 mJ7_fill_53178 [(2, a), (0, v)] (sh, pt, h) (fun r g => r = none ∧ g = (sh, pt, hz)) := by
  subst ez
  show Ev X d 0 0 mJ7_fill_53178 0 [(2, a), (0, v), (8, -1), (8, -1)] [] (sh, pt, h) _
  refine ev_iconst 1 rfl dJ7_fill_53178_0 (by decide) ?_
  refine ev_istore_n 2 rfl dJ7_fill_53178_1 rfl (by decide) rfl ?_
  refine ev_aload_n 3 rfl dJ7_fill_53178_2 rfl rfl ?_
  refine ev_alen 4 rfl dJ7_fill_53178_3 ha (by decide) ?_
  refine ev_istore_n 5 rfl dJ7_fill_53178_4 rfl (by decide) rfl ?_
  have z : ∀ (u : Nat) (j : Int), j + u = n → 0 ≤ j → Ev X d 0 0 mJ7_fill_53178 5 [(2, a), (0, v), (0, j), (0, n)] [] (sh, pt, qfr h a j v) (fun r g => r = none ∧ g = (sh, pt, qfr h a n v)) := by
    intro u
    induction u with
    | zero =>
      intro j e j0
      refine ev_iload_n 6 rfl dJ7_fill_53178_5 rfl rfl ?_
      refine ev_iload_n 7 rfl dJ7_fill_53178_6 rfl rfl ?_
      refine ev_icmp_ge (tgt := 20) 10 rfl dJ7_fill_53178_7 (by decide) (fun _ => ?_) (fun c => absurd c (by omega))
      have ej : j = n := by omega
      subst ej
      exact ev_return dJ7_fill_53178_20 rfl ⟨rfl, rfl⟩
    | succ u ih =>
      intro j e j0
      refine ev_iload_n 6 rfl dJ7_fill_53178_5 rfl rfl ?_
      refine ev_iload_n 7 rfl dJ7_fill_53178_6 rfl rfl ?_
      refine ev_icmp_ge (tgt := 20) 10 rfl dJ7_fill_53178_7 (by decide) (fun c => absurd c (by omega)) (fun _ => ?_)
      refine ev_aload_n 11 rfl dJ7_fill_53178_10 rfl rfl ?_
      refine ev_iload_n 12 rfl dJ7_fill_53178_11 rfl rfl ?_
      refine ev_iload_n 13 rfl dJ7_fill_53178_12 rfl rfl ?_
      refine ev_iastore 14 rfl dJ7_fill_53178_13 ha j0 (by omega) ?_
      rw [qfr_s j0]
      refine ev_iinc (i := 2) 17 rfl dJ7_fill_53178_14 rfl ⟨by omega, by omega⟩ (by decide) rfl ?_
      exact ev_goto (tgt := 5) dJ7_fill_53178_17 (by decide) (ih (j + 1) (by omega) (by omega))
  have y := z n.toNat 0 (by omega) (by decide)
  rw [qfr_0] at y
  exact y
end
