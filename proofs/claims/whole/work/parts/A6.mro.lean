/-! the reference: the orders of a line, one within the other -/
def RGn (S0 : qM) (w : Nat) (o to : Int) : Prop := Nd (S0 94) (S0 99) w o to ∧ (∀ x, o ≤ x → x < to → oK S0 x) ∧ 0 ≤ o ∧ to ≤ 60
theorem Nd_lo {k e : Int → Int} {w : Nat} {lo lo1 hi : Int} (z : Nd k e w lo hi) (l : lo ≤ lo1) : Nd k e w lo1 hi := by
  cases w with
  | zero => exact fun o a b => z o (by omega) b
  | succ w => exact fun o a b => z o (by omega) b
theorem Nd_st {k e : Int → Int} {w : Nat} {lo hi : Int} (z : Nd k e w lo hi) (l : lo < hi) : (lo < e lo ∧ e lo ≤ hi) ∧ (¬ k lo = 10 → e lo = lo + 1) ∧ (k lo = 10 → ∃ w', w = w' + 1 ∧ Nd k e w' (lo + 1) (e lo)) := by
  cases w with
  | zero =>
    have y := z lo (by omega) l
    exact ⟨by omega, fun _ => y.2, fun c => absurd c y.1⟩
  | succ w =>
    have y := z lo (by omega) l
    refine ⟨?_, y.1, fun c => ⟨w, rfl, (y.2 c).2.2⟩⟩
    by_cases c : k lo = 10
    · exact ⟨(y.2 c).1, (y.2 c).2.1⟩
    · have := y.1 c
      omega
section
variable {S0 S : qM} {W o to : Int} {rec : Int → Int → qM → qM} {w : Nat}
theorem RGn_in (r : RGn S0 w o to) (l : o < to) : ∀ w', Nd (S0 94) (S0 99) w' (o + 1) (S0 99 o) → RGn S0 w' (o + 1) (S0 99 o) := fun w' n => by
  have y := (Nd_st r.1 l).1
  have r3 := r.2.2
  exact ⟨n, fun x a b => r.2.1 x (by omega) (by omega), by omega, by omega⟩
theorem RGn_nx (r : RGn S0 w o to) (l : o < to) : RGn S0 w (S0 99 o) to := by
  have y := (Nd_st r.1 l).1
  have r3 := r.2.2
  exact ⟨Nd_lo r.1 (by omega), fun x a b => r.2.1 x (by omega) b, by omega, r3.2⟩
theorem itn_err {f : qM → qM} {k a : Int} {U : qM} (e : ¬ U 78 67 = 0) : fo (fun _ V => cif (V 78 67 = 0) (f V) V) k a U = U := by
  by_cases h : k ≤ a
  · exact fo_inv (f := fun _ V => cif (V 78 67 = 0) (f V) V) (fun _ V => V = U) (fun i V _ _ z => by
      try dsimp only at z ⊢
      rw [z, cif_f e]) h rfl
  · exact fo_end (by omega)
theorem itn_keep {f : qM → qM} {a : Int} (a0 : 0 ≤ a) (hk : ∀ U, SK W S0 U → U 78 67 = 0 → SK W S0 (f U)) (k : SK W S0 S) : SK W S0 (itn f a S) := by
  unfold itn
  refine fo_inv (f := fun _ V => cif (V 78 67 = 0) (f V) V) (fun _ V => SK W S0 V) (fun i V _ _ z => ?_) a0 k
  try dsimp only at z ⊢
  by_cases c : V 78 67 = 0
  · rw [cif_t c]; exact hk V z c
  · rw [cif_f c]; exact z
theorem stpF_keep (hk : ∀ w', w = w' + 1 → ∀ o to U, SK W S0 U → U 78 67 = 0 → RGn S0 w' o to → SK W S0 (rec o to U)) (k : SK W S0 S) (e0 : S 78 67 = 0) (r : RGn S0 w o to) (l : o < to) : SK W S0 (stpF rec o S) := by
  obtain ⟨_, _, sr, _⟩ := SK_at k
  have ok := r.2.1 o (by omega) l
  have d3 := k.1.2.2.1
  unfold stpF
  by_cases c : S 78 64 = 500
  · rw [cif_t c]; exact (fl_keep k (by decide)).1
  rw [cif_f c]
  have kd := SK_done k (by omega)
  have ee : ∀ a x, ¬ (a = 78 ∧ x = 64) → qup S 78 64 (S 78 64 + 1) a x = S a x := fun a x q => qup_of q
  generalize qup S 78 64 (S 78 64 + 1) = U at *
  have u0 : U 78 67 = 0 := by rw [ee 78 67 (by decide)]; exact e0
  have u94 : U 94 o = S 94 o := ee 94 o (by omega)
  by_cases c10 : S 94 o = 10
  · rw [cif_t c10]
    have ok2 := (SK_ok k ok).2
    unfold oKs at ok2
    rw [sr 94 o (by decide) (by decide)] at c10
    obtain ⟨w', ew, nd⟩ := (Nd_st r.1 l).2.2 c10
    rw [sr 99 o (by decide) (by decide)]
    exact itn_keep (by omega) (fun V kv v0 => hk w' ew _ _ V kv v0 (RGn_in r l w' nd)) kd.1
  rw [cif_f c10]
  by_cases c5 : S 94 o = 5
  · rw [cif_t c5]
    exact (tuF_keep kd.1 kd.2 u0).1
  · rw [cif_f c5]
    exact goF_keep kd.1 ok u0 (by omega) (by omega)
theorem rlp_keep (hk : ∀ w', w = w' + 1 → ∀ o to U, SK W S0 U → U 78 67 = 0 → RGn S0 w' o to → SK W S0 (rec o to U)) : ∀ (n : Nat) (o : Int) (S : qM), SK W S0 S → RGn S0 w o to → SK W S0 (rlp (stpF rec) n o to S) := by
  intro n
  induction n with
  | zero => exact fun o S k _ => k
  | succ n ih =>
    intro o S k r
    unfold rlp
    by_cases c : o < to ∧ S 78 67 = 0
    · rw [cif_t c, (SK_at k).2.2.1 99 o (by decide) (by decide)]
      exact ih _ _ (stpF_keep hk k c.2 r c.1) (RGn_nx r c.1)
    · rw [cif_f c]; exact k
theorem roF_keep : ∀ (w : Nat) (o to : Int) (S : qM), SK W S0 S → RGn S0 w o to → SK W S0 (roF w o to S) := by
  intro w
  induction w with
  | zero =>
    intro o to S k r
    unfold roF
    exact rlp_keep (fun w' e => by omega) 60 o S k r
  | succ w ih =>
    intro o to S k r
    unfold roF
    refine rlp_keep (w := w + 1) (fun w' e o to U ku _ ru => ?_) 60 o S k r
    have : w' = w := by omega
    subst this
    exact ih o to U ku ru
end
section
variable {X : qX} {d : Nat} {sh : qS} {pt h b S S0 : qM} {W o to : Int} {rec : Int → Int → qM → qM}
theorem m_rlp {K : qM → Prop} {w D : Nat} (hst : St sh pt) (w0 : W ≤ 5000) (hD : D = d + 3) (hk : ∀ w', w = w' + 1 → ∀ o to U, SK W S0 U → U 78 67 = 0 → RGn S0 w' o to → SK W S0 (rec o to U)) (hr : ∀ w', w = w' + 1 → ∀ o to U (K : qM → Prop), SK W S0 U → U 78 67 = 0 → RGn S0 w' o to → K (mrg b (rec o to U)) → RunV X D mX11_runOrders [(2, 78), (0, o), (0, to)] sh pt (mrg b U) K) : ∀ (n : Nat) (o : Int) (S : qM), to - o ≤ n → SK W S0 S → RGn S0 w o to → K (mrg b (rlp (stpF rec) n o to S)) → EvV X (D + 1) mX11_runOrders 2 [(2, 78), (8, -1), (0, to), (0, o), (8, -1)] [] sh pt (mrg b S) K := by
  intro n
  induction n with
  | zero =>
    intro o S e k r kk
    refine b_X11_runOrders_2 hst ?_
    try simp only [mrg_78, mrg_82, mrg_83, mrg_84, mrg_89, mrg_90, mrg_94, mrg_95, mrg_96, mrg_97, mrg_98, mrg_99, mrg_106, mrg_107, mrg_108, mrg_109, mrg_110, mrg_111, mrg_112, mrgu_78, mrgu_106, mrgu_107, mrgu_108, mrgu_109, mrgu_110, mrgu_111, mrgu_112]
    exact ⟨fun _ => kk, fun z => absurd z (by omega)⟩
  | succ n ih =>
    intro o S e k r kk
    unfold rlp at kk
    obtain ⟨_, _, sr, _⟩ := SK_at k
    refine b_X11_runOrders_2 hst ?_
    try simp only [mrg_78, mrg_82, mrg_83, mrg_84, mrg_89, mrg_90, mrg_94, mrg_95, mrg_96, mrg_97, mrg_98, mrg_99, mrg_106, mrg_107, mrg_108, mrg_109, mrg_110, mrg_111, mrg_112, mrgu_78, mrgu_106, mrgu_107, mrgu_108, mrgu_109, mrgu_110, mrgu_111, mrgu_112]
    refine ⟨fun z => ?_, fun l => ⟨fun z => ?_, fun e0 => ?_⟩⟩
    · rw [cif_f (by omega)] at kk; exact kk
    · rw [cif_f (fun y => z y.2)] at kk; exact kk
    rw [cif_t ⟨l, e0⟩, sr 99 o (by decide) (by decide)] at kk
    have ok := r.2.1 o (by omega) l
    have ok2 := (SK_ok k ok).2
    have o0 := ok.1
    have d3 := k.1.2.2.1
    have sk := stpF_keep hk k e0 r l
    have nd := Nd_st r.1 l
    have rn := RGn_nx r l
    have go : ∀ V, V = stpF rec o S → (0 ≤ o ∧ o < 60) ∧ EvV X (D + 1) mX11_runOrders 2 [(2, 78), (8, -1), (0, to), (0, V 99 o), (8, -1)] [] sh pt (mrg b V) K := by
      intro V ev
      subst ev
      rw [(SK_at sk).2.2.1 99 o (by decide) (by decide)]
      exact ⟨o0, ih _ _ (by omega) sk rn kk⟩
    unfold stpF at go
    refine ⟨fun c => ⟨⟨by omega, by omega⟩, fun h1 e1 => ?_⟩, fun c => m_fails hst o0 ?_⟩
    · rw [cif_f c] at go
      have kd := SK_done k (by omega)
      have ee : ∀ a x, ¬ (a = 78 ∧ x = 64) → qup S 78 64 (S 78 64 + 1) a x = S a x := fun a x q => qup_of q
      subst e1
      try simp only [mrg_78, mrg_82, mrg_83, mrg_84, mrg_89, mrg_90, mrg_94, mrg_95, mrg_96, mrg_97, mrg_98, mrg_99, mrg_106, mrg_107, mrg_108, mrg_109, mrg_110, mrg_111, mrg_112, mrgu_78, mrgu_106, mrgu_107, mrgu_108, mrgu_109, mrgu_110, mrgu_111, mrgu_112]
      generalize qup S 78 64 (S 78 64 + 1) = U at *
      have u0 : U 78 67 = 0 := by rw [ee 78 67 (by decide)]; exact e0
      have u94 : U 94 o = S 94 o := ee 94 o (by omega)
      have u95 : U 95 o = S 95 o := ee 95 o (by omega)
      have u99 : U 99 o = S 99 o := ee 99 o (by omega)
      have s99 : S 99 o = S0 99 o := sr 99 o (by decide) (by decide)
      rw [u94]
      unfold oKs at ok2
      refine ⟨o0, fun c10 => ⟨o0, fun c5 => ?_, fun c5 => ⟨o0, ?_⟩⟩, fun c10 => ?_⟩
      · rw [cif_f c10, cif_f c5] at go
        rw [hD]
        refine m_goF hst kd.1 ok u0 (by omega) (by omega) ?_
        try simp only [mrg_78, mrg_82, mrg_83, mrg_84, mrg_89, mrg_90, mrg_94, mrg_95, mrg_96, mrg_97, mrg_98, mrg_99, mrg_106, mrg_107, mrg_108, mrg_109, mrg_110, mrg_111, mrg_112, mrgu_78, mrgu_106, mrgu_107, mrgu_108, mrgu_109, mrgu_110, mrgu_111, mrgu_112]
        rw [← hD]
        exact go _ rfl
      · rw [cif_f c10, cif_t c5] at go
        rw [u95, hD]
        refine RunV.deep (d1 := d + 1) (by omega) (m_turns hst kd.1 w0 u0 (ok2.2.2.1 c5) ?_)
        try simp only [mrg_78, mrg_82, mrg_83, mrg_84, mrg_89, mrg_90, mrg_94, mrg_95, mrg_96, mrg_97, mrg_98, mrg_99, mrg_106, mrg_107, mrg_108, mrg_109, mrg_110, mrg_111, mrg_112, mrgu_78, mrgu_106, mrgu_107, mrgu_108, mrgu_109, mrgu_110, mrgu_111, mrgu_112]
        rw [← hD]
        exact go _ rfl
      · rw [cif_t c10] at go
        have c10' := c10
        rw [sr 94 o (by decide) (by decide)] at c10'
        obtain ⟨w', ew, nd'⟩ := nd.2.2 c10'
        have ri := RGn_in r l w' nd'
        unfold itn at go
        rw [s99] at go
        refine lp (σ := qM) (n := S 95 o) (J := fun i V => SK W S0 V ∧ fo (fun _ V => cif (V 78 67 = 0) (rec (o + 1) (S0 99 o) V) V) i (S 95 o) V = fo (fun _ V => cif (V 78 67 = 0) (rec (o + 1) (S0 99 o) V) V) 0 (S 95 o) U) (C := fun i V => EvV X (D + 1) mX11_runOrders 57 [(2, 78), (8, -1), (0, to), (0, o), (0, i)] [] sh pt (mrg b V) K) (by omega) ?_ ?_ U ⟨kd.1, rfl⟩
        · intro i V i0 i1 ⟨kv, ev⟩ ih2
          have v95 : V 95 o = S 95 o := by rw [(SK_at kv).2.2.1 95 o (by decide) (by decide), sr 95 o (by decide) (by decide)]
          have v99 : V 99 o = S0 99 o := (SK_at kv).2.2.1 99 o (by decide) (by decide)
          refine b_X11_runOrders_57 hst ?_
          try simp only [mrg_78, mrg_82, mrg_83, mrg_84, mrg_89, mrg_90, mrg_94, mrg_95, mrg_96, mrg_97, mrg_98, mrg_99, mrg_106, mrg_107, mrg_108, mrg_109, mrg_110, mrg_111, mrg_112, mrgu_78, mrgu_106, mrgu_107, mrgu_108, mrgu_109, mrgu_110, mrgu_111, mrgu_112]
          refine ⟨o0, fun z => absurd z (by omega), fun _ => ⟨fun z => ?_, fun z => ⟨⟨by omega, by omega⟩, o0, ?_⟩⟩⟩
          · rw [itn_err z] at ev
            have := go V (by rw [ev])
            exact this
          · rw [v99]
            refine hr w' ew _ _ V _ kv z ri ⟨⟨by omega, by omega⟩, ih2 _ ⟨hk w' ew _ _ V kv z ri, ?_⟩⟩
            rw [← ev, fo_step (n := S 95 o) i1, cif_t z]
        · intro V ⟨kv, ev⟩
          have v95 : V 95 o = S 95 o := by rw [(SK_at kv).2.2.1 95 o (by decide) (by decide), sr 95 o (by decide) (by decide)]
          rw [fo_end (by omega)] at ev
          refine b_X11_runOrders_57 hst ?_
          try simp only [mrg_78, mrg_82, mrg_83, mrg_84, mrg_89, mrg_90, mrg_94, mrg_95, mrg_96, mrg_97, mrg_98, mrg_99, mrg_106, mrg_107, mrg_108, mrg_109, mrg_110, mrg_111, mrg_112, mrgu_78, mrgu_106, mrgu_107, mrgu_108, mrgu_109, mrgu_110, mrgu_111, mrgu_112]
          exact ⟨o0, fun _ => go V ev, fun z => absurd z (by omega)⟩
    · rw [cif_t c] at go
      try simp only [mrg_78, mrg_82, mrg_83, mrg_84, mrg_89, mrg_90, mrg_94, mrg_95, mrg_96, mrg_97, mrg_98, mrg_99, mrg_106, mrg_107, mrg_108, mrg_109, mrg_110, mrg_111, mrg_112, mrgu_78, mrgu_106, mrgu_107, mrgu_108, mrgu_109, mrgu_110, mrgu_111, mrgu_112]
      exact go _ rfl
theorem m_ro {K : qM → Prop} (hst : St sh pt) (w0 : W ≤ 5000) : ∀ (w : Nat) (K : qM → Prop) (o to : Int) (S : qM), SK W S0 S → RGn S0 w o to → K (mrg b (roF w o to S)) → RunV X (d + 4 + w) mX11_runOrders [(2, 78), (0, o), (0, to)] sh pt (mrg b S) K := by
  intro w
  induction w generalizing d with
  | zero =>
    intro K o to S k r kk
    unfold roF at kk
    have r3 := r.2.2
    exact b_X11_runOrders hst (m_rlp (w := 0) (d := d) (D := d + 3) hst w0 rfl (fun w' e => by omega) (fun w' e => by omega) 60 o S (by omega) k r kk)
  | succ w ih =>
    intro K o to S k r kk
    unfold roF at kk
    have r3 := r.2.2
    rw [show d + 4 + (w + 1) = (d + w + 4) + 1 by omega]
    refine b_X11_runOrders hst (m_rlp (w := w + 1) (d := d + w + 1) (D := d + w + 4) hst w0 (by omega) (fun w' e o to U ku _ ru => ?_) (fun w' e o to U K ku _ ru kk => ?_) 60 o S (by omega) k r kk)
    · have : w' = w := by omega
      subst this
      exact roF_keep w' o to U ku ru
    · have : w' = w := by omega
      subst this
      rw [show d + w' + 4 = d + 4 + w' by omega]
      exact ih K o to U ku ru kk
end
