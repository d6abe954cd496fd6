/-! PATHS: how long one can be -/
noncomputable def NT (P : Int → Prop) : Nat → Int
  | 0 => 0
  | k + 1 => NT P k + cif (P k) 1 0
theorem NT_bd {P : Int → Prop} : ∀ k : Nat, 0 ≤ NT P k ∧ NT P k ≤ k := by
  intro k
  induction k with
  | zero => exact ⟨Int.le_refl _, Int.le_refl _⟩
  | succ k ih =>
    rw [NT]
    by_cases h : P k
    · rw [cif_t h]; omega
    · rw [cif_f h]; omega
theorem NT_all {P : Int → Prop} : ∀ k : Nat, (∀ t : Int, 0 ≤ t → t < k → P t) → NT P k = k := by
  intro k
  induction k with
  | zero => intro _; rfl
  | succ k ih =>
    intro h
    rw [NT, cif_t (h k (by omega) (by omega)), ih (fun t a b => h t a (by omega))]
    omega
theorem NT_or {P Q R : Int → Prop} : ∀ k : Nat, (∀ t : Int, 0 ≤ t → t < k → R t → P t ∨ Q t) → NT R k ≤ NT P k + NT Q k := by
  intro k
  induction k with
  | zero => intro _; exact Int.le_refl _
  | succ k ih =>
    intro h
    have i := ih (fun t a b => h t a (by omega))
    rw [NT, NT, NT]
    have e1 : ∀ Z : Prop, 0 ≤ cif Z (1 : Int) 0 ∧ cif Z (1 : Int) 0 ≤ 1 := fun Z => by
      by_cases z : Z
      · rw [cif_t z]; decide
      · rw [cif_f z]; decide
    have e2 := e1 (P k)
    have e3 := e1 (Q k)
    by_cases z : R k
    · rw [cif_t z]
      rcases h k (by omega) (by omega) z with w | w
      · rw [cif_t w]; omega
      · rw [cif_t w]; omega
    · rw [cif_f z]; omega
theorem NT_from {P : Int → Prop} {a : Int} : ∀ k : Nat, (∀ t : Int, 0 ≤ t → t < k → P t → a ≤ t) → 0 ≤ a → a ≤ k → NT P k ≤ k - a := by
  intro k
  induction k with
  | zero => intro _ _ h; rw [NT]; omega
  | succ k ih =>
    intro h a0 ak
    rw [NT]
    by_cases e : a = k + 1
    · have z : ∀ n : Nat, n ≤ k → NT P n = 0 := by
        intro n
        induction n with
        | zero => intro _; rfl
        | succ n ihn =>
          intro hn
          rw [NT, ihn (by omega), cif_f (fun w => by have := h n (by omega) (by omega) w; omega)]
          rfl
      rw [z k (Nat.le_refl _), cif_f (fun w => by have := h k (by omega) (by omega) w; omega)]
      omega
    · have i := ih (fun t a b => h t a (by omega)) a0 (by omega)
      by_cases w : P k
      · rw [cif_t w]; omega
      · rw [cif_f w]; omega
theorem NT_win {P : Int → Prop} {W : Int} (W0 : 0 ≤ W) : ∀ k : Nat, (∀ t u : Int, 0 ≤ t → t ≤ u → u < k → P t → P u → u - t < W) → NT P k ≤ W := by
  intro k
  induction k with
  | zero => intro _; exact W0
  | succ k ih =>
    intro h
    rw [NT]
    by_cases w : P k
    · rw [cif_t w]
      have W1 := h k k (by omega) (by omega) (by omega) w w
      by_cases e : (k : Int) < W
      · have := NT_bd (P := P) k
        omega
      · have i := NT_from (P := P) (a := k - W + 1) k (fun t a b q => by have := h t k a (by omega) (by omega) q w; omega) (by omega) (by omega)
        omega
    · rw [cif_f w]
      have := ih (fun t u a b c => h t u a b (by omega))
      omega
noncomputable def nfc (Q : Int → Prop) : Nat → Int := NT Q
def flP (fr : Int → Int → Prop) (w : Int) : Prop := fr (w % 60) (2 * (w / 60)) ∧ fr (w % 60) (2 * (w / 60) + 1)
def wOf (s : Int) : Int := 60 * (s / 8 % 40 / 2) + s / 8 / 40
section
variable {fr : Int → Int → Prop} {b0 : Int} {σ : bq} {hd : Int}
def Rv (σ : bq) (D v s : Int) : Prop := D ≤ v ∨ ((0 ≤ s ∧ s < 19200) ∧ σ.2.2.1 s ≠ 0 ∧ σ.2.2.2.2 s ≤ v)
theorem rv_wk {D v v' s : Int} (h : Rv σ D v s) (q : v ≤ v') : Rv σ D v' s := by
  rcases h with h | h
  · exact Or.inl (by omega)
  · exact Or.inr ⟨h.1, h.2.1, by omega⟩
theorem rv_step {v s k : Int} (g : gOk fr) (B : BI fr b0 σ hd) (h1 : hd < σ.1) (h : Rv σ (σ.2.2.2.2 (σ.2.1 hd)) v s) (k0 : 0 ≤ k) (k1 : k < 3) (hn : 0 ≤ nx fr s k) : Rv σ (σ.2.2.2.2 (σ.2.1 hd)) (v + 1) (nx fr s k) := by
  rcases h with h | h
  · exact Or.inl (by omega)
  · by_cases e : σ.2.2.2.2 s < σ.2.2.2.2 (σ.2.1 hd)
    · have w := bi_lip B h1 h.1.1 h.1.2 h.2.1 e k0 k1 hn
      have ok := nx_ok g h.1.1 h.1.2 (B.2.2.1 s h.1.1 h.1.2 h.2.1).1.1 k0 k1 hn
      exact Or.inr ⟨ok.1, w.1, by omega⟩
    · exact Or.inl (by omega)
theorem rv_r {v x f : Int} (g : gOk fr) (B : BI fr b0 σ hd) (h1 : hd < σ.1) (x0 : 0 ≤ x) (f0 : 0 ≤ f) (f1 : f < 8) (h : Rv σ (σ.2.2.2.2 (σ.2.1 hd)) v (8 * x + f)) : Rv σ (σ.2.2.2.2 (σ.2.1 hd)) (v + 1) (8 * x + (f + 1) % 8) := by
  have e : nx fr (8 * x + f) 1 = 8 * x + (f + 1) % 8 := by
    rw [nx_1]
    omega
  have := rv_step (k := 1) g B h1 h (by decide) (by decide) (by rw [e]; omega)
  rw [e] at this
  exact this
theorem rv_l {v x f : Int} (g : gOk fr) (B : BI fr b0 σ hd) (h1 : hd < σ.1) (x0 : 0 ≤ x) (f0 : 0 ≤ f) (f1 : f < 8) (h : Rv σ (σ.2.2.2.2 (σ.2.1 hd)) v (8 * x + f)) : Rv σ (σ.2.2.2.2 (σ.2.1 hd)) (v + 1) (8 * x + (f + 7) % 8) := by
  have e : nx fr (8 * x + f) 2 = 8 * x + (f + 7) % 8 := by
    rw [nx_2]
    omega
  have := rv_step (k := 2) g B h1 h (by decide) (by decide) (by rw [e]; omega)
  rw [e] at this
  exact this
theorem rv_turn {v x f f' : Int} (g : gOk fr) (B : BI fr b0 σ hd) (h1 : hd < σ.1) (x0 : 0 ≤ x) (f0 : 0 ≤ f) (f1 : f < 8) (f0' : 0 ≤ f') (f1' : f' < 8) (h : Rv σ (σ.2.2.2.2 (σ.2.1 hd)) v (8 * x + f)) : Rv σ (σ.2.2.2.2 (σ.2.1 hd)) (v + 4) (8 * x + f') := by
  have m8 : ∀ a : Int, 0 ≤ a % 8 ∧ a % 8 < 8 := fun a => by omega
  have r1 := rv_r g B h1 x0 f0 f1 h
  have r2 := rv_r g B h1 x0 (m8 _).1 (m8 _).2 r1
  have r3 := rv_r g B h1 x0 (m8 _).1 (m8 _).2 r2
  have r4 := rv_r g B h1 x0 (m8 _).1 (m8 _).2 r3
  have l1 := rv_l g B h1 x0 f0 f1 h
  have l2 := rv_l g B h1 x0 (m8 _).1 (m8 _).2 l1
  have l3 := rv_l g B h1 x0 (m8 _).1 (m8 _).2 l2
  have c : f' = f ∨ f' = (f + 1) % 8 ∨ f' = ((f + 1) % 8 + 1) % 8 ∨ f' = (((f + 1) % 8 + 1) % 8 + 1) % 8 ∨ f' = ((((f + 1) % 8 + 1) % 8 + 1) % 8 + 1) % 8 ∨ f' = (f + 7) % 8 ∨ f' = ((f + 7) % 8 + 7) % 8 ∨ f' = (((f + 7) % 8 + 7) % 8 + 7) % 8 := by omega
  rcases c with e | e | e | e | e | e | e | e
  · rw [e]; exact rv_wk h (by omega)
  · rw [e]; exact rv_wk r1 (by omega)
  · rw [e]; exact rv_wk r2 (by omega)
  · rw [e]; exact rv_wk r3 (by omega)
  · rw [e]; exact rv_wk r4 (by omega)
  · rw [e]; exact rv_wk l1 (by omega)
  · rw [e]; exact rv_wk l2 (by omega)
  · rw [e]; exact rv_wk l3 (by omega)
theorem rv_go {v e n f a c : Int} (g : gOk fr) (B : BI fr b0 σ hd) (h1 : hd < σ.1) (n0 : 0 ≤ n) (n1 : n < 40) (f0 : 0 ≤ f) (f1 : f < 8) (ha : qstE f = a) (hc : qstN f = c) (hf : fr (e + a) (n + c)) (h : Rv σ (σ.2.2.2.2 (σ.2.1 hd)) v (8 * (40 * e + n) + f)) : Rv σ (σ.2.2.2.2 (σ.2.1 hd)) (v + 1) (8 * (40 * (e + a) + (n + c)) + f) := by
  have e1 : (8 * (40 * e + n) + f) / 8 / 40 = e := by omega
  have e2 : (8 * (40 * e + n) + f) / 8 % 40 = n := by omega
  have e3 : (8 * (40 * e + n) + f) % 8 = f := by omega
  have ee : nx fr (8 * (40 * e + n) + f) 0 = 8 * (40 * (e + a) + (n + c)) + f := by
    rw [nx_f (by rw [e1, e2, e3, ha, hc]; exact hf), e1, e2, e3, ha, hc]
  have gg := g _ _ hf
  have := rv_step (k := 0) g B h1 h (by decide) (by decide) (by rw [ee]; omega)
  rw [ee] at this
  exact this
theorem rv_east {v e n : Int} (g : gOk fr) (B : BI fr b0 σ hd) (h1 : hd < σ.1) (n0 : 0 ≤ n) (n1 : n < 40) : ∀ k : Nat, (∀ x, e ≤ x → x ≤ e + k → fr x n) → Rv σ (σ.2.2.2.2 (σ.2.1 hd)) v (8 * (40 * e + n) + 2) → Rv σ (σ.2.2.2.2 (σ.2.1 hd)) (v + k) (8 * (40 * (e + k) + n) + 2) := by
  intro k
  induction k with
  | zero => intro _ h; rw [show v + ((0 : Nat) : Int) = v by omega, show e + ((0 : Nat) : Int) = e by omega]; exact h
  | succ k ih =>
    intro hf h
    have i := ih (fun x a b => hf x a (by omega)) h
    have w := rv_go (a := 1) (c := 0) g B h1 n0 n1 (by decide) (by decide) rfl rfl (by rw [show n + (0 : Int) = n by omega]; exact hf (e + k + 1) (by omega) (by omega)) i
    rw [show v + ((k + 1 : Nat) : Int) = v + k + 1 by omega, show 8 * (40 * (e + ((k + 1 : Nat) : Int)) + n) + 2 = 8 * (40 * (e + k + 1) + (n + 0)) + 2 by omega]
    exact w
theorem rv_west {v e n : Int} (g : gOk fr) (B : BI fr b0 σ hd) (h1 : hd < σ.1) (n0 : 0 ≤ n) (n1 : n < 40) : ∀ k : Nat, (∀ x, e - k ≤ x → x ≤ e → fr x n) → Rv σ (σ.2.2.2.2 (σ.2.1 hd)) v (8 * (40 * e + n) + 6) → Rv σ (σ.2.2.2.2 (σ.2.1 hd)) (v + k) (8 * (40 * (e - k) + n) + 6) := by
  intro k
  induction k with
  | zero => intro _ h; rw [show v + ((0 : Nat) : Int) = v by omega, show e - ((0 : Nat) : Int) = e by omega]; exact h
  | succ k ih =>
    intro hf h
    have i := ih (fun x a b => hf x (by omega) b) h
    have w := rv_go (a := -1) (c := 0) g B h1 n0 n1 (by decide) (by decide) rfl rfl (by rw [show n + (0 : Int) = n by omega]; exact hf (e - k + -1) (by omega) (by omega)) i
    rw [show v + ((k + 1 : Nat) : Int) = v + k + 1 by omega, show 8 * (40 * (e - ((k + 1 : Nat) : Int)) + n) + 6 = 8 * (40 * (e - k + -1) + (n + 0)) + 6 by omega]
    exact w
theorem rv_row {v e n f e' f' : Int} (g : gOk fr) (B : BI fr b0 σ hd) (h1 : hd < σ.1) (e0 : 0 ≤ e) (e0' : 0 ≤ e') (n0 : 0 ≤ n) (n1 : n < 40) (f0 : 0 ≤ f) (f1 : f < 8) (f0' : 0 ≤ f') (f1' : f' < 8) (hf : ∀ x, min e e' ≤ x → x ≤ max e e' → fr x n) (h : Rv σ (σ.2.2.2.2 (σ.2.1 hd)) v (8 * (40 * e + n) + f)) : Rv σ (σ.2.2.2.2 (σ.2.1 hd)) (v + 8 + (max e e' - min e e')) (8 * (40 * e' + n) + f') := by
  rcases Int.le_total e e' with q | q
  · have a := rv_turn (f' := 2) g B h1 (by omega) f0 f1 (by decide) (by decide) h
    have b := rv_east g B h1 n0 n1 (e' - e).toNat (fun x c d => hf x (by omega) (by omega)) a
    rw [show e + (((e' - e).toNat : Nat) : Int) = e' by omega] at b
    have c := rv_turn (f' := f') g B h1 (by omega) (by decide) (by decide) f0' f1' b
    exact rv_wk c (by omega)
  · have a := rv_turn (f' := 6) g B h1 (by omega) f0 f1 (by decide) (by decide) h
    have b := rv_west g B h1 n0 n1 (e - e').toNat (fun x c d => hf x (by omega) (by omega)) a
    rw [show e - (((e - e').toNat : Nat) : Int) = e' by omega] at b
    have c := rv_turn (f' := f') g B h1 (by omega) (by decide) (by decide) f0' f1' b
    exact rv_wk c (by omega)
theorem rv_seg {v s s' : Int} (g : gOk fr) (B : BI fr b0 σ hd) (h1 : hd < σ.1) (s0 : 0 ≤ s) (s1 : s < 19200) (s0' : 0 ≤ s') (s1' : s' < 19200) (hw : s / 8 % 40 / 2 = s' / 8 % 40 / 2) (hf : ∀ x, min (s / 8 / 40) (s' / 8 / 40) ≤ x → x ≤ max (s / 8 / 40) (s' / 8 / 40) → fr x (2 * (s / 8 % 40 / 2)) ∧ fr x (2 * (s / 8 % 40 / 2) + 1)) (h : Rv σ (σ.2.2.2.2 (σ.2.1 hd)) v s) : Rv σ (σ.2.2.2.2 (σ.2.1 hd)) (v + 13 + (max (s / 8 / 40) (s' / 8 / 40) - min (s / 8 / 40) (s' / 8 / 40))) s' := by
  generalize ee : s / 8 / 40 = e at *
  generalize en : s / 8 % 40 = n at *
  generalize ef : s % 8 = f at *
  generalize ee' : s' / 8 / 40 = e' at *
  generalize en' : s' / 8 % 40 = n' at *
  generalize ef' : s' % 8 = f' at *
  have es : s = 8 * (40 * e + n) + f := by omega
  have es' : s' = 8 * (40 * e' + n') + f' := by omega
  have hn : ∀ x, min e e' ≤ x → x ≤ max e e' → fr x n ∧ fr x n' := fun x a b => by
    have w := hf x a b
    have c1 : n = 2 * (n / 2) ∨ n = 2 * (n / 2) + 1 := by omega
    have c2 : n' = 2 * (n / 2) ∨ n' = 2 * (n / 2) + 1 := by omega
    refine ⟨?_, ?_⟩
    · rcases c1 with c | c
      · rw [c]; exact w.1
      · rw [c]; exact w.2
    · rcases c2 with c | c
      · rw [c]; exact w.1
      · rw [c]; exact w.2
  rw [es] at h
  rw [es']
  have up : ∃ f2, 0 ≤ f2 ∧ f2 < 8 ∧ Rv σ (σ.2.2.2.2 (σ.2.1 hd)) (v + 5) (8 * (40 * e + n') + f2) := by
    have c : n' = n ∨ n' = n + 1 ∨ n' = n + -1 := by omega
    rcases c with c | c | c
    · exact ⟨f, by omega, by omega, by rw [c]; exact rv_wk h (by omega)⟩
    · have a := rv_turn (f' := 0) g B h1 (by omega) (by omega) (by omega) (by decide) (by decide) h
      have b := rv_go (a := 0) (c := 1) g B h1 (by omega) (by omega) (by decide) (by decide) rfl rfl (by rw [show e + (0 : Int) = e by omega, ← c]; exact (hn e (by omega) (by omega)).2) a
      rw [← c, show e + (0 : Int) = e by omega] at b
      exact ⟨0, by decide, by decide, rv_wk b (by omega)⟩
    · have a := rv_turn (f' := 4) g B h1 (by omega) (by omega) (by omega) (by decide) (by decide) h
      have b := rv_go (a := 0) (c := -1) g B h1 (by omega) (by omega) (by decide) (by decide) rfl rfl (by rw [show e + (0 : Int) = e by omega, ← c]; exact (hn e (by omega) (by omega)).2) a
      rw [← c, show e + (0 : Int) = e by omega] at b
      exact ⟨4, by decide, by decide, rv_wk b (by omega)⟩
  obtain ⟨f2, u0, u1, u⟩ := up
  exact rv_wk (rv_row (f' := f') g B h1 (by omega) (by omega) (by omega) (by omega) u0 u1 (by omega) (by omega) (fun x a b => (hn x a b).2) u) (by omega)
/-- from the goal back -/
def chn (p : Int → Int) : Nat → Int → Int
  | 0, s => s
  | j + 1, s => p (chn p j s)
theorem chn_ok (B : BI fr b0 σ hd) (h1 : hd < σ.1) : ∀ j : Nat, (j : Int) ≤ σ.2.2.2.2 (σ.2.1 hd) → (0 ≤ chn σ.2.2.2.1 j (σ.2.1 hd) ∧ chn σ.2.2.2.1 j (σ.2.1 hd) < 19200) ∧ σ.2.2.1 (chn σ.2.2.2.1 j (σ.2.1 hd)) ≠ 0 ∧ σ.2.2.2.2 (chn σ.2.2.2.1 j (σ.2.1 hd)) = σ.2.2.2.2 (σ.2.1 hd) - j := by
  intro j
  induction j with
  | zero =>
    intro _
    have := B.2.1 hd B.1.2.2 h1
    exact ⟨this.1, this.2, by show σ.2.2.2.2 (σ.2.1 hd) = _; omega⟩
  | succ j ih =>
    intro h
    have i := ih (by omega)
    have v := (B.2.2.1 _ i.1.1 i.1.2 i.2.1).1.2.2
    show (0 ≤ σ.2.2.2.1 (chn σ.2.2.2.1 j (σ.2.1 hd)) ∧ σ.2.2.2.1 (chn σ.2.2.2.1 j (σ.2.1 hd)) < 19200) ∧ σ.2.2.1 (σ.2.2.2.1 (chn σ.2.2.2.1 j (σ.2.1 hd))) ≠ 0 ∧ σ.2.2.2.2 (σ.2.2.2.1 (chn σ.2.2.2.1 j (σ.2.1 hd))) = _
    rcases v with v | v
    · omega
    · exact ⟨⟨v.2.2.2.1, v.2.2.2.2.1⟩, v.2.2.2.2.2.1, by omega⟩
theorem path_bd (g : gOk fr) (B : BI fr b0 σ hd) (h1 : hd < σ.1) (nf : NT (fun w => ¬ flP fr w) 1200 ≤ 49) : σ.2.2.2.2 (σ.2.1 hd) ≤ 2400 := by
  have gl := B.2.1 hd B.1.2.2 h1
  have D0 := (B.2.2.1 _ gl.1.1 gl.1.2 gl.2).1.2.1
  generalize eD : σ.2.2.2.2 (σ.2.1 hd) = D at *
  have ck := chn_ok B h1
  rw [eD] at ck
  obtain ⟨st, est⟩ : ∃ st : Int → Int, ∀ t, st t = chn σ.2.2.2.1 (D - t).toNat (σ.2.1 hd) := ⟨_, fun _ => rfl⟩
  have sk : ∀ t, 0 ≤ t → t ≤ D → (0 ≤ st t ∧ st t < 19200) ∧ σ.2.2.1 (st t) ≠ 0 ∧ σ.2.2.2.2 (st t) = t ∧ frs fr (st t) := fun t a b => by
    have w := ck (D - t).toNat (by omega)
    rw [est t]
    exact ⟨w.1, w.2.1, by have := w.2.2; omega, (B.2.2.1 _ w.1.1 w.1.2 w.2.1).1.1⟩
  have rr : ∀ t, 0 ≤ t → t ≤ D → Rv σ D t (st t) := fun t a b => by
    have w := sk t a b
    exact Or.inr ⟨w.1, w.2.1, by omega⟩
  have fin : ∀ t u v : Int, 0 ≤ u → u ≤ D → Rv σ D v (st u) → u ≤ v := fun t u v a b h => by
    have w := sk u a b
    rcases h with h | h
    · omega
    · have := h.2.2; omega
  -- within a stretch that is free
  have seg : ∀ j0 j : Int, 0 ≤ j0 → j0 < j → j ≤ 1200 → (j - 1) / 60 = j0 / 60 → (∀ i, j0 ≤ i → i < j → flP fr i) → NT (fun t => j0 ≤ wOf (st t) ∧ wOf (st t) < j) (D + 1).toNat ≤ (j - j0) + 13 := fun j0 j a b c e q => by
    refine NT_win (by omega) _ (fun t u t0 tu u1 pt pu => ?_)
    have w1 := sk t t0 (by omega)
    have w2 := sk u (by omega) (by omega)
    try dsimp only at pt pu
    unfold wOf at pt pu
    have y1 : 0 ≤ st t / 8 / 40 ∧ st t / 8 / 40 < 60 := by have := w1.1; omega
    have y2 : 0 ≤ st u / 8 / 40 ∧ st u / 8 / 40 < 60 := by have := w2.1; omega
    have i1 : st t / 8 % 40 / 2 = j0 / 60 := by omega
    have i2 : st u / 8 % 40 / 2 = j0 / 60 := by omega
    rw [i1] at pt
    rw [i2] at pu
    have hs := rv_seg (v := t) (s := st t) (s' := st u) g B h1 w1.1.1 w1.1.2 w2.1.1 w2.1.2 (by rw [i1, i2]) (fun x x0 x1 => by
      have z := q (60 * (st t / 8 % 40 / 2) + x) (by rw [i1]; omega) (by rw [i1]; omega)
      unfold flP at z
      rw [show (60 * (st t / 8 % 40 / 2) + x) % 60 = x by omega, show (60 * (st t / 8 % 40 / 2) + x) / 60 = st t / 8 % 40 / 2 by omega] at z
      exact z) (by rw [eD]; exact rr t t0 (by omega))
    rw [eD] at hs
    have := fin t u _ (by omega) (by omega) hs
    omega
  have half : ∀ j : Int, 0 ≤ j → ¬ flP fr j → NT (fun t => wOf (st t) = j) (D + 1).toNat ≤ 5 := fun j a b => by
    refine NT_win (by omega) _ (fun t u t0 tu u1 pt pu => ?_)
    have w1 := sk t t0 (by omega)
    have w2 := sk u (by omega) (by omega)
    try dsimp only at pt pu
    have same : st t / 8 = st u / 8 := by
      unfold wOf at pt pu
      have f1 := w1.2.2.2
      have f2 := w2.2.2.2
      unfold frs at f1 f2
      by_cases e : st t / 8 % 40 = st u / 8 % 40
      · omega
      · exfalso
        apply b
        unfold flP
        have c1 : j % 60 = st t / 8 / 40 := by omega
        have c2 : j / 60 = st t / 8 % 40 / 2 := by omega
        have c3 : st u / 8 / 40 = st t / 8 / 40 := by omega
        rw [c1, c2]
        rw [c3] at f2
        have c4 : (st t / 8 % 40 = 2 * (st t / 8 % 40 / 2) ∧ st u / 8 % 40 = 2 * (st t / 8 % 40 / 2) + 1) ∨ (st u / 8 % 40 = 2 * (st t / 8 % 40 / 2) ∧ st t / 8 % 40 = 2 * (st t / 8 % 40 / 2) + 1) := by omega
        rcases c4 with c | c
        · rw [c.1] at f1
          rw [c.2] at f2
          refine ⟨?_, f2⟩
          rw [show 2 * (st t / 8 % 40 / 2) = st t / 8 % 40 by omega]
          have := w1.2.2.2
          unfold frs at this
          exact this
        · rw [c.1] at f2
          refine ⟨f2, ?_⟩
          rw [show 2 * (st t / 8 % 40 / 2) + 1 = st t / 8 % 40 by omega]
          have := w1.2.2.2
          unfold frs at this
          exact this
    have r0 := rr t t0 (by omega)
    have e1 : st t = 8 * (st t / 8) + st t % 8 := by omega
    have e2 : st u = 8 * (st t / 8) + st u % 8 := by omega
    rw [e1, ← eD] at r0
    have tt := rv_turn (f' := st u % 8) g B h1 (by omega) (by omega) (by omega) (by omega) (by omega) r0
    rw [← e2, eD] at tt
    have := fin t u _ (by omega) (by omega) tt
    omega
  have main : ∀ j : Nat, j ≤ 1200 → ∃ j0 : Nat, j0 ≤ j ∧ (j0 < j → ((j : Int) - 1) / 60 = j0 / 60) ∧ (∀ i : Int, j0 ≤ i → i < j → flP fr i) ∧ NT (fun t => wOf (st t) < j0) (D + 1).toNat ≤ j0 + 13 * ((j0 : Int) / 60 + NT (fun w => ¬ flP fr w) j0) + 4 * NT (fun w => ¬ flP fr w) j0 := by
    intro j
    induction j with
    | zero =>
      intro _
      refine ⟨0, Nat.le_refl _, fun z => absurd z (by omega), fun i a b => absurd a (by omega), ?_⟩
      have : NT (fun t => wOf (st t) < ((0 : Nat) : Int)) (D + 1).toNat ≤ 0 := by
        refine NT_win (by omega) _ (fun t u t0 tu u1 pt pu => ?_)
        have w1 := sk t t0 (by omega)
        try dsimp only at pt
        unfold wOf at pt
        omega
      rw [NT]
      omega
    | succ j ih =>
      intro jl
      obtain ⟨j0, a1, a2, a3, a4⟩ := ih (by omega)
      -- the stretch that ends here
      have cl : NT (fun t => wOf (st t) < j) (D + 1).toNat ≤ NT (fun t => wOf (st t) < j0) (D + 1).toNat + (if j0 < j then ((j : Int) - j0) + 13 else 0) := by
        by_cases e : j0 < j
        · rw [if_pos e]
          have s1 := seg j0 j (by omega) (by omega) (by omega) (a2 e) a3
          have o := NT_or (P := fun t => wOf (st t) < j0) (Q := fun t => j0 ≤ wOf (st t) ∧ wOf (st t) < j) (R := fun t => wOf (st t) < j) (D + 1).toNat (fun t _ _ h => by
            try dsimp only at h ⊢
            omega)
          omega
        · rw [if_neg e, show j0 = j by omega]
          omega
      have nfe : NT (fun w => ¬ flP fr w) j = NT (fun w => ¬ flP fr w) j0 := by
        have z : ∀ k : Nat, j0 ≤ k → k ≤ j → NT (fun w => ¬ flP fr w) k = NT (fun w => ¬ flP fr w) j0 := by
          intro k
          induction k with
          | zero => intro a b; rw [show j0 = 0 by omega]
          | succ k ik =>
            intro a b
            by_cases e : j0 = k + 1
            · rw [e]
            · rw [NT, ik (by omega) (by omega), cif_f (fun w => w (a3 k (by omega) (by omega)))]
              omega
        exact z j a1 (Nat.le_refl _)
      have nb := NT_bd (P := fun w => ¬ flP fr w) j0
      by_cases f : flP fr j
      · by_cases e : (j : Int) % 60 = 0 ∧ j0 < j
        · refine ⟨j, by omega, fun _ => by omega, fun i b c => by rw [show i = j by omega]; exact f, ?_⟩
          rw [if_pos e.2] at cl
          have := a2 e.2
          rw [nfe]
          omega
        · refine ⟨j0, by omega, fun _ => ?_, fun i b c => ?_, a4⟩
          · by_cases e2 : j0 < j
            · have := a2 e2
              omega
            · omega
          · by_cases e2 : i = j
            · rw [e2]; exact f
            · exact a3 i b (by omega)
      · refine ⟨j + 1, Nat.le_refl _, fun z => absurd z (by omega), fun i b c => absurd b (by omega), ?_⟩
        have hj := half j (by omega) f
        have o := NT_or (P := fun t => wOf (st t) < j) (Q := fun t => wOf (st t) = j) (R := fun t => wOf (st t) < ((j + 1 : Nat) : Int)) (D + 1).toNat (fun t _ _ h => by
          try dsimp only at h ⊢
          omega)
        rw [show NT (fun w => ¬ flP fr w) (j + 1) = NT (fun w => ¬ flP fr w) j0 + 1 by rw [NT, cif_t f, nfe]]
        split at cl <;> omega
  obtain ⟨j0, a1, a2, a3, a4⟩ := main 1200 (Nat.le_refl _)
  have all : NT (fun t => wOf (st t) < 1200) (D + 1).toNat = (D + 1).toNat := NT_all _ (fun t a b => by
    have w := sk t a (by omega)
    unfold wOf
    omega)
  have mono : NT (fun w => ¬ flP fr w) j0 ≤ NT (fun w => ¬ flP fr w) 1200 := by
    have z : ∀ k m : Nat, k ≤ m → NT (fun w => ¬ flP fr w) k ≤ NT (fun w => ¬ flP fr w) m := by
      intro k m
      induction m with
      | zero => intro h; rw [show k = 0 by omega]; omega
      | succ m im =>
        intro h
        by_cases e : k = m + 1
        · rw [e]; omega
        · have := im (by omega)
          rw [NT]
          by_cases f : flP fr m
          · rw [cif_f (fun w => w f)]; omega
          · rw [cif_t f]; omega
    exact z j0 1200 a1
  by_cases e : j0 < 1200
  · have s1 := seg j0 1200 (by omega) (by omega) (by omega) (a2 e) a3
    have o := NT_or (P := fun t => wOf (st t) < j0) (Q := fun t => j0 ≤ wOf (st t) ∧ wOf (st t) < 1200) (R := fun t => wOf (st t) < 1200) (D + 1).toNat (fun t _ _ h => by
      try dsimp only at h ⊢
      omega)
    omega
  · have e2 : j0 = 1200 := by omega
    rw [e2] at a4
    have a4' : NT (fun t => wOf (st t) < 1200) (D + 1).toNat ≤ 1200 + 13 * (1200 / 60 + NT (fun w => ¬ flP fr w) 1200) + 4 * NT (fun w => ¬ flP fr w) 1200 := a4
    omega
end
