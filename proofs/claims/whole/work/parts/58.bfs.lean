/-! PATHS: the search as it is reckoned -/
noncomputable def nx (fr : Int → Int → Prop) (s k : Int) : Int := if k = 0 then cif (fr (s / 8 / 40 + qstE (s % 8)) (s / 8 % 40 + qstN (s % 8))) (8 * (40 * (s / 8 / 40 + qstE (s % 8)) + (s / 8 % 40 + qstN (s % 8))) + s % 8) (-1) else if k = 1 then 8 * (s / 8) + (s % 8 + 1) % 8 else 8 * (s / 8) + (s % 8 + 7) % 8
def bk (t k : Int) : Int := if k = 0 then t - 8 * (40 * qstE (t % 8) + qstN (t % 8)) else if k = 1 then 8 * (t / 8) + (t % 8 + 7) % 8 else 8 * (t / 8) + (t % 8 + 1) % 8
def frs (fr : Int → Int → Prop) (s : Int) : Prop := fr (s / 8 / 40) (s / 8 % 40)
def gOk (fr : Int → Int → Prop) : Prop := ∀ e n, fr e n → 0 ≤ e ∧ e < 60 ∧ 0 ≤ n ∧ n < 40
theorem k3 {k : Int} (h0 : 0 ≤ k) (h1 : k < 3) : k = 0 ∨ k = 1 ∨ k = 2 := by omega
theorem nx_0 {fr : Int → Int → Prop} {s : Int} (h : 0 ≤ nx fr s 0) : fr (s / 8 / 40 + qstE (s % 8)) (s / 8 % 40 + qstN (s % 8)) ∧ nx fr s 0 = 8 * (40 * (s / 8 / 40 + qstE (s % 8)) + (s / 8 % 40 + qstN (s % 8))) + s % 8 := by
  unfold nx at h ⊢
  rw [if_pos rfl] at h ⊢
  by_cases z : fr (s / 8 / 40 + qstE (s % 8)) (s / 8 % 40 + qstN (s % 8))
  · exact ⟨z, cif_t z⟩
  · rw [cif_f z] at h
    omega
theorem nx_f {fr : Int → Int → Prop} {s : Int} (h : fr (s / 8 / 40 + qstE (s % 8)) (s / 8 % 40 + qstN (s % 8))) : nx fr s 0 = 8 * (40 * (s / 8 / 40 + qstE (s % 8)) + (s / 8 % 40 + qstN (s % 8))) + s % 8 := by
  unfold nx
  rw [if_pos rfl, cif_t h]
theorem nx_n {fr : Int → Int → Prop} {s : Int} (h : ¬ fr (s / 8 / 40 + qstE (s % 8)) (s / 8 % 40 + qstN (s % 8))) : nx fr s 0 = -1 := by
  unfold nx
  rw [if_pos rfl, cif_f h]
theorem nx_1 {fr : Int → Int → Prop} {s : Int} : nx fr s 1 = 8 * (s / 8) + (s % 8 + 1) % 8 := rfl
theorem nx_2 {fr : Int → Int → Prop} {s : Int} : nx fr s 2 = 8 * (s / 8) + (s % 8 + 7) % 8 := rfl
theorem nx_ok {fr : Int → Int → Prop} {s k : Int} (g : gOk fr) (s0 : 0 ≤ s) (s1 : s < 19200) (hf : frs fr s) (k0 : 0 ≤ k) (k1 : k < 3) (h : 0 ≤ nx fr s k) : (0 ≤ nx fr s k ∧ nx fr s k < 19200) ∧ frs fr (nx fr s k) ∧ bk (nx fr s k) k = s := by
  rcases k3 k0 k1 with rfl | rfl | rfl
  · have z := nx_0 h
    have b := g _ _ z.1
    rw [z.2]
    have e0 : (8 * (40 * (s / 8 / 40 + qstE (s % 8)) + (s / 8 % 40 + qstN (s % 8))) + s % 8) % 8 = s % 8 := by omega
    have e3 : bk (8 * (40 * (s / 8 / 40 + qstE (s % 8)) + (s / 8 % 40 + qstN (s % 8))) + s % 8) 0 = s := by
      unfold bk
      rw [if_pos rfl, e0]
      omega
    refine ⟨by omega, ?_, e3⟩
    generalize qstE (s % 8) = a at *
    generalize qstN (s % 8) = c at *
    have e1 : (8 * (40 * (s / 8 / 40 + a) + (s / 8 % 40 + c)) + s % 8) / 8 / 40 = s / 8 / 40 + a := by omega
    have e2 : (8 * (40 * (s / 8 / 40 + a) + (s / 8 % 40 + c)) + s % 8) / 8 % 40 = s / 8 % 40 + c := by omega
    unfold frs
    rw [e1, e2]
    exact z.1
  · rw [nx_1]
    refine ⟨by omega, ?_, ?_⟩
    · unfold frs
      rw [show (8 * (s / 8) + (s % 8 + 1) % 8) / 8 = s / 8 by omega]
      exact hf
    · show 8 * ((8 * (s / 8) + (s % 8 + 1) % 8) / 8) + ((8 * (s / 8) + (s % 8 + 1) % 8) % 8 + 7) % 8 = s
      omega
  · rw [nx_2]
    refine ⟨by omega, ?_, ?_⟩
    · unfold frs
      rw [show (8 * (s / 8) + (s % 8 + 7) % 8) / 8 = s / 8 by omega]
      exact hf
    · show 8 * ((8 * (s / 8) + (s % 8 + 7) % 8) / 8) + ((8 * (s / 8) + (s % 8 + 7) % 8) % 8 + 1) % 8 = s
      omega
/-- how many are not 0 -/
def cnt (c : Int → Int) : Nat → Int
  | 0 => 0
  | k + 1 => cnt c k + (if c k = 0 then 0 else 1)
theorem cnt_bd {c : Int → Int} : ∀ k : Nat, 0 ≤ cnt c k ∧ cnt c k ≤ k := by
  intro k
  induction k with
  | zero => exact ⟨Int.le_refl _, Int.le_refl _⟩
  | succ k ih =>
    rw [cnt]
    split <;> omega
theorem cnt_same {c c' : Int → Int} : ∀ k : Nat, (∀ t : Int, 0 ≤ t → t < k → c t = c' t) → cnt c k = cnt c' k := by
  intro k
  induction k with
  | zero => intro _; rfl
  | succ k ih =>
    intro h
    rw [cnt, cnt, ih (fun t a b => h t a (by omega)), h k (by omega) (by omega)]
theorem cnt_up {c : Int → Int} {t v : Int} (h0 : c t = 0) (hv : v ≠ 0) (t0 : 0 ≤ t) : ∀ k : Nat, t < k → cnt (rup c t v) k = cnt c k + 1 := by
  intro k
  induction k with
  | zero => intro h; omega
  | succ k ih =>
    intro h
    rw [cnt, cnt]
    by_cases e : t = k
    · rw [cnt_same (c' := c) k (fun u a b => rup_of (by omega)), ← e, rup_at, h0, if_neg hv, if_pos rfl]
      omega
    · rw [ih (by omega), rup_of (by omega)]
      omega
abbrev bq : Type := Int × (Int → Int) × (Int → Int) × (Int → Int) × (Int → Int)
def vis (t k s : Int) (σ : bq) : bq := if t < 0 then σ else if σ.2.2.1 t = 0 then (σ.1 + 1, rup σ.2.1 σ.1 t, rup σ.2.2.1 t (k + 1), rup σ.2.2.2.1 t s, rup σ.2.2.2.2 t (σ.2.2.2.2 s + 1)) else σ
theorem vis_n {t k s : Int} {σ : bq} (h : t < 0) : vis t k s σ = σ := if_pos h
theorem vis_o {t k s : Int} {σ : bq} (h : 0 ≤ t) (h2 : ¬ σ.2.2.1 t = 0) : vis t k s σ = σ := by
  unfold vis
  rw [if_neg (by omega), if_neg h2]
theorem vis_y {t k s : Int} {σ : bq} (h : 0 ≤ t) (h2 : σ.2.2.1 t = 0) : vis t k s σ = (σ.1 + 1, rup σ.2.1 σ.1 t, rup σ.2.2.1 t (k + 1), rup σ.2.2.2.1 t s, rup σ.2.2.2.2 t (σ.2.2.2.2 s + 1)) := by
  unfold vis
  rw [if_neg (by omega), if_pos h2]
noncomputable def exS (fr : Int → Int → Prop) (s : Int) (σ : bq) : bq := vis (nx fr s 2) 2 s (vis (nx fr s 1) 1 s (vis (nx fr s 0) 0 s σ))
noncomputable def bfs (fr : Int → Int → Prop) (G : Int → Prop) : Nat → Int → bq → Int × bq
  | 0, _, σ => (-1, σ)
  | k + 1, hd, σ => if σ.1 ≤ hd then (-1, σ) else cif (G (σ.2.1 hd)) (σ.2.1 hd, σ) (bfs fr G k (hd + 1) (exS fr (σ.2.1 hd) σ))
def BIv (fr : Int → Int → Prop) (b0 : Int) (σ : bq) (t : Int) : Prop := frs fr t ∧ 0 ≤ σ.2.2.2.2 t ∧ ((t = b0 ∧ σ.2.2.1 t = 4 ∧ σ.2.2.2.1 t = t ∧ σ.2.2.2.2 t = 0) ∨ (t ≠ b0 ∧ 1 ≤ σ.2.2.1 t ∧ σ.2.2.1 t ≤ 3 ∧ 0 ≤ σ.2.2.2.1 t ∧ σ.2.2.2.1 t < 19200 ∧ σ.2.2.1 (σ.2.2.2.1 t) ≠ 0 ∧ nx fr (σ.2.2.2.1 t) (σ.2.2.1 t - 1) = t ∧ σ.2.2.2.2 t = σ.2.2.2.2 (σ.2.2.2.1 t) + 1))
def BI (fr : Int → Int → Prop) (b0 : Int) (σ : bq) (hd : Int) : Prop :=
  (cnt σ.2.2.1 19200 = σ.1 ∧ 1 ≤ σ.1 ∧ 0 ≤ hd) ∧ (∀ i, 0 ≤ i → i < σ.1 → (0 ≤ σ.2.1 i ∧ σ.2.1 i < 19200) ∧ σ.2.2.1 (σ.2.1 i) ≠ 0) ∧
  (∀ t, 0 ≤ t → t < 19200 → σ.2.2.1 t ≠ 0 → BIv fr b0 σ t ∧ ∃ i, 0 ≤ i ∧ i < σ.1 ∧ σ.2.1 i = t) ∧
  (∀ i j, 0 ≤ i → i ≤ j → j < σ.1 → σ.2.2.2.2 (σ.2.1 i) ≤ σ.2.2.2.2 (σ.2.1 j)) ∧
  (hd < σ.1 → ∀ j, 0 ≤ j → j < σ.1 → σ.2.2.2.2 (σ.2.1 j) ≤ σ.2.2.2.2 (σ.2.1 hd) + 1) ∧
  (∀ i, 0 ≤ i → i < hd → i < σ.1 → ∀ k, 0 ≤ k → k < 3 → 0 ≤ nx fr (σ.2.1 i) k → σ.2.2.1 (nx fr (σ.2.1 i) k) ≠ 0 ∧ σ.2.2.2.2 (nx fr (σ.2.1 i) k) ≤ σ.2.2.2.2 (σ.2.1 i) + 1) ∧
  (∀ t, 0 ≤ t → t < 19200 → 0 ≤ σ.2.2.1 t) ∧ hd ≤ σ.1 ∧ 0 ≤ b0 ∧ b0 < 19200 ∧ σ.2.2.1 b0 = 4
section
variable {fr : Int → Int → Prop} {b0 : Int} {σ : bq} {hd : Int}
theorem bi_vis {k : Int} (g : gOk fr) (B : BI fr b0 σ hd) (h1 : hd < σ.1) (k0 : 0 ≤ k) (k1 : k < 3) : BI fr b0 (vis (nx fr (σ.2.1 hd) k) k (σ.2.1 hd) σ) hd ∧ (∀ i, 0 ≤ i → i < σ.1 → (vis (nx fr (σ.2.1 hd) k) k (σ.2.1 hd) σ).2.1 i = σ.2.1 i) ∧ σ.1 ≤ (vis (nx fr (σ.2.1 hd) k) k (σ.2.1 hd) σ).1 ∧ (∀ u, σ.2.2.1 u ≠ 0 → (vis (nx fr (σ.2.1 hd) k) k (σ.2.1 hd) σ).2.2.1 u ≠ 0 ∧ (vis (nx fr (σ.2.1 hd) k) k (σ.2.1 hd) σ).2.2.2.2 u = σ.2.2.2.2 u) ∧ (0 ≤ nx fr (σ.2.1 hd) k → (vis (nx fr (σ.2.1 hd) k) k (σ.2.1 hd) σ).2.2.1 (nx fr (σ.2.1 hd) k) ≠ 0 ∧ (vis (nx fr (σ.2.1 hd) k) k (σ.2.1 hd) σ).2.2.2.2 (nx fr (σ.2.1 hd) k) ≤ σ.2.2.2.2 (σ.2.1 hd) + 1) := by
  have B' := B
  obtain ⟨⟨c1, c2, c3⟩, q1, v1, m1, m2, p1, z1, z2, z3, z4, z5⟩ := B
  generalize es : σ.2.1 hd = s at *
  have qs := q1 hd c3 h1
  rw [es] at qs
  generalize et : nx fr s k = t at *
  by_cases t0 : t < 0
  · rw [vis_n t0]
    exact ⟨B', fun _ _ _ => rfl, Int.le_refl _, fun u hu => ⟨hu, rfl⟩, fun z => absurd z (by omega)⟩
  have t0 : 0 ≤ t := by omega
  have ok := nx_ok (k := k) g qs.1.1 qs.1.2 (v1 s qs.1.1 qs.1.2 qs.2).1.1 k0 k1 (by rw [et]; exact t0)
  rw [et] at ok
  by_cases tn : σ.2.2.1 t = 0
  · have sne : ¬ s = t := fun e => qs.2 (by rw [e]; exact tn)
    have qne : ∀ i, 0 ≤ i → i < σ.1 → ¬ σ.2.1 i = t := fun i a b e => (q1 i a b).2 (by rw [e]; exact tn)
    have hq : ∀ i, 0 ≤ i → i < σ.1 → rup σ.2.1 σ.1 t i = σ.2.1 i := fun i a b => rup_of (by omega)
    have hc : ∀ u, ¬ u = t → rup σ.2.2.1 t (k + 1) u = σ.2.2.1 u := fun u e => rup_of e
    have hp : ∀ u, ¬ u = t → rup σ.2.2.2.1 t s u = σ.2.2.2.1 u := fun u e => rup_of e
    have hdd : ∀ u, ¬ u = t → rup σ.2.2.2.2 t (σ.2.2.2.2 s + 1) u = σ.2.2.2.2 u := fun u e => rup_of e
    have dt : rup σ.2.2.2.2 t (σ.2.2.2.2 s + 1) t = σ.2.2.2.2 s + 1 := rup_at
    have bt0 : ¬ t = b0 := fun e => by rw [e, z5] at tn; exact absurd tn (by decide)
    rw [vis_y t0 tn]
    refine ⟨⟨⟨?_, by dsimp only; omega, c3⟩, ?_, ?_, ?_, ?_, ?_, ?_, by dsimp only; omega, z3, z4, ?_⟩, ?_, by dsimp only; omega, ?_, ?_⟩
    · dsimp only
      rw [cnt_up tn (by omega) t0 19200 (by omega), c1]
    · intro i i0 i1
      dsimp only at i1 ⊢
      by_cases e : i = σ.1
      · rw [e, rup_at, rup_at]
        exact ⟨ok.1, by omega⟩
      · rw [hq i i0 (by omega), hc _ (qne i i0 (by omega))]
        exact q1 i i0 (by omega)
    · intro u u0 u1 hu
      dsimp only at hu ⊢
      by_cases e : u = t
      · rw [e]
        refine ⟨⟨ok.2.1, ?_, Or.inr ⟨bt0, ?_⟩⟩, σ.1, by omega, by omega, rup_at⟩
        · dsimp only
          rw [dt]
          have := (v1 s qs.1.1 qs.1.2 qs.2).1.2.1
          omega
        · dsimp only
          rw [dt, rup_at, rup_at, hc s sne, hdd s sne, show k + 1 - 1 = k by omega, et]
          exact ⟨by omega, by omega, qs.1.1, qs.1.2, qs.2, rfl, rfl⟩
      · rw [hc u e] at hu
        obtain ⟨w, i, i0, i1, ei⟩ := v1 u u0 u1 hu
        refine ⟨⟨w.1, ?_, ?_⟩, i, i0, by omega, by rw [hq i i0 i1]; exact ei⟩
        · dsimp only
          rw [hdd u e]
          exact w.2.1
        · dsimp only
          rw [hc u e, hp u e, hdd u e]
          rcases w.2.2 with w2 | w2
          · exact Or.inl w2
          · have pne : ¬ σ.2.2.2.1 u = t := fun e2 => w2.2.2.2.2.2.1 (by rw [e2]; exact tn)
            rw [hc _ pne, hdd _ pne]
            exact Or.inr w2
    · intro i j i0 ij j1
      dsimp only at j1 ⊢
      by_cases e : j = σ.1
      · rw [e, rup_at, dt]
        by_cases e2 : i = σ.1
        · rw [e2, rup_at, dt]
          exact Int.le_refl _
        · rw [hq i i0 (by omega), hdd _ (qne i i0 (by omega))]
          exact m2 h1 i i0 (by omega)
      · rw [hq i i0 (by omega), hq j (by omega) (by omega), hdd _ (qne i i0 (by omega)), hdd _ (qne j (by omega) (by omega))]
        exact m1 i j i0 ij (by omega)
    · intro _ j j0 j1
      dsimp only at j1 ⊢
      rw [hq hd c3 h1, es, hdd s sne]
      by_cases e : j = σ.1
      · rw [e, rup_at, dt]
        exact Int.le_refl _
      · rw [hq j j0 (by omega), hdd _ (qne j j0 (by omega))]
        exact m2 h1 j j0 (by omega)
    · intro i i0 i1 i2 j j0 j1 hn
      dsimp only at i2 hn ⊢
      rw [hq i i0 (by omega)] at hn ⊢
      have w := p1 i i0 i1 (by omega) j j0 j1 hn
      have ne : ¬ nx fr (σ.2.1 i) j = t := fun e => w.1 (by rw [e]; exact tn)
      rw [hc _ ne, hdd _ ne, hdd _ (qne i i0 (by omega))]
      exact w
    · intro u u0 u1
      dsimp only
      by_cases e : u = t
      · rw [e, rup_at]; omega
      · rw [hc u e]; exact z1 u u0 u1
    · dsimp only
      rw [hc b0 (fun e => bt0 e.symm)]
      exact z5
    · intro i i0 i1
      exact hq i i0 i1
    · intro u hu
      have ne : ¬ u = t := fun e => hu (by rw [e]; exact tn)
      exact ⟨by dsimp only; rw [hc u ne]; exact hu, hdd u ne⟩
    · intro _
      exact ⟨by dsimp only; rw [rup_at]; omega, by dsimp only; rw [dt]; exact Int.le_refl _⟩
  · rw [vis_o t0 tn]
    refine ⟨B', fun _ _ _ => rfl, Int.le_refl _, fun u hu => ⟨hu, rfl⟩, fun _ => ⟨tn, ?_⟩⟩
    obtain ⟨w, i, i0, i1, ei⟩ := v1 t t0 (by omega) tn
    rw [← ei]
    exact m2 h1 i i0 i1
theorem bi_ex (g : gOk fr) (B : BI fr b0 σ hd) (h1 : hd < σ.1) : BI fr b0 (exS fr (σ.2.1 hd) σ) (hd + 1) := by
  have s0 := bi_vis (k := 0) g B h1 (by decide) (by decide)
  generalize e0 : vis (nx fr (σ.2.1 hd) 0) 0 (σ.2.1 hd) σ = σ0 at s0
  have h2 : hd < σ0.1 := by have := s0.2.2.1; omega
  have q0 : σ0.2.1 hd = σ.2.1 hd := s0.2.1 hd B.1.2.2 h1
  have s1 := bi_vis (k := 1) g s0.1 h2 (by decide) (by decide)
  rw [q0] at s1
  generalize e1 : vis (nx fr (σ.2.1 hd) 1) 1 (σ.2.1 hd) σ0 = σ1 at s1
  have h3 : hd < σ1.1 := by have := s1.2.2.1; omega
  have q1 : σ1.2.1 hd = σ.2.1 hd := by rw [s1.2.1 hd B.1.2.2 h2, q0]
  have s2 := bi_vis (k := 2) g s1.1 h3 (by decide) (by decide)
  rw [q1] at s2
  have ee : exS fr (σ.2.1 hd) σ = vis (nx fr (σ.2.1 hd) 2) 2 (σ.2.1 hd) σ1 := by unfold exS; rw [e0, e1]
  rw [ee]
  generalize vis (nx fr (σ.2.1 hd) 2) 2 (σ.2.1 hd) σ1 = σ2 at s2 ⊢
  have h4 : hd < σ2.1 := by have := s2.2.2.1; omega
  have q2 : σ2.2.1 hd = σ.2.1 hd := by rw [s2.2.1 hd B.1.2.2 h3, q1]
  have qs := B.2.1 hd B.1.2.2 h1
  have d0 : σ0.2.2.2.2 (σ.2.1 hd) = σ.2.2.2.2 (σ.2.1 hd) := (s0.2.2.2.1 _ qs.2).2
  have c0 := (s0.2.2.2.1 _ qs.2).1
  have d1 : σ1.2.2.2.2 (σ.2.1 hd) = σ.2.2.2.2 (σ.2.1 hd) := by rw [(s1.2.2.2.1 _ c0).2, d0]
  have c1 := (s1.2.2.2.1 _ c0).1
  have d2 : σ2.2.2.2.2 (σ.2.1 hd) = σ.2.2.2.2 (σ.2.1 hd) := by rw [(s2.2.2.2.1 _ c1).2, d1]
  obtain ⟨⟨a1, a2, a3⟩, a4, a5, a6, a7, a8, a9, a10, a11, a12, a13⟩ := s2.1
  refine ⟨⟨a1, a2, by omega⟩, a4, a5, a6, fun h5 j j0 j1 => ?_, fun i i0 i1 i2 k k0 k1 hn => ?_, a9, Int.add_one_le_of_lt h4, a11, a12, a13⟩
  · have u := a7 h4 j j0 j1
    have v := a6 hd (hd + 1) a3 (by omega) h5
    omega
  · by_cases e : i = hd
    · rw [e, q2] at hn ⊢
      rw [d2]
      rcases k3 k0 k1 with rfl | rfl | rfl
      · have w := s0.2.2.2.2 hn
        have w1 := s1.2.2.2.1 _ w.1
        have w2 := s2.2.2.2.1 _ w1.1
        exact ⟨w2.1, by rw [w2.2, w1.2]; exact w.2⟩
      · have w := s1.2.2.2.2 hn
        have w2 := s2.2.2.2.1 _ w.1
        exact ⟨w2.1, by rw [w2.2, ← d0]; exact w.2⟩
      · have w := s2.2.2.2.2 hn
        exact ⟨w.1, by rw [← d1]; exact w.2⟩
    · exact a8 i i0 (by omega) i2 k k0 k1 hn
theorem bi_lip (B : BI fr b0 σ hd) (h1 : hd < σ.1) {t k : Int} (t0 : 0 ≤ t) (t1 : t < 19200) (tv : σ.2.2.1 t ≠ 0) (td : σ.2.2.2.2 t < σ.2.2.2.2 (σ.2.1 hd)) (k0 : 0 ≤ k) (k1 : k < 3) (hn : 0 ≤ nx fr t k) : σ.2.2.1 (nx fr t k) ≠ 0 ∧ σ.2.2.2.2 (nx fr t k) ≤ σ.2.2.2.2 t + 1 := by
  obtain ⟨w, i, i0, i1, ei⟩ := B.2.2.1 t t0 t1 tv
  rw [← ei] at hn td ⊢
  by_cases e : i < hd
  · exact B.2.2.2.2.2.1 i i0 e i1 k k0 k1 hn
  · have := B.2.2.2.1 hd i B.1.2.2 (by omega) i1
    omega
theorem bi_tail (B : BI fr b0 σ hd) : σ.1 ≤ 19200 := by
  have := cnt_bd (c := σ.2.2.1) 19200
  have e := B.1.1
  omega
theorem bi_room (B : BI fr b0 σ hd) {t : Int} (t0 : 0 ≤ t) (t1 : t < 19200) (h : σ.2.2.1 t = 0) : σ.1 < 19200 := by
  have a := cnt_up (v := 1) h (by decide) t0 19200 (by omega)
  have b := cnt_bd (c := rup σ.2.2.1 t 1) 19200
  have e := B.1.1
  omega
end
