theorem q_cp : Cond.native arraycopyName ∈ qw ∧ Cond.static arraycopyName ∈ qw ∧ Cond.initialized "java/lang/System" ∈ qw := ⟨q_mem (i := 693) (by decide +kernel) rfl, q_mem (i := 692) (by decide +kernel) rfl, q_mem (i := 129) (by decide +kernel) rfl⟩
theorem q_obj : Cond.instanceMethod objectInit ∈ qw ∧ Cond.code objectInit ⟨#[0xb1]⟩ 1 none ∈ qw := ⟨q_mem (i := 137) (by decide +kernel) rfl, q_mem (i := 138) (by decide +kernel) rfl⟩
/-! calls -/
def qsl (vs : List qV) : List qV := vs.flatMap (fun v => if v.1 = 1 then [v, (8, -1)] else [v])
/-- the locals at a method's start -/
def qent (n : Nat) (vs : List qV) : List qV := qsl vs ++ List.replicate (n - (qsl vs).length) (8, -1)
def qwd (vs : List qV) : Nat := (vs.map (fun v => if v.1 = 1 then 2 else 1)).sum
theorem qwd_eq {ρ : Int → Nat} {vs : List qV} : ((vs.map (qcv ρ)).map fun v => v.category).sum = qwd vs := by
  unfold qwd
  rw [List.map_map]
  congr 1
  apply List.map_congr_left
  intro v _
  show (qcv ρ v).category = _
  by_cases h : v.1 = 1
  · rw [if_pos h, qcat.mpr h]
  · rw [if_neg h, q_cat1 h]
theorem qsl_len {ρ : Int → Nat} {vs : List qV} : (lg_sl (vs.map (qcv ρ))).length = (qsl vs).length := by
  induction vs with
  | nil => rfl
  | cons v t ih =>
    unfold lg_sl qsl at *
    rw [List.map_cons, List.flatMap_cons, List.flatMap_cons, List.length_append, List.length_append, ih]
    by_cases h : v.1 = 1
    · rw [if_pos h, if_pos (qcat.mpr h)]
      rfl
    · rw [if_neg h, if_neg (fun q => h (qcat.mp q))]
      rfl
theorem qlc_rep {ρ : Int → Nat} : ∀ (m i : Nat), qlc ρ i (List.replicate m (8, -1)) = [] := by
  intro m
  induction m with
  | zero => intro i; rfl
  | succ m ih =>
    intro i
    show (if (8 : Nat) = 8 then qlc ρ (i + 1) (List.replicate m (8, -1)) else _) = []
    rw [if_pos rfl, ih]
theorem qent_sub {ρ : Int → Nat} {m : Nat} {vs : List qV} : ∀ (i : Nat), ∀ q ∈ qlc ρ i (qsl vs ++ List.replicate m (8, -1)), q ∈ lv_args i (vs.map (qcv ρ)) := by
  induction vs with
  | nil =>
    intro i q hq
    have e : qsl [] ++ List.replicate m ((8, -1) : qV) = List.replicate m (8, -1) := rfl
    rw [e, qlc_rep] at hq
    cases hq
  | cons v t ih =>
    intro i q hq
    by_cases h : v.1 = 1
    · have e : qsl (v :: t) ++ List.replicate m ((8, -1) : qV) = v :: (8, -1) :: (qsl t ++ List.replicate m (8, -1)) := by
        unfold qsl
        rw [List.flatMap_cons, if_pos h]
        rfl
      rw [e] at hq
      have e2 : qlc ρ i (v :: (8, -1) :: (qsl t ++ List.replicate m (8, -1))) = (i, qcv ρ v) :: qlc ρ (i + 1 + 1) (qsl t ++ List.replicate m (8, -1)) := by
        show (if v.1 = 8 then _ else _) = _
        rw [if_neg (by rw [h]; decide)]
        rfl
      rw [e2] at hq
      rw [List.map_cons]
      show q ∈ (i, qcv ρ v) :: lv_args (if (qcv ρ v).category = 2 then i + 2 else i + 1) _
      rw [if_pos (qcat.mpr h)]
      rcases List.mem_cons.mp hq with q1 | q1
      · exact List.mem_cons.mpr (Or.inl q1)
      · exact List.mem_cons.mpr (Or.inr (ih _ q q1))
    · have e : qsl (v :: t) ++ List.replicate m ((8, -1) : qV) = v :: (qsl t ++ List.replicate m (8, -1)) := by
        unfold qsl
        rw [List.flatMap_cons, if_neg h]
        rfl
      rw [e] at hq
      rw [List.map_cons]
      show q ∈ (i, qcv ρ v) :: lv_args (if (qcv ρ v).category = 2 then i + 2 else i + 1) _
      rw [if_neg (fun z => h (qcat.mp z))]
      have hq2 : q ∈ (if v.1 = 8 then qlc ρ (i + 1) (qsl t ++ List.replicate m (8, -1)) else (i, qcv ρ v) :: qlc ρ (i + 1) (qsl t ++ List.replicate m (8, -1))) := hq
      split at hq2
      · exact List.mem_cons.mpr (Or.inr (ih _ q hq2))
      · rcases List.mem_cons.mp hq2 with q1 | q1
        · exact List.mem_cons.mpr (Or.inl q1)
        · exact List.mem_cons.mpr (Or.inr (ih _ q q1))
theorem qent_ok {n m : Nat} {vs : List qV} (h : ∀ v ∈ vs, qok n v) : ∀ v ∈ qent m vs, qok n v := by
  have h8 : qok n (8, -1) := by show (-1 : Int) < (n : Int); omega
  intro v hv
  unfold qent qsl at hv
  rcases List.mem_append.mp hv with q | q
  · obtain ⟨w, hw, q1⟩ := List.mem_flatMap.mp q
    split at q1
    · rcases List.mem_cons.mp q1 with rfl | q2
      · exact h _ hw
      · rw [List.mem_singleton.mp q2]
        exact h8
    · rw [List.mem_singleton.mp q1]
      exact h _ hw
  · rw [(List.mem_replicate.mp q).2]
    exact h8
def qrm (d mc ms : Nat) : Room := { frames := d, cells := mc, slots := ms, locals := 64 * d }
/-- a method's run, from its start -/
def Run (X : qX) (d mc ms : Nat) (y : qMT) (args : List qV) (g : qG) (Q : Option qV → qG → Prop) : Prop := Ev X d mc ms y 0 (qent y.2.2.1 args) [] g Q
theorem Run.met {X : qX} {d mc ms : Nat} {y : qMT} {args : List qV} {g : qG} {Q : Option qV → qG → Prop} (hrun : Run X d mc ms y args g Q) (hargs : ∀ v ∈ args, qok g.1.length v) (hplain : plainFor y.1 = true) (hlen : (qsl args).length ≤ y.2.2.1) (B0 : Nat) (D : va_G) (kA : Nat → ClassId) (ρ : Int → Nat) :
    Met X.1 y.1 (Cond.code y.1 y.2.1 y.2.2.1 y.2.2.2 :: qw) (qrm d mc ms) (va_Pc (args.map (qcv ρ)) (fun U => qWd X B0 D kA ρ U U.heap [] g)) (qQ B0 D kA ρ g.1.length Q) mc ms (fun q => B0 ≤ q) := by
  refine va_MetF (cc := y.2.1) (maxL := y.2.2.1) (ret := y.2.2.2) hplain rfl ?_
  intro p e s m args' below meth c s₁ B hml hv
  obtain ⟨rfl, hWd⟩ := hv
  have hts := atoms_spec (ws := Cond.code y.1 y.2.1 y.2.2.1 y.2.2.2 :: qw) B.pre
  rw [lg_entry_eq]
  have hl := lv_entry (args.map (qcv ρ)) (n := y.2.2.1) (by rw [qsl_len]; exact hlen)
  have k1 := hrun p e (headSpec (Cond.code y.1 y.2.1 y.2.2.1 y.2.2.2 :: qw) (qrm d mc ms)).room s m (args.map (qcv ρ)).toArray below meth c B0 D kA ρ s.heap [] 0 0 _ ⟨B.exec, B.bytes, B.returns, hml, findClass_of_methodNamed B.named, fun w hw => hts w (List.mem_cons_of_mem _ hw), B.notSynchronized, (name_of_methodNamed B.named B.method).1⟩ ⟨Nat.le_refl _, Nat.le_refl _⟩ ⟨by rw [Nat.zero_add]; exact Nat.le_refl _, by rw [Nat.zero_add]; exact Nat.le_refl _⟩ hWd (qent_ok hargs) (fun v hv => by cases hv) (lv_less hl (qent_sub 0))
  rw [Nat.zero_add, Nat.zero_add] at k1
  exact k1
/-- what a method must have to be called -/
def qMM (n : Nat) (y : qMT) : Prop := Cond.code y.1 y.2.1 y.2.2.1 y.2.2.2 ∈ qw ∧ Cond.initialized y.1.cls ∈ qw ∧ (y.1.cls ≠ "java/lang/invoke/MethodHandle" ∧ y.1.cls ≠ "java/lang/invoke/VarHandle" ∧ (parseMethodDescriptor y.1.desc).map (fun d => d.parameters.length) = some n) ∧ plainFor y.1 = true ∧ y.2.2.1 ≤ 45
def qMV (n ci : Nat) (y : qMT) : Prop := qMM n y ∧ Cond.instanceMethod y.1 ∈ qw ∧ Cond.selects y.1.cls y.1 y.1 ∈ qw ∧ ∃ (T : u_T) (N : Nat), qcl[ci]? = some (y.1.cls, T, N)
def qMS (n : Nat) (y : qMT) : Prop := qMM n y ∧ Cond.static y.1 ∈ qw
def qMI (n : Nat) (y : qMT) : Prop := qMM n y ∧ Cond.instanceMethod y.1 ∈ qw ∧ y.1.name = "<init>" ∧ y.2.2.2 = none
theorem q_good (y : qMT) (hc : Cond.code y.1 y.2.1 y.2.2.1 y.2.2.2 ∈ qw) : GoodIn qw (Cond.code y.1 y.2.1 y.2.2.1 y.2.2.2 :: qw) := by
  intro w hw
  have h1 : w ∈ qw := by
    rcases List.mem_cons.mp hw with rfl | h
    · exact hc
    · exact h
  exact ⟨h1, good_of_word (List.mem_filter.mp h1).2⟩
section
variable {X : qX} {d rc rs : Nat} {y : qMT} {pc : Nat} {L S : List qV} {g : qG} {Q Q' : Option qV → qG → Prop} {yc : qMT} {dc mc ms : Nat}
/-- behind a call -/
theorem q_after {p : Program} {e : Env} {R : Room} {s : State} {m : MethodId} {args : Array Value} {below : List Frame} {meth : Method} {c : Code} {B0 : Nat} {D : va_G} {kA : Nat → ClassId} {ρ : Int → Nat} {H : Heap} {locs : List Loc} {cells slots : Nat} {ls : Array Slot} {rest : List qV} {st0 : List Value} {a : Array Value}
    (hr : va_Run p X.1 e R s m args below meth c H locs cells slots mc ms (F0 m pc ls st0) (rest.map (qcv ρ)) (qQ B0 D kA ρ g.1.length Q' a) (fun q => B0 ≤ q)) (C : qCx y p s m args meth c) (F : d ≤ R.frames ∧ 64 * d ≤ R.locals) (M : cells + (rc + mc) ≤ R.cells ∧ slots + (rs + ms) ≤ R.slots) (Wd : qWd X B0 D kA ρ s H locs g)
    (okL : ∀ v ∈ L, qok g.1.length v) (okR : ∀ v ∈ rest, qok g.1.length v) (hl : lv_has ls y.2.2.1 (qlc ρ 0 L)) (k : ∀ r g', Q' r g' → Ev X d rc rs y (pc + 3) L (r.toList ++ rest) g' Q) :
    W p X.1 e R s m args below meth c H locs cells slots (MQ below (qQ B0 D kA ρ g.1.length Q) args s (cells + (rc + mc)) (slots + (rs + ms)) (fun q => B0 ≤ q)) (F0 m pc ls st0) := by
  intro T hT XT
  obtain ⟨v, st₀, t, T', L', h0, XT', hL', e1, e2, hq, hgo⟩ := hr T hT XT
  obtain ⟨r, g', ρ', q1, q2, q3, q4, q5, q6, q7, q8, q9⟩ := hq
  obtain ⟨hK, hP, hD, hS, hB, hRo, hNs, hWT⟩ := id Wd
  have hv : v = r.map (qcv ρ') := by
    cases q2
    rfl
  have hS' : va_S (fun q => B0 ≤ q) s.heap T'.heap (locs ++ L') := by
    obtain ⟨z1, z2⟩ := q9
    rw [h0] at z1 z2
    refine ⟨Nat.le_trans hS.1 (by rw [e1]; exact z1), fun q h1 h2 => ?_, fun q hq => ?_⟩
    · rw [e1, z2 q (Nat.lt_of_lt_of_le h1 hS.1) h2]
      exact hS.2.1 q h1 h2
    · rcases List.mem_append.mp hq with h | h
      · exact hS.2.2 q h
      · exact hL' q h
  have k1 := k r g' q1 p e R s m args below meth c B0 D kA ρ' T'.heap (locs ++ L') (cells + mc) (slots + ms) ls C F ⟨by omega, by omega⟩ ⟨hK, by rw [e1]; exact q5, q6, hS', hB, qRo_ext (fun j hj => q3 j (by omega)) hRo, hNs, q7⟩ (fun w hw => qok_mono q4 (okL w hw)) (fun w hw => by
    rcases List.mem_append.mp hw with h | h
    · exact q8 w (by simpa using h)
    · exact qok_mono q4 (okR w h)) (by rw [qlc_ext okL q3]; exact hl)
  obtain ⟨t2, a1, b1⟩ := k1 T' rfl XT'
  refine ⟨t2, hgo t2 ?_, ?_⟩
  · have e3 : v.toList ++ rest.map (qcv ρ) = (r.toList ++ rest).map (qcv ρ') := by
      rw [List.map_append, qmap_ext okR q3, hv]
      cases r <;> rfl
    rw [e3]
    exact a1
  · rw [show cells + mc + rc = cells + (rc + mc) by omega, show slots + ms + rs = slots + (rs + ms) by omega] at b1
    exact MQ_mono (fun o t => qQ_mono q4 q3 (fun _ _ z => z) o t) t2 b1
theorem ev_callV {idx ci n : Nat} {b N : Int} {As rest : List qV} (nx : Nat) (hnx : pc + 3 = nx) (hd : decode y.2.1 pc = .ok (.invokevirtual idx, 3)) (hk : Cond.methodLink y.1.cls idx yc.1 ∈ qw) (hM : qMV n ci yc) (hs : qsh g.1 b = some (ci + 5, N)) (hS : S = As.reverse ++ (2, b) :: rest) (hn : As.length = n) (hsl : (qsl ((2, b) :: As)).length ≤ yc.2.2.1) (hw : qwd rest ≤ 8) (hdp : dc + 1 ≤ d)
    (hrun : Run X dc mc ms yc ((2, b) :: As) g Q') (k : ∀ r g', Q' r g' → Ev X d rc rs y nx L (r.toList ++ rest) g' Q) : Ev X d (rc + mc) (rs + ms) y pc L S g Q := by
  subst hnx
  intro p e R s m args below meth c B0 D kA ρ H locs cells slots ls C F M Wd okL okS hl
  subst hS
  obtain ⟨kb, rfl, hkb⟩ := qsh_spec hs
  obtain ⟨⟨m1, m2, m3, m4, m5⟩, m6, m7, T, NN, m8⟩ := hM
  obtain ⟨hK, hP, hD, hS, hB, hRo, hNs, hWT⟩ := id Wd
  have hqw := C.2.2.2.2.2.1
  have okA : ∀ v ∈ (2, (kb : Int)) :: As, qok g.1.length v := fun v hv => okS v (by
    rcases List.mem_cons.mp hv with rfl | h
    · exact List.mem_append_right _ List.mem_cons_self
    · exact List.mem_append_left _ (List.mem_reverse.mpr h))
  have okR : ∀ v ∈ rest, qok g.1.length v := fun v hv => okS v (List.mem_append_right _ (List.mem_cons_of_mem _ hv))
  have hent := qws_get (kA := kA) (ρ := ρ) (g := g) hkb
  have cw : CallW R s args y.1.cls yc.1.cls idx yc.1 yc.2.1 yc.2.2.1 yc.2.2.2 (Cond.code yc.1 yc.2.1 yc.2.2.1 yc.2.2.2 :: qw) (qrm dc mc ms) mc ms n := ⟨callB_of n hqw (q_good yc m1) rfl rfl rfl (hqw _ m2) (hqw _ hk) m3 ⟨by show dc + 1 ≤ _; omega, by show 8 + (_ + 11) + 64 * dc ≤ _; omega⟩, hqw _ m6, hqw _ m7⟩
  have hpre : PreV s H yc.1.cls (ρ kb) (va_Pc (((2, (kb : Int)) :: As).map (qcv ρ)) (fun U => qWd X B0 D kA ρ U U.heap [] g)) (As.map (qcv ρ)) := by
    refine ⟨fun a U G mk q => ⟨q.1, q.2.blind G mk a⟩, va_recv hK hP m8 hent, fun U hU hW => ⟨?_, ?_⟩⟩
    · rw [List.map_cons, qcv_ref (by omega)]
    · show qWd X B0 D kA ρ U U.heap [] g
      rw [hU]
      exact Wd.at hU hW
  have hr := va_runV (g := F0 m pc ls ((As.reverse ++ (2, (kb : Int)) :: rest).map (qcv ρ))) (rest := rest.map (qcv ρ)) (H := H) (locs := locs) (cells := cells) (slots := slots) (e := e) (below := below) (meth := meth) ⟨C.1, C.2.1, C.2.2.2.1, C.2.2.2.2.1, hqw⟩ (Run.met hrun okA m4 hsl B0 D kA ρ) cw hpre rfl (by rw [List.length_map]; exact hn) hl.1 (by
    show List.map (qcv ρ) (As.reverse ++ (2, (kb : Int)) :: rest) = _
    rw [List.map_append, List.map_reverse, List.map_cons, qcv_ref (by omega)]) (by
    show 2 * 0 + _ ≤ 8
    rw [qwd_eq]
    omega) hd ⟨by omega, by omega⟩
  exact q_after hr C F M Wd okL okR hl k
theorem ev_callS {idx n : Nat} {As rest : List qV} (nx : Nat) (hnx : pc + 3 = nx) (hd : decode y.2.1 pc = .ok (.invokestatic idx, 3)) (hk : Cond.methodLink y.1.cls idx yc.1 ∈ qw) (hM : qMS n yc) (hS : S = As.reverse ++ rest) (hn : As.length = n) (hsl : (qsl As).length ≤ yc.2.2.1) (hw : qwd rest ≤ 8) (hdp : dc + 1 ≤ d)
    (hrun : Run X dc mc ms yc As g Q') (k : ∀ r g', Q' r g' → Ev X d rc rs y nx L (r.toList ++ rest) g' Q) : Ev X d (rc + mc) (rs + ms) y pc L S g Q := by
  subst hnx
  intro p e R s m args below meth c B0 D kA ρ H locs cells slots ls C F M Wd okL okS hl
  subst hS
  obtain ⟨⟨m1, m2, m3, m4, m5⟩, m6⟩ := hM
  obtain ⟨hK, hP, hD, hS, hB, hRo, hNs, hWT⟩ := id Wd
  have hqw := C.2.2.2.2.2.1
  have okA : ∀ v ∈ As, qok g.1.length v := fun v hv => okS v (List.mem_append_left _ (List.mem_reverse.mpr hv))
  have okR : ∀ v ∈ rest, qok g.1.length v := fun v hv => okS v (List.mem_append_right _ hv)
  have cw : CallB R s args y.1.cls idx yc.1 yc.2.1 yc.2.2.1 yc.2.2.2 (Cond.code yc.1 yc.2.1 yc.2.2.1 yc.2.2.2 :: qw) (qrm dc mc ms) mc ms n := callB_of n hqw (q_good yc m1) rfl rfl rfl (hqw _ m2) (hqw _ hk) m3 ⟨by show dc + 1 ≤ _; omega, by show 8 + (_ + 11) + 64 * dc ≤ _; omega⟩
  have hpre : PreS s H (va_Pc (As.map (qcv ρ)) (fun U => qWd X B0 D kA ρ U U.heap [] g)) (As.map (qcv ρ)) := ⟨fun a U G mk q => ⟨q.1, q.2.blind G mk a⟩, fun U hU hW => ⟨rfl, by show qWd X B0 D kA ρ U U.heap [] g; rw [hU]; exact Wd.at hU hW⟩⟩
  have hr := va_runS (g := F0 m pc ls ((As.reverse ++ rest).map (qcv ρ))) (rest := rest.map (qcv ρ)) (H := H) (locs := locs) (cells := cells) (slots := slots) (e := e) (below := below) (meth := meth) ⟨C.1, C.2.1, C.2.2.2.1, C.2.2.2.2.1, hqw⟩ (Run.met hrun okA m4 hsl B0 D kA ρ) ⟨cw, hqw _ m6⟩ hpre rfl (by rw [List.length_map]; exact hn) hl.1 (by
    show List.map (qcv ρ) (As.reverse ++ rest) = _
    rw [List.map_append, List.map_reverse]) (by
    show 2 * 0 + _ ≤ 8
    rw [qwd_eq]
    omega) hd ⟨by omega, by omega⟩
  exact q_after hr C F M Wd okL okR hl k
theorem ev_callI {idx n : Nat} {b : Int} {As rest : List qV} (nx : Nat) (hnx : pc + 3 = nx) (hd : decode y.2.1 pc = .ok (.invokespecial idx, 3)) (hk : Cond.methodLink y.1.cls idx yc.1 ∈ qw ∨ ∃ host, Cond.methodLinkNest y.1.cls idx yc.1 host ∈ lw_tbl) (hM : qMI n yc) (hb : b ≠ -1) (hS : S = As.reverse ++ (2, b) :: rest) (hn : As.length = n) (hsl : (qsl ((2, b) :: As)).length ≤ yc.2.2.1) (hw : qwd rest ≤ 8) (hdp : dc + 1 ≤ d)
    (hrun : Run X dc mc ms yc ((2, b) :: As) g Q') (k : ∀ r g', Q' r g' → Ev X d rc rs y nx L (r.toList ++ rest) g' Q) : Ev X d (rc + mc) (rs + ms) y pc L S g Q := by
  subst hnx
  intro p e R s m args below meth c B0 D kA ρ H locs cells slots ls C F M Wd okL okS hl
  subst hS
  obtain ⟨⟨m1, m2, m3, m4, m5⟩, m6, m7, m8⟩ := hM
  obtain ⟨hK, hP, hD, hS, hB, hRo, hNs, hWT⟩ := id Wd
  have hqw := C.2.2.2.2.2.1
  have okA : ∀ v ∈ (2, b) :: As, qok g.1.length v := fun v hv => okS v (by
    rcases List.mem_cons.mp hv with rfl | h
    · exact List.mem_append_right _ List.mem_cons_self
    · exact List.mem_append_left _ (List.mem_reverse.mpr h))
  have okR : ∀ v ∈ rest, qok g.1.length v := fun v hv => okS v (List.mem_append_right _ (List.mem_cons_of_mem _ hv))
  have hpre : PreS s H (va_Pc (((2, b) :: As).map (qcv ρ)) (fun U => qWd X B0 D kA ρ U U.heap [] g)) (.ref (ρ b) :: As.map (qcv ρ)) := by
    refine ⟨fun a U G mk q => ⟨q.1, q.2.blind G mk a⟩, fun U hU hW => ⟨?_, ?_⟩⟩
    · rw [List.map_cons, qcv_ref hb]
    · show qWd X B0 D kA ρ U U.heap [] g
      rw [hU]
      exact Wd.at hU hW
  have hst : (F0 m pc ls ((As.reverse ++ (2, b) :: rest).map (qcv ρ))).stack = (As.map (qcv ρ)).reverse ++ .ref (ρ b) :: rest.map (qcv ρ) := by
    show List.map (qcv ρ) (As.reverse ++ (2, b) :: rest) = _
    rw [List.map_append, List.map_reverse, List.map_cons, qcv_ref hb]
  have hwd : 2 * (F0 m pc ls ((As.reverse ++ (2, b) :: rest).map (qcv ρ))).monitorRoom + ((rest.map (qcv ρ)).map fun v => v.category).sum ≤ 8 := by
    show 2 * 0 + _ ≤ 8
    rw [qwd_eq]
    omega
  rcases hk with hk | ⟨host, hk⟩
  · have cw : CallB R s args y.1.cls idx yc.1 yc.2.1 yc.2.2.1 yc.2.2.2 (Cond.code yc.1 yc.2.1 yc.2.2.1 yc.2.2.2 :: qw) (qrm dc mc ms) mc ms n := callB_of n hqw (q_good yc m1) rfl rfl rfl (hqw _ m2) (hqw _ hk) m3 ⟨by show dc + 1 ≤ _; omega, by show 8 + (_ + 11) + 64 * dc ≤ _; omega⟩
    rw [m8] at cw
    have hr := va_runI (g := F0 m pc ls ((As.reverse ++ (2, b) :: rest).map (qcv ρ))) (rest := rest.map (qcv ρ)) (H := H) (locs := locs) (cells := cells) (slots := slots) (e := e) (below := below) (meth := meth) ⟨C.1, C.2.1, C.2.2.2.1, C.2.2.2.2.1, hqw⟩ (by rw [← m8]; exact Run.met hrun okA m4 hsl B0 D kA ρ) ⟨cw, m7, hqw _ m6⟩ hpre rfl (by rw [List.length_map]; exact hn) hl.1 hst hwd hd ⟨by omega, by omega⟩
    exact q_after hr C F M Wd okL okR hl k
  · have cw : va_CN R s args y.1.cls idx yc.1 host yc.2.1 yc.2.2.1 yc.2.2.2 (Cond.code yc.1 yc.2.1 yc.2.2.1 yc.2.2.2 :: qw) (qrm dc mc ms) mc ms n := va_cnB n hqw (q_good yc m1) rfl rfl rfl (hNs.1 _ _ _ _ hk) (hqw _ m2) m3 ⟨by show dc + 1 ≤ _; omega, by show 8 + (_ + 11) + 64 * dc ≤ _; omega⟩
    rw [m8] at cw
    have hr := va_runIN (g := F0 m pc ls ((As.reverse ++ (2, b) :: rest).map (qcv ρ))) (rest := rest.map (qcv ρ)) (H := H) (locs := locs) (cells := cells) (slots := slots) (e := e) (below := below) (meth := meth) ⟨C.1, C.2.1, C.2.2.2.1, C.2.2.2.2.1, hqw⟩ (by rw [← m8]; exact Run.met hrun okA m4 hsl B0 D kA ρ) ⟨cw, m7, hqw _ m6⟩ hpre rfl (by rw [List.length_map]; exact hn) hl.1 hst hwd hd ⟨by omega, by omega⟩
    exact q_after hr C F M Wd okL okR hl k
/-- Object's own constructor -/
theorem ev_objInit {idx : Nat} {b : Int} {rest : List qV} (nx : Nat) (hnx : pc + 3 = nx) (hd : decode y.2.1 pc = .ok (.invokespecial idx, 3)) (hk : Cond.methodLink y.1.cls idx objectInit ∈ qw) (hb : b ≠ -1) (hw : qwd rest ≤ 8) (hdp : 1 ≤ d) (k : Ev X d rc rs y nx L rest g Q) : Ev X d rc rs y pc L ((2, b) :: rest) g Q := by
  subst hnx
  intro p e R s m args below meth c B0 D kA ρ H locs cells slots ls C F M Wd okL okS hl
  obtain ⟨o1, okS⟩ := List.forall_mem_cons.mp okS
  have hqw := C.2.2.2.2.2.1
  rw [List.map_cons, qcv_ref hb]
  refine W.objInit C.1 C.2.1 C.2.2.2.2.1 (hqw _ hk) (hqw _ q_obj.1) (hqw _ q_obj.2) rfl (hl.1.trans C.2.2.2.1.symm) rfl hd (by omega) ?_ ?_
  · show 2 * 0 + _ + 12 ≤ _
    rw [qwd_eq]
    omega
  · exact k p e R s m args below meth c B0 D kA ρ H locs cells slots ls C F M Wd okL okS hl
end
section
variable {X : qX} {d rc rs : Nat} {y : qMT} {pc : Nat} {L S : List qV} {sh : qS} {pt h : qM} {Q : Option qV → qG → Prop}
/-- System.arraycopy of a row of ints, or of longs -/
def qcp (h : qM) (a : Int) (i : Int) (b : Int) (j n : Int) : qM := fun x k => if x = b ∧ j ≤ k ∧ k < j + n then h a (i + (k - j)) else h x k
theorem qcp_row {h : qM} {a i b j n : Int} : qcp h a i b j n b = fun k => if j ≤ k ∧ k < j + n then h a (i + (k - j)) else h b k := by
  funext k
  simp [qcp]
theorem qcp_ne {h : qM} {a i b j n x : Int} (hx : x ≠ b) : qcp h a i b j n x = h x := by
  funext k
  simp [qcp, hx]
theorem qWT_cp {a b : Nat} {i j n : Int} {ca cb : Nat × Int} (hW : qWT (sh, pt, h)) (ha : sh[a]? = some ca) (hb : sh[b]? = some cb) (hk : ca.1 = cb.1) (hk2 : cb.1 ≤ 1) : qWT (sh, pt, qcp h a i b j n) := by
  intro k c1 hk1
  obtain ⟨h1, h2, h3⟩ := hW k c1 hk1
  refine ⟨h1, fun u => ?_, h3⟩
  show qin (qtg c1.1 u) (qcp h a i b j n k u)
  unfold qcp
  split
  · rename_i q
    have e : k = b := Int.ofNat.inj q.1
    subst e
    have e2 : c1 = cb := Option.some.inj (hk1.symm.trans hb)
    subst e2
    have h4 := (hW a ca ha).2.1 (i + (u - j))
    have e3 : qtg ca.1 (i + (u - j)) = qtg c1.1 u := by
      rw [hk]
      have : c1.1 = 0 ∨ c1.1 = 1 := by omega
      rcases this with e | e <;> rw [e] <;> rfl
    rw [e3] at h4
    exact h4
  · exact h2 u
theorem q_cpy {f : Int → Int} {g : Int → Int} {i j n : Int} {α : Type} (u : Int → α) (h0 : 0 ≤ i) (h1 : 0 ≤ j) (h2 : 0 ≤ n) : (fun k : Nat => u ((fun k : Int => if j ≤ k ∧ k < j + n then f (i + (k - j)) else g k) k)) = va_cpy (fun k : Nat => u (f k)) (fun k : Nat => u (g k)) i.toNat j.toNat n.toNat := by
  funext k
  unfold va_cpy
  by_cases hk : j ≤ (k : Int) ∧ (k : Int) < j + n
  · rw [if_pos (by omega)]
    simp only
    rw [if_pos hk]
    congr 2
    omega
  · rw [if_neg (by omega)]
    simp only
    rw [if_neg hk]
theorem ev_copyI {idx : Nat} {a i b j n na nb : Int} (nx : Nat) (hnx : pc + 3 = nx) (hd : decode y.2.1 pc = .ok (.invokestatic idx, 3)) (hk : Cond.methodLink y.1.cls idx arraycopyName ∈ qw) (ha : qsh sh a = some (0, na)) (hb : qsh sh b = some (0, nb)) (h0 : 0 ≤ i) (h1 : 0 ≤ j) (h2 : 0 ≤ n) (h3 : i + n ≤ na) (h4 : j + n ≤ nb) (hw : qwd S ≤ 8) (hdp : 1 ≤ d)
    (k : Ev X d rc rs y nx L S (sh, pt, qcp h a i b j n) Q) : Ev X d rc rs y pc L ((0, n) :: (0, j) :: (2, b) :: (0, i) :: (2, a) :: S) (sh, pt, h) Q := by
  subst hnx
  intro p e R s m args below meth c B0 D kA ρ H locs cells slots ls C F M Wd okL okS hl
  obtain ⟨ka, rfl, hka⟩ := qsh_spec ha
  obtain ⟨kb, rfl, hkb⟩ := qsh_spec hb
  obtain ⟨o1, okS⟩ := List.forall_mem_cons.mp okS
  obtain ⟨o2, okS⟩ := List.forall_mem_cons.mp okS
  obtain ⟨o3, okS⟩ := List.forall_mem_cons.mp okS
  obtain ⟨o4, okS⟩ := List.forall_mem_cons.mp okS
  obtain ⟨o5, okS⟩ := List.forall_mem_cons.mp okS
  obtain ⟨hK, hP, hD, hS, hB, hRo, hNs, hWT⟩ := id Wd
  have hqw := C.2.2.2.2.2.1
  have wa : na ≤ 100000 := (hWT ka _ hka).1.2
  have wb : nb ≤ 100000 := (hWT kb _ hkb).1.2
  have hea := qws_get (kA := kA) (ρ := ρ) (g := (sh, pt, h)) hka
  have heb := qws_get (kA := kA) (ρ := ρ) (g := (sh, pt, h)) hkb
  have neg : ∀ v : Int, 0 ≤ v → v ≤ 100000 → ¬ Int32.ofInt v < 0 := fun v z1 z2 q => by
    have q1 : Int32.ofInt v < Int32.ofInt 0 := q
    rw [q_lt ⟨by omega, by omega⟩ q_I0] at q1
    omega
  rw [List.map_cons, List.map_cons, List.map_cons, List.map_cons, List.map_cons, qcv_ref (x := (kb : Int)) (by omega), qcv_ref (x := (ka : Int)) (by omega)]
  refine va_copyi (ws := qws kA ρ (sh, pt, h)) (ty := .int) C.1 C.2.1 (C.2.2.2.1.trans hl.1.symm) C.2.2.2.2.1 (hqw _ hk) (hqw _ q_cp.1) (hqw _ q_cp.2.1) (hqw _ q_cp.2.2) hK hP hD hS ka kb 0 0 hea heb rfl rfl rfl (neg i h0 (by omega)) (neg j h1 (by omega)) (neg n h2 (by omega)) (by rw [q_nat h0 (by omega), q_nat h2 (by omega)]; show _ ≤ na.toNat; omega) (by rw [q_nat h1 (by omega), q_nat h2 (by omega)]; show _ ≤ nb.toNat; omega) (fun _ _ => rfl) (by omega) ?_ hd fun H1 locs1 hP1 hD1 hS1 => ?_
  · rw [qwd_eq]
    have e : nativeFrameWords "java/lang/System" "arraycopy" 5 + 11 ≤ 50 := by decide
    omega
  · rw [q_nat h0 (by omega), q_nat h1 (by omega), q_nat h2 (by omega)] at hP1 hD1
    have e1 := qws_set (kA := kA) (ρ := ρ) (pt := pt) (pt' := pt) (h := h) (h' := qcp h ka i kb j n) hkb (e := .inl (kA 0, nb.toNat, .inl (va_cpy (fun k : Nat => Int32.ofInt (h ka k)) (fun k : Nat => Int32.ofInt (h kb k)) i.toNat j.toNat n.toNat))) (by rw [qcp_row, ← q_cpy Int32.ofInt h0 h1 h2]; rfl) (fun _ _ => rfl) (fun z hz => qcp_ne (q_cast_ne hz))
    rw [e1] at hP1 hD1
    exact k p e R s m args below meth c B0 D kA ρ H1 locs1 cells slots ls C F M ⟨hK, hP1, hD1, hS1, hB, hRo, hNs, qWT_cp hWT hka hkb rfl (show _ ≤ 1 from Nat.le_of_ble_eq_true rfl)⟩ okL okS hl
theorem ev_copyL {idx : Nat} {a i b j n na nb : Int} (nx : Nat) (hnx : pc + 3 = nx) (hd : decode y.2.1 pc = .ok (.invokestatic idx, 3)) (hk : Cond.methodLink y.1.cls idx arraycopyName ∈ qw) (ha : qsh sh a = some (1, na)) (hb : qsh sh b = some (1, nb)) (h0 : 0 ≤ i) (h1 : 0 ≤ j) (h2 : 0 ≤ n) (h3 : i + n ≤ na) (h4 : j + n ≤ nb) (hw : qwd S ≤ 8) (hdp : 1 ≤ d)
    (k : Ev X d rc rs y nx L S (sh, pt, qcp h a i b j n) Q) : Ev X d rc rs y pc L ((0, n) :: (0, j) :: (2, b) :: (0, i) :: (2, a) :: S) (sh, pt, h) Q := by
  subst hnx
  intro p e R s m args below meth c B0 D kA ρ H locs cells slots ls C F M Wd okL okS hl
  obtain ⟨ka, rfl, hka⟩ := qsh_spec ha
  obtain ⟨kb, rfl, hkb⟩ := qsh_spec hb
  obtain ⟨o1, okS⟩ := List.forall_mem_cons.mp okS
  obtain ⟨o2, okS⟩ := List.forall_mem_cons.mp okS
  obtain ⟨o3, okS⟩ := List.forall_mem_cons.mp okS
  obtain ⟨o4, okS⟩ := List.forall_mem_cons.mp okS
  obtain ⟨o5, okS⟩ := List.forall_mem_cons.mp okS
  obtain ⟨hK, hP, hD, hS, hB, hRo, hNs, hWT⟩ := id Wd
  have hqw := C.2.2.2.2.2.1
  have wa : na ≤ 100000 := (hWT ka _ hka).1.2
  have wb : nb ≤ 100000 := (hWT kb _ hkb).1.2
  have hea := qws_get (kA := kA) (ρ := ρ) (g := (sh, pt, h)) hka
  have heb := qws_get (kA := kA) (ρ := ρ) (g := (sh, pt, h)) hkb
  have neg : ∀ v : Int, 0 ≤ v → v ≤ 100000 → ¬ Int32.ofInt v < 0 := fun v z1 z2 q => by
    have q1 : Int32.ofInt v < Int32.ofInt 0 := q
    rw [q_lt ⟨by omega, by omega⟩ q_I0] at q1
    omega
  rw [List.map_cons, List.map_cons, List.map_cons, List.map_cons, List.map_cons, qcv_ref (x := (kb : Int)) (by omega), qcv_ref (x := (ka : Int)) (by omega)]
  refine va_copyl (ws := qws kA ρ (sh, pt, h)) (ty := .long) C.1 C.2.1 (C.2.2.2.1.trans hl.1.symm) C.2.2.2.2.1 (hqw _ hk) (hqw _ q_cp.1) (hqw _ q_cp.2.1) (hqw _ q_cp.2.2) hK hP hD hS ka kb 1 1 hea heb rfl rfl rfl (neg i h0 (by omega)) (neg j h1 (by omega)) (neg n h2 (by omega)) (by rw [q_nat h0 (by omega), q_nat h2 (by omega)]; show _ ≤ na.toNat; omega) (by rw [q_nat h1 (by omega), q_nat h2 (by omega)]; show _ ≤ nb.toNat; omega) (fun _ _ => rfl) (by omega) ?_ hd fun H1 locs1 hP1 hD1 hS1 => ?_
  · rw [qwd_eq]
    have e : nativeFrameWords "java/lang/System" "arraycopy" 5 + 11 ≤ 50 := by decide
    omega
  · rw [q_nat h0 (by omega), q_nat h1 (by omega), q_nat h2 (by omega)] at hP1 hD1
    have e1 := qws_set (kA := kA) (ρ := ρ) (pt := pt) (pt' := pt) (h := h) (h' := qcp h ka i kb j n) hkb (e := .inl (kA 1, nb.toNat, .inr (.inl (va_cpy (fun k : Nat => Int64.ofInt (h ka k)) (fun k : Nat => Int64.ofInt (h kb k)) i.toNat j.toNat n.toNat)))) (by rw [qcp_row, ← q_cpy Int64.ofInt h0 h1 h2]; rfl) (fun _ _ => rfl) (fun z hz => qcp_ne (q_cast_ne hz))
    rw [e1] at hP1 hD1
    exact k p e R s m args below meth c B0 D kA ρ H1 locs1 cells slots ls C F M ⟨hK, hP1, hD1, hS1, hB, hRo, hNs, qWT_cp hWT hka hkb rfl (show _ ≤ 1 from Nat.le_of_ble_eq_true rfl)⟩ okL okS hl
end
