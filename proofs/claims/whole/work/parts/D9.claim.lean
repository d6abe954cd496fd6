/-! THE CLAIM OUT OF ONE WALK OF THE LAW'S BODY. Your part is whole_start (and what it stands on); all else here is the same for every law, but numbers. -/
def R_law : String := "DrillFieldLaw"
def lw_P (b : Addr) (xs : List Int32) (args : Array Value) (s : State) : Prop := args = #[.ref b] ∧ s.IntsAt b xs ∧ xs.length ≤ 3072 ∧ (Jvm.Cond.and given_1 narrow_1).before args s = true
def lw_Q (_ : Array Value) (s : State) (o : Outcome) (t : State) : Prop := o = .returned (some (.int 1)) ∧ Framed s o t [] 600000 7302250
def lw_Z (below : List Frame) (a : Array Value) (s : State) : State → Prop := fun t => ∃ o, t.status = .running ∧ Ended t below o ∧ lw_Q a s o t
/-- the law's own end, with 1 on the stack, nothing written that was there before, its room as the claim has it -/
theorem lw_ret {p : Program} {l : Launch} {e : Env} {s : State} {m : MethodId} {below : List Frame} {meth : Method} {c : Code} {b : Nat} (hx : p.tables.exec = Jvm.exec) (hb : c.code = code) (hr : meth.sig.returnType = ret) (hlocks : meth.locks = false) {pc : Nat} {H : Heap} {ls : Array Slot} (hdg : decode code pc = .ok (.ireturn, 1)) : W p l e room_1 s m #[Value.ref b] below meth c H [] 600000 7302250 (lw_Z below #[Value.ref b] s) (F0 m pc ls [.int 1]) := by
  intro T hT X
  obtain ⟨fs, hret, hrun, hended, hW, hframe⟩ := X.leave (v := some (.int 1)) (hlocks := hlocks) (fun h => by rw [hr] at h; cases h)
  have hmeth' : T.vm.method? m = some meth := X.method'
  refine ⟨T.setFrames fs, ?_, .returned (some (.int 1)), hrun, hended, rfl, ⟨_, rfl⟩, hW, hframe⟩
  jvm_step X.here [X.here.top, hx, hb, hdg, hmeth', hr, ret, narrow_b1]
  (try refine ⟨rfl, ?_⟩); (try refine ⟨rfl, ?_⟩)
  first | (intro acts; rw [hret _ acts rfl rfl rfl]) | rw [hret _ _ rfl rfl rfl]
  exact Steps.refl _
/-- what holds at the law's entry: the machine, the code, the tables' words (any of lw_tbl by 'hts w (by decide +kernel)'), the script of L ints xs at the cell b, what the Statement gives of the start (any of its parts by flat_of_before) -/
def lw_At (p : Program) (s : State) (m : MethodId) (meth : Method) (c : Code) (b L : Nat) (xs : Nat → Int32) : Prop :=
  p.tables.exec = Jvm.exec ∧ c.code = code ∧ meth.sig.returnType = ret ∧ c.maxLocals = 4 ∧ s.vm.findClass R_law = some m.cls ∧ (∀ w ∈ lw_tbl, w.before #[Value.ref b] s = true) ∧ va_X b L xs s s.heap ∧ b < s.heap.size ∧ meth.locks = false ∧ (Jvm.Cond.and given_1 narrow_1).before #[Value.ref b] s = true ∧ meth.name = "law"
theorem w_get {l : List Int} (h : ∀ x ∈ l, qL x) (i : Nat) : qL (l.getD i 0) := by
  rw [List.getD_eq_getElem?_getD]
  cases e : l[i]? with
  | none => exact ⟨by decide, by decide⟩
  | some x => exact h x (List.mem_of_getElem? e)
theorem w_getI {l : List Int} (h : ∀ x ∈ l, qI x) (i : Nat) : qI (l.getD i 0) := by
  rw [List.getD_eq_getElem?_getD]
  cases e : l[i]? with
  | none => exact ⟨by decide, by decide⟩
  | some x => exact h x (List.mem_of_getElem? e)
theorem w_E (j : Int) : qI (qstE j) := w_getI (by decide) _
theorem w_N (j : Int) : qI (qstN j) := w_getI (by decide) _
theorem w_W (j : Int) : qL (qstW j) := w_get (by decide) _
theorem w_zero {s : State} {B0 : Nat} {D : va_G} {kA : Nat → ClassId} {ρ : Int → Nat} : va_P D qcl (qws kA ρ (cS 0, cP_0, cH_0)) s.heap ∧ va_D (fun q => B0 ≤ q) (qws kA ρ (cS 0, cP_0, cH_0)) ∧ qWT (cS 0, cP_0, cH_0) := by
  have e : qws kA ρ (cS 0, cP_0, cH_0) = [] := rfl
  rw [e]
  exact ⟨fun k q h => by simp at h, ⟨fun i j p q h => by simp at h, fun k q h => by simp at h⟩, fun k c h => by
    have h : ([] : qS)[k]? = some c := h
    simp at h⟩
theorem w_xs (x : Int32) : qI x.toInt := ⟨Int32.le_toInt x, by have := Int32.toInt_lt x; omega⟩
/-- YOUR PART: from the entry, for every script of at most 3072 ints, the law comes to its end with true -/
theorem whole_start {p : Program} {e : Env} {s : State} {m : MethodId} {below : List Frame} {meth : Method} {c : Code} (l : Launch) {b L : Nat} {xs : Nat → Int32} (hL : L ≤ 3072) (C0 : lw_At p s m meth c b L xs) : W p l e room_1 s m #[Value.ref b] below meth c s.heap [] 0 0 (lw_Z below #[Value.ref b] s) (entryFrame m ([Value.ref b] : List Value).toArray 4) := by
  obtain ⟨hx, hb, hr, hml, hown, hts, hX, hbl, hlocks, hgv, hname⟩ := id C0
  have hqw : ∀ w ∈ qw, w.before #[Value.ref b] s = true := fun w h => hts w (List.mem_filter.mp h).1
  have hAO : va_AO RX8 s := va_AO.of (hts _ (by decide +kernel))
  have hNs : qNs s := ⟨fun a i x h hm => va_Nw.of rfl (hts _ hm), hAO⟩
  obtain ⟨D, kA, hK⟩ := w_K hqw hAO
  obtain ⟨tE, tE1, tE2⟩ := w_stE hts hgv
  obtain ⟨tN, tN1, tN2⟩ := w_stN hts hgv
  obtain ⟨tW, tW1, tW2⟩ := w_stW hts hgv
  let X : qX := (l, L, fun j => (xs j.toNat).toInt)
  let ρ : Int → Nat := fun k => if k = -2 then b else if k = -3 then tE else if k = -4 then tN else tW
  have r2 : ρ (-2) = b := rfl
  have r3 : ρ (-3) = tE := rfl
  have r4 : ρ (-4) = tN := rfl
  have r5 : ρ (-5) = tW := rfl
  have hq : ∀ j, qI (X.2.2 j) := fun j => w_xs _
  have hRo : qRo X s.heap.size ρ s := by
    refine ⟨?_, ?_⟩
    · intro a t N f h
      unfold qro at h
      by_cases c2 : a = -2
      · subst c2
        rw [if_pos rfl] at h
        cases h
        rw [r2]
        obtain ⟨scr, h1, h2, h3, h4, h5⟩ := hX
        refine ⟨⟨scr, h1, h2, h3, Nat.le_of_eq h4.symm, by rw [h4]; rfl, fun j hj => ?_, Nat.not_le.mpr hbl⟩, hq, by decide, Int.natCast_nonneg _, by show (L : Int) ≤ 100000; omega⟩
        have hj : j < L := hj
        rw [h5 j hj]
        show some (Value.int (xs j)) = some (Value.int (Int32.ofInt ((xs ((j : Int).toNat)).toInt)))
        rw [Int32.ofInt_toInt, Int.toNat_natCast]
      rw [if_neg c2] at h
      by_cases c3 : a = -3
      · subst c3
        rw [if_pos rfl] at h
        cases h
        rw [r3]
        exact ⟨tE1, fun j => w_E j, by decide, by decide, by decide⟩
      rw [if_neg c3] at h
      by_cases c4 : a = -4
      · subst c4
        rw [if_pos rfl] at h
        cases h
        rw [r4]
        exact ⟨tN1, fun j => w_N j, by decide, by decide, by decide⟩
      rw [if_neg c4] at h
      by_cases c5 : a = -5
      · subst c5
        rw [if_pos rfl] at h
        cases h
        rw [r5]
        exact ⟨tW1, fun j => w_W j, by decide, by decide, by decide⟩
      rw [if_neg c5] at h
      cases h
    · intro q hq
      have hq : q ∈ [(RX2, "EAST_STEP", "[I", (-3 : Int)), (RX2, "NORTH_STEP", "[I", -4), (RX4, "ORDER_WORDS", "[J", -5)] := hq
      rcases List.mem_cons.mp hq with rfl | hq
      · exact tE2
      rcases List.mem_cons.mp hq with rfl | hq
      · exact tN2
      rcases List.mem_cons.mp hq with rfl | hq
      · exact tW2
      cases hq
  have z0 := w_zero (s := s) (B0 := s.heap.size) (D := D) (kA := kA) (ρ := ρ)
  have hl := lv_entry ([.ref b]) (n := 4) (Nat.le_of_ble_eq_true rfl)
  rw [lg_entry_eq]
  generalize (lg_sl ([.ref b]) ++ List.replicate (4 - (lg_sl ([.ref b])).length) Slot.unset).toArray = ls at hl ⊢
  have hl : lv_has ls 4 [(0, .ref b)] := hl
  have k1 := law_all (X := X) (d := 0) hq hL p e room_1 s m #[Value.ref b] below meth c s.heap.size D kA ρ s.heap [] 0 0 ls ⟨hx, hb, hr, hml, hown, hqw, hlocks, hname⟩ ⟨by decide, by decide⟩ ⟨by decide, by decide⟩ ⟨hK, z0.1, z0.2.1, va_S.rf, Nat.le_refl _, hRo, hNs, z0.2.2⟩ (fun v hv => by
    have hv : v ∈ [((2, -2) : qV), (8, -1), (8, -1), (8, -1)] := hv
    rcases List.mem_cons.mp hv with rfl | hv
    · show (-2 : Int) < 0
      decide
    rcases List.mem_cons.mp hv with rfl | hv
    · show (-1 : Int) < 0
      decide
    rcases List.mem_cons.mp hv with rfl | hv
    · show (-1 : Int) < 0
      decide
    rcases List.mem_cons.mp hv with rfl | hv
    · show (-1 : Int) < 0
      decide
    cases hv) (fun v hv => by cases hv) hl
  refine W_mono (fun t z => ?_) k1
  obtain ⟨o, st, en, qq, J, fe, hf⟩ := z
  obtain ⟨r, g', ρ', er, eo, -⟩ := qq
  refine ⟨o, st, en, ?_, fe.1, fe.2.1, ?_⟩
  · rw [eo, er]
    rfl
  · have z1 : s.sameButNew ({ t with vm := s.vm } : State) ([] ++ J) (0 + 139) (0 + 151704) := fe.2.2
    exact (State.sameButNew.drop_fresh z1 (fun x hx => hf x hx)).mono (by decide) (by decide)
set_option maxHeartbeats 4000000 in
theorem lw_walk (l : Launch) (b : Addr) (xs : List Int32) : MetFree l x (headSpec (Jvm.Cond.code x code maxLocals ret :: tables_1) room_1) (lw_P b xs) (fun _ _ _ _ _ => True) lw_Q := by
  refine MetFree.of_bodyS (code := code) (maxLocals := maxLocals) (ret := ret) (by decide) ?_ ?_
  · intro args s m h hn
    obtain ⟨meth, c, h1, h2, h3, h4, h5, h6, -, -⟩ := Cond.code_spec hn (atoms_spec (ws := Jvm.Cond.code x code maxLocals ret :: tables_1) h _ List.mem_cons_self)
    exact ⟨meth, c, h1, h2, h3, h4, h5, h6⟩
  · intro p e s m args below meth c s₁ B hml0 hP _
    obtain ⟨rfl, hx, hbd, hgv⟩ := hP
    obtain ⟨scr, harrAt, hlist, hof, hsmall⟩ := hx
    obtain ⟨hcb, hkn, -, -⟩ := State.arrayAt?_spec harrAt
    have hown : s.vm.findClass R_law = some m.cls := findClass_of_methodNamed B.named
    have hts0 : ∀ c ∈ (Jvm.Cond.code x code maxLocals ret :: tables_1), c.before #[Value.ref b] s = true := atoms_spec (ws := Jvm.Cond.code x code maxLocals ret :: tables_1) B.pre
    have hts : ∀ w ∈ lw_tbl, w.before #[Value.ref b] s = true := k2_hts_sels lw_privs (fun w hw => hts0 w (List.mem_cons_of_mem _ hw)) lw_privs_ok
    have hml : c.maxLocals = 4 := B.maxLocals_eq (hts0 _ List.mem_cons_self)
    have X₀ : Stand p l e room_1 s m #[Value.ref b] below meth c s₁ [] 0 0 := Stand.of_body B
    have hh0 : s₁.heap = s.heap := by rw [B.state]; rfl
    have hsz : scr.slots.size = xs.length := by rw [← Array.length_toList, hlist, List.length_map]
    have hval : ∀ j : Nat, j < xs.length → scr.slots[j]? = some (.int (xs.getD j 0)) := fun j hj => by
      rw [← Array.getElem?_toList, hlist]
      simp [hj]
    have hbl : b < s.heap.size := (Array.getElem?_eq_some_iff.mp hcb).1
    have hX : va_X b xs.length (fun j => xs.getD j 0) s s.heap := ⟨scr, hcb, hof, hkn, hsz, hval⟩
    have K : W p l e room_1 s m #[Value.ref b] below meth c s₁.heap [] 0 0 (lw_Z below #[Value.ref b] s) (entryFrame m ([Value.ref b] : List Value).toArray 4) := by
      rw [hh0]
      exact whole_start l hbd ⟨B.exec, B.bytes, B.returns, hml, hown, hts, hX, hbl, B.notSynchronized, hgv, (name_of_methodNamed B.named B.method).1⟩
    obtain ⟨t, a1, o, b1, b2, b3⟩ := K s₁ rfl X₀
    exact ⟨t, o, a1, b1, b2, b3⟩
theorem lw_pre_spec {args : Array Value} {s : State} (h : (Jvm.Cond.and given_1 narrow_1).before args s = true) (hr : rest_1_c.before args s = true) : ∃ (b : Addr) (xs : List Int32), lw_P b xs args s := by
  have hs := flat_of_before _ h
  have hq := flat_of_before _ hr
  have hc : (Cond.count 1).before args s = true := hs _ (by decide +kernel)
  have harr : (Cond.arrayOf (.arg 0) .int).before args s = true := hs _ (by decide +kernel)
  have hle : (Cond.le (.length (.arg 0)) (.int 3072)).before args s = true := hs _ (by decide +kernel)
  have hlen : (Cond.isInt (.length (.arg 0))).before args s = true := hq _ (by decide +kernel)
  have hall : (Cond.all (.arg 0) (.isInt (.elem (.arg 0) (.index 0)))).before args s = true := hq _ (by decide +kernel)
  obtain ⟨b, xs, hb, hx⟩ := State.ints_of_pre rfl harr hlen hall
  have hsm : xs.length < 2 ^ 31 := hx.choose_spec.2.2.2
  have hev : (Term.length (.arg 0)).eval args s none [] s = some (.int xs.length.toInt32) := hx.length_eval hb
  have hv := Cond.le_ints hev (show (Term.int 3072).eval args s none [] s = some (.int 3072) from rfl)
  have hd : xs.length.toInt32 ≤ 3072 := by
    simpa [Cond.before, Cond.holds, hv] using hle
  have hN : xs.length ≤ 3072 := (Int32.ofNat_le_ofNat hsm (by decide)).mp (show Int32.ofNat xs.length ≤ Int32.ofNat 3072 from hd)
  exact ⟨b, xs, Cond.one_arg hc (show args[0]? = some (.ref b) from hb), hx, hN, h⟩
theorem lw_comes (l : Launch) : Comes l x (Jvm.Cond.code x code maxLocals ret :: tables_1) room_1 (fun tb e args s => Calls_1 tb e args s ∧ rest_1 tb e args s ∧ Pre_1 tb e args s)
    (fun _ _ args s o t => lw_Q args s o t) := by
  intro p e ha hc hk s m args below hf hfit hheap happ hpre
  obtain ⟨b, xs, hP⟩ := lw_pre_spec hpre.2.2 hpre.2.1
  obtain ⟨k, o, h1, h2, h3, hQ⟩ := lw_walk l b xs p e ha hc hk s m args below hf ((Spec.applies_iff_loose hf).mp happ).1 hP trivial
  exact ⟨k, o, h1, h2, h3, hQ⟩
theorem lw_frame {s t : State} {o : Outcome} {args : Array Value} (h : Framed s o t [] 600000 7302250) :
    Framed s o t (fieldLocs frame_1_writes args s ++ arrayLocs frame_1_arrays args s ++ staticLocs frame_1_statics s) 600000 7302250 := h
theorem lw_limb (L : Cond) (hL : ∀ (args : Array Value) (s t : State), L.after args s (.returned (some (.int 1))) t = true) :
    ArmFor flags0 classFile x code maxLocals ret World_1 tables_1 room_1 Calls_1 rest_1 Pre_1
      (fun tb e a s o t => postC L tb e a s o t ∧ Framed s o t (fieldLocs frame_1_writes a s ++ arrayLocs frame_1_arrays a s ++ staticLocs frame_1_statics s) 600000 7302250) := by
  intro l _ _ _ p e ha hc hk s m args below hf hfit hheap happ hpre
  obtain ⟨k, o, h1, h2, h3, rfl, hF⟩ := lw_comes l p e ha hc hk s m args below hf hfit hheap happ hpre
  exact ⟨k, _, h1, h2, h3, hL args s _, lw_frame hF⟩
theorem i_vc : Claimed_1_1 ∧ Claimed_1_2 := ⟨lw_limb limb_1_1 (fun args s t => by simp [limb_1_1, Cond.after, Cond.holds, Cond.value]), lw_limb limb_1_2 (fun args s t => Cond.after_iff.mpr (by
  first | (rw [show limb_1_2 = Cond.eq .result (.int 1) from rfl, Cond.eq_ints (x := 1) (y := 1) rfl rfl]; simp; done) | (simp [limb_1_2, Cond.value, Term.eval]; done)))⟩
