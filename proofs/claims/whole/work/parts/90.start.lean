/-! FROM THE LAW'S ENTRY -/
theorem k_prim {s : State} {args : Array Value} {ty : FieldType} (h : (Cond.arrayClass ty).before args s = true) (hRA : ∀ cA : ClassId, va_RA s cA ty = (s.vm.findClass ("[" ++ ty.toString) = some cA)) : ∃ cA : ClassId, ArrOfT s cA ty ∧ va_RA s cA ty := by
  obtain ⟨c, k, comp, h1, h2, h3⟩ := Cond.arrayClass_spec h
  exact ⟨c, fun n z => ⟨fun k h => (by cases h), k, h2, comp, h3⟩, by rw [hRA]; exact h1⟩
theorem k_obj {s : State} {args : Array Value} {C : String} (h : (Cond.arrayOver (.object C)).before args s = true) : ∃ cA : ClassId, ArrOfT s cA (.object C) ∧ va_RA s cA (.object C) := by
  obtain ⟨comp, c, k, h1, h2, h3, h4, h5⟩ := Cond.arrayOver_spec h
  exact ⟨c, fun n z => ⟨fun k h => (by cases h), k, h3, comp, h4⟩, k, comp, h3, h4, h1, h5⟩
set_option maxRecDepth 100000 in
theorem gZ.start {s : State} {b : Nat} (hts : ∀ w ∈ lw_tbl, w.before #[Value.ref b] s = true) (hgv : (Jvm.Cond.and given_1 narrow_1).before #[Value.ref b] s = true) : gZ s.heap s := by
  have hfl := flat_of_before _ hgv
  have hA : ∀ a : Nat, a < s.heap.size → ¬ (fun q : Nat => s.heap.size ≤ q) a := fun a h => Nat.not_le.mpr h
  refine ⟨⟨vx_Zqof (hts _ (by decide +kernel)) (hts _ (by decide +kernel)) (hfl _ (by decide +kernel)) hA, vx_Zqof (hts _ (by decide +kernel)) (hts _ (by decide +kernel)) (hfl _ (by decide +kernel)) hA⟩, fun w hw => ?_, fun C hC => ?_, fun x hx => ?_, fun x hx => ?_⟩
  · have h : (gNest ++ (gDecl ++ gCast)).all (fun w => decide (w ∈ lw_tbl) && w.onTables) = true := by decide +kernel
    have h1 := List.all_eq_true.mp h w hw
    rw [Bool.and_eq_true, decide_eq_true_eq] at h1
    exact va_Nw.of h1.2 (hts w h1.1)
  · have h : gOver.all (fun C => decide (Cond.arrayOver (.object C) ∈ lw_tbl)) = true := by decide +kernel
    exact va_AO.of (hts _ (of_decide_eq_true (List.all_eq_true.mp h C hC)))
  · have h : gStr.all (fun x => decide (Cond.stringRef "PlanText" x.1 x.2 ∈ lw_tbl)) = true := by decide +kernel
    have h2 : gStr.all (fun x => decide (Cond.exactly (.string "PlanText" x.1) "java/lang/String" ∈ flatC (Jvm.Cond.and given_1 narrow_1))) = true := by decide +kernel
    have h3 := hfl _ (of_decide_eq_true (List.all_eq_true.mp h2 x hx))
    obtain ⟨a, c, cA, kA, q1, -⟩ := Cond.exactly_spec (args := #[Value.ref b]) (first := s) (o := none) (s := s) (idx := []) h3
    exact ⟨a, vk_R.of (hts _ (of_decide_eq_true (List.all_eq_true.mp h x hx))) q1⟩
  · have h : gNot.all (fun x => decide (Cond.not (.castable x.1 x.2) ∈ flatC (Jvm.Cond.and given_1 narrow_1))) = true := by decide +kernel
    exact va_Nc.of (hfl _ (of_decide_eq_true (List.all_eq_true.mp h x hx)))
set_option maxRecDepth 100000 in
set_option maxHeartbeats 4000000 in
theorem whole_start {p : Program} {e : Env} {s : State} {m : MethodId} {below : List Frame} {meth : Method} {c : Code} (l : Launch) (hst : l.stackTraces = false) {b L : Nat} {xs : Nat → Int32} (hL : L ≤ 3072) (C0 : lw_At p s m meth c b L xs) : W p l e room_1 s m #[Value.ref b] below meth c s.heap [] 0 0 (lw_Z below #[Value.ref b] s) (entryFrame m ([Value.ref b] : List Value).toArray 7) := by
  obtain ⟨hx, hb, hr, hml, hown, hts, hX, hbl, hlocks, hgv⟩ := id C0
  have hg : ∀ w ∈ lw_good, w.before #[Value.ref b] s = true := fun w hw => hts w (List.mem_filter.mp hw).1
  have hZ := gZ.start hts hgv
  obtain ⟨c0, iS0, hKn0⟩ := u_known (C := "PlanText") (T := T_PT) (N := 11) (n := 11) hg i_PT (hts _ (by decide +kernel : Cond.instantiable "PlanText" 11 ∈ lw_tbl))
  obtain ⟨c1, iS1, hKn1⟩ := u_known (C := "PlanText$Edition") (T := T_Ed) (N := 7) (n := 7) hg i_Ed (hts _ (by decide +kernel : Cond.instantiable "PlanText$Edition" 7 ∈ lw_tbl))
  obtain ⟨c2, iS2, hKn2⟩ := u_known (C := "PlanText$Hours") (T := T_Hr) (N := 4) (n := 4) hg i_Hr (hts _ (by decide +kernel : Cond.instantiable "PlanText$Hours" 4 ∈ lw_tbl))
  obtain ⟨c3, iS3, hKn3⟩ := u_known (C := "PlanText$Need") (T := T_Nd) (N := 5) (n := 5) hg i_Nd (hts _ (by decide +kernel : Cond.instantiable "PlanText$Need" 5 ∈ lw_tbl))
  obtain ⟨c4, iS4, hKn4⟩ := u_known (C := "PlanText$NeedList") (T := T_NL) (N := 2) (n := 2) hg i_NL (hts _ (by decide +kernel : Cond.instantiable "PlanText$NeedList" 2 ∈ lw_tbl))
  obtain ⟨c5, iS5, hKn5⟩ := u_known (C := "PlanText$Plan") (T := T_Pl) (N := 6) (n := 6) hg i_Pl (hts _ (by decide +kernel : Cond.instantiable "PlanText$Plan" 6 ∈ lw_tbl))
  obtain ⟨c6, iS6, hKn6⟩ := u_known (C := "PlanText$Printer") (T := T_Pr) (N := 2) (n := 2) hg i_Pr (hts _ (by decide +kernel : Cond.instantiable "PlanText$Printer" 2 ∈ lw_tbl))
  obtain ⟨c7, iS7, hKn7⟩ := u_known (C := "PlanText$Reader") (T := T_Rd) (N := 4) (n := 4) hg i_Rd (hts _ (by decide +kernel : Cond.instantiable "PlanText$Reader" 4 ∈ lw_tbl))
  obtain ⟨c8, iS8, hKn8⟩ := u_known (C := "PlanText$Standby") (T := T_Sb) (N := 4) (n := 4) hg i_Sb (hts _ (by decide +kernel : Cond.instantiable "PlanText$Standby" 4 ∈ lw_tbl))
  obtain ⟨c9, iS9, hKn9⟩ := u_known (C := "PlanText$Stretch") (T := T_Sx) (N := 3) (n := 3) hg i_Sx (hts _ (by decide +kernel : Cond.instantiable "PlanText$Stretch" 3 ∈ lw_tbl))
  obtain ⟨c10, iS10, hKn10⟩ := u_known (C := "PlanTextModel") (T := T_Mo) (N := 26) (n := 26) hg i_Mo (hts _ (by decide +kernel : Cond.instantiable "PlanTextModel" 26 ∈ lw_tbl))
  obtain ⟨dC, dI, hKc⟩ : ∃ (dC : Nat → ClassId) (dI : Nat → Nat → Nat), ∀ (k : Nat) (q : vw_C), vwCl[k]? = some q → u_Kn s q.1 q.2.1 q.2.2 (dC k) (dI k) := by
    refine ⟨fun k => if k = 0 then c0 else if k = 1 then c1 else if k = 2 then c2 else if k = 3 then c3 else if k = 4 then c4 else if k = 5 then c5 else if k = 6 then c6 else if k = 7 then c7 else if k = 8 then c8 else if k = 9 then c9 else c10, fun k => if k = 0 then iS0 else if k = 1 then iS1 else if k = 2 then iS2 else if k = 3 then iS3 else if k = 4 then iS4 else if k = 5 then iS5 else if k = 6 then iS6 else if k = 7 then iS7 else if k = 8 then iS8 else if k = 9 then iS9 else iS10, ?_⟩
    intro k q hq
    match k, hq with
    | 0, hq => cases hq; exact hKn0
    | 1, hq => cases hq; exact hKn1
    | 2, hq => cases hq; exact hKn2
    | 3, hq => cases hq; exact hKn3
    | 4, hq => cases hq; exact hKn4
    | 5, hq => cases hq; exact hKn5
    | 6, hq => cases hq; exact hKn6
    | 7, hq => cases hq; exact hKn7
    | 8, hq => cases hq; exact hKn8
    | 9, hq => cases hq; exact hKn9
    | 10, hq => cases hq; exact hKn10
    | k + 11, hq => simp [vwCl] at hq
  obtain ⟨e0, hE0⟩ := k_prim (ty := .int) (hts _ (by decide +kernel : Cond.arrayClass .int ∈ lw_tbl)) (fun _ => rfl)
  obtain ⟨e1, hE1⟩ := k_prim (ty := .long) (hts _ (by decide +kernel : Cond.arrayClass .long ∈ lw_tbl)) (fun _ => rfl)
  obtain ⟨e2, hE2⟩ := k_prim (ty := .byte) (hts _ (by decide +kernel : Cond.arrayClass .byte ∈ lw_tbl)) (fun _ => rfl)
  obtain ⟨e3, hE3⟩ := k_prim (ty := .boolean) (hts _ (by decide +kernel : Cond.arrayClass .boolean ∈ lw_tbl)) (fun _ => rfl)
  obtain ⟨e4, hE4⟩ := k_obj (C := "PlanText$Edition") (hts _ (by decide +kernel : Cond.arrayOver (.object "PlanText$Edition") ∈ lw_tbl))
  obtain ⟨e5, hE5⟩ := k_obj (C := "PlanText$Plan") (hts _ (by decide +kernel : Cond.arrayOver (.object "PlanText$Plan") ∈ lw_tbl))
  obtain ⟨e6, hE6⟩ := k_obj (C := "PlanText$NeedList") (hts _ (by decide +kernel : Cond.arrayOver (.object "PlanText$NeedList") ∈ lw_tbl))
  obtain ⟨e7, hE7⟩ := k_obj (C := "PlanText$Standby") (hts _ (by decide +kernel : Cond.arrayOver (.object "PlanText$Standby") ∈ lw_tbl))
  obtain ⟨e8, hE8⟩ := k_obj (C := "PlanText$Need") (hts _ (by decide +kernel : Cond.arrayOver (.object "PlanText$Need") ∈ lw_tbl))
  obtain ⟨cT, hcT⟩ : ∃ cT : Nat → ClassId, ∀ (t : Nat) (ty : FieldType), gKinds[t]? = some ty → ArrOfT s (cT t) ty ∧ va_RA s (cT t) ty := by
    refine ⟨fun k => if k = 0 then e0 else if k = 1 then e1 else if k = 2 then e2 else if k = 3 then e3 else if k = 4 then e4 else if k = 5 then e5 else if k = 6 then e6 else if k = 7 then e7 else e8, ?_⟩
    intro k q hq
    match k, hq with
    | 0, hq => cases hq; exact hE0
    | 1, hq => cases hq; exact hE1
    | 2, hq => cases hq; exact hE2
    | 3, hq => cases hq; exact hE3
    | 4, hq => cases hq; exact hE4
    | 5, hq => cases hq; exact hE5
    | 6, hq => cases hq; exact hE6
    | 7, hq => cases hq; exact hE7
    | 8, hq => cases hq; exact hE8
    | k + 9, hq => simp [gKinds] at hq
  obtain ⟨S', hden⟩ := law_true xs L s.heap.size hL
  have Y : gYL (dC, dI) cT p s m meth c b L xs ((fun _ => none), s.heap.size, 0, 0) := ⟨⟨hx, hb, hml, hown, hg, ⟨⟨hKc, fun k q h => by simp at h⟩, hcT⟩, hlocks, rfl, rfl, rfl, rfl⟩, hZ, trivial, hr, hX, hbl⟩
  exact law_start (l := l) (e := e) (below := below) hst Y hden s.heap [] ⟨⟨Nat.le_refl _, Nat.zero_le _, Nat.zero_le _⟩, rfl, fun _ _ => rfl, fun a e h => by cases h⟩ (fun q h => by cases h) (Nat.le_refl _) (Nat.le_refl _)
-- ===== YOUR PART ENDS =====
set_option maxHeartbeats 4000000 in
theorem lw_walk (l : Launch) (hst : l.stackTraces = false) (b : Addr) (xs : List Int32) : MetFree l x (headSpec (Jvm.Cond.code x code maxLocals ret :: tables_1) room_1) (lw_P b xs) (fun _ _ _ _ _ => True) lw_Q := by
  refine MetFree.of_bodyS (code := code) (maxLocals := maxLocals) (ret := ret) (by decide) ?_ ?_
  · intro args s m h hn
    obtain ⟨meth, c, h1, h2, h3, h4, h5, h6, -, -⟩ := Cond.code_spec hn (atoms_spec (ws := Jvm.Cond.code x code maxLocals ret :: tables_1) h _ List.mem_cons_self)
    exact ⟨meth, c, h1, h2, h3, h4, h5, h6⟩
  · intro p e s m args below meth c s₁ B hml0 hP _
    obtain ⟨rfl, hx, hbd, hgv⟩ := hP
    obtain ⟨scr, harrAt, hlist, hof, hsmall⟩ := hx
    obtain ⟨hcb, hkn, -, -⟩ := State.arrayAt?_spec harrAt
    have hown : s.vm.findClass R_law = some m.cls := findClass_of_methodNamed B.named
    have hts0 : ∀ c ∈ (Jvm.Cond.code x code maxLocals ret :: tables_1), c.before #[Value.ref b] s = true := atoms_spec (ws := Jvm.Cond.code x code maxLocals ret :: tables_1) B.pre
    have hts : ∀ w ∈ lw_tbl, w.before #[Value.ref b] s = true := k2_hts_sels lw_privs (fun w hw => hts0 w (List.mem_cons_of_mem _ hw)) lw_privs_ok
    have hml : c.maxLocals = 7 := B.maxLocals_eq (hts0 _ List.mem_cons_self)
    have X₀ : Stand p l e room_1 s m #[Value.ref b] below meth c s₁ [] 0 0 := Stand.of_body B
    have hh0 : s₁.heap = s.heap := by rw [B.state]; rfl
    have hsz : scr.slots.size = xs.length := by rw [← Array.length_toList, hlist, List.length_map]
    have hval : ∀ j : Nat, j < xs.length → scr.slots[j]? = some (.int (xs.getD j 0)) := fun j hj => by
      rw [← Array.getElem?_toList, hlist]
      simp [hj]
    have hbl : b < s.heap.size := (Array.getElem?_eq_some_iff.mp hcb).1
    have hX : va_X b xs.length (fun j => xs.getD j 0) s s.heap := ⟨scr, hcb, hof, hkn, hsz, hval⟩
    have K : W p l e room_1 s m #[Value.ref b] below meth c s₁.heap [] 0 0 (lw_Z below #[Value.ref b] s) (entryFrame m ([Value.ref b] : List Value).toArray 7) := by
      rw [hh0]
      exact whole_start l hst hbd ⟨B.exec, B.bytes, B.returns, hml, hown, hts, hX, hbl, B.notSynchronized, hgv⟩
    obtain ⟨t, a1, o, b1, b2, b3⟩ := K s₁ rfl X₀
    exact ⟨t, o, a1, b1, b2, b3⟩
theorem lw_pre_spec {args : Array Value} {s : State} (h : (Jvm.Cond.and given_1 narrow_1).before args s = true) (hr : rest_1_c.before args s = true) : ∃ (b : Addr) (xs : List Int32), lw_P b xs args s := by
  have hs := flat_of_before _ h
  have hq := flat_of_before _ hr
  have hc : (Cond.count 1).before args s = true := hs _ (by decide +kernel)
  have harr : (Cond.arrayOf (.arg 0) .int).before args s = true := hs _ (by decide +kernel)
  have hle : (Cond.le (.length (.arg 0)) (.int 3072)).before args s = true := hs _ (by decide +kernel)
  have hlen : (Cond.isInt (.length (.arg 0))).before args s = true := hq _ (by decide +kernel)
  have hall : (Cond.all (.arg 0) (.isInt (.elem (.arg 0) (.index 0)))).before args s = true := hq _ (by decide +kernel)
  obtain ⟨b, xs, hb, hx⟩ := State.ints_of_pre rfl harr hlen hall
  have hsm : xs.length < 2 ^ 31 := hx.choose_spec.2.2.2
  have hev : (Term.length (.arg 0)).eval args s none [] s = some (.int xs.length.toInt32) := hx.length_eval hb
  have hv := Cond.le_ints hev (show (Term.int 3072).eval args s none [] s = some (.int 3072) from rfl)
  have hd : xs.length.toInt32 ≤ 3072 := by
    simpa [Cond.before, Cond.holds, hv] using hle
  have hN : xs.length ≤ 3072 := (Int32.ofNat_le_ofNat hsm (by decide)).mp (show Int32.ofNat xs.length ≤ Int32.ofNat 3072 from hd)
  exact ⟨b, xs, Cond.one_arg hc (show args[0]? = some (.ref b) from hb), hx, hN, h⟩
theorem lw_comes (l : Launch) (hst : l.stackTraces = false) : Comes l x (Jvm.Cond.code x code maxLocals ret :: tables_1) room_1 (fun tb e args s => Calls_1 tb e args s ∧ rest_1 tb e args s ∧ Pre_1 tb e args s)
    (fun _ _ args s o t => lw_Q args s o t) := by
  intro p e ha hc hk s m args below hf hfit hheap happ hpre
  obtain ⟨b, xs, hP⟩ := lw_pre_spec hpre.2.2 hpre.2.1
  obtain ⟨k, o, h1, h2, h3, hQ⟩ := lw_walk l hst b xs p e ha hc hk s m args below hf ((Spec.applies_iff_loose hf).mp happ).1 hP trivial
  exact ⟨k, o, h1, h2, h3, hQ⟩
theorem lw_frame {s t : State} {o : Outcome} {args : Array Value} (h : Framed s o t [] 601024 7293034) :
    Framed s o t (fieldLocs frame_1_writes args s ++ arrayLocs frame_1_arrays args s ++ staticLocs frame_1_statics s) 601024 7293034 := h
theorem lw_limb (L : Cond) (hL : ∀ (args : Array Value) (s t : State), L.after args s (.returned (some (.int 1))) t = true) :
    ArmFor flags0 classFile x code maxLocals ret World_1 tables_1 room_1 Calls_1 rest_1 Pre_1
      (fun tb e a s o t => postC L tb e a s o t ∧ Framed s o t (fieldLocs frame_1_writes a s ++ arrayLocs frame_1_arrays a s ++ staticLocs frame_1_statics s) 601024 7293034) := by
  intro l hfl _ _ p e ha hc hk s m args below hf hfit hheap happ hpre
  obtain ⟨k, o, h1, h2, h3, rfl, hF⟩ := lw_comes l (by unfold Launch.stackTraces; rw [hfl]; decide +kernel) p e ha hc hk s m args below hf hfit hheap happ hpre
  exact ⟨k, _, h1, h2, h3, hL args s _, lw_frame hF⟩
theorem i_vc : Claimed_1_1 ∧ Claimed_1_2 := ⟨lw_limb limb_1_1 (fun args s t => by simp [limb_1_1, Cond.after, Cond.holds, Cond.value]), lw_limb limb_1_2 (fun args s t => Cond.after_iff.mpr (by
  first | (rw [show limb_1_2 = Cond.eq .result (.int 1) from rfl, Cond.eq_ints (x := 1) (y := 1) rfl rfl]; simp; done) | (simp [limb_1_2, Cond.value, Term.eval]; done)))⟩
