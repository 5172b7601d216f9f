/-! THROWS -/
/-! gx_throwS: the printed row vx_throwS, with the heap's size told exactly -/
section GXE
variable {p : Program} {l : Launch} {e : Env} {R : Room} {s : State} {m : MethodId} {args : Array Value} {below : List Frame} {meth : Method} {c : Code} {H : Heap} {locs : List Loc} {cells slots : Nat} {Q : State → Prop}
variable {mc ms : Nat} {free : Addr → Prop} {A0 A1 : Nat → Prop} {H0 : Heap} {a : Array Value} {ls : Array Slot} {st0 rest : List Value}
variable {Qc : Array Value → State → Outcome → State → Prop} {XC : String → State → State → Prop}
theorem gx_throwS {cc : ByteArray} {pc : Nat} (hexec : p.tables.exec = Jvm.exec) (hb : c.code = cc) (hl : l.stackTraces = false) {own cls text : String} {names : List String} {ik is ic mc ms sa : Nat} {A : Nat → Prop}
    (hown : s.vm.findClass own = some m.cls) (hcls : Bundle.fit cls = true) (hnames : ∀ n ∈ names, Bundle.fit n = true)
    (hk : (Cond.classLink own ik cls).before args s = true) (hini : (Cond.initialized cls).before args s = true) (hstr : vk_R own is text sa s) (hat : ∀ w ∈ vx_atS own ic cls names, w.before args s = true)
    (hgood : ∀ w ∈ Cond.classLink own ik cls :: Cond.initialized cls :: vx_atS own ic cls names, vx_ot w = true)
    (hU : vx_Zq Bundle.tN "UNASSIGNED_STACK" Bundle.steD A s s.heap) (hN : vx_Zq Bundle.tN "SUPPRESSED_SENTINEL" Bundle.listD A s s.heap) (hS : va_S A s.heap H locs) (hsize : ls.size = c.maxLocals)
    (d0 : decode cc pc = .ok (.new ik, 3)) (d3 : decode cc (pc + 3) = .ok (.dup, 1)) (d4 : decode cc (pc + 4) = .ok (.ldc is, 2)) (d6 : decode cc (pc + 6) = .ok (.invokespecial ic, 3)) (d9 : decode cc (pc + 9) = .ok (.athrow, 1))
    (hout : ∀ x ∈ c.exceptionTable.toList, covers x (pc + 9) = false)
    (hRframes : names.length + 3 < R.frames) (hRlocals : (rest.map fun v => v.category).sum + (13 * (names.length + 1) + 43) ≤ R.locals) (hRcells : cells + 1 ≤ R.cells) (hRslots : slots + 6 ≤ R.slots) (hlocks : meth.locks = false)
    (hx : ∀ t : State, s.vm.Alike t.vm → t.heap.size = H.size + 1 → (∀ q : Nat, q < H.size → t.heap[q]? = H[q]?) → XC cls s t)
    (hf : ∀ z ∈ locs, free z.base) (hc : cells + 1 ≤ mc) (hs : slots + 6 ≤ ms) :
    W p l e R s m args below meth c H locs cells slots (vx_MQ below Qc XC args s mc ms free) (F0 m pc ls rest) := by
  intro T hT X
  have htr : e.platform.stackTraces = false := (show e.platform.stackTraces = l.stackTraces by rw [X.admits.platform]).trans hl
  have Y := vx_rebase X (R' := { frames := R.frames, locals := R.locals, cells := 1, slots := 6 }) (Nat.le_refl _) (Nat.le_refl _) hRcells hRslots
  obtain ⟨s', hA⟩ : ∃ z, z = (T.setVm s.vm).setFrames (.invoking m args :: below) := ⟨_, rfl⟩
  rw [← hA] at Y
  have hvm : s'.vm = s.vm := by rw [hA]; rfl
  have hhp : s'.heap = H := by rw [hA]; exact hT
  have hW0 : s.WarmedH s'.vm := by rw [hvm]; exact State.WarmedH.refl s
  have hat' : ∀ w ∈ vx_atS own ic cls names, w.before args s' = true := fun w hw => vx_ot_at hW0 hvm.symm (hgood w (List.mem_cons_of_mem _ (List.mem_cons_of_mem _ hw))) (hat w hw)
  have hk' : (Cond.classLink own ik cls).before args s' = true := vx_ot_at hW0 hvm.symm (hgood _ List.mem_cons_self) hk
  have hini' : (Cond.initialized cls).before args s' = true := vx_ot_at hW0 hvm.symm (hgood _ (List.mem_cons_of_mem _ List.mem_cons_self)) hini
  have hU' : vx_Zq Bundle.tN "UNASSIGNED_STACK" Bundle.steD A s' s'.heap := by rw [hhp]; exact vx_Zq.moved hW0.alike (hU.kept hS.2.1)
  have hN' : vx_Zq Bundle.tN "SUPPRESSED_SENTINEL" Bundle.listD A s' s'.heap := by rw [hhp]; exact vx_Zq.moved hW0.alike (hN.kept hS.2.1)
  have h : ∀ w ∈ Bundle.ownAtoms own ic cls names, w.before args s' = true := vx_own hat' (vx_isRefq hU'.1) (vx_isRefq hN'.1) hU'.2.word hN'.2.word
  have hown' : s'.vm.findClass own = some m.cls := by rw [hvm]; exact hown
  have hins : (Cond.instantiable cls 6).before args s' = true := h _ (by simp [Bundle.ownAtoms])
  obtain ⟨vm₁, cX, kX, hfX, hkX, -, -, X₁, st1⟩ := Y.newCold hexec (own := own) (C := cls) (index := ik) (n := 6) hown' hk' hins hini'
    (g := F0 m pc ls rest) rfl (by rw [hb]; exact d0) (Nat.le_refl _) (Nat.le_refl _)
  generalize hT1 : (T.setVm vm₁).pushCell { cls := cX, slots := kX.instanceTypes.map defaultValue, vm := .none } = T1 at X₁ st1
  have hcat : (Value.ref T.heap.size).category = 1 := rfl
  have hcellA : T1.heap[T.heap.size]? = some (freshCell cX kX) := by rw [← hT1]; exact State.heap_pushCell_size _ _
  have d3' : decode c.code (pc + 3) = .ok (.dup, 1) := by rw [hb]; exact d3
  have d4' : decode c.code (pc + 4) = .ok (.ldc is, 2) := by rw [hb]; exact d4
  have hstr' : vk_R own is text sa s' := vk_R.warm hW0 hstr
  obtain ⟨U, hsteps, hrun, hend, hW, hsame, ce, hce, hO⟩ := X₁.ctorThrowS hexec htr (own := own) (cls := cls) (names := names) (ic := ic) hown' hcls hnames h (fun x hx => nomatch hx) hfX hkX hcellA (by rw [hhp, hT]; exact Nat.le_refl _) (msg := .ref sa) rfl
    (g := { method := m, pc := pc + 6, locals := ls, stack := .ref sa :: .ref T.heap.size :: .ref T.heap.size :: rest, locked := none }) rfl hsize rfl rfl (rest := rest) rfl
    (by rw [hb]; exact d6) (by rw [hb]; exact d9) hout hRframes (by simp only [List.map_cons, List.sum_cons, hcat]; omega) hlocks
  obtain ⟨f1, f2⟩ := vx_frame hsame
  rw [hhp] at f1 f2
  have hWs : s.WarmedH U.vm := State.WarmedH.trans hW0 hW
  have hcl : s.vm.findClass cls = some ce.cls := by
    have h9 := hO.cls
    rw [hvm] at h9
    exact h9
  have hall : s.sameButNew ({ U with vm := s.vm } : State) locs mc ms := by
    subst hA
    obtain ⟨e1, e2⟩ := hsame
    rw [State.setFrames_setFrames] at e1
    have h2 : (T.setVm s.vm).sameButNew ({ U with vm := s.vm } : State) [] (0 + 1) (0 + 6) := ⟨e1, e2⟩
    have h3 := X.same.trans h2
    rw [List.append_nil] at h3
    exact h3.mono hc hs
  refine ⟨U, ?_, .threw T.heap.size, hrun, hend, Or.inr ⟨T.heap.size, rfl, cls, ce, locs, hx U hWs.alike (by have z1 := hsame.2.2.1; have z2 := (Array.getElem?_eq_some_iff.mp hce).1; rw [hhp] at z1; rw [hT] at z2; exact Nat.le_antisymm z1 z2) (fun q hq => f2 q hq (fun z hz => nomatch hz)), hce, hO.vm, hcl, hWs, hall, hf⟩⟩
  refine st1 _ ?_
  show Steps p.tables e below (T1.setTop { method := m, pc := pc + 3, locals := ls, stack := .ref T.heap.size :: rest, locked := none }) _
  jvm_step X₁.here [X₁.here.top, hexec, d3', Value.category]
  exact X₁.ldcString hexec (own := own) (text := text) (index := is) (a := sa) hown' hstr'.1 hstr'.2
    (g := { method := m, pc := pc + 4, locals := ls, stack := .ref T.heap.size :: .ref T.heap.size :: rest, locked := none }) rfl d4' _ hsteps
end GXE
def gNames : List String := ["java/lang/RuntimeException", "java/lang/Exception"]
section GT
variable {D : va_G} {cT : Nat → ClassId} {H0 : Heap} {l : Launch} {p : Program} {e : Env} {R : Room} {s : State} {m : MethodId} {args : Array Value} {below : List Frame} {meth : Method} {c : Code} {Q : State → Prop} {S0 S S1 : gS}
variable {cc : ByteArray} {nL : Nat} {own : String} {fr lo : Nat} {pc : Nat} {ls : Array Slot} {rest : List Value}
theorem gA.more {n' : Nat} {u : Nat × Nat} {H H1 : Heap} (h : gA D cT H0 S H) (hu : u.1 ≤ gC ∧ u.2 ≤ gU) (z : H1.size = n') (hz : H.size ≤ H1.size) (oq : ∀ q : Nat, q < H.size → H1[q]? = H[q]?) : gA D cT H0 (S.1, n', u) H1 := by
  have hl := fun a e' (ha : S.1 a = some e') => h.lt ha
  obtain ⟨h1, h2, h3, h4⟩ := h
  refine ⟨⟨by show H0.size ≤ n'; omega, hu⟩, z, fun q hq => (oq q (by omega)).trans (h3 q hq), fun b e' hb => ⟨(h4 b e' hb).1, (h4 b e' hb).2.kept (oq b (by rw [h2]; exact hl b e' hb))⟩⟩
/-- 'throw new E("text")' out of a method without handlers -/
theorem g_throw (X : gX D cT p R s m args meth c cc nL "PlanText" fr lo S0) (hZ : gZ H0 s) (hex : c.exceptionTable.toList = []) (hE : ∀ q : Nat, q < H0.size → s.heap[q]? = H0[q]?) (hl : l.stackTraces = false) {cls text : String} {ik is ic : Nat}
    (hfit : Bundle.fit cls = true) (hk : Cond.classLink "PlanText" ik cls ∈ lw_good) (hini : Cond.initialized cls ∈ lw_good) (hstr : (is, text) ∈ gStr) (hat : ∀ w ∈ vx_atS "PlanText" ic cls gNames, w ∈ lw_good ∨ w ∈ gNest ++ (gDecl ++ gCast)) (hot : ∀ w ∈ vx_atS "PlanText" ic cls gNames, vx_ot w = true)
    (hsize : ls.size = nL) (d0 : decode cc pc = .ok (.new ik, 3)) (d3 : decode cc (pc + 3) = .ok (.dup, 1)) (d4 : decode cc (pc + 4) = .ok (.ldc is, 2)) (d6 : decode cc (pc + 6) = .ok (.invokespecial ic, 3)) (d9 : decode cc (pc + 9) = .ok (.athrow, 1))
    (hR : 5 < fr ∧ (rest.map fun v => v.category).sum + 82 ≤ lo) (hr : S.2.2.1 + 1 ≤ gC ∧ S.2.2.2 + 6 ≤ gU) :
    gV D cT H0 p l e R s m args below meth c (gQ D cT H0 below S0 (S.1, S.2.1 + 1, S.2.2.1 + 1, S.2.2.2 + 6) (.inl cls) s) S0 S (F0 m pc ls rest) := by
  obtain ⟨hx, hb', hml, hown, hts, hK, hlk, hRc, hRs, hRf, hRl⟩ := X
  intro H locs hA h2 h3 h4 T hT X
  obtain ⟨sa, hsa⟩ := hZ.2.2.2.1 _ hstr
  have hsz : s.heap.size ≤ H.size := by rw [← hT]; exact X.same.2.1
  have hS : va_S (fun q => H0.size ≤ q) s.heap H locs := ⟨hsz, fun q hq hn => (hA.2.2.1 q (Nat.not_le.mp hn)).trans (hE q (Nat.not_le.mp hn)).symm, h2⟩
  have hword : ∀ w, w ∈ lw_good ∨ w ∈ gNest ++ (gDecl ++ gCast) → w.before args s = true := fun w hw => by
    rcases hw with h | h
    · exact hts w h
    · refine va_Nw.use ?_ (hZ.2.1 w h)
      have hall : (gNest ++ (gDecl ++ gCast)).all Cond.onTables = true := by decide +kernel
      exact List.all_eq_true.mp hall w h
  have k := gx_throwS (Qc := fun _ _ _ _ => False) (XC := fun E _ t => E = cls ∧ t.heap.size = H.size + 1 ∧ ∀ q : Nat, q < H.size → t.heap[q]? = H[q]?) (free := fun q => H0.size ≤ q) (mc := S.2.2.1 + 1 - S0.2.2.1) (ms := S.2.2.2 + 6 - S0.2.2.2) (H := H) (locs := locs) (cells := S.2.2.1 - S0.2.2.1) (slots := S.2.2.2 - S0.2.2.2) (p := p) (e := e) (R := R) (m := m) (below := below) (meth := meth) (c := c) (ls := ls) (rest := rest) (names := gNames)
    hx hb' hl hown hfit (by decide +kernel) (hts _ hk) (hts _ hini) hsa (fun w hw => hword w (hat w hw))
    (fun w hw => by
      rcases List.mem_cons.mp hw with rfl | hw
      · rfl
      · rcases List.mem_cons.mp hw with rfl | hw
        · rfl
        · exact hot w hw)
    (hZ.1.1.kept (fun a ha _ => hE a ha)) (hZ.1.2.kept (fun a ha _ => hE a ha)) hS (hsize.trans hml.symm) d0 d3 d4 d6 d9 (by rw [hex]; exact fun _ h => nomatch h)
    (by rw [hRf]; exact hR.1) (by rw [hRl]; exact hR.2) (by rw [hRc]; omega) (by rw [hRs]; omega) hlk (fun t _ h6 h7 => ⟨rfl, h6, h7⟩) h2 (by omega) (by omega)
  obtain ⟨t, a1, o, b1, b2, b3⟩ := k T hT X
  refine ⟨t, a1, o, b1, b2, ?_⟩
  rcases b3 with ⟨h9, -⟩ | ⟨q, rfl, E, ce, L, ⟨e1, e2, e3⟩, hce, hcv, hcl, hW, hsm, hL⟩
  · exact h9.elim
  · subst e1
    refine ⟨q, ce, rfl, hce, hcv, hcl, hA.more hr (by rw [e2, hA.2.1]) (by omega) e3, by show S0.2.2.1 ≤ S.2.2.1 + 1; omega, by show S0.2.2.2 ≤ S.2.2.2 + 6; omega, hW, L, hsm, hL⟩
/-- the callee's premise, paid: it throws -/
theorem g_backX {y : MethodName} {bytes : ByteArray} {maxL : Nat} {ret : Option FieldType} {fr' lo' : Nat} {av : List Value} {E : String} (hM : gM D cT H0 l y (Cond.code y bytes maxL ret) fr' lo' av S S1 (.inl E))
    (hts : ∀ w ∈ lw_good, w.before args s = true) (hK : gK D cT s) (hZ : gZ H0 s) (hfr : fr' + 1 ≤ R.frames) (hlo : 8 + (maxL + 11) + lo' ≤ R.locals) (hcw : Cond.code y bytes maxL ret ∈ lw_good) (hini : Cond.initialized y.cls ∈ lw_good) :
    vx_Back l R p e below s args y 3 8 (fun A a => a = av.toArray ∧ gA D cT H0 S A.U.heap ∧ A.cells + (gC - S.2.2.1) ≤ R.cells ∧ A.slots + (gU - S.2.2.2) ≤ R.slots) (fun _ _ _ _ => False)
      (fun A _ q B => ∃ (L : List Loc) (ce : Cell), B.locs = A.locs ++ L ∧ (∀ q ∈ L, H0.size ≤ q.base) ∧ B.cells = A.cells + (S1.2.2.1 - S.2.2.1) ∧ B.slots = A.slots + (S1.2.2.2 - S.2.2.2) ∧ B.U.heap[q]? = some ce ∧ ce.vm = .none ∧ s.vm.findClass E = some ce.cls ∧ gA D cT H0 S1 B.U.heap ∧ S.2.2.1 ≤ S1.2.2.1 ∧ S.2.2.2 ≤ S1.2.2.2) := by
  intro m meth c A g ig mk a X hg hsize hdg hW hn hp
  have h1 : (headSpec (Cond.code y bytes maxL ret :: lw_good) (gRm fr' lo' S)).pre.before a A.U = true := atoms_intro fun w hw => g_word hts (by rcases List.mem_cons.mp hw with rfl | h; exact hcw; exact h) X.warmed
  have h2 : (Cond.code y bytes maxL ret).before a A.U = true := g_word hts hcw X.warmed
  have h3 : (Cond.initialized y.cls).before a A.U = true := g_word hts hini X.warmed
  have hPc : gP D cT H0 S av a (A.U.calling g mk a) := ⟨hp.1, hp.2.1, hK.moved X.warmed.alike, hZ.warm X.warmed⟩
  have h4 := hp.2.2.1
  have h5 := hp.2.2.2
  obtain ⟨U, Ls, c0, s0⟩ := A
  dsimp only [Pt.U, Pt.locs, Pt.cells, Pt.slots] at h1 h2 h3 h4 h5 X hn hPc ⊢
  obtain ⟨methY, cY, hmY, hcY, -, hlY, -, -, -, -⟩ := Cond.code_spec hn h2
  obtain ⟨kY, hkY, -⟩ := className_of_methodNamed hn
  have hinitY : kY.init = .initialized := Cond.initialized_spec (findClass_of_methodNamed hn) hkY h3
  have h : At U g.method c below := by rw [hg]; exact X.here
  have happ : (headSpec (Cond.code y bytes maxL ret :: lw_good) (gRm fr' lo' S)).appliesLoose y e.platform (U.calling g mk a) = true :=
    Spec.appliesLoose_calling (g := g) h hdg hn hkY hinitY
      (X.room_calling (g := g) (R' := gRm fr' lo' S) hsize hmY hcY hfr (by rw [hlY]; show _ + _ + lo' ≤ _; omega) h4 h5) h1
  obtain ⟨mid, hmid⟩ := h.above
  have hfr' : (U.setTop g).frames = (.java g :: mid) ++ below := by rw [State.frames_setTop' g h.top, hmid]; rfl
  obtain ⟨o, s₂, hsteps, -, hend, hq⟩ := Steps.callFree hM p X.admits X.cas X.clock (acts := []) hfr' happ hPc trivial
  have hq' : gO D cT H0 S S1 (.inl E) (U.calling g mk a) o s₂ := hq
  obtain ⟨q, ce, rfl, hce, hcv, hcl, hA1, h8, h9, hW₂, L, hsm, hL⟩ := hq'
  rw [State.frames_setTop' g h.top] at hend
  obtain ⟨g₀, hg0⟩ := Option.isSome_iff_exists.mp h.top
  obtain ⟨r, hr⟩ := State.topJava?_eq_some.mp hg0
  have hr' : (({ U with heap := s₂.heap, slotsUsed := s₂.slotsUsed } : State).setVm s₂.vm).frames = .java g₀ :: r := hr
  obtain ⟨e2, q2, q3, q4, q5, q6⟩ := id hsm
  have e3 : s₂ = ({ (U.calling g mk a).setFrames s₂.frames with heap := s₂.heap, slotsUsed := s₂.slotsUsed } : State).setVm s₂.vm := by
    have : s₂ = ({ s₂ with vm := (U.calling g mk a).vm } : State).setVm s₂.vm := rfl
    rw [e2] at this
    exact this
  have hf₂ : s₂.frames = .throwing q :: .java g :: U.frames.tail := hend
  have hW' : U.WarmedH s₂.vm := hW₂
  have hs₂ : s₂ = ((({ U with heap := s₂.heap, slotsUsed := s₂.slotsUsed } : State).setVm s₂.vm).setTop g).pushFrame (.throwing q) := by
    refine e3.trans ?_
    rw [hf₂, State.calling_eq h.top, State.setFrames_setFrames, State.pushFrame, State.frames_setTop _ hr', State.setTop_of_frames _ hr', State.setFrames_setFrames, hr]
    rfl
  have hsame : U.sameButNew ({ U with heap := s₂.heap, slotsUsed := s₂.slotsUsed } : State) L (S1.2.2.1 - S.2.2.1) (S1.2.2.2 - S.2.2.2) := by
    refine ⟨?_, q2, q3, q4, q5, q6⟩
    obtain ⟨t, ht, -⟩ := State.frames_cons hr
    show ({ U with heap := s₂.heap, slotsUsed := s₂.slotsUsed } : State) = { U.setFrames U.frames with heap := s₂.heap, slotsUsed := s₂.slotsUsed }
    rw [State.setFrames_self ht]
  subst hg
  refine Or.inr ⟨q, ⟨(({ U with heap := s₂.heap, slotsUsed := s₂.slotsUsed } : State).setVm s₂.vm), Ls ++ L, c0 + (S1.2.2.1 - S.2.2.1), s0 + (S1.2.2.2 - S.2.2.2)⟩,
    ⟨X.admits, X.cas, X.clock, X.frames, X.room, X.hears, X.method, X.code, (X.here.setHeapUsed s₂.heap s₂.slotsUsed).setVm hW'.alike, X.tail, State.WarmedH.trans X.warmed hW', X.limits, X.bytes, X.same.trans (hsame.setVm s.vm)⟩,
    ⟨L, ce, rfl, hL, rfl, rfl, hce, hcv, ?_, hA1, h8, h9⟩, ?_⟩
  · have h7 : U.vm.findClass E = some ce.cls := hcl
    rw [X.warmed.alike.findClass] at h7
    exact h7
  · show Steps p.tables e below _ (((({ U with heap := s₂.heap, slotsUsed := s₂.slotsUsed } : State).setVm s₂.vm).setTop g).pushFrame (.throwing q))
    rw [← hs₂]
    exact hsteps
/-- a static call whose callee throws; nothing here catches it -/
theorem g_outS (X : gX D cT p R s m args meth c cc nL own fr lo S0) (hZ : gZ H0 s) (hex : c.exceptionTable.toList = []) {y : MethodName} {bytes : ByteArray} {maxL : Nat} {ret : Option FieldType} {fr' lo' : Nat} {As : List Value} {E : String} {index : Nat}
    (hM : gM D cT H0 l y (Cond.code y bytes maxL ret) fr' lo' As S S1 (.inl E))
    (hcw : Cond.code y bytes maxL ret ∈ lw_good) (hini : Cond.initialized y.cls ∈ lw_good) (hlink : Cond.methodLink own index y ∈ lw_good) (hstat : Cond.static y ∈ lw_good)
    (hd : y.cls ≠ "java/lang/invoke/MethodHandle" ∧ y.cls ≠ "java/lang/invoke/VarHandle" ∧ (parseMethodDescriptor y.desc).map (fun d => d.parameters.length) = some As.length) (hR : fr' + 1 ≤ fr ∧ 8 + (maxL + 11) + lo' ≤ lo) (hsize : ls.size = nL) (hW : (rest.map fun v => v.category).sum ≤ 8) (hdg : decode cc pc = .ok (.invokestatic index, 3))
    {st0 : List Value} (hst : As.reverse ++ rest = st0) : gV D cT H0 p l e R s m args below meth c (gQ D cT H0 below S0 S1 (.inl E) s) S0 S (F0 m pc ls st0) := by
  obtain ⟨hx, hb', hml, hown, hts, hK, hlk, hRc, hRs, hRf, hRl⟩ := X
  subst hst
  intro H locs hA h2 h3 h4 T hT X
  rcases vx_callS X hx (bytes := bytes) (maxL := maxL) (ret := ret) hown (hts _ hlink) (hts _ hstat) (hts _ hini) (hts _ hcw) ⟨hd.1, hd.2.1⟩
    (g_backX hM hts hK hZ (by rw [hRf]; exact hR.1) (by rw [hRl]; exact hR.2) hcw hini) (g := F0 m pc ls (As.reverse ++ rest)) rfl (hsize.trans hml.symm) (argsL := As) (rest := rest)
    (fun sig h => by have := hd.2.2; rw [h] at this; exact (Option.some.inj this).symm) rfl (lv_room hW) (by rw [hb']; exact hdg)
    (fun vm₁ hW₁ => ⟨rfl, by show gA D cT H0 S T.heap; rw [hT]; exact hA, by show S.2.2.1 - S0.2.2.1 + (gC - S.2.2.1) ≤ R.cells; rw [hRc]; have := hA.1.2.1; omega, by show S.2.2.2 - S0.2.2.2 + (gU - S.2.2.2) ≤ R.slots; rw [hRs]; have := hA.1.2.2; omega⟩) with ⟨v, vm₁, B, -, -, h9, -⟩ | ⟨q, vm₁, ⟨U', l2, c2, s2⟩, hW₁, X', ⟨L, ce, e2, hL, e3, e4, hce, hcv, hcl, hA1, h5, h6⟩, st⟩
  · exact h9.elim
  · dsimp only [Pt.U, Pt.locs, Pt.cells, Pt.slots] at X' e2 e3 e4 hA1 st hce
    subst e2
    obtain ⟨st1, hrun, hend, hWe, hsm⟩ := X'.leaveThrown q (g := F0 m pc ls rest) rfl rfl rfl (by rw [hex]; exact fun _ h => nomatch h) hlk
    refine ⟨_, st.trans st1, .threw q, hrun, hend, q, ce, rfl, hce, hcv, hcl, hA1, by show S0.2.2.1 ≤ S1.2.2.1; omega, by show S0.2.2.2 ≤ S1.2.2.2; omega, hWe, locs ++ L, ?_, fun z hz => ?_⟩
    · rw [e3, e4] at hsm
      rw [show S1.2.2.1 - S0.2.2.1 = S.2.2.1 - S0.2.2.1 + (S1.2.2.1 - S.2.2.1) by omega, show S1.2.2.2 - S0.2.2.2 = S.2.2.2 - S0.2.2.2 + (S1.2.2.2 - S.2.2.2) by omega]
      exact hsm
    · rcases List.mem_append.mp hz with h | h
      · exact h2 z h
      · exact hL z h
/-- a virtual call whose callee throws; a row of this method's table catches it -/
theorem g_catchV (X : gX D cT p R s m args meth c cc nL own fr lo S0) (hZ : gZ H0 s) {hh : List (Nat × Nat × Nat × Nat)} (hex : c.exceptionTable.toList = tableOf hh) {y : MethodName} {bytes : ByteArray} {maxL : Nat} {ret : Option FieldType} {fr' lo' : Nat} {As : List Value} {E : String} {b ci index : Nat} {fs : List Value} {Tt : u_T} {N : Nat} {ty : Nat → FieldType}
    (hM : gM D cT H0 l y (Cond.code y bytes maxL ret) fr' lo' (va_rf (some b) :: As) S S1 (.inl E)) (hC : gCl ci y.cls Tt N ty) (hb : S.1 b = some (.inr (ci, fs)))
    (hcw : Cond.code y bytes maxL ret ∈ lw_good) (hini : Cond.initialized y.cls ∈ lw_good) (hlink : Cond.methodLink own index y ∈ lw_good) (hinst : Cond.instanceMethod y ∈ lw_good) (hsel : Cond.selects y.cls y y ∈ lw_good)
    (hd : y.cls ≠ "java/lang/invoke/MethodHandle" ∧ y.cls ≠ "java/lang/invoke/VarHandle" ∧ (parseMethodDescriptor y.desc).map (fun d => d.parameters.length) = some As.length) (hR : fr' + 1 ≤ fr ∧ 8 + (maxL + 11) + lo' ≤ lo) (hsize : ls.size = nL) (hW : (rest.map fun v => v.category).sum ≤ 8) (hdg : decode cc pc = .ok (.invokevirtual index, 3))
    (pre : List ExceptionTableEntry) (x : ExceptionTableEntry) (suf : List ExceptionTableEntry) (hsplit : tableOf hh = pre ++ x :: suf) (hpass : ∀ z ∈ pre, z.catchType ≠ 0 ∧ ∃ nm : String, Cond.classLink own z.catchType nm ∈ lw_good ∧ (E, nm) ∈ gNot) (hcov : covers x pc = true) (h0 : x.catchType ≠ 0)
    (hcl0 : Cond.classLink own x.catchType E ∈ lw_good) (hcast : Cond.castable E E ∈ gNest ++ (gDecl ++ gCast))
    {st0 : List Value} (hst : As.reverse ++ va_rf (some b) :: rest = st0)
    (kk : ∀ q : Nat, gV D cT H0 p l e R s m args below meth c Q S0 S1 (F0 m x.handlerPc ls [va_rf (some q)])) : gV D cT H0 p l e R s m args below meth c Q S0 S (F0 m pc ls st0) := by
  obtain ⟨hx, hb', hml, hown, hts, hK, hlk, hRc, hRs, hRf, hRl⟩ := X
  subst hst
  intro H locs hA h2 h3 h4 T hT X
  obtain ⟨-, r, hr1, cellB, q1, q2, q3, -⟩ := hA.2.2.2 b _ hb
  have hfc : s.vm.findClass y.cls = some (D.1 ci) := (hK.1.1 ci (y.cls, Tt, N) hC.1).2.1
  rcases vx_callV X hx (C := y.cls) (bytes := bytes) (maxL := maxL) (ret := ret) hown (hts _ hlink) (hts _ hinst) (hts _ hsel) (hts _ hcw) ⟨hd.1, hd.2.1⟩
    (g_backX hM hts hK hZ (by rw [hRf]; exact hR.1) (by rw [hRl]; exact hR.2) hcw hini) (by rw [hT]; exact q1) (by rw [q3]; rfl) (by rw [q2]; exact hfc) (g := F0 m pc ls (As.reverse ++ va_rf (some b) :: rest)) rfl (hsize.trans hml.symm) (argsL := As) (rest := rest)
    (fun sig h => by have := hd.2.2; rw [h] at this; exact (Option.some.inj this).symm) rfl (lv_room hW) (by rw [hb']; exact hdg)
    (fun vm₁ hW₁ => ⟨rfl, by show gA D cT H0 S T.heap; rw [hT]; exact hA, by show S.2.2.1 - S0.2.2.1 + (gC - S.2.2.1) ≤ R.cells; rw [hRc]; have := hA.1.2.1; omega, by show S.2.2.2 - S0.2.2.2 + (gU - S.2.2.2) ≤ R.slots; rw [hRs]; have := hA.1.2.2; omega⟩) with ⟨v, vm₁, B, -, -, h9, -⟩ | ⟨q, vm₁, ⟨U', l2, c2, s2⟩, hW₁, X', ⟨L, ce, e2, hL, e3, e4, hce, hcv, hcl, hA1, h5, h6⟩, st⟩
  · exact h9.elim
  · dsimp only [Pt.U, Pt.locs, Pt.cells, Pt.slots] at X' e2 e3 e4 hA1 st hce
    subst e2
    have e5 : c2 = S1.2.2.1 - S0.2.2.1 := by omega
    have e6 : s2 = S1.2.2.2 - S0.2.2.2 := by omega
    subst e5; subst e6
    have kw := kk q U'.heap (locs ++ L) hA1 (fun z hz => by
      rcases List.mem_append.mp hz with h | h
      · exact h2 z h
      · exact hL z h) (by show S0.2.2.1 ≤ S1.2.2.1; omega) (by show S0.2.2.2 ≤ S1.2.2.2; omega)
    have hcst : (Cond.castable E E).before args s = true := va_Nw.use rfl (hZ.2.1 _ hcast)
    obtain ⟨t, a1, b1⟩ := vx_catch (E := E) (name := E) (ce := ce) (q := q) (pc := pc) (ls := ls) (rest := rest) hown pre x suf (hex.trans hsplit) (fun z hz => Or.inr ⟨(hpass z hz).1, by
      obtain ⟨nm, h7, h8⟩ := (hpass z hz).2
      exact ⟨nm, hts _ h7, hZ.2.2.2.2 _ h8⟩⟩) hcov h0 (hts _ hcl0) hcst hce hcv hcl kw U' rfl X'
    exact ⟨t, st.trans a1, b1⟩
end GT
