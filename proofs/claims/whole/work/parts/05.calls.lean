/-! WHAT EVERY METHOD CARRIES BESIDE THE GOOD WORDS -/
def gNest : List Cond := [.methodLinkNest "PlanText" 45 ⟨"PlanText$NeedList", "<init>", "()V"⟩ "PlanText", .methodLinkNest "PlanText" 55 ⟨"PlanText$Printer", "<init>", "()V"⟩ "PlanText", .methodLinkNest "PlanText$Reader" 126 ⟨"PlanText$NeedList", "<init>", "()V"⟩ "PlanText"]
def gDecl : List Cond := [.declares ⟨"java/lang/RuntimeException", "<init>", "(Ljava/lang/String;)V"⟩, .declares ⟨"java/lang/Exception", "<init>", "(Ljava/lang/String;)V"⟩, .declares ⟨"java/lang/Throwable", "<init>", "(Ljava/lang/String;)V"⟩]
def gCast : List Cond := [.castable "java/lang/IndexOutOfBoundsException" "java/lang/IndexOutOfBoundsException", .castable "java/lang/UnsupportedOperationException" "java/lang/UnsupportedOperationException", .castable "java/lang/IllegalStateException" "java/lang/IllegalStateException", .castable "java/lang/IllegalArgumentException" "java/lang/IllegalArgumentException"]
def gOver : List String := ["PlanText$Edition", "PlanText$Plan", "PlanText$NeedList", "PlanText$Standby", "PlanText$Need"]
def gStr : List (Nat × String) := [(62, "1 to 8 bytes at once"), (69, "the tape has 400 bytes at most"), (198, "a number outside its range"), (89, "the text is wrong"), (92, "there are 6 editions"), (194, "no such skill"), (106, "no such kind"), (132, "no such need"), (150, "no such what"), (196, "an index below 0")]
def gNot : List (String × String) := [("java/lang/UnsupportedOperationException", "java/lang/IndexOutOfBoundsException"), ("java/lang/IllegalStateException", "java/lang/IndexOutOfBoundsException"), ("java/lang/UnsupportedOperationException", "java/lang/IllegalStateException"), ("java/lang/IndexOutOfBoundsException", "java/lang/IllegalArgumentException")]
def gZ (H0 : Heap) (U : State) : Prop := (vx_Zq Bundle.tN "UNASSIGNED_STACK" Bundle.steD (fun q => H0.size ≤ q) U H0 ∧ vx_Zq Bundle.tN "SUPPRESSED_SENTINEL" Bundle.listD (fun q => H0.size ≤ q) U H0) ∧ (∀ w ∈ gNest ++ (gDecl ++ gCast), va_Nw w U) ∧ (∀ C ∈ gOver, va_AO C U) ∧ (∀ x ∈ gStr, ∃ a, vk_R "PlanText" x.1 x.2 a U) ∧ ∀ x ∈ gNot, va_Nc x.1 x.2 U
theorem gZ.warm {H0 : Heap} {s U : State} (hW : s.WarmedH U.vm) (h : gZ H0 s) : gZ H0 U := by
  obtain ⟨h1, h2, h3, h4, h5⟩ := h
  refine ⟨⟨h1.1.moved hW.alike, h1.2.moved hW.alike⟩, fun w hw => ?_, fun C hC => (h3 C hC).moved hW.alike, fun x hx => ?_, fun x hx => (h5 x hx).moved hW.alike⟩
  · have h9 := h2 w hw
    rcases List.mem_append.mp hw with h | h
    · simp only [gNest, List.mem_cons, List.not_mem_nil, or_false] at h
      rcases h with rfl | rfl | rfl <;> exact va_Nw.warmM hW h9
    · rcases List.mem_append.mp h with h | h
      · simp only [gDecl, List.mem_cons, List.not_mem_nil, or_false] at h
        rcases h with rfl | rfl | rfl <;> exact va_Nw.warmD hW h9
      · simp only [gCast, List.mem_cons, List.not_mem_nil, or_false] at h
        rcases h with rfl | rfl | rfl | rfl <;> exact va_Nw.warmC hW h9
  · obtain ⟨a, ha⟩ := h4 x hx
    exact ⟨a, ha.warm hW⟩
theorem lw_good_word {w : Cond} (h : w ∈ lw_good) : goodWord w = true := (List.mem_filter.mp h).2
/-! A METHOD'S CONTRACT OVER THE ABSTRACT HEAP -/
def gEnd (D : va_G) (cT : Nat → ClassId) (H0 : Heap) (S S' : gS) (st t : State) : Prop :=
  gA D cT H0 S' t.heap ∧ S.2.2.1 ≤ S'.2.2.1 ∧ S.2.2.2 ≤ S'.2.2.2 ∧ st.WarmedH t.vm ∧ ∃ L, st.sameButNew ({ t with vm := st.vm } : State) L (S'.2.2.1 - S.2.2.1) (S'.2.2.2 - S.2.2.2) ∧ ∀ q ∈ L, H0.size ≤ q.base
def gP (D : va_G) (cT : Nat → ClassId) (H0 : Heap) (S : gS) (av : List Value) : Array Value → State → Prop := fun v U => v = av.toArray ∧ gA D cT H0 S U.heap ∧ gK D cT U ∧ gZ H0 U
/-- how a method ends: thrown (the class, by its name), or returned -/
def gO (D : va_G) (cT : Nat → ClassId) (H0 : Heap) (S S' : gS) (res : String ⊕ Option Value) (st : State) (o : Outcome) (t : State) : Prop := match res with
  | .inr v => o = .returned v ∧ gEnd D cT H0 S S' st t
  | .inl E => ∃ (q : Addr) (ce : Cell), o = .threw q ∧ t.heap[q]? = some ce ∧ ce.vm = .none ∧ st.vm.findClass E = some ce.cls ∧ gEnd D cT H0 S S' st t
def gRm (fr lo : Nat) (S : gS) : Room := { frames := fr, cells := gC - S.2.2.1, slots := gU - S.2.2.2, locals := lo }
def gM (D : va_G) (cT : Nat → ClassId) (H0 : Heap) (l : Launch) (y : MethodName) (w : Cond) (fr lo : Nat) (av : List Value) (S S' : gS) (res : String ⊕ Option Value) : Prop :=
  MetFree l y (headSpec (w :: lw_good) (gRm fr lo S)) (gP D cT H0 S av) (fun _ _ _ _ _ => True) (fun _ st o t => gO D cT H0 S S' res st o t)
/-- what a walk owes at its end -/
def gQ (D : va_G) (cT : Nat → ClassId) (H0 : Heap) (below : List Frame) (S S' : gS) (res : String ⊕ Option Value) (s : State) : State → Prop := fun t => ∃ o, t.status = .running ∧ Ended t below o ∧ gO D cT H0 S S' res s o t
section GM
variable {D : va_G} {cT : Nat → ClassId} {H0 : Heap} {l : Launch}
theorem gM.ofV {y : MethodName} {cc : ByteArray} {nL : Nat} {ret : Option FieldType} {fr lo : Nat} {av : List Value} {S S' : gS} {res : String ⊕ Option Value} (hy : plainName y.cls = true)
    (body : ∀ p e s m args below meth c s₁, BodyLoose p l y (headSpec (Cond.code y cc nL ret :: lw_good) (gRm fr lo S)) cc nL ret e s m args below meth c s₁ → c.maxLocals = nL → args = av.toArray → gX D cT p (gRm fr lo S) s m args meth c cc nL y.cls fr lo S → gZ H0 s → c.exceptionTable.toList = [] → meth.sig.returnType = ret → (∀ q : Nat, q < H0.size → s.heap[q]? = H0[q]?) →
      gV D cT H0 p l e (gRm fr lo S) s m args below meth c (gQ D cT H0 below S S' res s) S S (entryFrame m args nL)) : gM D cT H0 l y (Cond.code y cc nL ret) fr lo av S S' res := by
  refine MetFree.of_bodyS (code := cc) (maxLocals := nL) (ret := ret) hy ?_ ?_
  · intro args s m h hn
    obtain ⟨meth, c, h1, h2, h3, h4, h5, h6, -, -⟩ := Cond.code_spec hn (atoms_spec (ws := Cond.code y cc nL ret :: lw_good) h _ List.mem_cons_self)
    exact ⟨meth, c, h1, h2, h3, h4, h5, h6⟩
  · intro p e s m args below meth c s₁ B hml hP _
    have hh0 : s₁.heap = s.heap := by rw [B.state]; rfl
    obtain ⟨e1, hA, hK, hZ⟩ := hP
    have hts : ∀ w ∈ Cond.code y cc nL ret :: lw_good, w.before args s = true := atoms_spec (ws := Cond.code y cc nL ret :: lw_good) B.pre
    have hex : c.exceptionTable.toList = [] := by
      have h9 := B.noHandlers (hts _ List.mem_cons_self)
      have h8 : c.exceptionTable = #[] := by simpa using h9
      rw [h8]
    have k := body p e s m args below meth c s₁ B hml e1 ⟨B.exec, B.bytes, hml, findClass_of_methodNamed B.named, fun w hw => hts w (List.mem_cons_of_mem _ hw), hK, B.notSynchronized, rfl, rfl, rfl, rfl⟩ hZ hex B.returns hA.2.2.1
    have X0 := Stand.of_body B
    obtain ⟨t, a1, o, b1, b2, b3⟩ := k s.heap [] hA (fun q h => by cases h) (Nat.le_refl _) (Nat.le_refl _) s₁ hh0 (by rw [Nat.sub_self, Nat.sub_self]; exact X0)
    exact ⟨t, o, a1, b1, b2, b3⟩
variable {p : Program} {e : Env} {R : Room} {s : State} {m : MethodId} {args : Array Value} {below : List Frame} {meth : Method} {c : Code} {Q : State → Prop} {S0 S S1 : gS}
theorem g_word {w : Cond} {a' : Array Value} {U : State} (hts : ∀ w ∈ lw_good, w.before args s = true) (hw : w ∈ lw_good) (hW : s.WarmedH U.vm) : w.before a' U = true := word_at hW (good_of_word (lw_good_word hw)) (hts w hw)
/-- the callee's premise, paid: it returns -/
theorem g_back {y : MethodName} {bytes : ByteArray} {maxL : Nat} {ret : Option FieldType} {fr' lo' : Nat} {av : List Value} {v : Option Value} (hM : gM D cT H0 l y (Cond.code y bytes maxL ret) fr' lo' av S S1 (.inr v))
    (hts : ∀ w ∈ lw_good, w.before args s = true) (hK : gK D cT s) (hZ : gZ H0 s) (hfr : fr' + 1 ≤ R.frames) (hlo : 8 + (maxL + 11) + lo' ≤ R.locals) (hcw : Cond.code y bytes maxL ret ∈ lw_good) (hini : Cond.initialized y.cls ∈ lw_good) :
    Back l R p e below s args y 3 8 (fun A a => a = av.toArray ∧ gA D cT H0 S A.U.heap ∧ A.cells + (gC - S.2.2.1) ≤ R.cells ∧ A.slots + (gU - S.2.2.2) ≤ R.slots)
      (fun A _ w B => w = v ∧ ∃ L, B.locs = A.locs ++ L ∧ (∀ q ∈ L, H0.size ≤ q.base) ∧ B.cells = A.cells + (S1.2.2.1 - S.2.2.1) ∧ B.slots = A.slots + (S1.2.2.2 - S.2.2.2) ∧ gA D cT H0 S1 B.U.heap ∧ S.2.2.1 ≤ S1.2.2.1 ∧ S.2.2.2 ≤ S1.2.2.2) := by
  refine Back.of_free (S := headSpec (Cond.code y bytes maxL ret :: lw_good) (gRm fr' lo' S)) (P := gP D cT H0 S av) (K := fun _ _ _ _ _ => True) (Q := fun _ st o t => gO D cT H0 S S1 (.inr v) st o t) (bytes := bytes) (maxL := maxL) (ret := ret)
    (E := fun a st o t L k n => k = S1.2.2.1 - S.2.2.1 ∧ n = S1.2.2.2 - S.2.2.2 ∧ ∀ q ∈ L, H0.size ≤ q.base) hM hfr hlo ?_ ?_ (fun _ _ _ _ _ _ _ _ _ => trivial) ?_ ?_
  · intro m meth c A a X hp
    exact ⟨atoms_intro fun w hw => g_word hts (by rcases List.mem_cons.mp hw with rfl | h; exact hcw; exact h) X.warmed, g_word hts hcw X.warmed, g_word hts hini X.warmed, hp.2.2.1, hp.2.2.2⟩
  · intro m meth c A a g mk X hp
    exact ⟨hp.1, hp.2.1, hK.moved X.warmed.alike, hZ.warm X.warmed⟩
  · intro a st o t ⟨ho, h1, h2, h3, h4, L, h5, h6⟩
    exact ⟨L, _, _, ⟨⟨v, ho⟩, h4, h5⟩, rfl, rfl, h6⟩
  · intro m meth c A a g mk w t L k n X hp hq hF ⟨e1, e2, hL⟩
    obtain ⟨ho, h1, h2, h3, -⟩ := hq
    subst e1; subst e2
    exact ⟨Outcome.returned.inj ho, L, rfl, hL, rfl, rfl, h1, h2, h3⟩
variable {cc : ByteArray} {nL : Nat} {own : String} {fr lo : Nat} {pc : Nat} {ls : Array Slot} {rest : List Value}
theorem g_run {T : State} {locs L : List Loc} {k n : Nat} {g2 : JFrame} (hA : gA D cT H0 S1 T.heap) (h2 : ∀ q ∈ locs, H0.size ≤ q.base) (hL : ∀ q ∈ L, H0.size ≤ q.base) (h3 : S0.2.2.1 ≤ S.2.2.1) (h4 : S0.2.2.2 ≤ S.2.2.2) (h5 : S.2.2.1 ≤ S1.2.2.1) (h6 : S.2.2.2 ≤ S1.2.2.2)
    (ek : k = (S.2.2.1 - S0.2.2.1) + (S1.2.2.1 - S.2.2.1)) (en : n = (S.2.2.2 - S0.2.2.2) + (S1.2.2.2 - S.2.2.2)) (X' : Stand p l e R s m args below meth c T (locs ++ L) k n)
    (kk : gV D cT H0 p l e R s m args below meth c Q S0 S1 g2) : ∃ t, Steps p.tables e below (T.setTop g2) t ∧ Q t := by
  have e1 : k = S1.2.2.1 - S0.2.2.1 := by omega
  have e2 : n = S1.2.2.2 - S0.2.2.2 := by omega
  subst e1; subst e2
  refine kk T.heap (locs ++ L) hA (fun q hq => ?_) (by omega) (by omega) T rfl X'
  rcases List.mem_append.mp hq with h | h
  · exact h2 q h
  · exact hL q h
/-- a virtual call of a method that returns -/
theorem g_callV (X : gX D cT p R s m args meth c cc nL own fr lo S0) (hZ : gZ H0 s) {y : MethodName} {bytes : ByteArray} {maxL : Nat} {ret : Option FieldType} {fr' lo' : Nat} {As : List Value} {v : Option Value} {b ci index : Nat} {fs : List Value} {Tt : u_T} {N : Nat} {ty : Nat → FieldType}
    (hM : gM D cT H0 l y (Cond.code y bytes maxL ret) fr' lo' (va_rf (some b) :: As) S S1 (.inr v)) (hC : gCl ci y.cls Tt N ty) (hb : S.1 b = some (.inr (ci, fs)))
    (hcw : Cond.code y bytes maxL ret ∈ lw_good) (hini : Cond.initialized y.cls ∈ lw_good) (hlink : Cond.methodLink own index y ∈ lw_good) (hinst : Cond.instanceMethod y ∈ lw_good) (hsel : Cond.selects y.cls y y ∈ lw_good)
    (hd : y.cls ≠ "java/lang/invoke/MethodHandle" ∧ y.cls ≠ "java/lang/invoke/VarHandle" ∧ (parseMethodDescriptor y.desc).map (fun d => d.parameters.length) = some As.length) (hR : fr' + 1 ≤ fr ∧ 8 + (maxL + 11) + lo' ≤ lo) (hsize : ls.size = nL) (hW : (rest.map fun v => v.category).sum ≤ 8) (hdg : decode cc pc = .ok (.invokevirtual index, 3))
    {st0 : List Value} (hst : As.reverse ++ va_rf (some b) :: rest = st0) {st1 : List Value} (hst1 : v.toList ++ rest = st1)
    (kk : gV D cT H0 p l e R s m args below meth c Q S0 S1 (F0 m (pc + 3) ls st1)) : gV D cT H0 p l e R s m args below meth c Q S0 S (F0 m pc ls st0) := by
  obtain ⟨hx, hb', hml, hown, hts, hK, hlk, hRc, hRs, hRf, hRl⟩ := X
  subst hst; subst hst1
  intro H locs hA h2 h3 h4 T hT X
  obtain ⟨-, r, hr1, cellB, q1, q2, q3, -⟩ := hA.2.2.2 b _ hb
  have hfc : s.vm.findClass y.cls = some (D.1 ci) := (hK.1.1 ci (y.cls, Tt, N) hC.1).2.1
  obtain ⟨w, vm₁, ⟨U', l2, c2, s2⟩, hW₁, X', ⟨e1, L, e2, hL, e3, e4, hA1, h5, h6⟩, st⟩ := callV X hx (C := y.cls) (bytes := bytes) (maxL := maxL) (ret := ret) hown (hts _ hlink) (hts _ hinst) (hts _ hsel) (hts _ hcw) ⟨hd.1, hd.2.1⟩
    (g_back hM hts hK hZ (by rw [hRf]; exact hR.1) (by rw [hRl]; exact hR.2) hcw hini) (by rw [hT]; exact q1) (by rw [q3]; rfl) (by rw [q2]; exact hfc) (g := F0 m pc ls (As.reverse ++ va_rf (some b) :: rest)) rfl (hsize.trans hml.symm) (argsL := As) (rest := rest)
    (fun sig h => by have := hd.2.2; rw [h] at this; exact (Option.some.inj this).symm) rfl (lv_room hW) (by rw [hb']; exact hdg)
    (fun vm₁ hW₁ => ⟨rfl, by show gA D cT H0 S T.heap; rw [hT]; exact hA, by show S.2.2.1 - S0.2.2.1 + (gC - S.2.2.1) ≤ R.cells; rw [hRc]; have := hA.1.2.1; omega, by show S.2.2.2 - S0.2.2.2 + (gU - S.2.2.2) ≤ R.slots; rw [hRs]; have := hA.1.2.2; omega⟩)
  subst e1
  dsimp only [Pt.U, Pt.locs, Pt.cells, Pt.slots] at X' e2 e3 e4 hA1 st
  subst e2
  obtain ⟨t, a1, b1⟩ := g_run (g2 := F0 m (pc + 3) ls (w.toList ++ rest)) hA1 h2 hL h3 h4 h5 h6 e3 e4 X' kk
  exact ⟨t, st t a1, b1⟩
/-- a static call of a method that returns -/
theorem g_callS (X : gX D cT p R s m args meth c cc nL own fr lo S0) (hZ : gZ H0 s) {y : MethodName} {bytes : ByteArray} {maxL : Nat} {ret : Option FieldType} {fr' lo' : Nat} {As : List Value} {v : Option Value} {index : Nat}
    (hM : gM D cT H0 l y (Cond.code y bytes maxL ret) fr' lo' As S S1 (.inr v))
    (hcw : Cond.code y bytes maxL ret ∈ lw_good) (hini : Cond.initialized y.cls ∈ lw_good) (hlink : Cond.methodLink own index y ∈ lw_good) (hstat : Cond.static y ∈ lw_good)
    (hd : y.cls ≠ "java/lang/invoke/MethodHandle" ∧ y.cls ≠ "java/lang/invoke/VarHandle" ∧ (parseMethodDescriptor y.desc).map (fun d => d.parameters.length) = some As.length) (hR : fr' + 1 ≤ fr ∧ 8 + (maxL + 11) + lo' ≤ lo) (hsize : ls.size = nL) (hW : (rest.map fun v => v.category).sum ≤ 8) (hdg : decode cc pc = .ok (.invokestatic index, 3))
    {st0 : List Value} (hst : As.reverse ++ rest = st0) {st1 : List Value} (hst1 : v.toList ++ rest = st1)
    (kk : gV D cT H0 p l e R s m args below meth c Q S0 S1 (F0 m (pc + 3) ls st1)) : gV D cT H0 p l e R s m args below meth c Q S0 S (F0 m pc ls st0) := by
  obtain ⟨hx, hb', hml, hown, hts, hK, hlk, hRc, hRs, hRf, hRl⟩ := X
  subst hst; subst hst1
  intro H locs hA h2 h3 h4 T hT X
  obtain ⟨w, vm₁, ⟨U', l2, c2, s2⟩, hW₁, X', ⟨e1, L, e2, hL, e3, e4, hA1, h5, h6⟩, st⟩ := callS X hx (bytes := bytes) (maxL := maxL) (ret := ret) hown (hts _ hlink) (hts _ hstat) (hts _ hini) (hts _ hcw) ⟨hd.1, hd.2.1⟩
    (g_back hM hts hK hZ (by rw [hRf]; exact hR.1) (by rw [hRl]; exact hR.2) hcw hini) (g := F0 m pc ls (As.reverse ++ rest)) rfl (hsize.trans hml.symm) (argsL := As) (rest := rest)
    (fun sig h => by have := hd.2.2; rw [h] at this; exact (Option.some.inj this).symm) rfl (lv_room hW) (by rw [hb']; exact hdg)
    (fun vm₁ hW₁ => ⟨rfl, by show gA D cT H0 S T.heap; rw [hT]; exact hA, by show S.2.2.1 - S0.2.2.1 + (gC - S.2.2.1) ≤ R.cells; rw [hRc]; have := hA.1.2.1; omega, by show S.2.2.2 - S0.2.2.2 + (gU - S.2.2.2) ≤ R.slots; rw [hRs]; have := hA.1.2.2; omega⟩)
  subst e1
  dsimp only [Pt.U, Pt.locs, Pt.cells, Pt.slots] at X' e2 e3 e4 hA1 st
  subst e2
  obtain ⟨t, a1, b1⟩ := g_run (g2 := F0 m (pc + 3) ls (w.toList ++ rest)) hA1 h2 hL h3 h4 h5 h6 e3 e4 X' kk
  exact ⟨t, st t a1, b1⟩
/-- a constructor -/
theorem g_callI (X : gX D cT p R s m args meth c cc nL own fr lo S0) (hZ : gZ H0 s) {y : MethodName} {bytes : ByteArray} {maxL : Nat} {fr' lo' : Nat} {As : List Value} {b index : Nat}
    (hM : gM D cT H0 l y (Cond.code y bytes maxL none) fr' lo' (va_rf (some b) :: As) S S1 (.inr none))
    (hcw : Cond.code y bytes maxL none ∈ lw_good) (hini : Cond.initialized y.cls ∈ lw_good) (hlink : Cond.methodLink own index y ∈ lw_good) (hinst : Cond.instanceMethod y ∈ lw_good) (hn : y.name = "<init>")
    (hd : y.cls ≠ "java/lang/invoke/MethodHandle" ∧ y.cls ≠ "java/lang/invoke/VarHandle" ∧ (parseMethodDescriptor y.desc).map (fun d => d.parameters.length) = some As.length) (hR : fr' + 1 ≤ fr ∧ 8 + (maxL + 11) + lo' ≤ lo) (hsize : ls.size = nL) (hW : (rest.map fun v => v.category).sum ≤ 8) (hdg : decode cc pc = .ok (.invokespecial index, 3))
    {st0 : List Value} (hst : As.reverse ++ va_rf (some b) :: rest = st0)
    (kk : gV D cT H0 p l e R s m args below meth c Q S0 S1 (F0 m (pc + 3) ls rest)) : gV D cT H0 p l e R s m args below meth c Q S0 S (F0 m pc ls st0) := by
  obtain ⟨hx, hb', hml, hown, hts, hK, hlk, hRc, hRs, hRf, hRl⟩ := X
  subst hst
  intro H locs hA h2 h3 h4 T hT X
  obtain ⟨w, vm₁, ⟨U', l2, c2, s2⟩, hW₁, X', ⟨e1, L, e2, hL, e3, e4, hA1, h5, h6⟩, st⟩ := callI X hx (bytes := bytes) (maxL := maxL) hown hn (hts _ hlink) (hts _ hinst) (hts _ hcw) ⟨hd.1, hd.2.1⟩
    (g_back hM hts hK hZ (by rw [hRf]; exact hR.1) (by rw [hRl]; exact hR.2) hcw hini) (g := F0 m pc ls (As.reverse ++ va_rf (some b) :: rest)) rfl (hsize.trans hml.symm) (a := b) (argsL := As) (rest := rest)
    (fun sig h => by have := hd.2.2; rw [h] at this; exact (Option.some.inj this).symm) rfl (lv_room hW) (by rw [hb']; exact hdg)
    (fun vm₁ hW₁ => ⟨rfl, by show gA D cT H0 S T.heap; rw [hT]; exact hA, by show S.2.2.1 - S0.2.2.1 + (gC - S.2.2.1) ≤ R.cells; rw [hRc]; have := hA.1.2.1; omega, by show S.2.2.2 - S0.2.2.2 + (gU - S.2.2.2) ≤ R.slots; rw [hRs]; have := hA.1.2.2; omega⟩)
  subst e1
  dsimp only [Pt.U, Pt.locs, Pt.cells, Pt.slots] at X' e2 e3 e4 hA1 st
  subst e2
  obtain ⟨t, a1, b1⟩ := g_run (g2 := F0 m (pc + 3) ls rest) hA1 h2 hL h3 h4 h5 h6 e3 e4 X' kk
  exact ⟨t, st t a1, b1⟩
/-- a constructor that is a nest mate's -/
theorem g_callIN (X : gX D cT p R s m args meth c cc nL own fr lo S0) (hZ : gZ H0 s) {y : MethodName} {bytes : ByteArray} {maxL : Nat} {fr' lo' : Nat} {As : List Value} {b index : Nat} {host : String}
    (hM : gM D cT H0 l y (Cond.code y bytes maxL none) fr' lo' (va_rf (some b) :: As) S S1 (.inr none))
    (hcw : Cond.code y bytes maxL none ∈ lw_good) (hini : Cond.initialized y.cls ∈ lw_good) (hlink : Cond.methodLinkNest own index y host ∈ gNest ++ (gDecl ++ gCast)) (hinst : Cond.instanceMethod y ∈ lw_good) (hn : y.name = "<init>")
    (hd : y.cls ≠ "java/lang/invoke/MethodHandle" ∧ y.cls ≠ "java/lang/invoke/VarHandle" ∧ (parseMethodDescriptor y.desc).map (fun d => d.parameters.length) = some As.length) (hR : fr' + 1 ≤ fr ∧ 8 + (maxL + 11) + lo' ≤ lo) (hsize : ls.size = nL) (hW : (rest.map fun v => v.category).sum ≤ 8) (hdg : decode cc pc = .ok (.invokespecial index, 3))
    {st0 : List Value} (hst : As.reverse ++ va_rf (some b) :: rest = st0)
    (kk : gV D cT H0 p l e R s m args below meth c Q S0 S1 (F0 m (pc + 3) ls rest)) : gV D cT H0 p l e R s m args below meth c Q S0 S (F0 m pc ls st0) := by
  obtain ⟨hx, hb', hml, hown, hts, hK, hlk, hRc, hRs, hRf, hRl⟩ := X
  subst hst
  intro H locs hA h2 h3 h4 T hT X
  obtain ⟨w, vm₁, ⟨U', l2, c2, s2⟩, hW₁, X', ⟨e1, L, e2, hL, e3, e4, hA1, h5, h6⟩, st⟩ := va_callIN X hx (bytes := bytes) (maxL := maxL) hown hn (va_Nw.use rfl (hZ.2.1 _ hlink)) (hts _ hinst) (hts _ hcw) ⟨hd.1, hd.2.1⟩
    (g_back hM hts hK hZ (by rw [hRf]; exact hR.1) (by rw [hRl]; exact hR.2) hcw hini) (g := F0 m pc ls (As.reverse ++ va_rf (some b) :: rest)) rfl (hsize.trans hml.symm) (a := b) (argsL := As) (rest := rest)
    (fun sig h => by have := hd.2.2; rw [h] at this; exact (Option.some.inj this).symm) rfl (lv_room hW) (by rw [hb']; exact hdg)
    (fun vm₁ hW₁ => ⟨rfl, by show gA D cT H0 S T.heap; rw [hT]; exact hA, by show S.2.2.1 - S0.2.2.1 + (gC - S.2.2.1) ≤ R.cells; rw [hRc]; have := hA.1.2.1; omega, by show S.2.2.2 - S0.2.2.2 + (gU - S.2.2.2) ≤ R.slots; rw [hRs]; have := hA.1.2.2; omega⟩)
  subst e1
  dsimp only [Pt.U, Pt.locs, Pt.cells, Pt.slots] at X' e2 e3 e4 hA1 st
  subst e2
  obtain ⟨t, a1, b1⟩ := g_run (g2 := F0 m (pc + 3) ls rest) hA1 h2 hL h3 h4 h5 h6 e3 e4 X' kk
  exact ⟨t, st t a1, b1⟩
/-- Object's constructor -/
theorem g_objInit (X : gX D cT p R s m args meth c cc nL own fr lo S0) {b index : Nat} (hlink : Cond.methodLink own index objectInit ∈ lw_good) (hinst : Cond.instanceMethod objectInit ∈ lw_good) (hcode : Cond.code objectInit ⟨#[0xb1]⟩ 1 none ∈ lw_good) (hsize : ls.size = nL) (hdg : decode cc pc = .ok (.invokespecial index, 3)) (hR : 1 ≤ fr ∧ (rest.map fun v => v.category).sum + 12 ≤ lo)
    (kk : gV D cT H0 p l e R s m args below meth c Q S0 S (F0 m (pc + 3) ls rest)) : gV D cT H0 p l e R s m args below meth c Q S0 S (F0 m pc ls (va_rf (some b) :: rest)) := by
  obtain ⟨hx, hb', hml, hown, hts, hK, hlk, hRc, hRs, hRf, hRl⟩ := X
  intro H locs hA h2 h3 h4
  exact W.objInit (g := F0 m pc ls (va_rf (some b) :: rest)) hx hb' hown (hts _ hlink) (hts _ hinst) (hts _ hcode) rfl (hsize.trans hml.symm) rfl hdg (by rw [hRf]; exact hR.1) (by rw [hRl]; show 2 * 0 + _ + 12 ≤ lo; omega) (kk H locs hA h2 h3 h4)
/-! the ends -/
theorem W.mono {H : Heap} {locs : List Loc} {cells slots : Nat} {Q' : State → Prop} {g : JFrame} (h : ∀ t, Q' t → Q t) (k : W p l e R s m args below meth c H locs cells slots Q' g) : W p l e R s m args below meth c H locs cells slots Q g := fun T hT X => by
  obtain ⟨t, a, b⟩ := k T hT X
  exact ⟨t, a, h t b⟩
theorem gQ.of {H : Heap} {locs : List Loc} {v : Option Value} (hA : gA D cT H0 S H) (h3 : S0.2.2.1 ≤ S.2.2.1) (h4 : S0.2.2.2 ≤ S.2.2.2) {t : State} (h : MQ below (fun _ _ o t => o = .returned v ∧ t.heap = H) args s (S.2.2.1 - S0.2.2.1) (S.2.2.2 - S0.2.2.2) (fun q => H0.size ≤ q) t) : gQ D cT H0 below S0 S (.inr v) s t := by
  obtain ⟨o, h1, h2, ⟨h5, h6⟩, L, ⟨-, h8, h9⟩, h10⟩ := h
  exact ⟨o, h1, h2, h5, by rw [h6]; exact hA, h3, h4, h8, L, h9, h10⟩
theorem g_iret (X : gX D cT p R s m args meth c cc nL own fr lo S0) {v : Int32} (hr : meth.sig.returnType = some .int) (hdg : decode cc pc = .ok (.ireturn, 1)) : gV D cT H0 p l e R s m args below meth c (gQ D cT H0 below S0 S (.inr (some (.int v))) s) S0 S (F0 m pc ls [.int v]) := by
  obtain ⟨hx, hb', hml, hown, hts, hK, hlk, hRc, hRs, hRf, hRl⟩ := X
  intro H locs hA h2 h3 h4
  exact W.mono (fun t ht => gQ.of (locs := locs) hA h3 h4 ht) (W.iret (Qc := fun _ _ o t => o = .returned (some (.int v)) ∧ t.heap = H) (free := fun q => H0.size ≤ q) hx hb' hr (fun t ht _ => ⟨rfl, ht⟩) h2 hdg hlk)
theorem g_zret (X : gX D cT p R s m args meth c cc nL own fr lo S0) {v : Int32} (hr : meth.sig.returnType = some .boolean) (hn : narrow .boolean (.int v) = .int v) (hdg : decode cc pc = .ok (.ireturn, 1)) : gV D cT H0 p l e R s m args below meth c (gQ D cT H0 below S0 S (.inr (some (.int v))) s) S0 S (F0 m pc ls [.int v]) := by
  obtain ⟨hx, hb', hml, hown, hts, hK, hlk, hRc, hRs, hRf, hRl⟩ := X
  intro H locs hA h2 h3 h4
  exact W.mono (fun t ht => gQ.of (locs := locs) hA h3 h4 ht) (W.zret (Qc := fun _ _ o t => o = .returned (some (.int v)) ∧ t.heap = H) (free := fun q => H0.size ≤ q) hx hb' hr hn (fun t ht _ => ⟨rfl, ht⟩) h2 hdg hlk)
theorem g_lret (X : gX D cT p R s m args meth c cc nL own fr lo S0) {v : Int64} (hr : meth.sig.returnType = some .long) (hdg : decode cc pc = .ok (.lreturn, 1)) : gV D cT H0 p l e R s m args below meth c (gQ D cT H0 below S0 S (.inr (some (.long v))) s) S0 S (F0 m pc ls [.long v]) := by
  obtain ⟨hx, hb', hml, hown, hts, hK, hlk, hRc, hRs, hRf, hRl⟩ := X
  intro H locs hA h2 h3 h4
  exact W.mono (fun t ht => gQ.of (locs := locs) hA h3 h4 ht) (W.lret (Qc := fun _ _ o t => o = .returned (some (.long v)) ∧ t.heap = H) (free := fun q => H0.size ≤ q) hx hb' hr (fun t ht _ => ⟨rfl, ht⟩) h2 hdg hlk)
theorem g_vret (X : gX D cT p R s m args meth c cc nL own fr lo S0) (hr : meth.sig.returnType = none) (hdg : decode cc pc = .ok (.return_, 1)) : gV D cT H0 p l e R s m args below meth c (gQ D cT H0 below S0 S (.inr none) s) S0 S (F0 m pc ls []) := by
  obtain ⟨hx, hb', hml, hown, hts, hK, hlk, hRc, hRs, hRf, hRl⟩ := X
  intro H locs hA h2 h3 h4
  exact W.mono (fun t ht => gQ.of (locs := locs) hA h3 h4 ht) (W.vret (Qc := fun _ _ o t => o = .returned none ∧ t.heap = H) (free := fun q => H0.size ≤ q) hx hb' hr (fun t ht _ => ⟨rfl, ht⟩) h2 hdg hlk)
theorem g_aret (X : gX D cT p R s m args meth c cc nL own fr lo S0) {r : Option Nat} {cn : String} (hr : meth.sig.returnType = some (.object cn)) (hdg : decode cc pc = .ok (.areturn, 1)) : gV D cT H0 p l e R s m args below meth c (gQ D cT H0 below S0 S (.inr (some (va_rf r))) s) S0 S (F0 m pc ls [va_rf r]) := by
  obtain ⟨hx, hb', hml, hown, hts, hK, hlk, hRc, hRs, hRf, hRl⟩ := X
  intro H locs hA h2 h3 h4
  exact W.mono (fun t ht => gQ.of (locs := locs) hA h3 h4 ht) (W.aret (Qc := fun _ _ o t => o = .returned (some (va_rf r)) ∧ t.heap = H) (free := fun q => H0.size ≤ q) hx hb' hr (Or.inl ⟨cn, rfl⟩) (va_rf_or r) (fun t ht _ => ⟨rfl, ht⟩) h2 hdg hlk)
end GM
