/-! THE CLAIM OUT OF ONE WALK OF THE LAW'S BODY. Your part is whole_start (and what it stands on); all else here is the same for every law, but numbers. -/
def R_law : String := "PlanTextLaw"
def lw_P (b : Addr) (xs : List Int32) (args : Array Value) (s : State) : Prop := args = #[.ref b] ∧ s.IntsAt b xs ∧ xs.length ≤ 3072 ∧ (Jvm.Cond.and given_1 narrow_1).before args s = true
def lw_Q (_ : Array Value) (s : State) (o : Outcome) (t : State) : Prop := o = .returned (some (.int 1)) ∧ Framed s o t [] 601024 7293034
def lw_Z (below : List Frame) (a : Array Value) (s : State) : State → Prop := fun t => ∃ o, t.status = .running ∧ Ended t below o ∧ lw_Q a s o t
/-- the law's own end, with 1 on the stack, nothing written that was there before, its room as the claim has it -/
theorem lw_ret {p : Program} {l : Launch} {e : Env} {s : State} {m : MethodId} {below : List Frame} {meth : Method} {c : Code} {b : Nat} (hx : p.tables.exec = Jvm.exec) (hb : c.code = code) (hr : meth.sig.returnType = ret) (hlocks : meth.locks = false) {pc : Nat} {H : Heap} {ls : Array Slot} (hdg : decode code pc = .ok (.ireturn, 1)) : W p l e room_1 s m #[Value.ref b] below meth c H [] 601024 7293034 (lw_Z below #[Value.ref b] s) (F0 m pc ls [.int 1]) := by
  intro T hT X
  obtain ⟨fs, hret, hrun, hended, hW, hframe⟩ := X.leave (v := some (.int 1)) (hlocks := hlocks) (fun h => by rw [hr] at h; cases h)
  have hmeth' : T.vm.method? m = some meth := X.method'
  refine ⟨T.setFrames fs, ?_, .returned (some (.int 1)), hrun, hended, rfl, ⟨_, rfl⟩, hW, hframe⟩
  jvm_step X.here [X.here.top, hx, hb, hdg, hmeth', hr, ret, narrow_b1]
  (try refine ⟨rfl, ?_⟩); (try refine ⟨rfl, ?_⟩)
  first | (intro acts; rw [hret _ acts rfl rfl rfl]) | rw [hret _ _ rfl rfl rfl]
  exact Steps.refl _
/-- what holds at the law's entry: the machine, the code, the tables' words (any of lw_tbl by 'hts w (by decide +kernel)'), the script of L ints xs at the cell b, what the Statement gives of the start (any of its parts by flat_of_before) -/
def lw_At (p : Program) (s : State) (m : MethodId) (meth : Method) (c : Code) (b L : Nat) (xs : Nat → Int32) : Prop :=
  p.tables.exec = Jvm.exec ∧ c.code = code ∧ meth.sig.returnType = ret ∧ c.maxLocals = 7 ∧ s.vm.findClass R_law = some m.cls ∧ (∀ w ∈ lw_tbl, w.before #[Value.ref b] s = true) ∧ va_X b L xs s s.heap ∧ b < s.heap.size ∧ meth.locks = false ∧ (Jvm.Cond.and given_1 narrow_1).before #[Value.ref b] s = true
/-! ROWS OF THE LAW: its own methods have handlers; its argument is the script -/
def gCat {α β : Type} (x : Option ((String ⊕ α) × gS)) (g : String → gS → Option β) (f : α → gS → Option β) : Option β := match x with
  | none => none
  | some (.inl E, S) => g E S
  | some (.inr a, S) => f a S
theorem gcy {α β : Type} {x : Option ((String ⊕ α) × gS)} {g : String → gS → Option β} {f : α → gS → Option β} {b : β} (h : gCat x g f = some b) : (∃ E S1, x = some (.inl E, S1) ∧ g E S1 = some b) ∨ ∃ a S1, x = some (.inr a, S1) ∧ f a S1 = some b := by
  unfold gCat at h
  split at h
  · cases h
  · next E S => exact Or.inl ⟨E, S, rfl, h⟩
  · next a S => exact Or.inr ⟨a, S, rfl, h⟩
def gScr (xs : Nat → Int32) (L : Nat) (i : Int32) : Option Int32 := if ¬ (i < 0 ∨ L ≤ i.toNatClampNeg) then some (xs i.toNatClampNeg) else none
theorem gScr_spec {xs : Nat → Int32} {L : Nat} {i v : Int32} (h : gScr xs L i = some v) : ¬ (i < 0 ∨ L ≤ i.toNatClampNeg) ∧ v = xs i.toNatClampNeg := by
  unfold gScr at h
  split at h
  · next hc => cases h; exact ⟨hc, rfl⟩
  · cases h
def gYW (D : va_G) (cT : Nat → ClassId) (H0 : Heap) (p : Program) (s : State) (m : MethodId) (args : Array Value) (meth : Method) (c : Code) (cc : ByteArray) (nL : Nat) (own : String) (fr lo : Nat) (S0 : gS) (ret : Option FieldType) (hh : List (Nat × Nat × Nat × Nat)) : Prop :=
  gX D cT p (gRm fr lo S0) s m args meth c cc nL own fr lo S0 ∧ gZ H0 s ∧ c.exceptionTable.toList = tableOf hh ∧ meth.sig.returnType = ret ∧ ∀ q : Nat, q < H0.size → s.heap[q]? = H0[q]?
def gYL (D : va_G) (cT : Nat → ClassId) (p : Program) (s : State) (m : MethodId) (meth : Method) (c : Code) (b L : Nat) (xs : Nat → Int32) (S0 : gS) : Prop :=
  gX D cT p room_1 s m #[Value.ref b] meth c code 7 "PlanTextLaw" 12 444 S0 ∧ gZ s.heap s ∧ True ∧ meth.sig.returnType = ret ∧ va_X b L xs s s.heap ∧ b < s.heap.size
section GL
variable {D : va_G} {cT : Nat → ClassId} {H0 : Heap} {l : Launch}
theorem gM.ofVW {y : MethodName} {cc : ByteArray} {nL : Nat} {ret : Option FieldType} {hh : List (Nat × Nat × Nat × Nat)} {fr lo : Nat} {av : List Value} {S S' : gS} {res : String ⊕ Option Value} (hy : plainName y.cls = true)
    (body : ∀ p e s m args below meth c s₁, BodyLoose p l y (headSpec (Cond.codeWith y cc nL ret hh :: lw_good) (gRm fr lo S)) cc nL ret e s m args below meth c s₁ → c.maxLocals = nL → args = av.toArray → gX D cT p (gRm fr lo S) s m args meth c cc nL y.cls fr lo S → gZ H0 s → c.exceptionTable.toList = tableOf hh → meth.sig.returnType = ret → (∀ q : Nat, q < H0.size → s.heap[q]? = H0[q]?) →
      gV D cT H0 p l e (gRm fr lo S) s m args below meth c (gQ D cT H0 below S S' res s) S S (entryFrame m args nL)) : gM D cT H0 l y (Cond.codeWith y cc nL ret hh) fr lo av S S' res := by
  refine MetFree.of_bodyS (code := cc) (maxLocals := nL) (ret := ret) hy ?_ ?_
  · intro args s m h hn
    obtain ⟨m9, meth, c, hn9, h1, h2, h3, h4, -, h5, h6, -⟩ := Cond.codeWith_spec (atoms_spec (ws := Cond.codeWith y cc nL ret hh :: lw_good) h _ List.mem_cons_self)
    cases hn.symm.trans hn9
    exact ⟨meth, c, h1, h2, h3, h4, h5, h6⟩
  · intro p e s m args below meth c s₁ B hml hP _
    have hh0 : s₁.heap = s.heap := by rw [B.state]; rfl
    obtain ⟨e1, hA, hK, hZ⟩ := hP
    have hts : ∀ w ∈ Cond.codeWith y cc nL ret hh :: lw_good, w.before args s = true := atoms_spec (ws := Cond.codeWith y cc nL ret hh :: lw_good) B.pre
    have hex : c.exceptionTable.toList = tableOf hh := vx_table (x := y) B (hts _ List.mem_cons_self)
    have k := body p e s m args below meth c s₁ B hml e1 ⟨B.exec, B.bytes, hml, findClass_of_methodNamed B.named, fun w hw => hts w (List.mem_cons_of_mem _ hw), hK, B.notSynchronized, rfl, rfl, rfl, rfl⟩ hZ hex B.returns hA.2.2.1
    have X0 := Stand.of_body B
    obtain ⟨t, a1, o, b1, b2, b3⟩ := k s.heap [] hA (fun q h => by cases h) (Nat.le_refl _) (Nat.le_refl _) s₁ hh0 (by rw [Nat.sub_self, Nat.sub_self]; exact X0)
    exact ⟨t, o, a1, b1, b2, b3⟩
variable {p : Program} {e : Env} {R : Room} {s : State} {m : MethodId} {args : Array Value} {below : List Frame} {meth : Method} {c : Code} {Q : State → Prop} {S0 S S1 : gS}
theorem g_backW {y : MethodName} {bytes : ByteArray} {maxL : Nat} {ret : Option FieldType} {hh : List (Nat × Nat × Nat × Nat)} {fr' lo' : Nat} {av : List Value} {v : Option Value} (hM : gM D cT H0 l y (Cond.codeWith y bytes maxL ret hh) fr' lo' av S S1 (.inr v))
    (hts : ∀ w ∈ lw_good, w.before args s = true) (hK : gK D cT s) (hZ : gZ H0 s) (hfr : fr' + 1 ≤ R.frames) (hlo : 8 + (maxL + 11) + lo' ≤ R.locals) (hcw : Cond.codeWith y bytes maxL ret hh ∈ lw_good) (hini : Cond.initialized y.cls ∈ lw_good) :
    Back l R p e below s args y 3 8 (fun A a => a = av.toArray ∧ gA D cT H0 S A.U.heap ∧ A.cells + (gC - S.2.2.1) ≤ R.cells ∧ A.slots + (gU - S.2.2.2) ≤ R.slots)
      (fun A _ w B => w = v ∧ ∃ L, B.locs = A.locs ++ L ∧ (∀ q ∈ L, H0.size ≤ q.base) ∧ B.cells = A.cells + (S1.2.2.1 - S.2.2.1) ∧ B.slots = A.slots + (S1.2.2.2 - S.2.2.2) ∧ gA D cT H0 S1 B.U.heap ∧ S.2.2.1 ≤ S1.2.2.1 ∧ S.2.2.2 ≤ S1.2.2.2) := by
  refine va_ofFreeW (S := headSpec (Cond.codeWith y bytes maxL ret hh :: lw_good) (gRm fr' lo' S)) (P := gP D cT H0 S av) (K := fun _ _ _ _ _ => True) (Q := fun _ st o t => gO D cT H0 S S1 (.inr v) st o t) (bytes := bytes) (maxL := maxL) (ret := ret) (hh := hh)
    (E := fun a st o t L k n => k = S1.2.2.1 - S.2.2.1 ∧ n = S1.2.2.2 - S.2.2.2 ∧ ∀ q ∈ L, H0.size ≤ q.base) hM hfr hlo ?_ ?_ (fun _ _ _ _ _ _ _ _ _ => trivial) ?_ ?_
  · intro m meth c A a X hp
    exact ⟨atoms_intro fun w hw => g_word hts (by rcases List.mem_cons.mp hw with rfl | h; exact hcw; exact h) X.warmed, g_word hts hcw X.warmed, g_word hts hini X.warmed, hp.2.2.1, hp.2.2.2⟩
  · intro m meth c A a g mk X hp
    exact ⟨hp.1, hp.2.1, hK.moved X.warmed.alike, hZ.warm X.warmed⟩
  · intro a st o t ⟨ho, h1, h2, h3, h4, L, h5, h6⟩
    exact ⟨L, _, _, ⟨⟨v, ho⟩, h4, h5⟩, rfl, rfl, h6⟩
  · intro m meth c A a g mk w t L k n X hp hq hF ⟨e1, e2, hL⟩
    obtain ⟨ho, h1, h2, h3, -⟩ := hq
    subst e1; subst e2
    exact ⟨Outcome.returned.inj ho, L, rfl, hL, rfl, rfl, h1, h2, h3⟩
variable {cc : ByteArray} {nL : Nat} {own : String} {fr lo : Nat} {pc : Nat} {ls : Array Slot} {rest : List Value}
/-- a static call of a method with handlers -/
theorem g_callSW (X : gX D cT p R s m args meth c cc nL own fr lo S0) (hZ : gZ H0 s) {y : MethodName} {bytes : ByteArray} {maxL : Nat} {ret : Option FieldType} {hh : List (Nat × Nat × Nat × Nat)} {fr' lo' : Nat} {As : List Value} {v : Option Value} {index : Nat}
    (hM : gM D cT H0 l y (Cond.codeWith y bytes maxL ret hh) fr' lo' As S S1 (.inr v))
    (hcw : Cond.codeWith y bytes maxL ret hh ∈ lw_good) (hini : Cond.initialized y.cls ∈ lw_good) (hlink : Cond.methodLink own index y ∈ lw_good) (hstat : Cond.static y ∈ lw_good)
    (hd : y.cls ≠ "java/lang/invoke/MethodHandle" ∧ y.cls ≠ "java/lang/invoke/VarHandle" ∧ (parseMethodDescriptor y.desc).map (fun d => d.parameters.length) = some As.length) (hR : fr' + 1 ≤ fr ∧ 8 + (maxL + 11) + lo' ≤ lo) (hsize : ls.size = nL) (hW : (rest.map fun v => v.category).sum ≤ 8) (hdg : decode cc pc = .ok (.invokestatic index, 3))
    {st0 : List Value} (hst : As.reverse ++ rest = st0) {st1 : List Value} (hst1 : v.toList ++ rest = st1)
    (kk : gV D cT H0 p l e R s m args below meth c Q S0 S1 (F0 m (pc + 3) ls st1)) : gV D cT H0 p l e R s m args below meth c Q S0 S (F0 m pc ls st0) := by
  obtain ⟨hx, hb', hml, hown, hts, hK, hlk, hRc, hRs, hRf, hRl⟩ := X
  subst hst; subst hst1
  intro H locs hA h2 h3 h4 T hT X
  obtain ⟨w, vm₁, ⟨U', l2, c2, s2⟩, hW₁, X', ⟨e1, L, e2, hL, e3, e4, hA1, h5, h6⟩, st⟩ := vx_callSW X hx (bytes := bytes) (maxL := maxL) (ret := ret) (hh := hh) hown (hts _ hlink) (hts _ hstat) (hts _ hini) (hts _ hcw) ⟨hd.1, hd.2.1⟩
    (g_backW hM hts hK hZ (by rw [hRf]; exact hR.1) (by rw [hRl]; exact hR.2) hcw hini) (g := F0 m pc ls (As.reverse ++ rest)) rfl (hsize.trans hml.symm) (argsL := As) (rest := rest)
    (fun sig h => by have := hd.2.2; rw [h] at this; exact (Option.some.inj this).symm) rfl (lv_room hW) (by rw [hb']; exact hdg)
    (fun vm₁ hW₁ => ⟨rfl, by show gA D cT H0 S T.heap; rw [hT]; exact hA, by show S.2.2.1 - S0.2.2.1 + (gC - S.2.2.1) ≤ R.cells; rw [hRc]; have := hA.1.2.1; omega, by show S.2.2.2 - S0.2.2.2 + (gU - S.2.2.2) ≤ R.slots; rw [hRs]; have := hA.1.2.2; omega⟩)
  subst e1
  dsimp only [Pt.U, Pt.locs, Pt.cells, Pt.slots] at X' e2 e3 e4 hA1 st
  subst e2
  obtain ⟨t, a1, b1⟩ := g_run (g2 := F0 m (pc + 3) ls (w.toList ++ rest)) hA1 h2 hL h3 h4 h5 h6 e3 e4 X' kk
  exact ⟨t, st t a1, b1⟩
theorem g_scrS {b L : Nat} {xs : Nat → Int32} {H : Heap} {locs : List Loc} (hA : gA D cT s.heap S H) (h2 : ∀ q ∈ locs, s.heap.size ≤ q.base) : va_S (fun q => s.heap.size ≤ q) s.heap H locs :=
  ⟨by rw [hA.2.1]; exact hA.1.1, fun q hq _ => hA.2.2.1 q hq, h2⟩
theorem g_sld (X : gX D cT p R s m args meth c cc nL own fr lo S0) {b L : Nat} {xs : Nat → Int32} (hX : va_X b L xs s s.heap) (hbl : b < s.heap.size) {i v : Int32} (hv : gScr xs L i = some v) (hdg : decode cc pc = .ok (.iaload, 1))
    (kk : gV D cT s.heap p l e R s m args below meth c Q S0 S (F0 m (pc + 1) ls (.int v :: rest))) : gV D cT s.heap p l e R s m args below meth c Q S0 S (F0 m pc ls (.int i :: .ref b :: rest)) := by
  obtain ⟨hin, rfl⟩ := gScr_spec hv
  intro H locs hA h2 h3 h4
  exact va_sld (A := fun q => s.heap.size ≤ q) X.1 X.2.1 hX hbl (Nat.not_le.mpr hbl) (g_scrS (b := b) (L := L) (xs := xs) hA h2) hin hdg (kk H locs hA h2 h3 h4)
theorem g_slen (X : gX D cT p R s m args meth c cc nL own fr lo S0) {b L : Nat} {xs : Nat → Int32} (hX : va_X b L xs s s.heap) (hbl : b < s.heap.size) (hdg : decode cc pc = .ok (.arraylength, 1))
    (kk : gV D cT s.heap p l e R s m args below meth c Q S0 S (F0 m (pc + 1) ls (.int (nI L) :: rest))) : gV D cT s.heap p l e R s m args below meth c Q S0 S (F0 m pc ls (.ref b :: rest)) := by
  intro H locs hA h2 h3 h4
  exact va_slen (A := fun q => s.heap.size ≤ q) X.1 X.2.1 hX hbl (Nat.not_le.mpr hbl) (g_scrS (b := b) (L := L) (xs := xs) hA h2) hdg (kk H locs hA h2 h3 h4)
end GL
section GLR
variable {D : va_G} {cT : Nat → ClassId} {l : Launch} {p : Program} {e : Env} {s : State} {m : MethodId} {below : List Frame} {meth : Method} {c : Code} {S0 S : gS} {pc : Nat} {ls : Array Slot} {b : Nat}
/-- the law's end -/
theorem g_lawret (X : gX D cT p room_1 s m #[Value.ref b] meth c code 7 "PlanTextLaw" 12 444 S0) (hr : meth.sig.returnType = ret) (hdg : decode code pc = .ok (.ireturn, 1)) : gV D cT s.heap p l e room_1 s m #[Value.ref b] below meth c (lw_Z below #[Value.ref b] s) S0 S (F0 m pc ls [.int 1]) := by
  intro H locs hA h2 h3 h4
  have z1 := hA.1.2.1
  have z2 := hA.1.2.2
  refine va_forget (fun q hq => h2 q hq) ?_
  refine W.widen (k := 601024) (n := 7293034) (by unfold gC at z1; omega) (by unfold gU at z2; omega) ?_
  exact lw_ret X.1 X.2.1 hr X.2.2.2.2.2.2.1 hdg
end GLR
