/-! THE ABSTRACT HEAP: addresses from the law's first free cell on; objects by class number and fields, arrays by kind number and contents -/
abbrev gE : Type := (Nat × vp_A) ⊕ (Nat × List Value)
/-- cells, size of the heap, cells made at most, slots made at most -/
abbrev gS : Type := (Nat → Option gE) × Nat × Nat × Nat
/-- the claim's room -/
def gC : Nat := 601024
def gU : Nat := 7293034
def gup (G : Nat → Option gE) (a : Nat) (e : gE) : Nat → Option gE := fun q => if q = a then some e else G q
theorem gup_self {G : Nat → Option gE} {a : Nat} {e : gE} : gup G a e a = some e := by simp [gup]
theorem gup_ne {G : Nat → Option gE} {a b : Nat} {e : gE} (h : b ≠ a) : gup G a e b = G b := by simp [gup, h]
def gat (D : va_G) (cT : Nat → ClassId) (a : Nat) (e : gE) (H : Heap) : Prop := match e with
  | .inl x => H[a]? = some (vp_cell (cT x.1) x.2)
  | .inr o => va_at D vwCl (a, .inr o) H
theorem gat.kept {D : va_G} {cT : Nat → ClassId} {a : Nat} {e : gE} {H H1 : Heap} (h : gat D cT a e H) (hq : H1[a]? = H[a]?) : gat D cT a e H1 := by
  cases e with
  | inl x => exact hq.trans h
  | inr o => exact va_at.kept (q := (a, .inr o)) h hq
theorem gat.lt {D : va_G} {cT : Nat → ClassId} {a : Nat} {e : gE} {H : Heap} (h : gat D cT a e H) : a < H.size := by
  cases e with
  | inl x => exact (Array.getElem?_eq_some_iff.mp h).1
  | inr o => exact va_at.lt (q := (a, .inr o)) h
/-- the real heap H holds what the abstract state S says, and is as H0 below H0's size -/
def gA (D : va_G) (cT : Nat → ClassId) (H0 : Heap) (S : gS) (H : Heap) : Prop :=
  (H0.size ≤ S.2.1 ∧ S.2.2.1 ≤ gC ∧ S.2.2.2 ≤ gU) ∧ H.size = S.2.1 ∧ (∀ q : Nat, q < H0.size → H[q]? = H0[q]?) ∧ ∀ (a : Nat) (e : gE), S.1 a = some e → H0.size ≤ a ∧ gat D cT a e H
theorem gA.lt {D : va_G} {cT : Nat → ClassId} {H0 : Heap} {S : gS} {H : Heap} (h : gA D cT H0 S H) {a : Nat} {e : gE} (ha : S.1 a = some e) : a < S.2.1 := by
  rw [← h.2.1]; exact (h.2.2.2 a e ha).2.lt
theorem gA.set {D : va_G} {cT : Nat → ClassId} {H0 : Heap} {S : gS} {H H1 : Heap} (h : gA D cT H0 S H) {a : Nat} {e0 e : gE} (ha : S.1 a = some e0) (he : gat D cT a e H1) (z : H1.size = H.size) (oq : ∀ q : Nat, q ≠ a → H1[q]? = H[q]?) : gA D cT H0 (gup S.1 a e, S.2) H1 := by
  obtain ⟨h1, h2, h3, h4⟩ := h
  have hz := (h4 a e0 ha).1
  refine ⟨h1, z.trans h2, fun q hq => (oq q (by omega)).trans (h3 q hq), fun b e' hb => ?_⟩
  by_cases hba : b = a
  · subst hba
    rw [show (gup S.1 b e, S.2).1 b = some e from gup_self] at hb
    cases hb
    exact ⟨hz, he⟩
  · rw [show (gup S.1 a e, S.2).1 b = S.1 b from gup_ne hba] at hb
    exact ⟨(h4 b e' hb).1, (h4 b e' hb).2.kept (oq b hba)⟩
theorem gA.push {D : va_G} {cT : Nat → ClassId} {H0 : Heap} {S : gS} {H H1 : Heap} (h : gA D cT H0 S H) {e : gE} {u : Nat × Nat} (hu : u.1 ≤ gC ∧ u.2 ≤ gU) (he : gat D cT S.2.1 e H1) (z : H1.size = H.size + 1) (oq : ∀ q : Nat, q < H.size → H1[q]? = H[q]?) : gA D cT H0 (gup S.1 S.2.1 e, S.2.1 + 1, u) H1 := by
  have hl := fun a e' (ha : S.1 a = some e') => h.lt ha
  obtain ⟨h1, h2, h3, h4⟩ := h
  refine ⟨⟨Nat.le_succ_of_le h1.1, hu⟩, by rw [z, h2], fun q hq => (oq q (by omega)).trans (h3 q hq), fun b e' hb => ?_⟩
  by_cases hba : b = S.2.1
  · subst hba
    rw [show (gup S.1 S.2.1 e, S.2.1 + 1, u).1 S.2.1 = some e from gup_self] at hb
    cases hb
    exact ⟨h1.1, he⟩
  · rw [show (gup S.1 S.2.1 e, S.2.1 + 1, u).1 b = S.1 b from gup_ne hba] at hb
    exact ⟨(h4 b e' hb).1, (h4 b e' hb).2.kept (oq b (by rw [h2]; exact hl b e' hb))⟩
/-- the classes of objects, the classes of arrays -/
def gK (D : va_G) (cT : Nat → ClassId) (s : State) : Prop := va_K D vwCl [] s ∧ ∀ (t : Nat) (ty : FieldType), gKinds[t]? = some ty → ArrOfT s (cT t) ty ∧ va_RA s (cT t) ty
theorem gK.moved {D : va_G} {cT : Nat → ClassId} {u U : State} (hvm : u.vm.Alike U.vm) (h : gK D cT u) : gK D cT U := ⟨h.1.moved hvm, fun t ty ht => ⟨arrOfT_moved hvm (h.2 t ty ht).1, (h.2 t ty ht).2.moved hvm⟩⟩
/-- the judgement W with heap, written places and room taken from the abstract state -/
def gV (D : va_G) (cT : Nat → ClassId) (H0 : Heap) (p : Program) (l : Launch) (e : Env) (R : Room) (s : State) (m : MethodId) (args : Array Value) (below : List Frame) (meth : Method) (c : Code) (Q : State → Prop) (S0 S : gS) (g : JFrame) : Prop :=
  ∀ (H : Heap) (locs : List Loc), gA D cT H0 S H → (∀ q ∈ locs, H0.size ≤ q.base) → S0.2.2.1 ≤ S.2.2.1 → S0.2.2.2 ≤ S.2.2.2 → W p l e R s m args below meth c H locs (S.2.2.1 - S0.2.2.1) (S.2.2.2 - S0.2.2.2) Q g
/-- what a walk knows of its method -/
def gX (D : va_G) (cT : Nat → ClassId) (p : Program) (R : Room) (s : State) (m : MethodId) (args : Array Value) (meth : Method) (c : Code) (cc : ByteArray) (nL : Nat) (own : String) (fr lo : Nat) (S0 : gS) : Prop :=
  p.tables.exec = Jvm.exec ∧ c.code = cc ∧ c.maxLocals = nL ∧ s.vm.findClass own = some m.cls ∧ (∀ w ∈ lw_good, w.before args s = true) ∧ gK D cT s ∧ meth.locks = false ∧ R.cells = gC - S0.2.2.1 ∧ R.slots = gU - S0.2.2.2 ∧ R.frames = fr ∧ R.locals = lo
/-- a class of objects, by its number -/
def gCl (ci : Nat) (C : String) (T : u_T) (N : Nat) (ty : Nat → FieldType) : Prop := vwCl[ci]? = some (C, T, N) ∧ (∀ w ∈ u_ws C T N, w ∈ lw_good) ∧ (∀ k, k < N → parseFieldDescriptor (T k).2.2.1 = some (ty k)) ∧ (∀ a, a < N → ∀ b, b < N → a ≠ b → (T a).2.1 ≠ (T b).2.1)
section GV
variable {D : va_G} {cT : Nat → ClassId} {H0 : Heap} {p : Program} {l : Launch} {e : Env} {R : Room} {s : State} {m : MethodId} {args : Array Value} {below : List Frame} {meth : Method} {c : Code} {Q : State → Prop} {S0 S : gS}
variable {cc : ByteArray} {nL : Nat} {own : String} {fr lo : Nat} {pc : Nat} {ls : Array Slot} {rest : List Value} {a : Nat}
theorem gV.lift {g1 g2 : JFrame} (h : ∀ (H : Heap) (locs : List Loc) (cells slots : Nat), W p l e R s m args below meth c H locs cells slots Q g2 → W p l e R s m args below meth c H locs cells slots Q g1) (k : gV D cT H0 p l e R s m args below meth c Q S0 S g2) : gV D cT H0 p l e R s m args below meth c Q S0 S g1 :=
  fun H locs h1 h2 h3 h4 => h H locs _ _ (k H locs h1 h2 h3 h4)
theorem gV.lift2 {g1 g2 g3 : JFrame} {A B : Prop} (h : ∀ (H : Heap) (locs : List Loc) (cells slots : Nat), (A → W p l e R s m args below meth c H locs cells slots Q g2) → (B → W p l e R s m args below meth c H locs cells slots Q g3) → W p l e R s m args below meth c H locs cells slots Q g1) (k1 : A → gV D cT H0 p l e R s m args below meth c Q S0 S g2) (k2 : B → gV D cT H0 p l e R s m args below meth c Q S0 S g3) : gV D cT H0 p l e R s m args below meth c Q S0 S g1 :=
  fun H locs h1 h2 h3 h4 => h H locs _ _ (fun q => k1 q H locs h1 h2 h3 h4) (fun q => k2 q H locs h1 h2 h3 h4)
theorem gV.liftS {g1 : JFrame} {F : Array Slot → JFrame} {lv' : List (Nat × Value)} (h : ∀ (H : Heap) (locs : List Loc) (cells slots : Nat), (∀ ls' : Array Slot, lv_has ls' nL lv' → W p l e R s m args below meth c H locs cells slots Q (F ls')) → W p l e R s m args below meth c H locs cells slots Q g1) (k : ∀ ls' : Array Slot, lv_has ls' nL lv' → gV D cT H0 p l e R s m args below meth c Q S0 S (F ls')) : gV D cT H0 p l e R s m args below meth c Q S0 S g1 :=
  fun H locs h1 h2 h3 h4 => h H locs _ _ (fun ls' hl => k ls' hl H locs h1 h2 h3 h4)
/-- a field is read -/
theorem g_get (X : gX D cT p R s m args meth c cc nL own fr lo S0) {ci : Nat} {C : String} {T : u_T} {N : Nat} {ty : Nat → FieldType} (hC : gCl ci C T N ty) {index k : Nat} {fs : List Value} {v : Value} (ha : S.1 a = some (.inr (ci, fs))) (hv : fs[k]? = some v) (hk : k < N)
    (hlink : Cond.fieldLink own index (T k).1 (T k).2.1 (T k).2.2.1 ∈ lw_good) (hdg : decode cc pc = .ok (.getfield index, 3))
    (kk : gV D cT H0 p l e R s m args below meth c Q S0 S (F0 m (pc + 3) ls (v :: rest))) : gV D cT H0 p l e R s m args below meth c Q S0 S (F0 m pc ls (va_rf (some a) :: rest)) := by
  obtain ⟨hx, hb, hml, hown, hts, hK, -⟩ := X
  intro H locs hA h2 h3 h4
  have hP : va_P D vwCl [(a, .inr (ci, fs))] H := fun j q hq => by
    have hj : j = 0 := by
      have := (List.getElem?_eq_some_iff.mp hq).1
      simpa using this
    subst hj
    cases hq
    exact (hA.2.2.2 a _ ha).2
  exact va_get (D := D) (ci := ci) (v := v) (C := C) (T := T) (N := N) hx hb hts hC.2.1 hown hK.1 hP 0 rfl hC.1 k hk (hts _ hlink) (fun _ h9 => h9) hv hdg (kk H locs hA h2 h3 h4)
/-- a field is written -/
theorem g_put (X : gX D cT p R s m args meth c cc nL own fr lo S0) {ci : Nat} {C : String} {T : u_T} {N : Nat} {ty : Nat → FieldType} (hC : gCl ci C T N ty) {index k : Nat} {fs : List Value} {v : Value} (ha : S.1 a = some (.inr (ci, fs))) (hl : k < fs.length) (hk : k < N)
    (hlink : Cond.fieldLink own index (T k).1 (T k).2.1 (T k).2.2.1 ∈ lw_good) (hfin : (T k).2.2.2 = false) (hn : narrow (ty k) v = v) (hfit : fits (ty k) v = true) (hdg : decode cc pc = .ok (.putfield index, 3))
    (kk : gV D cT H0 p l e R s m args below meth c Q S0 (gup S.1 a (.inr (ci, fs.set k v)), S.2) (F0 m (pc + 3) ls rest)) : gV D cT H0 p l e R s m args below meth c Q S0 S (F0 m pc ls (v :: va_rf (some a) :: rest)) := by
  obtain ⟨hx, hb, hml, hown, hts, hK, -⟩ := X
  obtain ⟨hc, hin, hty, hnm⟩ := hC
  intro H locs hA h2 h3 h4
  have hap := va_apart (own := own) hts hin ty hty hnm hK.1 hc
  obtain ⟨hz, r, h1, cell, q1, q2, q3, q4⟩ := hA.2.2.2 a _ ha
  have hr : r = (C, T, N) := Option.some.inj (h1.symm.trans hc)
  subst hr
  obtain ⟨hS, hfc, kC, hkC, hkind⟩ := hK.1.1 ci _ hc
  obtain ⟨cf, kf, fi, f, hi, hsl⟩ := hS k hk
  have hlay := hts _ (hin _ (u_in_lay hk))
  unfold u_lay at hlay
  rw [if_neg (by rw [hfin]; decide)] at hlay
  have hst := (u_facts hfc hkC (u_lays hts hin hk) hi).1
  have h6 := u_store hfc hkC hkind hlay hi (hty k hk) hn hfit
  refine W.putK hx hb (f := f) ⟨hown, hts _ hlink, ⟨_, _, _, hi⟩, hst⟩ (by rw [q2]; exact h6) q1 q3 (by rw [hsl]; exact k2_hasslot (q4 k hk)) rfl rfl hdg fun H' e1 e2 e3 => ?_
  rw [hsl] at e1 ⊢
  refine kk H' _ (hA.set ha ?_ e2 e3) (fun q hq => ?_) h3 h4
  · exact ⟨_, hc, t_OB.to (V := updV (vp_V fs) k v) ⟨_, e1, q2, q3, t_set q4 hap hk v⟩ (fun j _ => vp_updV_set hl v j)⟩
  · rcases List.mem_append.mp hq with h9 | h9
    · exact h2 q h9
    · rw [List.mem_singleton.mp h9]; exact hz
/-- a final field is written by the class's constructor -/
theorem g_putF (X : gX D cT p R s m args meth c cc nL own fr lo S0) {ci : Nat} {C : String} {T : u_T} {N : Nat} {ty : Nat → FieldType} (hC : gCl ci C T N ty) {index k : Nat} {fs : List Value} {v : Value} (ha : S.1 a = some (.inr (ci, fs))) (hl : k < fs.length) (hk : k < N)
    (hlink : Cond.fieldLink own index (T k).1 (T k).2.1 (T k).2.2.1 ∈ lw_good) (hfin : (T k).2.2.2 = true) (hin2 : meth.name = "<init>") (hdecl : (T k).1 = own) (hn : narrow (ty k) v = v) (hfit : fits (ty k) v = true) (hdg : decode cc pc = .ok (.putfield index, 3))
    (kk : gV D cT H0 p l e R s m args below meth c Q S0 (gup S.1 a (.inr (ci, fs.set k v)), S.2) (F0 m (pc + 3) ls rest)) : gV D cT H0 p l e R s m args below meth c Q S0 S (F0 m pc ls (v :: va_rf (some a) :: rest)) := by
  obtain ⟨hx, hb, hml, hown, hts, hK, -⟩ := X
  obtain ⟨hc, hin, hty, hnm⟩ := hC
  intro H locs hA h2 h3 h4
  have hap := va_apart (own := own) hts hin ty hty hnm hK.1 hc
  obtain ⟨hz, r, h1, cell, q1, q2, q3, q4⟩ := hA.2.2.2 a _ ha
  have hr : r = (C, T, N) := Option.some.inj (h1.symm.trans hc)
  subst hr
  obtain ⟨hS, hfc, kC, hkC, hkind⟩ := hK.1.1 ci _ hc
  obtain ⟨cf, kf, fi, f, hi, hsl⟩ := hS k hk
  have hlay := hts _ (hin _ (u_in_lay hk))
  unfold u_lay at hlay
  rw [if_pos hfin] at hlay
  have hst := (u_facts hfc hkC (u_lays hts hin hk) hi).1
  have hcf : m.cls = cf := by
    obtain ⟨_, _, c', _, _, _, -, -, hf', -, -, -, hown2, -⟩ := Cond.laysFinal_spec hlay
    have e1 : c' = cf := by have := hi.symm.trans hf'; simp at this; exact this.1.symm
    rw [hdecl] at hown2
    rw [← e1]; exact Option.some.inj (hown.symm.trans hown2)
  have h6 := u_fits hfc hkC hkind (Or.inr hlay) hi (hty k hk) hn hfit
  refine W.putFinK hx hb hown (hts _ hlink) hi hst hcf hin2 (by rw [q2]; exact h6) q1 q3 (by rw [hsl]; exact k2_hasslot (q4 k hk)) rfl rfl hdg fun H' e1 e2 e3 => ?_
  rw [hsl] at e1 ⊢
  refine kk H' _ (hA.set ha ?_ e2 e3) (fun q hq => ?_) h3 h4
  · exact ⟨_, hc, t_OB.to (V := updV (vp_V fs) k v) ⟨_, e1, q2, q3, t_set q4 hap hk v⟩ (fun j _ => vp_updV_set hl v j)⟩
  · rcases List.mem_append.mp hq with h9 | h9
    · exact h2 q h9
    · rw [List.mem_singleton.mp h9]; exact hz
/-- a new object -/
theorem g_new (X : gX D cT p R s m args meth c cc nL own fr lo S0) {ci : Nat} {C : String} {T : u_T} {N : Nat} {ty : Nat → FieldType} (hC : gCl ci C T N ty) {index : Nat} {fs : List Value} (hfs : ∀ j, j < N → defaultValue (ty j) = vp_V fs j)
    (hcl : Cond.classLink own index C ∈ lw_good) (hins : Cond.instantiable C N ∈ lw_good) (hini : Cond.initialized C ∈ lw_good) (hr : S.2.2.1 + 1 ≤ gC ∧ S.2.2.2 + N ≤ gU) (hdg : decode cc pc = .ok (.new index, 3))
    (kk : gV D cT H0 p l e R s m args below meth c Q S0 (gup S.1 S.2.1 (.inr (ci, fs)), S.2.1 + 1, S.2.2.1 + 1, S.2.2.2 + N) (F0 m (pc + 3) ls (va_rf (some S.2.1) :: rest))) : gV D cT H0 p l e R s m args below meth c Q S0 S (F0 m pc ls rest) := by
  obtain ⟨hx, hb, hml, hown, hts, hK, -, hRc, hRs, -⟩ := X
  obtain ⟨hc, hin, hty, hnm⟩ := hC
  intro H locs hA h2 h3 h4
  have hKn := hK.1.1 ci _ hc
  have hsz := hA.2.1
  refine W.newcK (n := N) hx hb hown (hts _ hcl) (hts _ hins) (hts _ hini) rfl hdg (by rw [hRc]; omega) (by rw [hRs]; omega) hKn.2.1 hsz fun H1 kC hkC e1 z1 o1 => ?_
  have hz := hA.push (e := .inr (ci, fs)) (u := (S.2.2.1 + 1, S.2.2.2 + N)) (H1 := H1) hr ⟨_, hc, t_OB.to (u_born ty hts hin hKn hkC e1 hty) hfs⟩ (by rw [z1, hsz]) (fun q hq => o1 q (by rw [← hsz]; exact hq))
  have kz := kk H1 locs hz h2 (by show S0.2.2.1 ≤ S.2.2.1 + 1; omega) (by show S0.2.2.2 ≤ S.2.2.2 + N; omega)
  rw [show (gup S.1 S.2.1 (.inr (ci, fs)), S.2.1 + 1, S.2.2.1 + 1, S.2.2.2 + N).2.2.1 - S0.2.2.1 = S.2.2.1 - S0.2.2.1 + 1 by show S.2.2.1 + 1 - S0.2.2.1 = _; omega, show (gup S.1 S.2.1 (.inr (ci, fs)), S.2.1 + 1, S.2.2.1 + 1, S.2.2.2 + N).2.2.2 - S0.2.2.2 = S.2.2.2 - S0.2.2.2 + N by show S.2.2.2 + N - S0.2.2.2 = _; omega] at kz
  exact kz
/-- a new array of numbers -/
theorem g_newa (X : gX D cT p R s m args meth c cc nL own fr lo S0) {atype : ArrayType} {t : Nat} {ty : FieldType} (hty : newarray.typeOf atype = ty) (ht : gKinds[t]? = some ty) (hRA : va_RA s (cT t) ty = (s.vm.findClass ("[" ++ ty.toString) = some (cT t)))
    (harr : Cond.arrayClass (newarray.typeOf atype) ∈ lw_good) {n : Int32} {N : Nat} {a0 : vp_A} (ha : ∀ cA : ClassId, vp_cell cA a0 = arrV cA N (fun _ => defaultValue ty)) (hn : ¬ n < 0) (hN : n.toNatClampNeg = N) (hbytes : N * componentBytes ty ≤ 536870912)
    (hr : S.2.2.1 + 1 ≤ gC ∧ S.2.2.2 + N ≤ gU) (hdg : decode cc pc = .ok (.newarray atype, 2))
    (kk : gV D cT H0 p l e R s m args below meth c Q S0 (gup S.1 S.2.1 (.inl (t, a0)), S.2.1 + 1, S.2.2.1 + 1, S.2.2.2 + N) (F0 m (pc + 2) ls (va_rf (some S.2.1) :: rest))) : gV D cT H0 p l e R s m args below meth c Q S0 S (F0 m pc ls (.int n :: rest)) := by
  obtain ⟨hx, hb, hml, hown, hts, hK, -, hRc, hRs, -⟩ := X
  intro H locs hA h2 h3 h4
  have hsz := hA.2.1
  subst hty
  refine va_newaK hx hb (hts _ harr) rfl hdg rfl hn hN hbytes (by rw [hRc]; omega) (by rw [hRs]; omega) hsz fun H1 cA e1 z1 o1 hAr hNm => ?_
  have hcA : cA = cT t := Option.some.inj (hNm.symm.trans (hRA ▸ (hK.2 t _ ht).2))
  have hz := hA.push (e := .inl (t, a0)) (u := (S.2.2.1 + 1, S.2.2.2 + N)) (H1 := H1) hr (by show H1[S.2.1]? = some (vp_cell (cT t) a0); rw [ha, ← hcA]; exact e1) (by rw [z1, hsz]) (fun q hq => o1 q (by rw [← hsz]; exact hq))
  have kz := kk H1 locs hz h2 (by show S0.2.2.1 ≤ S.2.2.1 + 1; omega) (by show S0.2.2.2 ≤ S.2.2.2 + N; omega)
  rw [show (gup S.1 S.2.1 (.inl (t, a0)), S.2.1 + 1, S.2.2.1 + 1, S.2.2.2 + N).2.2.1 - S0.2.2.1 = S.2.2.1 - S0.2.2.1 + 1 by show S.2.2.1 + 1 - S0.2.2.1 = _; omega, show (gup S.1 S.2.1 (.inl (t, a0)), S.2.1 + 1, S.2.2.1 + 1, S.2.2.2 + N).2.2.2 - S0.2.2.2 = S.2.2.2 - S0.2.2.2 + N by show S.2.2.2 + N - S0.2.2.2 = _; omega] at kz
  exact kz
/-- a new array of references -/
theorem g_anew (X : gX D cT p R s m args meth c cc nL own fr lo S0) {C : String} {index t : Nat} (ht : gKinds[t]? = some (.object C)) (hcl : Cond.classLink own index C ∈ lw_good) (hover : va_AO C s) {n : Int32} (hn : ¬ n < 0) (hbytes : n.toNatClampNeg * 4 ≤ 536870912)
    (hr : S.2.2.1 + 1 ≤ gC ∧ S.2.2.2 + n.toNatClampNeg ≤ gU) (hdg : decode cc pc = .ok (.anewarray index, 3))
    (kk : gV D cT H0 p l e R s m args below meth c Q S0 (gup S.1 S.2.1 (.inl (t, n.toNatClampNeg, .inr (.inr (.inr (.inr (fun _ => none)))))), S.2.1 + 1, S.2.2.1 + 1, S.2.2.2 + n.toNatClampNeg) (F0 m (pc + 3) ls (va_rf (some S.2.1) :: rest))) : gV D cT H0 p l e R s m args below meth c Q S0 S (F0 m pc ls (.int n :: rest)) := by
  obtain ⟨hx, hb, hml, hown, hts, hK, -, hRc, hRs, -⟩ := X
  intro H locs hA h2 h3 h4
  have hsz := hA.2.1
  refine W.anew hx hb hown (hts _ hcl) (va_AO.use hover) rfl hdg rfl hn hbytes (by rw [hRc]; omega) (by rw [hRs]; omega) fun cA kA comp f1 f2 f3 f4 => ?_
  have hcA : cA = cT t := by
    obtain ⟨kA', comp', -, -, -, f5⟩ := (hK.2 t _ ht).2
    exact Option.some.inj (f1.symm.trans f5)
  generalize hH1 : H.push ({ cls := cA, slots := Array.replicate n.toNatClampNeg .null, vm := .none } : Cell) = H1
  have z1 : H1.size = H.size + 1 := by rw [← hH1, Array.size_push]
  have e1 : H1[H.size]? = some (arrV cA n.toNatClampNeg (fun _ => .null)) := by rw [← hH1, Array.getElem?_push_size, ← arrV_new]
  have o1 : ∀ q : Nat, q < H.size → H1[q]? = H[q]? := fun q hq => by rw [← hH1, Array.getElem?_push, if_neg (Nat.ne_of_lt hq)]
  have hz := hA.push (e := .inl (t, n.toNatClampNeg, .inr (.inr (.inr (.inr (fun _ => none)))))) (u := (S.2.2.1 + 1, S.2.2.2 + n.toNatClampNeg)) (H1 := H1) hr (by show H1[S.2.1]? = some (vp_cell (cT t) _); rw [← hcA, ← hsz]; exact e1) z1 o1
  have kz := kk H1 locs hz h2 (by show S0.2.2.1 ≤ S.2.2.1 + 1; omega) (by show S0.2.2.2 ≤ S.2.2.2 + n.toNatClampNeg; omega)
  rw [show (gup S.1 S.2.1 (.inl (t, n.toNatClampNeg, .inr (.inr (.inr (.inr (fun _ => none)))))), S.2.1 + 1, S.2.2.1 + 1, S.2.2.2 + n.toNatClampNeg).2.2.1 - S0.2.2.1 = S.2.2.1 - S0.2.2.1 + 1 by show S.2.2.1 + 1 - S0.2.2.1 = _; omega, show (gup S.1 S.2.1 (.inl (t, n.toNatClampNeg, .inr (.inr (.inr (.inr (fun _ => none)))))), S.2.1 + 1, S.2.2.1 + 1, S.2.2.2 + n.toNatClampNeg).2.2.2 - S0.2.2.2 = S.2.2.2 - S0.2.2.2 + n.toNatClampNeg by show S.2.2.2 + n.toNatClampNeg - S0.2.2.2 = _; omega] at kz
  rw [hsz]
  exact kz
theorem gK.one {t : Nat} {ty : FieldType} (h : gK D cT s) (ht : gKinds[t]? = some ty) : va_K D vwCl [(cT t, ty)] s := ⟨h.1.1, fun k q hq => by
  have hj : k = 0 := by
    have := (List.getElem?_eq_some_iff.mp hq).1
    simpa using this
  subst hj
  cases hq
  exact h.2 t ty ht⟩
theorem gA.one {H : Heap} {t : Nat} {x : vp_A} (h : gA D cT H0 S H) (ha : S.1 a = some (.inl (t, x))) : va_P D vwCl [(a, .inl (cT t, x))] H := fun k q hq => by
  have hj : k = 0 := by
    have := (List.getElem?_eq_some_iff.mp hq).1
    simpa using this
  subst hj
  cases hq
  exact (h.2.2.2 a _ ha).2
theorem g_iald (X : gX D cT p R s m args meth c cc nL own fr lo S0) {t n : Nat} (ht : gKinds[t]? = some .int) {f : Nat → Int32} (ha : S.1 a = some (.inl (t, n, .inl f))) {i : Int32} (hin : ¬ (i < 0 ∨ n ≤ i.toNatClampNeg)) (hdg : decode cc pc = .ok (.iaload, 1))
    (kk : gV D cT H0 p l e R s m args below meth c Q S0 S (F0 m (pc + 1) ls (.int (f i.toNatClampNeg) :: rest))) : gV D cT H0 p l e R s m args below meth c Q S0 S (F0 m pc ls (.int i :: va_rf (some a) :: rest)) := by
  obtain ⟨hx, hb, hml, hown, hts, hK, -⟩ := X
  intro H locs hA h2 h3 h4
  exact va_iald hx hb (hK.one ht) (hA.one ha) 0 0 rfl rfl hin hdg (kk H locs hA h2 h3 h4)
theorem g_bald (X : gX D cT p R s m args meth c cc nL own fr lo S0) {t n : Nat} (ht : gKinds[t]? = some .byte) {f : Nat → Int32} (ha : S.1 a = some (.inl (t, n, .inl f))) {i : Int32} (hin : ¬ (i < 0 ∨ n ≤ i.toNatClampNeg)) (hdg : decode cc pc = .ok (.baload, 1))
    (kk : gV D cT H0 p l e R s m args below meth c Q S0 S (F0 m (pc + 1) ls (.int (f i.toNatClampNeg) :: rest))) : gV D cT H0 p l e R s m args below meth c Q S0 S (F0 m pc ls (.int i :: va_rf (some a) :: rest)) := by
  obtain ⟨hx, hb, hml, hown, hts, hK, -⟩ := X
  intro H locs hA h2 h3 h4
  exact va_bald hx hb (hK.one ht) (hA.one ha) 0 0 rfl rfl hin hdg (kk H locs hA h2 h3 h4)
theorem g_zald (X : gX D cT p R s m args meth c cc nL own fr lo S0) {t n : Nat} (ht : gKinds[t]? = some .boolean) {f : Nat → Int32} (ha : S.1 a = some (.inl (t, n, .inl f))) {i : Int32} (hin : ¬ (i < 0 ∨ n ≤ i.toNatClampNeg)) (hdg : decode cc pc = .ok (.baload, 1))
    (kk : gV D cT H0 p l e R s m args below meth c Q S0 S (F0 m (pc + 1) ls (.int (f i.toNatClampNeg) :: rest))) : gV D cT H0 p l e R s m args below meth c Q S0 S (F0 m pc ls (.int i :: va_rf (some a) :: rest)) := by
  obtain ⟨hx, hb, hml, hown, hts, hK, -⟩ := X
  intro H locs hA h2 h3 h4
  exact va_zald hx hb (hK.one ht) (hA.one ha) 0 0 rfl rfl hin hdg (kk H locs hA h2 h3 h4)
theorem g_lald (X : gX D cT p R s m args meth c cc nL own fr lo S0) {t n : Nat} (ht : gKinds[t]? = some .long) {f : Nat → Int64} (ha : S.1 a = some (.inl (t, n, .inr (.inl f)))) {i : Int32} (hin : ¬ (i < 0 ∨ n ≤ i.toNatClampNeg)) (hdg : decode cc pc = .ok (.laload, 1))
    (kk : gV D cT H0 p l e R s m args below meth c Q S0 S (F0 m (pc + 1) ls (.long (f i.toNatClampNeg) :: rest))) : gV D cT H0 p l e R s m args below meth c Q S0 S (F0 m pc ls (.int i :: va_rf (some a) :: rest)) := by
  obtain ⟨hx, hb, hml, hown, hts, hK, -⟩ := X
  intro H locs hA h2 h3 h4
  exact va_lald hx hb (hK.one ht) (hA.one ha) 0 0 rfl rfl hin hdg (kk H locs hA h2 h3 h4)
theorem g_aald (X : gX D cT p R s m args meth c cc nL own fr lo S0) {t n : Nat} {C : String} (ht : gKinds[t]? = some (.object C)) {f : Nat → Option Nat} (ha : S.1 a = some (.inl (t, n, .inr (.inr (.inr (.inr f)))))) {i : Int32} (hin : ¬ (i < 0 ∨ n ≤ i.toNatClampNeg)) (hdg : decode cc pc = .ok (.aaload, 1))
    (kk : gV D cT H0 p l e R s m args below meth c Q S0 S (F0 m (pc + 1) ls (va_rf (f i.toNatClampNeg) :: rest))) : gV D cT H0 p l e R s m args below meth c Q S0 S (F0 m pc ls (.int i :: va_rf (some a) :: rest)) := by
  obtain ⟨hx, hb, hml, hown, hts, hK, -⟩ := X
  intro H locs hA h2 h3 h4
  exact va_aldq hx hb (hK.one ht) (hA.one ha) 0 0 rfl rfl hin hdg (kk H locs hA h2 h3 h4)
theorem g_alen (X : gX D cT p R s m args meth c cc nL own fr lo S0) {t : Nat} {x : vp_A} {ty : FieldType} (ht : gKinds[t]? = some ty) (ha : S.1 a = some (.inl (t, x))) (hdg : decode cc pc = .ok (.arraylength, 1))
    (kk : gV D cT H0 p l e R s m args below meth c Q S0 S (F0 m (pc + 1) ls (.int (nI x.1) :: rest))) : gV D cT H0 p l e R s m args below meth c Q S0 S (F0 m pc ls (va_rf (some a) :: rest)) := by
  obtain ⟨hx, hb, hml, hown, hts, hK, -⟩ := X
  intro H locs hA h2 h3 h4
  exact va_alen (v := nI x.1) hx hb (hK.one ht) (hA.one ha) 0 0 rfl rfl rfl hdg (kk H locs hA h2 h3 h4)
theorem g_in {n : Nat} {z : Nat → Value} {i : Int32} {cA : ClassId} (hin : ¬ (i < 0 ∨ n ≤ i.toNatClampNeg)) : ¬ (i < 0 ∨ (arrV cA n z).slots.size ≤ i.toNatClampNeg) := by rw [arrV_size]; exact hin
theorem g_lc {locs : List Loc} {b k : Nat} {z : Nat} (h2 : ∀ q ∈ locs, z ≤ q.base) (hb : z ≤ b) : ∀ q ∈ locs ++ [⟨b, k⟩], z ≤ q.base := by
  intro q hq
  rcases List.mem_append.mp hq with h9 | h9
  · exact h2 q h9
  · rw [List.mem_singleton.mp h9]; exact hb
theorem g_iast (X : gX D cT p R s m args meth c cc nL own fr lo S0) {t n : Nat} (ht : gKinds[t]? = some .int) {f : Nat → Int32} (ha : S.1 a = some (.inl (t, n, .inl f))) {i x : Int32} (hin : ¬ (i < 0 ∨ n ≤ i.toNatClampNeg)) (hdg : decode cc pc = .ok (.iastore, 1))
    (kk : gV D cT H0 p l e R s m args below meth c Q S0 (gup S.1 a (.inl (t, n, .inl (upd f i.toNatClampNeg x))), S.2) (F0 m (pc + 1) ls rest)) : gV D cT H0 p l e R s m args below meth c Q S0 S (F0 m pc ls (.int x :: .int i :: va_rf (some a) :: rest)) := by
  obtain ⟨hx, hb, hml, hown, hts, hK, -⟩ := X
  intro H locs hA h2 h3 h4
  obtain ⟨hz, hP⟩ := hA.2.2.2 a _ ha
  refine W.iast hx hb hP ((hK.2 t _ ht).1 n (fun j => .int (f j))) (fun q => by cases q) (g_in hin) rfl rfl hdg fun H1 e z oq => ?_
  refine kk H1 _ (hA.set ha ?_ z oq) (g_lc h2 hz) h3 h4
  show H1[a]? = some (vp_cell _ _)
  rw [e, vp_cell_i, vp_cell_i, arrV_store]
  congr 2
  funext q
  by_cases hq : q = i.toNatClampNeg
  · subst hq; simp [updV, upd]
  · simp [updV, upd, hq]
theorem g_bast (X : gX D cT p R s m args meth c cc nL own fr lo S0) {t n : Nat} (ht : gKinds[t]? = some .byte) {f : Nat → Int32} (ha : S.1 a = some (.inl (t, n, .inl f))) {i x : Int32} (hin : ¬ (i < 0 ∨ n ≤ i.toNatClampNeg)) (hdg : decode cc pc = .ok (.bastore, 1))
    (kk : gV D cT H0 p l e R s m args below meth c Q S0 (gup S.1 a (.inl (t, n, .inl (upd f i.toNatClampNeg x.toInt8.toInt32))), S.2) (F0 m (pc + 1) ls rest)) : gV D cT H0 p l e R s m args below meth c Q S0 S (F0 m pc ls (.int x :: .int i :: va_rf (some a) :: rest)) := by
  obtain ⟨hx, hb, hml, hown, hts, hK, -⟩ := X
  intro H locs hA h2 h3 h4
  obtain ⟨hz, hP⟩ := hA.2.2.2 a _ ha
  refine W.bast hx hb hP ((hK.2 t _ ht).1 n (fun j => .int (f j))) (fun q => by cases q) (g_in hin) rfl rfl hdg fun H1 e z oq => ?_
  refine kk H1 _ (hA.set ha ?_ z oq) (g_lc h2 hz) h3 h4
  show H1[a]? = some (vp_cell _ _)
  rw [e, vp_cell_i, vp_cell_i, arrV_store]
  congr 2
  funext q
  by_cases hq : q = i.toNatClampNeg
  · subst hq; simp [updV, upd, narrow]
  · simp [updV, upd, hq]
theorem g_last (X : gX D cT p R s m args meth c cc nL own fr lo S0) {t n : Nat} (ht : gKinds[t]? = some .long) {f : Nat → Int64} (ha : S.1 a = some (.inl (t, n, .inr (.inl f)))) {i : Int32} {x : Int64} (hin : ¬ (i < 0 ∨ n ≤ i.toNatClampNeg)) (hdg : decode cc pc = .ok (.lastore, 1))
    (kk : gV D cT H0 p l e R s m args below meth c Q S0 (gup S.1 a (.inl (t, n, .inr (.inl (vp_updL f i.toNatClampNeg x)))), S.2) (F0 m (pc + 1) ls rest)) : gV D cT H0 p l e R s m args below meth c Q S0 S (F0 m pc ls (.long x :: .int i :: va_rf (some a) :: rest)) := by
  obtain ⟨hx, hb, hml, hown, hts, hK, -⟩ := X
  intro H locs hA h2 h3 h4
  obtain ⟨hz, hP⟩ := hA.2.2.2 a _ ha
  refine W.last hx hb hP ((hK.2 t _ ht).1 n (fun j => .long (f j))) (fun q => by cases q) (g_in hin) rfl rfl hdg fun H1 e z oq => ?_
  refine kk H1 _ (hA.set ha ?_ z oq) (g_lc h2 hz) h3 h4
  show H1[a]? = some (vp_cell _ _)
  rw [e, vp_cell_l, vp_cell_l, arrV_store]
  congr 2
  funext q
  by_cases hq : q = i.toNatClampNeg
  · subst hq; simp [updV, vp_updL]
  · simp [updV, vp_updL, hq]
theorem g_aast (X : gX D cT p R s m args meth c cc nL own fr lo S0) {t n ci v : Nat} {C : String} {T : u_T} {N : Nat} {ty : Nat → FieldType} (hC : gCl ci C T N ty) (ht : gKinds[t]? = some (.object C)) {f : Nat → Option Nat} (ha : S.1 a = some (.inl (t, n, .inr (.inr (.inr (.inr f)))))) {vs : List Value} (hv : S.1 v = some (.inr (ci, vs))) {i : Int32} (hin : ¬ (i < 0 ∨ n ≤ i.toNatClampNeg)) (hdg : decode cc pc = .ok (.aastore, 1))
    (kk : gV D cT H0 p l e R s m args below meth c Q S0 (gup S.1 a (.inl (t, n, .inr (.inr (.inr (.inr (va_up f i.toNatClampNeg (some v))))))), S.2) (F0 m (pc + 1) ls rest)) : gV D cT H0 p l e R s m args below meth c Q S0 S (F0 m pc ls (va_rf (some v) :: .int i :: va_rf (some a) :: rest)) := by
  obtain ⟨hx, hb, hml, hown, hts, hK, -⟩ := X
  obtain ⟨hc, -⟩ := hC
  intro H locs hA h2 h3 h4
  obtain ⟨hz, hP⟩ := hA.2.2.2 a _ ha
  obtain ⟨-, r', hr', cellV, g1, g2, g3, -⟩ := hA.2.2.2 v _ hv
  have hcls := (hK.1.1 ci _ hc).2
  obtain ⟨kA, comp, k1, k2, k3, -⟩ := (hK.2 t _ ht).2
  have hcomp : comp = D.1 ci := Option.some.inj (k3.symm.trans hcls.1)
  subst hcomp
  have hcls2 := hcls
  obtain ⟨kC, hkC, -⟩ := hcls.2
  refine W.aast hx hb hP (fun q h => by cases h) (fun h => by cases h) k1 k2 rfl hkC ⟨fun q => hin (Or.inl q), by show _ < (arrV _ _ _).slots.size; rw [arrV_size]; exact Nat.not_le.mp fun q => hin (Or.inr q)⟩ g1 (fun q h => by rw [g3] at h; cases h) (by rw [g2]; exact hkC) (by rw [g2]; exact va_assign hcls2) rfl rfl hdg fun H1 e z oq => ?_
  refine kk H1 _ (hA.set ha ?_ z oq) (g_lc h2 hz) h3 h4
  show H1[a]? = some (vp_cell _ _)
  rw [e, vp_cell_q, vp_cell_q, arrV_store]
  congr 2
  funext q
  by_cases hq : q = i.toNatClampNeg
  · subst hq; simp [updV, va_up, va_rf]
  · simp [updV, va_up, hq]
/-- locals that are references or null -/
theorem g_aload_n (hx : p.tables.exec = Jvm.exec) (hb : c.code = cc) {k : Fin 4} {i : Nat} {r : Option Nat} {H : Heap} {locs : List Loc} {cells slots : Nat} (hdg : decode cc pc = .ok (.aload_n k, 1)) (hi : (k : Nat) = i) (hl : ls[i]? = some (.val (va_rf r)))
    (kk : W p l e R s m args below meth c H locs cells slots Q (F0 m (pc + 1) ls (va_rf r :: rest))) : W p l e R s m args below meth c H locs cells slots Q (F0 m pc ls rest) := by
  cases r with
  | none => exact lv_aload_nN hx hb hdg hi hl kk
  | some x => exact lv_aload_n hx hb hdg hi hl kk
theorem g_aload (hx : p.tables.exec = Jvm.exec) (hb : c.code = cc) {i : Nat} {r : Option Nat} {H : Heap} {locs : List Loc} {cells slots : Nat} (hdg : decode cc pc = .ok (.aload i, 2)) (hl : ls[i]? = some (.val (va_rf r)))
    (kk : W p l e R s m args below meth c H locs cells slots Q (F0 m (pc + 2) ls (va_rf r :: rest))) : W p l e R s m args below meth c H locs cells slots Q (F0 m pc ls rest) := by
  cases r with
  | none => exact lv_aloadN hx hb hdg hl kk
  | some x => exact lv_aload hx hb hdg hl kk
theorem g_astore_n (hx : p.tables.exec = Jvm.exec) (hb : c.code = cc) {k : Fin 4} {i : Nat} {r : Option Nat} {lv lv' : List (Nat × Value)} {H : Heap} {locs : List Loc} {cells slots : Nat} (hdg : decode cc pc = .ok (.astore_n k, 1)) (hi : (k : Nat) = i) (h : lv_has ls nL lv) (hn : i < nL) (hl : (i, va_rf r) :: lv.filter (fun q => !(q.1 == i) && !(q.1 + 1 == i && q.2.category == 2)) = lv')
    (kk : ∀ ls' : Array Slot, lv_has ls' nL lv' → W p l e R s m args below meth c H locs cells slots Q (F0 m (pc + 1) ls' rest)) : W p l e R s m args below meth c H locs cells slots Q (F0 m pc ls (va_rf r :: rest)) := by
  cases r with
  | none => exact lv_astore_nN hx hb hdg hi h hn hl kk
  | some x => exact lv_astore_n hx hb hdg hi h hn hl kk
theorem g_astore (hx : p.tables.exec = Jvm.exec) (hb : c.code = cc) {i : Nat} {r : Option Nat} {lv lv' : List (Nat × Value)} {H : Heap} {locs : List Loc} {cells slots : Nat} (hdg : decode cc pc = .ok (.astore i, 2)) (h : lv_has ls nL lv) (hn : i < nL) (hl : (i, va_rf r) :: lv.filter (fun q => !(q.1 == i) && !(q.1 + 1 == i && q.2.category == 2)) = lv')
    (kk : ∀ ls' : Array Slot, lv_has ls' nL lv' → W p l e R s m args below meth c H locs cells slots Q (F0 m (pc + 2) ls' rest)) : W p l e R s m args below meth c H locs cells slots Q (F0 m pc ls (va_rf r :: rest)) := by
  cases r with
  | none => exact lv_astoreN hx hb hdg h hn hl kk
  | some x => exact lv_astore hx hb hdg h hn hl kk
end GV
