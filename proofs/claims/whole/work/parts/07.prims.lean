/-! WHAT A METHOD DOES, STEP BY STEP, OVER THE ABSTRACT HEAP: none where the machine would throw by itself or the room is full -/
def gF : Nat := 1000
def gI (S : gS) (a ci k : Nat) : Option Int32 := match S.1 a with
  | some (.inr (c, fs)) => if c = ci then (match fs[k]? with | some (.int v) => some v | _ => none) else none
  | _ => none
def gRf (S : gS) (a ci k : Nat) : Option (Option Nat) := match S.1 a with
  | some (.inr (c, fs)) => if c = ci then (match fs[k]? with | some .null => some none | some (.ref q) => some (some q) | _ => none) else none
  | _ => none
def gPut (S : gS) (a ci k : Nat) (v : Value) : Option gS := match S.1 a with
  | some (.inr (c, fs)) => if c = ci ∧ k < fs.length then some (gup S.1 a (.inr (ci, fs.set k v)), S.2) else none
  | _ => none
def gAI (S : gS) (a t : Nat) (i : Int32) : Option Int32 := match S.1 a with
  | some (.inl (t', n, .inl f)) => if t' = t ∧ ¬ (i < 0 ∨ n ≤ i.toNatClampNeg) then some (f i.toNatClampNeg) else none
  | _ => none
def gAL (S : gS) (a t : Nat) (i : Int32) : Option Int64 := match S.1 a with
  | some (.inl (t', n, .inr (.inl f))) => if t' = t ∧ ¬ (i < 0 ∨ n ≤ i.toNatClampNeg) then some (f i.toNatClampNeg) else none
  | _ => none
def gAR (S : gS) (a t : Nat) (i : Int32) : Option (Option Nat) := match S.1 a with
  | some (.inl (t', n, .inr (.inr (.inr (.inr f))))) => if t' = t ∧ ¬ (i < 0 ∨ n ≤ i.toNatClampNeg) then some (f i.toNatClampNeg) else none
  | _ => none
def gSI (S : gS) (a t : Nat) (i x : Int32) : Option gS := match S.1 a with
  | some (.inl (t', n, .inl f)) => if t' = t ∧ ¬ (i < 0 ∨ n ≤ i.toNatClampNeg) then some (gup S.1 a (.inl (t, n, .inl (upd f i.toNatClampNeg x))), S.2) else none
  | _ => none
def gSL (S : gS) (a t : Nat) (i : Int32) (x : Int64) : Option gS := match S.1 a with
  | some (.inl (t', n, .inr (.inl f))) => if t' = t ∧ ¬ (i < 0 ∨ n ≤ i.toNatClampNeg) then some (gup S.1 a (.inl (t, n, .inr (.inl (vp_updL f i.toNatClampNeg x)))), S.2) else none
  | _ => none
/-- a reference to an object of the class ci is stored into an array of such -/
def gSR (S : gS) (a t : Nat) (i : Int32) (v ci : Nat) : Option gS := match S.1 a, S.1 v with
  | some (.inl (t', n, .inr (.inr (.inr (.inr f))))), some (.inr (c, _)) => if t' = t ∧ c = ci ∧ ¬ (i < 0 ∨ n ≤ i.toNatClampNeg) then some (gup S.1 a (.inl (t, n, .inr (.inr (.inr (.inr (va_up f i.toNatClampNeg (some v))))))), S.2) else none
  | _, _ => none
def gLen (S : gS) (a t : Nat) : Option Int32 := match S.1 a with
  | some (.inl (t', x)) => if t' = t then some (nI x.1) else none
  | _ => none
/-- an object of the class ci -/
def gOb (S : gS) (a ci : Nat) : Option (List Value) := match S.1 a with
  | some (.inr (c, fs)) => if c = ci then some fs else none
  | _ => none
def gNw (S : gS) (ci : Nat) (fs : List Value) : Option gS := if S.2.2.1 + 1 ≤ gC ∧ S.2.2.2 + fs.length ≤ gU then some (gup S.1 S.2.1 (.inr (ci, fs)), S.2.1 + 1, S.2.2.1 + 1, S.2.2.2 + fs.length) else none
def gNA (S : gS) (t : Nat) (n : Int32) (z : (Nat → Int32) ⊕ (Nat → Int64) ⊕ (Nat → UInt32) ⊕ (Nat → UInt64) ⊕ (Nat → Option Nat)) : Option gS := if ¬ n < 0 ∧ n.toNatClampNeg ≤ 10000 ∧ S.2.2.1 + 1 ≤ gC ∧ S.2.2.2 + n.toNatClampNeg ≤ gU then some (gup S.1 S.2.1 (.inl (t, n.toNatClampNeg, z)), S.2.1 + 1, S.2.2.1 + 1, S.2.2.2 + n.toNatClampNeg) else none
def gThr (S : gS) : Option gS := if S.2.2.1 + 1 ≤ gC ∧ S.2.2.2 + 6 ≤ gU then some (S.1, S.2.1 + 1, S.2.2.1 + 1, S.2.2.2 + 6) else none
/-- a truth value -/
def gZo (x : Int32) : Option Int32 := if x = 0 ∨ x = 1 then some x else none
def gNul {α : Type} (r : Option Nat) (A : Option α) (B : Nat → Option α) : Option α := match r with
  | none => A
  | some a => B a
def gB2 {α β : Type} (x : Option (α × gS)) (f : α → gS → Option β) : Option β := match x with
  | none => none
  | some (a, S) => f a S
theorem gb2 {α β : Type} {x : Option (α × gS)} {f : α → gS → Option β} {b : β} (h : gB2 x f = some b) : ∃ a S, x = some (a, S) ∧ f a S = some b := by
  unfold gB2 at h
  split at h
  · cases h
  · next a S => exact ⟨a, S, rfl, h⟩
/-- a callee that may throw -/
def gTry {α β : Type} (x : Option ((String ⊕ α) × gS)) (f : α → gS → Option ((String ⊕ β) × gS)) : Option ((String ⊕ β) × gS) := match x with
  | none => none
  | some (.inl E, S) => some (.inl E, S)
  | some (.inr a, S) => f a S
def gRi : String ⊕ Int32 → String ⊕ Option Value
  | .inl E => .inl E
  | .inr v => .inr (some (.int v))
def gRv : String ⊕ Unit → String ⊕ Option Value
  | .inl E => .inl E
  | .inr _ => .inr none
theorem gI_spec {S : gS} {a ci k : Nat} {v : Int32} (h : gI S a ci k = some v) : ∃ fs, S.1 a = some (.inr (ci, fs)) ∧ fs[k]? = some (.int v) := by
  unfold gI at h
  split at h
  · next c fs e =>
    split at h
    · next hc =>
      subst hc
      split at h
      · next w hw => cases h; exact ⟨fs, e, hw⟩
      · cases h
    · cases h
  · cases h
theorem gRf_spec {S : gS} {a ci k : Nat} {r : Option Nat} (h : gRf S a ci k = some r) : ∃ fs, S.1 a = some (.inr (ci, fs)) ∧ fs[k]? = some (va_rf r) := by
  unfold gRf at h
  split at h
  · next c fs e =>
    split at h
    · next hc =>
      subst hc
      split at h
      · next hw => cases h; exact ⟨fs, e, hw⟩
      · next q hw => cases h; exact ⟨fs, e, hw⟩
      · cases h
    · cases h
  · cases h
theorem gPut_spec {S S1 : gS} {a ci k : Nat} {v : Value} (h : gPut S a ci k v = some S1) : ∃ fs, S.1 a = some (.inr (ci, fs)) ∧ k < fs.length ∧ S1 = (gup S.1 a (.inr (ci, fs.set k v)), S.2) := by
  unfold gPut at h
  split at h
  · next c fs e =>
    split at h
    · next hc => obtain ⟨rfl, hk⟩ := hc; cases h; exact ⟨fs, e, hk, rfl⟩
    · cases h
  · cases h
theorem gAI_spec {S : gS} {a t : Nat} {i v : Int32} (h : gAI S a t i = some v) : ∃ n f, S.1 a = some (.inl (t, n, .inl f)) ∧ ¬ (i < 0 ∨ n ≤ i.toNatClampNeg) ∧ v = f i.toNatClampNeg := by
  unfold gAI at h
  split at h
  · next t' n f e =>
    split at h
    · next hc => obtain ⟨rfl, hk⟩ := hc; cases h; exact ⟨n, f, e, hk, rfl⟩
    · cases h
  · cases h
theorem gAL_spec {S : gS} {a t : Nat} {i : Int32} {v : Int64} (h : gAL S a t i = some v) : ∃ n f, S.1 a = some (.inl (t, n, .inr (.inl f))) ∧ ¬ (i < 0 ∨ n ≤ i.toNatClampNeg) ∧ v = f i.toNatClampNeg := by
  unfold gAL at h
  split at h
  · next t' n f e =>
    split at h
    · next hc => obtain ⟨rfl, hk⟩ := hc; cases h; exact ⟨n, f, e, hk, rfl⟩
    · cases h
  · cases h
theorem gAR_spec {S : gS} {a t : Nat} {i : Int32} {v : Option Nat} (h : gAR S a t i = some v) : ∃ n f, S.1 a = some (.inl (t, n, .inr (.inr (.inr (.inr f))))) ∧ ¬ (i < 0 ∨ n ≤ i.toNatClampNeg) ∧ v = f i.toNatClampNeg := by
  unfold gAR at h
  split at h
  · next t' n f e =>
    split at h
    · next hc => obtain ⟨rfl, hk⟩ := hc; cases h; exact ⟨n, f, e, hk, rfl⟩
    · cases h
  · cases h
theorem gSI_spec {S S1 : gS} {a t : Nat} {i x : Int32} (h : gSI S a t i x = some S1) : ∃ n f, S.1 a = some (.inl (t, n, .inl f)) ∧ ¬ (i < 0 ∨ n ≤ i.toNatClampNeg) ∧ S1 = (gup S.1 a (.inl (t, n, .inl (upd f i.toNatClampNeg x))), S.2) := by
  unfold gSI at h
  split at h
  · next t' n f e =>
    split at h
    · next hc => obtain ⟨rfl, hk⟩ := hc; cases h; exact ⟨n, f, e, hk, rfl⟩
    · cases h
  · cases h
theorem gSL_spec {S S1 : gS} {a t : Nat} {i : Int32} {x : Int64} (h : gSL S a t i x = some S1) : ∃ n f, S.1 a = some (.inl (t, n, .inr (.inl f))) ∧ ¬ (i < 0 ∨ n ≤ i.toNatClampNeg) ∧ S1 = (gup S.1 a (.inl (t, n, .inr (.inl (vp_updL f i.toNatClampNeg x)))), S.2) := by
  unfold gSL at h
  split at h
  · next t' n f e =>
    split at h
    · next hc => obtain ⟨rfl, hk⟩ := hc; cases h; exact ⟨n, f, e, hk, rfl⟩
    · cases h
  · cases h
theorem gSR_spec {S S1 : gS} {a t v ci : Nat} {i : Int32} (h : gSR S a t i v ci = some S1) : ∃ n f vs, S.1 a = some (.inl (t, n, .inr (.inr (.inr (.inr f))))) ∧ S.1 v = some (.inr (ci, vs)) ∧ ¬ (i < 0 ∨ n ≤ i.toNatClampNeg) ∧ S1 = (gup S.1 a (.inl (t, n, .inr (.inr (.inr (.inr (va_up f i.toNatClampNeg (some v))))))), S.2) := by
  unfold gSR at h
  split at h
  · next t' n f c vs e e2 =>
    split at h
    · next hc => obtain ⟨rfl, rfl, hk⟩ := hc; cases h; exact ⟨n, f, vs, e, e2, hk, rfl⟩
    · cases h
  · cases h
theorem gLen_spec {S : gS} {a t : Nat} {v : Int32} (h : gLen S a t = some v) : ∃ x, S.1 a = some (.inl (t, x)) ∧ v = nI x.1 := by
  unfold gLen at h
  split at h
  · next t' x e =>
    split at h
    · next hc => subst hc; cases h; exact ⟨x, e, rfl⟩
    · cases h
  · cases h
theorem gOb_spec {S : gS} {a ci : Nat} {fs : List Value} (h : gOb S a ci = some fs) : S.1 a = some (.inr (ci, fs)) := by
  unfold gOb at h
  split at h
  · next c fs' e =>
    split at h
    · next hc => subst hc; cases h; exact e
    · cases h
  · cases h
theorem gNw_spec {S S1 : gS} {ci : Nat} {fs : List Value} (h : gNw S ci fs = some S1) : (S.2.2.1 + 1 ≤ gC ∧ S.2.2.2 + fs.length ≤ gU) ∧ S1 = (gup S.1 S.2.1 (.inr (ci, fs)), S.2.1 + 1, S.2.2.1 + 1, S.2.2.2 + fs.length) := by
  unfold gNw at h
  split at h
  · next hc => cases h; exact ⟨hc, rfl⟩
  · cases h
theorem gNA_spec {S S1 : gS} {t : Nat} {n : Int32} {z : (Nat → Int32) ⊕ (Nat → Int64) ⊕ (Nat → UInt32) ⊕ (Nat → UInt64) ⊕ (Nat → Option Nat)} (h : gNA S t n z = some S1) : (¬ n < 0 ∧ n.toNatClampNeg ≤ 10000 ∧ S.2.2.1 + 1 ≤ gC ∧ S.2.2.2 + n.toNatClampNeg ≤ gU) ∧ S1 = (gup S.1 S.2.1 (.inl (t, n.toNatClampNeg, z)), S.2.1 + 1, S.2.2.1 + 1, S.2.2.2 + n.toNatClampNeg) := by
  unfold gNA at h
  split at h
  · next hc => cases h; exact ⟨hc, rfl⟩
  · cases h
theorem gThr_spec {S S1 : gS} (h : gThr S = some S1) : (S.2.2.1 + 1 ≤ gC ∧ S.2.2.2 + 6 ≤ gU) ∧ S1 = (S.1, S.2.1 + 1, S.2.2.1 + 1, S.2.2.2 + 6) := by
  unfold gThr at h
  split at h
  · next hc => cases h; exact ⟨hc, rfl⟩
  · cases h
theorem gZo_spec {x y : Int32} (h : gZo x = some y) : y = x ∧ narrow .boolean (.int x) = .int x ∧ fits .boolean (.int x) = true := by
  unfold gZo at h
  split at h
  · next hc =>
    cases h
    rcases hc with rfl | rfl
    · exact ⟨rfl, by decide +kernel, by decide +kernel⟩
    · exact ⟨rfl, by decide +kernel, by decide +kernel⟩
  · cases h
theorem gb {α β : Type} {x : Option α} {f : α → Option β} {b : β} (h : x.bind f = some b) : ∃ a, x = some a ∧ f a = some b := Option.bind_eq_some_iff.mp h
theorem gip {α : Type} {P : Prop} {d : Decidable P} {A B x : α} (hp : P) (h : ite P A B = x) : A = x := by rw [if_pos hp] at h; exact h
theorem gin {α : Type} {P : Prop} {d : Decidable P} {A B x : α} (hp : ¬ P) (h : ite P A B = x) : B = x := by rw [if_neg hp] at h; exact h
theorem gN0 {α : Type} {A : Option α} {B : Nat → Option α} {x : Option α} (h : gNul none A B = x) : A = x := h
theorem gN1 {α : Type} {a : Nat} {A : Option α} {B : Nat → Option α} {x : Option α} (h : gNul (some a) A B = x) : B a = x := h
theorem gpi {α β : Type} {a c : α} {b d : β} (h : some (a, b) = some (c, d)) : a = c ∧ b = d := by cases h; exact ⟨rfl, rfl⟩
theorem gsi {α : Type} {a c : α} (h : some a = some c) : a = c := Option.some.inj h
theorem gty {α β : Type} {x : Option ((String ⊕ α) × gS)} {f : α → gS → Option ((String ⊕ β) × gS)} {res : String ⊕ β} {S' : gS} (h : gTry x f = some (res, S')) : (∃ E, x = some (.inl E, S') ∧ res = .inl E) ∨ ∃ a S1, x = some (.inr a, S1) ∧ f a S1 = some (res, S') := by
  unfold gTry at h
  split at h
  · cases h
  · next E S => cases h; exact Or.inl ⟨E, rfl, rfl⟩
  · next a S => exact Or.inr ⟨a, S, rfl, h⟩
theorem g_cat {r : Option Nat} : (va_rf r).category = 1 := by cases r <;> rfl
theorem g_nar {r : Option Nat} {C : String} : narrow (.object C) (va_rf r) = va_rf r := by cases r <;> rfl
theorem g_narA {r : Option Nat} {t : FieldType} : narrow (.array t) (va_rf r) = va_rf r := by cases r <;> rfl
theorem g_fit {r : Option Nat} {C : String} : fits (.object C) (va_rf r) = true := by cases r <;> rfl
theorem g_fitA {r : Option Nat} {t : FieldType} : fits (.array t) (va_rf r) = true := by cases r <;> rfl
/-- what a walk knows, all of it -/
def gY (D : va_G) (cT : Nat → ClassId) (H0 : Heap) (p : Program) (s : State) (m : MethodId) (args : Array Value) (meth : Method) (c : Code) (cc : ByteArray) (nL : Nat) (own : String) (fr lo : Nat) (S0 : gS) (ret : Option FieldType) : Prop :=
  gX D cT p (gRm fr lo S0) s m args meth c cc nL own fr lo S0 ∧ gZ H0 s ∧ c.exceptionTable.toList = [] ∧ meth.sig.returnType = ret ∧ ∀ q : Nat, q < H0.size → s.heap[q]? = H0[q]?
section GR
variable {D : va_G} {cT : Nat → ClassId} {H0 : Heap} {l : Launch} {p : Program} {e : Env} {R : Room} {s : State} {m : MethodId} {args : Array Value} {below : List Frame} {meth : Method} {c : Code} {Q : State → Prop} {S0 S S1 : gS}
variable {cc : ByteArray} {nL : Nat} {own : String} {fr lo : Nat} {pc : Nat} {ls : Array Slot} {rest : List Value} {a : Nat}
theorem r_getI (X : gX D cT p R s m args meth c cc nL own fr lo S0) {ci : Nat} {C : String} {T : u_T} {N : Nat} {ty : Nat → FieldType} (hC : gCl ci C T N ty) {index k : Nat} {v : Int32} (hv : gI S a ci k = some v) (hk : k < N) (hlink : Cond.fieldLink own index (T k).1 (T k).2.1 (T k).2.2.1 ∈ lw_good) (hdg : decode cc pc = .ok (.getfield index, 3))
    (kk : gV D cT H0 p l e R s m args below meth c Q S0 S (F0 m (pc + 3) ls (.int v :: rest))) : gV D cT H0 p l e R s m args below meth c Q S0 S (F0 m pc ls (va_rf (some a) :: rest)) := by
  obtain ⟨fs, h1, h2⟩ := gI_spec hv
  exact g_get X hC h1 h2 hk hlink hdg kk
theorem r_getR (X : gX D cT p R s m args meth c cc nL own fr lo S0) {ci : Nat} {C : String} {T : u_T} {N : Nat} {ty : Nat → FieldType} (hC : gCl ci C T N ty) {index k : Nat} {v : Option Nat} (hv : gRf S a ci k = some v) (hk : k < N) (hlink : Cond.fieldLink own index (T k).1 (T k).2.1 (T k).2.2.1 ∈ lw_good) (hdg : decode cc pc = .ok (.getfield index, 3))
    (kk : gV D cT H0 p l e R s m args below meth c Q S0 S (F0 m (pc + 3) ls (va_rf v :: rest))) : gV D cT H0 p l e R s m args below meth c Q S0 S (F0 m pc ls (va_rf (some a) :: rest)) := by
  obtain ⟨fs, h1, h2⟩ := gRf_spec hv
  exact g_get X hC h1 h2 hk hlink hdg kk
theorem r_put (X : gX D cT p R s m args meth c cc nL own fr lo S0) {ci : Nat} {C : String} {T : u_T} {N : Nat} {ty : Nat → FieldType} (hC : gCl ci C T N ty) {index k : Nat} {v : Value} (hv : gPut S a ci k v = some S1) (hk : k < N) (hlink : Cond.fieldLink own index (T k).1 (T k).2.1 (T k).2.2.1 ∈ lw_good) (hfin : (T k).2.2.2 = false) (hn : narrow (ty k) v = v) (hfit : fits (ty k) v = true) (hdg : decode cc pc = .ok (.putfield index, 3))
    (kk : gV D cT H0 p l e R s m args below meth c Q S0 S1 (F0 m (pc + 3) ls rest)) : gV D cT H0 p l e R s m args below meth c Q S0 S (F0 m pc ls (v :: va_rf (some a) :: rest)) := by
  obtain ⟨fs, h1, h2, rfl⟩ := gPut_spec hv
  exact g_put X hC h1 h2 hk hlink hfin hn hfit hdg kk
theorem r_putF (X : gX D cT p R s m args meth c cc nL own fr lo S0) {ci : Nat} {C : String} {T : u_T} {N : Nat} {ty : Nat → FieldType} (hC : gCl ci C T N ty) {index k : Nat} {v : Value} (hv : gPut S a ci k v = some S1) (hk : k < N) (hlink : Cond.fieldLink own index (T k).1 (T k).2.1 (T k).2.2.1 ∈ lw_good) (hfin : (T k).2.2.2 = true) (hin2 : meth.name = "<init>") (hdecl : (T k).1 = own) (hn : narrow (ty k) v = v) (hfit : fits (ty k) v = true) (hdg : decode cc pc = .ok (.putfield index, 3))
    (kk : gV D cT H0 p l e R s m args below meth c Q S0 S1 (F0 m (pc + 3) ls rest)) : gV D cT H0 p l e R s m args below meth c Q S0 S (F0 m pc ls (v :: va_rf (some a) :: rest)) := by
  obtain ⟨fs, h1, h2, rfl⟩ := gPut_spec hv
  exact g_putF X hC h1 h2 hk hlink hfin hin2 hdecl hn hfit hdg kk
theorem r_iald (X : gX D cT p R s m args meth c cc nL own fr lo S0) {t : Nat} (ht : gKinds[t]? = some .int) {i v : Int32} (hv : gAI S a t i = some v) (hdg : decode cc pc = .ok (.iaload, 1))
    (kk : gV D cT H0 p l e R s m args below meth c Q S0 S (F0 m (pc + 1) ls (.int v :: rest))) : gV D cT H0 p l e R s m args below meth c Q S0 S (F0 m pc ls (.int i :: va_rf (some a) :: rest)) := by
  obtain ⟨n, f, h1, h2, rfl⟩ := gAI_spec hv
  exact g_iald X ht h1 h2 hdg kk
theorem r_bald (X : gX D cT p R s m args meth c cc nL own fr lo S0) {t : Nat} (ht : gKinds[t]? = some .byte) {i v : Int32} (hv : gAI S a t i = some v) (hdg : decode cc pc = .ok (.baload, 1))
    (kk : gV D cT H0 p l e R s m args below meth c Q S0 S (F0 m (pc + 1) ls (.int v :: rest))) : gV D cT H0 p l e R s m args below meth c Q S0 S (F0 m pc ls (.int i :: va_rf (some a) :: rest)) := by
  obtain ⟨n, f, h1, h2, rfl⟩ := gAI_spec hv
  exact g_bald X ht h1 h2 hdg kk
theorem r_zald (X : gX D cT p R s m args meth c cc nL own fr lo S0) {t : Nat} (ht : gKinds[t]? = some .boolean) {i v : Int32} (hv : gAI S a t i = some v) (hdg : decode cc pc = .ok (.baload, 1))
    (kk : gV D cT H0 p l e R s m args below meth c Q S0 S (F0 m (pc + 1) ls (.int v :: rest))) : gV D cT H0 p l e R s m args below meth c Q S0 S (F0 m pc ls (.int i :: va_rf (some a) :: rest)) := by
  obtain ⟨n, f, h1, h2, rfl⟩ := gAI_spec hv
  exact g_zald X ht h1 h2 hdg kk
theorem r_lald (X : gX D cT p R s m args meth c cc nL own fr lo S0) {t : Nat} (ht : gKinds[t]? = some .long) {i : Int32} {v : Int64} (hv : gAL S a t i = some v) (hdg : decode cc pc = .ok (.laload, 1))
    (kk : gV D cT H0 p l e R s m args below meth c Q S0 S (F0 m (pc + 1) ls (.long v :: rest))) : gV D cT H0 p l e R s m args below meth c Q S0 S (F0 m pc ls (.int i :: va_rf (some a) :: rest)) := by
  obtain ⟨n, f, h1, h2, rfl⟩ := gAL_spec hv
  exact g_lald X ht h1 h2 hdg kk
theorem r_aald (X : gX D cT p R s m args meth c cc nL own fr lo S0) {t : Nat} {C : String} (ht : gKinds[t]? = some (.object C)) {i : Int32} {v : Option Nat} (hv : gAR S a t i = some v) (hdg : decode cc pc = .ok (.aaload, 1))
    (kk : gV D cT H0 p l e R s m args below meth c Q S0 S (F0 m (pc + 1) ls (va_rf v :: rest))) : gV D cT H0 p l e R s m args below meth c Q S0 S (F0 m pc ls (.int i :: va_rf (some a) :: rest)) := by
  obtain ⟨n, f, h1, h2, rfl⟩ := gAR_spec hv
  exact g_aald X ht h1 h2 hdg kk
theorem r_alen (X : gX D cT p R s m args meth c cc nL own fr lo S0) {t : Nat} {ty : FieldType} (ht : gKinds[t]? = some ty) {v : Int32} (hv : gLen S a t = some v) (hdg : decode cc pc = .ok (.arraylength, 1))
    (kk : gV D cT H0 p l e R s m args below meth c Q S0 S (F0 m (pc + 1) ls (.int v :: rest))) : gV D cT H0 p l e R s m args below meth c Q S0 S (F0 m pc ls (va_rf (some a) :: rest)) := by
  obtain ⟨x, h1, rfl⟩ := gLen_spec hv
  exact g_alen X ht h1 hdg kk
theorem r_iast (X : gX D cT p R s m args meth c cc nL own fr lo S0) {t : Nat} (ht : gKinds[t]? = some .int) {i x : Int32} (hv : gSI S a t i x = some S1) (hdg : decode cc pc = .ok (.iastore, 1))
    (kk : gV D cT H0 p l e R s m args below meth c Q S0 S1 (F0 m (pc + 1) ls rest)) : gV D cT H0 p l e R s m args below meth c Q S0 S (F0 m pc ls (.int x :: .int i :: va_rf (some a) :: rest)) := by
  obtain ⟨n, f, h1, h2, rfl⟩ := gSI_spec hv
  exact g_iast X ht h1 h2 hdg kk
theorem r_bast (X : gX D cT p R s m args meth c cc nL own fr lo S0) {t : Nat} (ht : gKinds[t]? = some .byte) {i x : Int32} (hv : gSI S a t i x.toInt8.toInt32 = some S1) (hdg : decode cc pc = .ok (.bastore, 1))
    (kk : gV D cT H0 p l e R s m args below meth c Q S0 S1 (F0 m (pc + 1) ls rest)) : gV D cT H0 p l e R s m args below meth c Q S0 S (F0 m pc ls (.int x :: .int i :: va_rf (some a) :: rest)) := by
  obtain ⟨n, f, h1, h2, rfl⟩ := gSI_spec hv
  exact g_bast X ht h1 h2 hdg kk
theorem r_zast (X : gX D cT p R s m args meth c cc nL own fr lo S0) {t : Nat} (ht : gKinds[t]? = some .boolean) {i x y : Int32} (hz : gZo x = some y) (hv : gSI S a t i y = some S1) (hdg : decode cc pc = .ok (.bastore, 1))
    (kk : gV D cT H0 p l e R s m args below meth c Q S0 S1 (F0 m (pc + 1) ls rest)) : gV D cT H0 p l e R s m args below meth c Q S0 S (F0 m pc ls (.int x :: .int i :: va_rf (some a) :: rest)) := by
  obtain ⟨rfl, hz2, -⟩ := gZo_spec hz
  obtain ⟨n, f, ha, hin, rfl⟩ := gSI_spec hv
  obtain ⟨hx, hb, hml, hown, hts, hK, -⟩ := X
  intro H locs hA h2 h3 h4
  obtain ⟨hzz, hP⟩ := hA.2.2.2 a _ ha
  refine W.zast hx hb hP ((hK.2 t _ ht).1 n (fun j => .int (f j))) (fun q => by cases q) (g_in hin) rfl rfl hdg fun H1 e z oq => ?_
  refine kk H1 _ (hA.set ha ?_ z oq) (g_lc h2 hzz) h3 h4
  show H1[a]? = some (vp_cell _ _)
  rw [e, hz2, vp_cell_i, vp_cell_i, arrV_store]
  congr 2
  funext q
  by_cases hq : q = i.toNatClampNeg
  · subst hq; simp [updV, upd]
  · simp [updV, upd, hq]
theorem r_last (X : gX D cT p R s m args meth c cc nL own fr lo S0) {t : Nat} (ht : gKinds[t]? = some .long) {i : Int32} {x : Int64} (hv : gSL S a t i x = some S1) (hdg : decode cc pc = .ok (.lastore, 1))
    (kk : gV D cT H0 p l e R s m args below meth c Q S0 S1 (F0 m (pc + 1) ls rest)) : gV D cT H0 p l e R s m args below meth c Q S0 S (F0 m pc ls (.long x :: .int i :: va_rf (some a) :: rest)) := by
  obtain ⟨n, f, h1, h2, rfl⟩ := gSL_spec hv
  exact g_last X ht h1 h2 hdg kk
theorem r_aast (X : gX D cT p R s m args meth c cc nL own fr lo S0) {t ci v : Nat} {C : String} {T : u_T} {N : Nat} {ty : Nat → FieldType} (hC : gCl ci C T N ty) (ht : gKinds[t]? = some (.object C)) {i : Int32} (hv : gSR S a t i v ci = some S1) (hdg : decode cc pc = .ok (.aastore, 1))
    (kk : gV D cT H0 p l e R s m args below meth c Q S0 S1 (F0 m (pc + 1) ls rest)) : gV D cT H0 p l e R s m args below meth c Q S0 S (F0 m pc ls (va_rf (some v) :: .int i :: va_rf (some a) :: rest)) := by
  obtain ⟨n, f, vs, h1, h2, h3, rfl⟩ := gSR_spec hv
  exact g_aast X hC ht h1 h2 h3 hdg kk
theorem r_new (X : gX D cT p R s m args meth c cc nL own fr lo S0) {ci : Nat} {C : String} {T : u_T} {N : Nat} {ty : Nat → FieldType} (hC : gCl ci C T N ty) {index : Nat} {fs : List Value} (hN : fs.length = N) (hv : gNw S ci fs = some S1) (hfs : ∀ j, j < N → defaultValue (ty j) = vp_V fs j)
    (hcl : Cond.classLink own index C ∈ lw_good) (hins : Cond.instantiable C N ∈ lw_good) (hini : Cond.initialized C ∈ lw_good) (hdg : decode cc pc = .ok (.new index, 3))
    (kk : gV D cT H0 p l e R s m args below meth c Q S0 S1 (F0 m (pc + 3) ls (va_rf (some S.2.1) :: rest))) : gV D cT H0 p l e R s m args below meth c Q S0 S (F0 m pc ls rest) := by
  obtain ⟨h1, rfl⟩ := gNw_spec hv
  subst hN
  exact g_new X hC hfs hcl hins hini h1 hdg kk
theorem r_newa (X : gX D cT p R s m args meth c cc nL own fr lo S0) {atype : ArrayType} {t : Nat} {ty : FieldType} (hty : newarray.typeOf atype = ty) (ht : gKinds[t]? = some ty) (hRA : va_RA s (cT t) ty = (s.vm.findClass ("[" ++ ty.toString) = some (cT t)))
    (harr : Cond.arrayClass (newarray.typeOf atype) ∈ lw_good) {n : Int32} {z : (Nat → Int32) ⊕ (Nat → Int64) ⊕ (Nat → UInt32) ⊕ (Nat → UInt64) ⊕ (Nat → Option Nat)} (hv : gNA S t n z = some S1) (hz : ∀ cA : ClassId, vp_cell cA (n.toNatClampNeg, z) = arrV cA n.toNatClampNeg (fun _ => defaultValue ty)) (hcb : componentBytes ty ≤ 8) (hdg : decode cc pc = .ok (.newarray atype, 2))
    (kk : gV D cT H0 p l e R s m args below meth c Q S0 S1 (F0 m (pc + 2) ls (va_rf (some S.2.1) :: rest))) : gV D cT H0 p l e R s m args below meth c Q S0 S (F0 m pc ls (.int n :: rest)) := by
  obtain ⟨⟨h1, h2, h3⟩, rfl⟩ := gNA_spec hv
  refine g_newa X hty ht hRA harr hz h1 rfl ?_ h3 hdg kk
  calc n.toNatClampNeg * componentBytes ty ≤ 10000 * 8 := Nat.mul_le_mul h2 hcb
    _ ≤ 536870912 := by decide
theorem r_anew (X : gX D cT p R s m args meth c cc nL own fr lo S0) (hZ : gZ H0 s) {C : String} {index t : Nat} (ht : gKinds[t]? = some (.object C)) (hcl : Cond.classLink own index C ∈ lw_good) (hover : C ∈ gOver) {n : Int32} (hv : gNA S t n (.inr (.inr (.inr (.inr (fun _ => none))))) = some S1) (hdg : decode cc pc = .ok (.anewarray index, 3))
    (kk : gV D cT H0 p l e R s m args below meth c Q S0 S1 (F0 m (pc + 3) ls (va_rf (some S.2.1) :: rest))) : gV D cT H0 p l e R s m args below meth c Q S0 S (F0 m pc ls (.int n :: rest)) := by
  obtain ⟨⟨h1, h2, h3⟩, rfl⟩ := gNA_spec hv
  exact g_anew X ht hcl (hZ.2.2.1 C hover) h1 (by omega) h3 hdg kk
theorem g_swOut {x : Int32} {n : Nat} (hn : n < 2 ^ 31) (h : ∀ k : Nat, k < n → ¬ x = nI k) : x.toInt < 0 ∨ (n : Int) - 1 < x.toInt := by
  by_cases h0 : x < 0
  · left
    rw [Int32.lt_iff_toInt_lt, Int32.toInt_zero] at h0
    exact h0
  · right
    obtain ⟨j, hj, rfl⟩ := nI_of h0
    rw [nI_toInt hj]
    by_cases hk : j < n
    · exact absurd rfl (h j hk)
    · omega
end GR
