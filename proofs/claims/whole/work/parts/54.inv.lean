/-! WHAT HOLDS BETWEEN CALLS -/
def IvE (z : Nat) (χ : cS) (μ : mS) (T : gS) (n : Nat) (a : Nat → Nat) (dd : Nat → Int32) (Ev : Nat → EV) : Prop := n ≤ 6 ∧ χ.1 5 = nI n ∧ μ.1 7 = nI n ∧ ∀ i, i < n → χ.2.2.2 i = some (a i) ∧ μ.2 2 i = dd i ∧ rng (dd i) 0 9999 = true ∧ EdAt (Full z χ μ T) (a i) (dd i) (Ev i) ∧ edIs μ i (Ev i) ∧ edLen (Ev i) ≤ 400
def IvT (χ : cS) (μ : mS) (L : Nat) : Prop := L ≤ 400 ∧ χ.1 1 = nI L ∧ μ.1 2 = nI L ∧ (∀ i, i < 400 → (χ.2.2.1 1 i).toInt8.toInt32 = χ.2.2.1 1 i) ∧ ∀ i, i < L → μ.2 1 i = χ.2.2.1 1 i &&& 255
def IvN (z : Nat) (χ : cS) (μ : mS) (T : gS) (n : Nat) : Prop := ∃ l c V, χ.2.1 9 = some l ∧ c ≤ 5 ∧ NLat (Full z χ μ T) l c V ∧ ((μ.1 23 = -1 ∧ c = 0) ∨ ∃ s, s < 50 * n ∧ μ.1 23 = nI s ∧ ndIs μ s c V)
def IvP (χ : cS) (μ : mS) (P : Nat) : Prop := P ≤ 400 ∧ χ.1 11 = nI P ∧ μ.1 25 = nI P ∧ ∀ i, i < P → μ.2 16 i = χ.2.2.1 11 i &&& 255
def IvU (χ : cS) (μ : mS) : Prop := ∀ i, i < 8 → μ.2 15 i = χ.2.2.1 2 i
def IvL (z : Nat) (χ : cS) (μ : mS) (n : Nat) (a : Nat → Nat) : Prop := (n = 0 ∧ χ.2.1 7 = some (z + 4) ∧ μ.1 8 = -1) ∨ ∃ m, n = m + 1 ∧ χ.2.1 7 = some (a m) ∧ μ.1 8 = nI m
def IvR (T : gS) (L k : Nat) : Prop := T.2.2.1 + 10 * L ≤ 100 + 100 * k ∧ T.2.2.2 + 45 * L ≤ 20000 + 400 * k
def Iv (z : Nat) (χ : cS) (μ : mS) (T : gS) (k n : Nat) (a : Nat → Nat) (dd : Nat → Int32) (Ev : Nat → EV) (L P : Nat) : Prop := TOk z T ∧ IvE z χ μ T n a dd Ev ∧ IvT χ μ L ∧ IvN z χ μ T n ∧ IvP χ μ P ∧ IvU χ μ ∧ IvL z χ μ n a ∧ χ.1 2 = μ.1 6 ∧ IvR T L k
def Ivs (z : Nat) (χ : cS) (μ : mS) (T : gS) (k : Nat) : Prop := ∃ n a dd Ev L P, Iv z χ μ T k n a dd Ev L P
/-- a call of both: what the law compares, and what holds behind it -/
def Call (z : Nat) (χ : cS) (μ : mS) (T : gS) (k : Nat) (c : gS → Option (Int32 × gS)) (m : Nat → gS → Option (Int32 × gS)) : Prop := ∃ kk b χ' μ' T', c (Full z χ μ T) = some (kk, Full z χ' μ T') ∧ (∀ w S, m w (mput w μ S) = some (b, mput w μ' S)) ∧ μ'.1 0 = kk ∧ (kk = 0 → gAL T' (z + 29) 1 0 = some b.toInt64) ∧ Ivs z χ' μ' T' (k + 1)
section IV
variable {z k n L P : Nat} {χ : cS} {μ : mS} {T : gS} {a : Nat → Nat} {dd : Nat → Int32} {Ev : Nat → EV}
theorem outW {x : Int64} (h : TOk z T) : ∃ T', (∀ χ μ, gSL (Full z χ μ T) (z + 29) 1 0 x = some (Full z χ μ T')) ∧ TOk z T' ∧ gAL T' (z + 29) 1 0 = some x ∧ T'.2 = T.2 ∧ ∀ q, q ≠ z + 29 → T'.1 q = T.1 q := by
  obtain ⟨h1, h2, h3, g, h4⟩ := h
  refine ⟨(gup T.1 (z + 29) (.inl (1, 1, .inr (.inl (vp_updL g 0 x)))), T.2), fun χ μ => ?_, ⟨h1, fun q hq => ?_, fun q hq => ?_, _, gup_self⟩, ?_, rfl, fun q hq => gup_ne hq⟩
  · unfold gSL
    rw [F_hi (Nat.le_refl _), h4]
    simp only []
    rw [if_pos ⟨trivial, by decide⟩]
    exact congrArg some (F_gup (Nat.le_refl _))
  · show gup _ _ _ _ = _; rw [gup_ne (by omega)]; exact h2 q hq
  · have : T.2.1 ≤ q := hq
    show gup _ _ _ _ = _; rw [gup_ne (by omega)]; exact h3 q this
  · unfold gAL
    simp only [gup_self]
    rw [if_pos ⟨trivial, by decide⟩]
    exact congrArg some pk_uLs
theorem outK {T' : gS} (h : TOk z T) (g : ∀ q, q ≠ z + 29 → T'.1 q = T.1 q) : ∀ q x, z + 29 ≤ q → T.1 q = some x → lf3 x = true → T'.1 q = some x := by
  intro q x _ hq hx
  obtain ⟨-, -, -, gg, h4⟩ := h
  rw [g q (fun e => by rw [e, h4] at hq; cases hq; cases hx)]; exact hq
theorem thOk (h : TOk z T) : TOk z (gTh T) := ⟨Nat.le_succ_of_le h.1, h.2.1, fun q hq => h.2.2.1 q (by have : T.2.1 + 1 ≤ q := hq; omega), h.2.2.2⟩
theorem Iv.sam {k' : Nat} {μ' : mS} {T' : gS} (h : Iv z χ μ T k n a dd Ev L P) (hT : TOk z T') (hk : ∀ q x, z + 29 ≤ q → T.1 q = some x → lf3 x = true → T'.1 q = some x) (hR : IvR T' L k') (h2 : μ'.2 = μ.2) (h1 : ∀ k, k ≠ 0 → μ'.1 k = μ.1 k) : Iv z χ μ' T' k' n a dd Ev L P := by
  obtain ⟨t, ⟨e1, e2, e3, e4⟩, ⟨t1, t2, t3, t4, t5⟩, ⟨l, c, V, n1, n2, n3, n4⟩, ⟨p1, p2, p3, p4⟩, u, lt, pl, ⟨r1, r2⟩⟩ := h
  have K : Kp lf3 (Full z χ μ T) (Full z χ μ' T') := F_kp t hk
  refine ⟨hT, ⟨e1, e2, by rw [h1 7 (by decide)]; exact e3, fun i hi => ?_⟩, ⟨t1, t2, by rw [h1 2 (by decide)]; exact t3, t4, by rw [h2]; exact t5⟩, ⟨l, c, V, n1, n2, n3.kk K.l3.l2, ?_⟩, ⟨p1, p2, by rw [h1 25 (by decide)]; exact p3, by rw [h2]; exact p4⟩, by unfold IvU; rw [h2]; exact u, ?_, by rw [h1 6 (by decide)]; exact pl, hR⟩
  · obtain ⟨a1, a2, a3, a4, a5, a6⟩ := e4 i hi
    exact ⟨a1, by rw [h2]; exact a2, a3, a4.k3 K, by unfold edIs plIs stIs hrIs ndIs; rw [h2]; exact a5, a6⟩
  · rw [h1 23 (by decide)]
    unfold ndIs; rw [h2]; exact n4
  · unfold IvL; rw [h1 8 (by decide)]; exact lt
theorem Iv.same {μ' : mS} {T' : gS} (h : Iv z χ μ T k n a dd Ev L P) (hT : TOk z T') (hk : ∀ q x, z + 29 ≤ q → T.1 q = some x → lf3 x = true → T'.1 q = some x) (hb : T'.2.2.1 ≤ T.2.2.1 + 90) (hu : T'.2.2.2 ≤ T.2.2.2 + 300) (h2 : μ'.2 = μ.2) (h1 : ∀ k, k ≠ 0 → μ'.1 k = μ.1 k) : Iv z χ μ' T' (k + 1) n a dd Ev L P := by
  have hr := h.2.2.2.2.2.2.2.2
  exact h.sam hT hk ⟨by have := hr.1; omega, by have := hr.2; omega⟩ h2 h1
theorem Iv.out {T' : gS} (h : Iv z χ μ T k n a dd Ev L P) (hT : TOk z T') (g : T'.2 = T.2) (hk : ∀ q, q ≠ z + 29 → T'.1 q = T.1 q) : Iv z χ μ T' k n a dd Ev L P := by
  have hr := h.2.2.2.2.2.2.2.2
  exact h.sam hT (outK h.1 hk) (by unfold IvR; rw [g]; exact hr) rfl (fun _ _ => rfl)
/-- room for a call -/
theorem Iv.room (h : Iv z χ μ T k n a dd Ev L P) (hk : k < 512) : Rm (90 + 10 * L) (300 + 45 * L) T := by
  obtain ⟨-, -, -, -, -, -, -, -, ⟨r1, r2⟩⟩ := h
  exact ⟨by have : gC = 601024 := rfl; omega, by have : gU = 7293034 := rfl; omega⟩
theorem Iv.gRoom (h : Iv z χ μ T k n a dd Ev L P) (hk : k < 512) : gRoom T := by
  have := h.room hk
  exact ⟨by have := this.1; omega, by have := this.2; omega⟩
end IV
