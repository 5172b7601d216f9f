/-! THE START: WHAT THE CONSTRUCTORS MAKE -/
/-- cells from n on, one behind the other, over the cells G below n -/
def hS (G : Nat → Option gE) (n : Nat) (l : List gE) (b u : Nat) : gS := ((fun q => if q < n then G q else l[q - n]?), n + l.length, b, u)
section IN
variable {G : Nat → Option gE} {n b u : Nat} {l : List gE}
theorem hS_n : (hS G n l b u).2.1 = n + l.length := rfl
theorem hS_at {i : Nat} : (hS G n l b u).1 (n + i) = l[i]? := by
  show (if n + i < n then _ else _) = _
  rw [if_neg (by omega), show n + i - n = i by omega]
theorem hS_up {i : Nat} {e : gE} (h : i < l.length) : gup (hS G n l b u).1 (n + i) e = (hS G n (l.set i e) b u).1 := by
  funext q
  show (if q = n + i then some e else (if q < n then G q else l[q - n]?)) = (if q < n then G q else (l.set i e)[q - n]?)
  by_cases h0 : q < n
  · rw [if_neg (by omega), if_pos h0, if_pos h0]
  · rw [if_neg h0, if_neg h0]
    by_cases hq : q = n + i
    · rw [if_pos hq, hq, show n + i - n = i by omega, List.getElem?_set_self h]
    · rw [if_neg hq, List.getElem?_set_ne (by omega)]
theorem hS_al {e : gE} : gup (hS G n l b u).1 (n + l.length) e = (hS G n (l ++ [e]) b u).1 := by
  funext q
  show (if q = n + l.length then some e else (if q < n then G q else l[q - n]?)) = (if q < n then G q else (l ++ [e])[q - n]?)
  by_cases h0 : q < n
  · rw [if_neg (by omega), if_pos h0, if_pos h0]
  · rw [if_neg h0, if_neg h0]
    by_cases hq : q = n + l.length
    · rw [if_pos hq, hq, show n + l.length - n = l.length by omega]
      simp
    · rw [if_neg hq]
      by_cases h1 : q - n < l.length
      · rw [List.getElem?_append_left h1]
      · rw [List.getElem?_eq_none (by omega), List.getElem?_eq_none (by simp; omega)]
theorem bPut {α : Type} {i ci k A : Nat} {fs : List Value} {v : Value} {K : gS → Option α} {R : Option α} (hA : A = n + i) (h : l[i]? = some (.inr (ci, fs))) (hk : k < fs.length) (hK : K (hS G n (l.set i (.inr (ci, fs.set k v))) b u) = R) : Option.bind (gPut (hS G n l b u) A ci k v) K = R := by
  subst hA
  have hi : i < l.length := (List.getElem?_eq_some_iff.mp h).1
  have : gPut (hS G n l b u) (n + i) ci k v = some (hS G n (l.set i (.inr (ci, fs.set k v))) b u) := by
    rw [e_P (S := hS G n l b u) (hS_at.trans h) hk]
    refine congrArg some (Prod.ext (hS_up hi) ?_)
    show (n + l.length, b, u) = (n + (l.set i _).length, b, u)
    rw [List.length_set]
  rw [this]; exact hK
theorem bNw {α : Type} {ci ln : Nat} {fs : List Value} {K : gS → Option α} {R : Option α} (hl : fs.length = ln) (h1 : b + 1 ≤ gC) (h2 : u + ln ≤ gU) (hK : K (hS G n (l ++ [.inr (ci, fs)]) (b + 1) (u + ln)) = R) : Option.bind (gNw (hS G n l b u) ci fs) K = R := by
  subst hl
  have : gNw (hS G n l b u) ci fs = some (hS G n (l ++ [.inr (ci, fs)]) (b + 1) (u + fs.length)) := by
    unfold gNw
    rw [if_pos ⟨h1, h2⟩]
    refine congrArg some (Prod.ext hS_al ?_)
    show (n + l.length + 1, b + 1, u + fs.length) = (n + (l ++ [(Sum.inr (ci, fs) : gE)]).length, b + 1, u + fs.length)
    rw [List.length_append]; rfl
  rw [this]; exact hK
theorem bNA {α : Type} {t mm : Nat} {x : Int32} {c : (Nat → Int32) ⊕ (Nat → Int64) ⊕ (Nat → UInt32) ⊕ (Nat → UInt64) ⊕ (Nat → Option Nat)} {K : gS → Option α} {R : Option α} (hn : x = nI mm) (hm : mm ≤ 10000) (h1 : b + 1 ≤ gC) (h2 : u + mm ≤ gU) (hK : K (hS G n (l ++ [.inl (t, mm, c)]) (b + 1) (u + mm)) = R) : Option.bind (gNA (hS G n l b u) t x c) K = R := by
  have : gNA (hS G n l b u) t x c = some (hS G n (l ++ [.inl (t, mm, c)]) (b + 1) (u + mm)) := by
    subst hn
    unfold gNA
    rw [nI_clamp (by omega), if_pos ⟨nI_pos (by omega), hm, h1, h2⟩]
    refine congrArg some (Prod.ext hS_al ?_)
    show (n + l.length + 1, b + 1, u + mm) = (n + (l ++ [(Sum.inl (t, mm, c) : gE)]).length, b + 1, u + mm)
    rw [List.length_append]; rfl
  rw [this]; exact hK
theorem bRf {α : Type} {i ci k A q : Nat} {fs : List Value} {K : Option Nat → Option α} {R : Option α} (hA : A = n + i) (h : l[i]? = some (.inr (ci, fs))) (hq : fs[k]? = some (.ref q)) (hK : K (some q) = R) : Option.bind (gRf (hS G n l b u) A ci k) K = R := by
  subst hA
  have : gRf (hS G n l b u) (n + i) ci k = some (some q) := e_R (S := hS G n l b u) (hS_at.trans h) hq
  rw [this]; exact hK
theorem PT_init : D_PT_init n (hS G n [.inr (0, [.null, .int 0, .int 0, .null, .null, .int 0, .null, .null, .null, .null, .null])] 1 11) = some (hS G n [.inr (0, [.ref (n + 1), .int 0, .int (-1), .ref (n + 2), .ref (n + 3), .int 0, .ref (n + 4), .ref (n + 4), .ref (n + 8), .ref (n + 8), .ref (n + 10)]), .inl (2, 400, .inl (fun _ => 0)), .inl (0, 8, .inl (fun _ => 0)), .inl (4, 6, .inr (.inr (.inr (.inr (fun _ => none))))), .inr (1, [.int (-1), .ref (n + 5), .ref (n + 6), .ref (n + 7), .int 0, .int 0, .int 0]), .inl (5, 41, .inr (.inr (.inr (.inr (fun _ => none))))), .inl (6, 10, .inr (.inr (.inr (.inr (fun _ => none))))), .inl (7, 8, .inr (.inr (.inr (.inr (fun _ => none))))), .inr (4, [.ref (n + 9), .int 0]), .inl (8, 5, .inr (.inr (.inr (.inr (fun _ => none))))), .inr (6, [.ref (n + 11), .int 0]), .inl (2, 400, .inl (fun _ => 0))] 12 900) := by
  unfold D_PT_init D_Ed_init D_NL_init D_Pr_init
  simp only [Option.bind_assoc, Option.bind_some]
  refine bNA (mm := 400) rfl (by decide) (by decide) (by decide) ?_
  simp only [List.set, List.length, List.cons_append, List.nil_append, Nat.reduceAdd, hS_n, va_rf]
  refine bPut (i := 0) rfl rfl (Nat.le_of_ble_eq_true rfl) ?_
  simp only [List.set, List.length, List.cons_append, List.nil_append, Nat.reduceAdd, hS_n, va_rf]
  refine bPut (i := 0) rfl rfl (Nat.le_of_ble_eq_true rfl) ?_
  simp only [List.set, List.length, List.cons_append, List.nil_append, Nat.reduceAdd, hS_n, va_rf]
  refine bPut (i := 0) rfl rfl (Nat.le_of_ble_eq_true rfl) ?_
  simp only [List.set, List.length, List.cons_append, List.nil_append, Nat.reduceAdd, hS_n, va_rf]
  refine bNA (mm := 8) rfl (by decide) (by decide) (by decide) ?_
  simp only [List.set, List.length, List.cons_append, List.nil_append, Nat.reduceAdd, hS_n, va_rf]
  refine bPut (i := 0) rfl rfl (Nat.le_of_ble_eq_true rfl) ?_
  simp only [List.set, List.length, List.cons_append, List.nil_append, Nat.reduceAdd, hS_n, va_rf]
  refine bNA (mm := 6) rfl (by decide) (by decide) (by decide) ?_
  simp only [List.set, List.length, List.cons_append, List.nil_append, Nat.reduceAdd, hS_n, va_rf]
  refine bPut (i := 0) rfl rfl (Nat.le_of_ble_eq_true rfl) ?_
  simp only [List.set, List.length, List.cons_append, List.nil_append, Nat.reduceAdd, hS_n, va_rf]
  refine bPut (i := 0) rfl rfl (Nat.le_of_ble_eq_true rfl) ?_
  simp only [List.set, List.length, List.cons_append, List.nil_append, Nat.reduceAdd, hS_n, va_rf]
  refine bNw rfl (by decide) (by decide) ?_
  simp only [List.set, List.length, List.cons_append, List.nil_append, Nat.reduceAdd, hS_n, va_rf]
  refine bNA (mm := 41) rfl (by decide) (by decide) (by decide) ?_
  simp only [List.set, List.length, List.cons_append, List.nil_append, Nat.reduceAdd, hS_n, va_rf]
  refine bPut (i := 4) rfl rfl (Nat.le_of_ble_eq_true rfl) ?_
  simp only [List.set, List.length, List.cons_append, List.nil_append, Nat.reduceAdd, hS_n, va_rf]
  refine bNA (mm := 10) rfl (by decide) (by decide) (by decide) ?_
  simp only [List.set, List.length, List.cons_append, List.nil_append, Nat.reduceAdd, hS_n, va_rf]
  refine bPut (i := 4) rfl rfl (Nat.le_of_ble_eq_true rfl) ?_
  simp only [List.set, List.length, List.cons_append, List.nil_append, Nat.reduceAdd, hS_n, va_rf]
  refine bNA (mm := 8) rfl (by decide) (by decide) (by decide) ?_
  simp only [List.set, List.length, List.cons_append, List.nil_append, Nat.reduceAdd, hS_n, va_rf]
  refine bPut (i := 4) rfl rfl (Nat.le_of_ble_eq_true rfl) ?_
  simp only [List.set, List.length, List.cons_append, List.nil_append, Nat.reduceAdd, hS_n, va_rf]
  refine bPut (i := 4) rfl rfl (Nat.le_of_ble_eq_true rfl) ?_
  simp only [List.set, List.length, List.cons_append, List.nil_append, Nat.reduceAdd, hS_n, va_rf]
  refine bPut (i := 4) rfl rfl (Nat.le_of_ble_eq_true rfl) ?_
  simp only [List.set, List.length, List.cons_append, List.nil_append, Nat.reduceAdd, hS_n, va_rf]
  refine bPut (i := 4) rfl rfl (Nat.le_of_ble_eq_true rfl) ?_
  simp only [List.set, List.length, List.cons_append, List.nil_append, Nat.reduceAdd, hS_n, va_rf]
  refine bPut (i := 4) rfl rfl (Nat.le_of_ble_eq_true rfl) ?_
  simp only [List.set, List.length, List.cons_append, List.nil_append, Nat.reduceAdd, hS_n, va_rf]
  refine bPut (i := 0) rfl rfl (Nat.le_of_ble_eq_true rfl) ?_
  simp only [List.set, List.length, List.cons_append, List.nil_append, Nat.reduceAdd, hS_n, va_rf]
  refine bRf (i := 0) rfl rfl rfl ?_
  simp only [List.set, List.length, List.cons_append, List.nil_append, Nat.reduceAdd, hS_n, va_rf]
  refine bPut (i := 0) rfl rfl (Nat.le_of_ble_eq_true rfl) ?_
  simp only [List.set, List.length, List.cons_append, List.nil_append, Nat.reduceAdd, hS_n, va_rf]
  refine bNw rfl (by decide) (by decide) ?_
  simp only [List.set, List.length, List.cons_append, List.nil_append, Nat.reduceAdd, hS_n, va_rf]
  refine bNA (mm := 5) rfl (by decide) (by decide) (by decide) ?_
  simp only [List.set, List.length, List.cons_append, List.nil_append, Nat.reduceAdd, hS_n, va_rf]
  refine bPut (i := 8) rfl rfl (Nat.le_of_ble_eq_true rfl) ?_
  simp only [List.set, List.length, List.cons_append, List.nil_append, Nat.reduceAdd, hS_n, va_rf]
  refine bPut (i := 8) rfl rfl (Nat.le_of_ble_eq_true rfl) ?_
  simp only [List.set, List.length, List.cons_append, List.nil_append, Nat.reduceAdd, hS_n, va_rf]
  refine bPut (i := 0) rfl rfl (Nat.le_of_ble_eq_true rfl) ?_
  simp only [List.set, List.length, List.cons_append, List.nil_append, Nat.reduceAdd, hS_n, va_rf]
  refine bRf (i := 0) rfl rfl rfl ?_
  simp only [List.set, List.length, List.cons_append, List.nil_append, Nat.reduceAdd, hS_n, va_rf]
  refine bPut (i := 0) rfl rfl (Nat.le_of_ble_eq_true rfl) ?_
  simp only [List.set, List.length, List.cons_append, List.nil_append, Nat.reduceAdd, hS_n, va_rf]
  refine bNw rfl (by decide) (by decide) ?_
  simp only [List.set, List.length, List.cons_append, List.nil_append, Nat.reduceAdd, hS_n, va_rf]
  refine bNA (mm := 400) rfl (by decide) (by decide) (by decide) ?_
  simp only [List.set, List.length, List.cons_append, List.nil_append, Nat.reduceAdd, hS_n, va_rf]
  refine bPut (i := 10) rfl rfl (Nat.le_of_ble_eq_true rfl) ?_
  simp only [List.set, List.length, List.cons_append, List.nil_append, Nat.reduceAdd, hS_n, va_rf]
  refine bPut (i := 10) rfl rfl (Nat.le_of_ble_eq_true rfl) ?_
  simp only [List.set, List.length, List.cons_append, List.nil_append, Nat.reduceAdd, hS_n, va_rf]
  refine bPut (i := 0) rfl rfl (Nat.le_of_ble_eq_true rfl) ?_
  simp only [List.set, List.length, List.cons_append, List.nil_append, Nat.reduceAdd, hS_n, va_rf]
theorem Mo_init : D_Mo_init n (hS G n [.inr (10, [.int 0, .null, .int 0, .int 0, .int 0, .int 0, .int 0, .int 0, .int 0, .null, .null, .null, .null, .null, .null, .null, .null, .null, .null, .null, .null, .null, .null, .int 0, .null, .int 0])] 13 926) = some (hS G n [.inr (10, [.int 0, .ref (n + 1), .int 0, .int 0, .int 0, .int 0, .int (-1), .int 0, .int (-1), .ref (n + 2), .ref (n + 3), .ref (n + 4), .ref (n + 5), .ref (n + 6), .ref (n + 7), .ref (n + 8), .ref (n + 9), .ref (n + 10), .ref (n + 11), .ref (n + 12), .ref (n + 13), .ref (n + 14), .ref (n + 15), .int (-1), .ref (n + 16), .int 0]), .inl (0, 400, .inl (fun _ => 0)), .inl (0, 7, .inl (fun _ => 0)), .inl (3, 350, .inl (fun _ => 0)), .inl (0, 350, .inl (fun _ => 0)), .inl (0, 350, .inl (fun _ => 0)), .inl (0, 350, .inl (fun _ => 0)), .inl (0, 350, .inl (fun _ => 0)), .inl (0, 350, .inl (fun _ => 0)), .inl (0, 350, .inl (fun _ => 0)), .inl (0, 350, .inl (fun _ => 0)), .inl (0, 350, .inl (fun _ => 0)), .inl (0, 8750, .inl (fun _ => 0)), .inl (0, 7, .inl (fun _ => 0)), .inl (0, 280, .inl (fun _ => 0)), .inl (0, 8, .inl (fun _ => 0)), .inl (0, 500, .inl (fun _ => 0))] 29 14028) := by
  unfold D_Mo_init
  refine bNA (mm := 400) rfl (by decide) (by decide) (by decide) ?_
  simp only [List.set, List.length, List.cons_append, List.nil_append, Nat.reduceAdd, hS_n, va_rf]
  refine bPut (i := 0) rfl rfl (Nat.le_of_ble_eq_true rfl) ?_
  simp only [List.set, List.length, List.cons_append, List.nil_append, Nat.reduceAdd, hS_n, va_rf]
  refine bPut (i := 0) rfl rfl (Nat.le_of_ble_eq_true rfl) ?_
  simp only [List.set, List.length, List.cons_append, List.nil_append, Nat.reduceAdd, hS_n, va_rf]
  refine bNA (mm := 7) rfl (by decide) (by decide) (by decide) ?_
  simp only [List.set, List.length, List.cons_append, List.nil_append, Nat.reduceAdd, hS_n, va_rf]
  refine bPut (i := 0) rfl rfl (Nat.le_of_ble_eq_true rfl) ?_
  simp only [List.set, List.length, List.cons_append, List.nil_append, Nat.reduceAdd, hS_n, va_rf]
  refine bNA (mm := 350) rfl (by decide) (by decide) (by decide) ?_
  simp only [List.set, List.length, List.cons_append, List.nil_append, Nat.reduceAdd, hS_n, va_rf]
  refine bPut (i := 0) rfl rfl (Nat.le_of_ble_eq_true rfl) ?_
  simp only [List.set, List.length, List.cons_append, List.nil_append, Nat.reduceAdd, hS_n, va_rf]
  refine bNA (mm := 350) rfl (by decide) (by decide) (by decide) ?_
  simp only [List.set, List.length, List.cons_append, List.nil_append, Nat.reduceAdd, hS_n, va_rf]
  refine bPut (i := 0) rfl rfl (Nat.le_of_ble_eq_true rfl) ?_
  simp only [List.set, List.length, List.cons_append, List.nil_append, Nat.reduceAdd, hS_n, va_rf]
  refine bNA (mm := 350) rfl (by decide) (by decide) (by decide) ?_
  simp only [List.set, List.length, List.cons_append, List.nil_append, Nat.reduceAdd, hS_n, va_rf]
  refine bPut (i := 0) rfl rfl (Nat.le_of_ble_eq_true rfl) ?_
  simp only [List.set, List.length, List.cons_append, List.nil_append, Nat.reduceAdd, hS_n, va_rf]
  refine bNA (mm := 350) rfl (by decide) (by decide) (by decide) ?_
  simp only [List.set, List.length, List.cons_append, List.nil_append, Nat.reduceAdd, hS_n, va_rf]
  refine bPut (i := 0) rfl rfl (Nat.le_of_ble_eq_true rfl) ?_
  simp only [List.set, List.length, List.cons_append, List.nil_append, Nat.reduceAdd, hS_n, va_rf]
  refine bNA (mm := 350) rfl (by decide) (by decide) (by decide) ?_
  simp only [List.set, List.length, List.cons_append, List.nil_append, Nat.reduceAdd, hS_n, va_rf]
  refine bPut (i := 0) rfl rfl (Nat.le_of_ble_eq_true rfl) ?_
  simp only [List.set, List.length, List.cons_append, List.nil_append, Nat.reduceAdd, hS_n, va_rf]
  refine bNA (mm := 350) rfl (by decide) (by decide) (by decide) ?_
  simp only [List.set, List.length, List.cons_append, List.nil_append, Nat.reduceAdd, hS_n, va_rf]
  refine bPut (i := 0) rfl rfl (Nat.le_of_ble_eq_true rfl) ?_
  simp only [List.set, List.length, List.cons_append, List.nil_append, Nat.reduceAdd, hS_n, va_rf]
  refine bNA (mm := 350) rfl (by decide) (by decide) (by decide) ?_
  simp only [List.set, List.length, List.cons_append, List.nil_append, Nat.reduceAdd, hS_n, va_rf]
  refine bPut (i := 0) rfl rfl (Nat.le_of_ble_eq_true rfl) ?_
  simp only [List.set, List.length, List.cons_append, List.nil_append, Nat.reduceAdd, hS_n, va_rf]
  refine bNA (mm := 350) rfl (by decide) (by decide) (by decide) ?_
  simp only [List.set, List.length, List.cons_append, List.nil_append, Nat.reduceAdd, hS_n, va_rf]
  refine bPut (i := 0) rfl rfl (Nat.le_of_ble_eq_true rfl) ?_
  simp only [List.set, List.length, List.cons_append, List.nil_append, Nat.reduceAdd, hS_n, va_rf]
  refine bNA (mm := 350) rfl (by decide) (by decide) (by decide) ?_
  simp only [List.set, List.length, List.cons_append, List.nil_append, Nat.reduceAdd, hS_n, va_rf]
  refine bPut (i := 0) rfl rfl (Nat.le_of_ble_eq_true rfl) ?_
  simp only [List.set, List.length, List.cons_append, List.nil_append, Nat.reduceAdd, hS_n, va_rf]
  refine bNA (mm := 8750) rfl (by decide) (by decide) (by decide) ?_
  simp only [List.set, List.length, List.cons_append, List.nil_append, Nat.reduceAdd, hS_n, va_rf]
  refine bPut (i := 0) rfl rfl (Nat.le_of_ble_eq_true rfl) ?_
  simp only [List.set, List.length, List.cons_append, List.nil_append, Nat.reduceAdd, hS_n, va_rf]
  refine bNA (mm := 7) rfl (by decide) (by decide) (by decide) ?_
  simp only [List.set, List.length, List.cons_append, List.nil_append, Nat.reduceAdd, hS_n, va_rf]
  refine bPut (i := 0) rfl rfl (Nat.le_of_ble_eq_true rfl) ?_
  simp only [List.set, List.length, List.cons_append, List.nil_append, Nat.reduceAdd, hS_n, va_rf]
  refine bNA (mm := 280) rfl (by decide) (by decide) (by decide) ?_
  simp only [List.set, List.length, List.cons_append, List.nil_append, Nat.reduceAdd, hS_n, va_rf]
  refine bPut (i := 0) rfl rfl (Nat.le_of_ble_eq_true rfl) ?_
  simp only [List.set, List.length, List.cons_append, List.nil_append, Nat.reduceAdd, hS_n, va_rf]
  refine bNA (mm := 8) rfl (by decide) (by decide) (by decide) ?_
  simp only [List.set, List.length, List.cons_append, List.nil_append, Nat.reduceAdd, hS_n, va_rf]
  refine bPut (i := 0) rfl rfl (Nat.le_of_ble_eq_true rfl) ?_
  simp only [List.set, List.length, List.cons_append, List.nil_append, Nat.reduceAdd, hS_n, va_rf]
  refine bPut (i := 0) rfl rfl (Nat.le_of_ble_eq_true rfl) ?_
  simp only [List.set, List.length, List.cons_append, List.nil_append, Nat.reduceAdd, hS_n, va_rf]
  refine bNA (mm := 500) rfl (by decide) (by decide) (by decide) ?_
  simp only [List.set, List.length, List.cons_append, List.nil_append, Nat.reduceAdd, hS_n, va_rf]
  refine bPut (i := 0) rfl rfl (Nat.le_of_ble_eq_true rfl) ?_
  simp only [List.set, List.length, List.cons_append, List.nil_append, Nat.reduceAdd, hS_n, va_rf]
  refine bPut (i := 0) rfl rfl (Nat.le_of_ble_eq_true rfl) ?_
  simp only [List.set, List.length, List.cons_append, List.nil_append, Nat.reduceAdd, hS_n, va_rf]
theorem hS_re : hS G n l b u = hS (hS G n l b u).1 (n + l.length) [] b u := by
  refine Prod.ext ?_ rfl
  funext q
  show (if q < n then G q else l[q - n]?) = (if q < n + l.length then (if q < n then G q else l[q - n]?) else ([] : List gE)[q - (n + l.length)]?)
  by_cases h : q < n + l.length
  · rw [if_pos h]
  · rw [if_neg h, if_neg (by omega), List.getElem?_eq_none (by omega)]; rfl
theorem hS_0 {z : Nat} : (((fun _ => none), z, 0, 0) : gS) = hS (fun _ => none) z [] 0 0 := by
  refine Prod.ext ?_ rfl
  funext q
  show none = (if q < z then none else ([] : List gE)[q - z]?)
  split <;> rfl
def ch0 (z : Nat) : cS := ((fun k => if k = 2 then -1 else 0), (fun k => if k = 7 then some (z + 4) else some (z + 8)), (fun _ _ => 0), fun _ => none)
def mu0 : mS := ((fun k => if k = 6 ∨ k = 8 ∨ k = 23 then -1 else 0), fun _ _ => 0)
def T0 (z : Nat) : gS := ((fun q => if q = z + 29 then some (.inl (1, 1, .inr (.inl (fun _ => 0)))) else none), z + 30, 30, 14029)
def lPT (z : Nat) : List gE := [.inr (0, [.ref (z + 1), .int 0, .int (-1), .ref (z + 2), .ref (z + 3), .int 0, .ref (z + 4), .ref (z + 4), .ref (z + 8), .ref (z + 8), .ref (z + 10)]), .inl (2, 400, .inl (fun _ => 0)), .inl (0, 8, .inl (fun _ => 0)), .inl (4, 6, .inr (.inr (.inr (.inr (fun _ => none))))), .inr (1, [.int (-1), .ref (z + 5), .ref (z + 6), .ref (z + 7), .int 0, .int 0, .int 0]), .inl (5, 41, .inr (.inr (.inr (.inr (fun _ => none))))), .inl (6, 10, .inr (.inr (.inr (.inr (fun _ => none))))), .inl (7, 8, .inr (.inr (.inr (.inr (fun _ => none))))), .inr (4, [.ref (z + 9), .int 0]), .inl (8, 5, .inr (.inr (.inr (.inr (fun _ => none))))), .inr (6, [.ref (z + 11), .int 0]), .inl (2, 400, .inl (fun _ => 0))]
def lMo (z : Nat) : List gE := [.inr (10, [.int 0, .ref (z + 12 + 1), .int 0, .int 0, .int 0, .int 0, .int (-1), .int 0, .int (-1), .ref (z + 12 + 2), .ref (z + 12 + 3), .ref (z + 12 + 4), .ref (z + 12 + 5), .ref (z + 12 + 6), .ref (z + 12 + 7), .ref (z + 12 + 8), .ref (z + 12 + 9), .ref (z + 12 + 10), .ref (z + 12 + 11), .ref (z + 12 + 12), .ref (z + 12 + 13), .ref (z + 12 + 14), .ref (z + 12 + 15), .int (-1), .ref (z + 12 + 16), .int 0]), .inl (0, 400, .inl (fun _ => 0)), .inl (0, 7, .inl (fun _ => 0)), .inl (3, 350, .inl (fun _ => 0)), .inl (0, 350, .inl (fun _ => 0)), .inl (0, 350, .inl (fun _ => 0)), .inl (0, 350, .inl (fun _ => 0)), .inl (0, 350, .inl (fun _ => 0)), .inl (0, 350, .inl (fun _ => 0)), .inl (0, 350, .inl (fun _ => 0)), .inl (0, 350, .inl (fun _ => 0)), .inl (0, 350, .inl (fun _ => 0)), .inl (0, 8750, .inl (fun _ => 0)), .inl (0, 7, .inl (fun _ => 0)), .inl (0, 280, .inl (fun _ => 0)), .inl (0, 8, .inl (fun _ => 0)), .inl (0, 500, .inl (fun _ => 0)), .inl (1, 1, .inr (.inl (fun _ => 0)))]
theorem lPT_at {z : Nat} : ∀ d, d < 12 → (lPT z)[d]? = some (ccell z (ch0 z) d) := by
  intro d hd
  rcases (show d = 0 ∨ d = 1 ∨ d = 2 ∨ d = 3 ∨ d = 4 ∨ d = 5 ∨ d = 6 ∨ d = 7 ∨ d = 8 ∨ d = 9 ∨ d = 10 ∨ d = 11 by omega) with rfl | rfl | rfl | rfl | rfl | rfl | rfl | rfl | rfl | rfl | rfl | rfl <;> rfl
theorem lMo_at {z : Nat} : ∀ j, 0 < j → j < 17 → (lMo z)[j]? = some (.inl (mkd j, mlen j, .inl (mu0.2 j))) := by
  intro j h0 hj
  rcases (show j = 1 ∨ j = 2 ∨ j = 3 ∨ j = 4 ∨ j = 5 ∨ j = 6 ∨ j = 7 ∨ j = 8 ∨ j = 9 ∨ j = 10 ∨ j = 11 ∨ j = 12 ∨ j = 13 ∨ j = 14 ∨ j = 15 ∨ j = 16 by omega) with rfl | rfl | rfl | rfl | rfl | rfl | rfl | rfl | rfl | rfl | rfl | rfl | rfl | rfl | rfl | rfl <;> rfl
theorem init_eq {z : Nat} : hS (hS (fun _ => none) z (lPT z) 12 900).1 (z + 12) (lMo z) 30 14029 = Full z (ch0 z) mu0 (T0 z) := by
  refine Prod.ext ?_ rfl
  funext q
  show (if q < z + 12 then (if q < z then none else (lPT z)[q - z]?) else (lMo z)[q - (z + 12)]?) = (Full z (ch0 z) mu0 (T0 z)).1 q
  by_cases h0 : q < z
  · rw [if_pos (by omega), if_pos h0, F_lo h0]
    show none = (if q = z + 29 then _ else none)
    rw [if_neg (by omega)]
  · by_cases h1 : q < z + 12
    · rw [if_pos h1, if_neg h0]
      obtain ⟨d, rfl⟩ : ∃ d, q = z + d := ⟨q - z, by omega⟩
      rw [show z + d - z = d by omega, lPT_at d (by omega)]
      unfold Full
      rw [cput_j (by omega)]
    · rw [if_neg h1]
      obtain ⟨j, rfl⟩ : ∃ j, q = z + 12 + j := ⟨q - (z + 12), by omega⟩
      rw [show z + 12 + j - (z + 12) = j by omega]
      by_cases h2 : j = 0
      · subst h2
        unfold Full
        rw [cput_ne (by omega), Nat.add_zero, mput_0]
        rfl
      · by_cases h3 : j < 17
        · rw [lMo_at j (by omega) h3]
          unfold Full
          rw [cput_ne (by omega), mput_j (by omega) h3]
        · rw [F_hi (by omega)]
          show _ = (if z + 12 + j = z + 29 then _ else none)
          by_cases h4 : j = 17
          · rw [h4, if_pos rfl]; rfl
          · rw [if_neg (by omega), List.getElem?_eq_none (by show 18 ≤ j; omega)]
theorem init_ok {xs : Nat → Int32} {L z : Nat} : D_La_law xs L ((fun _ => none), z, 0, 0) = L_La_law_23 xs L gF z (z + 12) (z + 29) (nI (6 * 0)) (Full z (ch0 z) mu0 (T0 z)) := by
  rw [hS_0]
  unfold D_La_law
  refine bNw rfl (by decide) (by decide) ?_
  simp only [List.length, List.nil_append, Nat.reduceAdd, hS_n, Nat.add_zero]
  rw [PT_init]
  simp only [Option.bind_some]
  rw [show hS (fun _ => none) z [.inr (0, [.ref (z + 1), .int 0, .int (-1), .ref (z + 2), .ref (z + 3), .int 0, .ref (z + 4), .ref (z + 4), .ref (z + 8), .ref (z + 8), .ref (z + 10)]), .inl (2, 400, .inl (fun _ => 0)), .inl (0, 8, .inl (fun _ => 0)), .inl (4, 6, .inr (.inr (.inr (.inr (fun _ => none))))), .inr (1, [.int (-1), .ref (z + 5), .ref (z + 6), .ref (z + 7), .int 0, .int 0, .int 0]), .inl (5, 41, .inr (.inr (.inr (.inr (fun _ => none))))), .inl (6, 10, .inr (.inr (.inr (.inr (fun _ => none))))), .inl (7, 8, .inr (.inr (.inr (.inr (fun _ => none))))), .inr (4, [.ref (z + 9), .int 0]), .inl (8, 5, .inr (.inr (.inr (.inr (fun _ => none))))), .inr (6, [.ref (z + 11), .int 0]), .inl (2, 400, .inl (fun _ => 0))] 12 900 = hS (fun _ => none) z (lPT z) 12 900 from rfl, hS_re, show z + (lPT z).length = z + 12 from rfl]
  refine bNw rfl (by decide) (by decide) ?_
  simp only [List.length, List.nil_append, Nat.reduceAdd, hS_n, Nat.add_zero]
  rw [Mo_init]
  simp only [Option.bind_some]
  refine bNA (mm := 1) rfl (by decide) (by decide) (by decide) ?_
  show L_La_law_23 xs L gF z (z + 12) (z + 29) (nI (6 * 0)) (hS (hS (fun _ => none) z (lPT z) 12 900).1 (z + 12) (lMo z) 30 14029) = _
  rw [init_eq]
theorem Iv_0 {z : Nat} : Ivs z (ch0 z) mu0 (T0 z) 0 := by
  refine ⟨0, fun _ => 0, fun _ => 0, fun _ => E0, 0, 0, ⟨Nat.le_refl _, fun q hq => ?_, fun q hq => ?_, _, if_pos rfl⟩, ⟨by omega, rfl, rfl, fun i hi => absurd hi (by omega)⟩, ⟨by omega, rfl, rfl, fun i _ => (by decide : (0 : Int32).toInt8.toInt32 = 0), fun i hi => absurd hi (by omega)⟩, ⟨z + 8, 0, fun _ _ => 0, rfl, by omega, F_nn, Or.inl ⟨rfl, rfl⟩⟩, ⟨by omega, rfl, rfl, fun i hi => absurd hi (by omega)⟩, fun i _ => rfl, Or.inl ⟨rfl, rfl, rfl⟩, rfl, ⟨by show 30 + 10 * 0 ≤ 100 + 100 * 0; omega, by show 14029 + 45 * 0 ≤ 20000 + 400 * 0; omega⟩⟩
  · show (if q = z + 29 then _ else none) = none
    rw [if_neg (by omega)]
  · have : z + 30 ≤ q := hq
    show (if q = z + 29 then _ else none) = none
    rw [if_neg (by omega)]
end IN
theorem law_true (xs : Nat → Int32) (L z : Nat) (hL : L ≤ 3072) : ∃ S', D_La_law xs L ((fun _ => none), z, 0, 0) = some (1, S') := by
  rw [init_ok]
  exact law_loop hL 512 0 gF _ _ _ rfl (by decide) (by decide) Iv_0
