/-! THE CLASS'S READING AROUND ITS ROWS -/
section CR
variable {r t : Nat} {f : Nat → Int32} {n p wr d : Int32} {S : gS}
theorem mkEd (hC : Cx r t f S) (hR : Rm 4 66 S) : ∃ S', D_Rd_readEdition r d (rd r t n p wr S) = L_Rd_readEdition_11 gF r S.2.1 0 (rd r t n p wr S') ∧ EdAt S' S.2.1 d E0 ∧ Grow 4 66 S S' := by
  have hr := hC.2.1
  obtain ⟨e, he⟩ : ∃ e, e = S.2.1 := ⟨_, rfl⟩
  have ne0 : e ≠ r := by omega
  have G : ∀ (X : gS) (k : Nat), X.2.1 = e + k → X.2.2.1 = S.2.2.1 + k → ∀ (t' m : Nat) (mm : Int32) (u : Nat), mm = nI m → m ≤ 10000 → k + 1 ≤ 4 → X.2.2.2 = S.2.2.2 + u → u + m ≤ 66 → gNA (rd r t n p wr X) t' mm (.inr (.inr (.inr (.inr (fun _ => none))))) = some (rd r t n p wr (ar (nx X m) (e + k) t' m (fun _ => none))) := by
    intro X k h1 h2 t' m mm u hm hm2 hk hu hum
    rw [gNA_rd hm hm2 (by omega) ⟨by have := hR.1; omega, by have := hR.2; omega⟩, h1]
  have P : ∀ (X : gS) (fs : List Value) (k : Nat) (v : Value), k < fs.length → gPut (rd r t n p wr (ob X e 1 fs)) e 1 k v = some (rd r t n p wr (ob X e 1 (fs.set k v))) := fun X fs k v hk => rd_put ne0 hk
  have C : ∀ (X : gS) (fs : List Value) (k t' m : Nat) (g : Nat → Option Nat), k ≠ 0 → ar (nx (ob X e 1 fs) m) (e + k) t' m g = ob (ar (nx X m) (e + k) t' m g) e 1 fs := fun X fs k t' m g hk => Prod.ext (gup_comm (by omega)) rfl
  refine ⟨ob (ar (nx (ar (nx (ar (nx (nx S 7) 41) (e + 1) 5 41 (fun _ => none)) 10) (e + 2) 6 10 (fun _ => none)) 8) (e + 3) 7 8 (fun _ => none)) e 1 [.int d, .ref (e + 1), .ref (e + 2), .ref (e + 3), .int 0, .int 0, .int 0], ?_, ?_, ?_⟩
  · unfold D_Rd_readEdition D_Ed_init
    rw [show (rd r t n p wr S).2.1 = e from he.symm, gNw_rd (l := 7) rfl hr ⟨by have := hR.1; omega, by have := hR.2; omega⟩, ← he]
    simp only [Option.bind_some]
    rw [G (ob (nx S 7) e 1 [.int 0, .null, .null, .null, .int 0, .int 0, .int 0]) 1 (by show S.2.1 + 1 = _; omega) rfl 5 41 41 7 rfl (by decide) (by decide) rfl (by decide)]
    simp only [Option.bind_some]
    rw [C _ _ 1 5 41 _ (by decide), show (rd r t n p wr (ob (nx S 7) e 1 [.int 0, .null, .null, .null, .int 0, .int 0, .int 0])).2.1 = e + 1 by show S.2.1 + 1 = _; omega]
    rw [P _ _ 1 _ (Nat.le_of_ble_eq_true rfl)]
    simp only [Option.bind_some, List.set, va_rf]
    rw [G (ob (ar (nx (nx S 7) 41) (e + 1) 5 41 (fun _ => none)) e 1 [.int 0, .ref (e + 1), .null, .null, .int 0, .int 0, .int 0]) 2 (by show S.2.1 + 1 + 1 = _; omega) rfl 6 10 10 48 rfl (by decide) (by decide) rfl (by decide)]
    simp only [Option.bind_some]
    rw [C _ _ 2 6 10 _ (by decide), show (rd r t n p wr (ob (ar (nx (nx S 7) 41) (e + 1) 5 41 (fun _ => none)) e 1 [.int 0, .ref (e + 1), .null, .null, .int 0, .int 0, .int 0])).2.1 = e + 2 by show S.2.1 + 1 + 1 = _; omega]
    rw [P _ _ 2 _ (Nat.le_of_ble_eq_true rfl)]
    simp only [Option.bind_some, List.set]
    rw [G (ob (ar (nx (ar (nx (nx S 7) 41) (e + 1) 5 41 (fun _ => none)) 10) (e + 2) 6 10 (fun _ => none)) e 1 [.int 0, .ref (e + 1), .ref (e + 2), .null, .int 0, .int 0, .int 0]) 3 (by show S.2.1 + 1 + 1 + 1 = _; omega) rfl 7 8 8 58 rfl (by decide) (by decide) rfl (by decide)]
    simp only [Option.bind_some]
    rw [C _ _ 3 7 8 _ (by decide), show (rd r t n p wr (ob (ar (nx (ar (nx (nx S 7) 41) (e + 1) 5 41 (fun _ => none)) 10) (e + 2) 6 10 (fun _ => none)) e 1 [.int 0, .ref (e + 1), .ref (e + 2), .null, .int 0, .int 0, .int 0])).2.1 = e + 3 by show S.2.1 + 1 + 1 + 1 = _; omega]
    rw [P _ _ 3 _ (Nat.le_of_ble_eq_true rfl)]
    simp only [Option.bind_some, List.set]
    rw [P _ _ 4 _ (Nat.le_of_ble_eq_true rfl)]
    simp only [Option.bind_some, List.set]
    rw [P _ _ 5 _ (Nat.le_of_ble_eq_true rfl)]
    simp only [Option.bind_some, List.set]
    rw [P _ _ 6 _ (Nat.le_of_ble_eq_true rfl)]
    simp only [Option.bind_some, List.set]
    rw [P _ _ 0 _ (Nat.le_of_ble_eq_true rfl)]
    simp only [Option.bind_some, List.set]
  · rw [← he]
    refine E0_at ⟨ob_a, ?_, ?_, ?_⟩
    · rw [ob_n (by omega), ar_n (by omega)]; show (ar _ _ _ _ _).1 _ = _; rw [ar_n (by omega)]; exact ar_a
    · rw [ob_n (by omega), ar_n (by omega)]; exact ar_a
    · rw [ob_n (by omega), ar_a]
  · have up : ∀ q, q ≠ e → q ≠ e + 1 → q ≠ e + 2 → q ≠ e + 3 → (ob (ar (nx (ar (nx (ar (nx (nx S 7) 41) (e + 1) 5 41 (fun _ => none)) 10) (e + 2) 6 10 (fun _ => none)) 8) (e + 3) 7 8 (fun _ => none)) e 1 [.int d, .ref (e + 1), .ref (e + 2), .ref (e + 3), .int 0, .int 0, .int 0]).1 q = S.1 q := fun q h0 h1 h2 h3 => by
      rw [ob_n h0, ar_n h3]; show (ar _ _ _ _ _).1 _ = _; rw [ar_n h2]; show (ar _ _ _ _ _).1 _ = _; rw [ar_n h1]; rfl
    refine ⟨fun q hq => up q (by omega) (by omega) (by omega) (by omega), ?_, fun q hq => ?_, Nat.le_refl _, Nat.le_refl _⟩
    · show S.2.1 ≤ S.2.1 + 1 + 1 + 1 + 1; omega
    · have : S.2.1 + 1 + 1 + 1 + 1 ≤ q := hq
      rw [up q (by omega) (by omega) (by omega) (by omega)]; exact hC.fr q (by omega)
end CR
