/-! PRINTING: SIGNS, NUMBERS, NEEDS -/
theorem ob_r {α : Type} (x : Option α) : Option.bind x (fun s => some s) = x := by cases x <;> rfl
def PF (χ χ' : cS) (μ μ' : mS) : Prop := ((∀ k, k ≠ 11 → χ'.1 k = χ.1 k) ∧ χ'.2.1 = χ.2.1 ∧ (∀ j, j ≠ 11 → χ'.2.2.1 j = χ.2.2.1 j) ∧ χ'.2.2.2 = χ.2.2.2) ∧ (∀ k, k ≠ 25 → μ'.1 k = μ.1 k) ∧ ∀ j, j ≠ 16 → μ'.2 j = μ.2 j
theorem PF.rf {χ : cS} {μ : mS} : PF χ χ μ μ := ⟨⟨fun _ _ => rfl, rfl, fun _ _ => rfl, rfl⟩, fun _ _ => rfl, fun _ _ => rfl⟩
theorem PF.tr {χ χ' χ'' : cS} {μ μ' μ'' : mS} (h : PF χ χ' μ μ') (g : PF χ' χ'' μ' μ'') : PF χ χ'' μ μ'' := ⟨⟨fun k hk => (g.1.1 k hk).trans (h.1.1 k hk), g.1.2.1.trans h.1.2.1, fun j hj => (g.1.2.2.1 j hj).trans (h.1.2.2.1 j hj), g.1.2.2.2.trans h.1.2.2.2⟩, fun k hk => (g.2.1 k hk).trans (h.2.1 k hk), fun j hj => (g.2.2 j hj).trans (h.2.2 j hj)⟩
/-- one piece of print by both -/
def Pc (z : Nat) (μ0 : mS) (T : gS) (c : gS → Option gS) (m : Nat → gS → Option gS) (χ : cS) (μ : mS) (P l : Nat) : Prop := ∃ χ' μ', c (Full z χ μ0 T) = some (Full z χ' μ0 T) ∧ (∀ w S, m w (mput w μ S) = some (mput w μ' S)) ∧ IvP χ' μ' (P + l) ∧ PF χ χ' μ μ'
section PR
variable {z P : Nat} {χ : cS} {μ μ0 : mS} {T : gS}
theorem pr_ob {χ : cS} : gOb (Full z χ μ0 T) (z + 10) 6 = some [.ref (z + 11), .int (χ.1 11)] := c_PrO
theorem S_put {x : Nat} {c : Int32} (hc : c = nI x) (hx : x < 256) (h : IvP χ μ P) (hP : P + 1 ≤ 400) : Pc z μ0 T (fun S => D_Pr_write (z + 10) c S) (fun w S => D_Mo_put w c S) χ μ P 1 := by
  subst hc
  obtain ⟨p1, p2, p3, p4⟩ := h
  obtain ⟨b, hb⟩ : ∃ b, b = (nI x).toInt8.toInt32.toInt8.toInt32 := ⟨_, rfl⟩
  have b2 : b &&& 255 = nI x := by
    rw [hb, i8_and, i8_and, pk_andN (by omega) 8 (by decide)]
    exact congrArg nI (Nat.mod_eq_of_lt (by omega))
  refine ⟨cI (cA χ 11 P b) 11 (nI (P + 1)), mI (mA μ 16 P (nI x)) 25 (nI (P + 1)), ?_, fun w S => ?_, ⟨hP, cI_s, mI_s, fun i hi => ?_⟩, ⟨⟨fun k hk => (cI_n hk).trans rfl, rfl, fun j hj => ?_, rfl⟩, fun k hk => (mI_n hk).trans (by rw [mA_1]), fun j hj => ?_⟩⟩
  · show D_Pr_write (z + 10) (nI x) (Full z χ μ0 T) = _
    unfold D_Pr_write B_Pr_write_31
    rw [show gI (Full z χ μ0 T) (z + 10) 6 1 = some (nI P) by rw [← p2]; exact c_Pr1]
    simp only [Option.bind_some]
    rw [if_neg (show ¬ (400 : Int32) ≤ nI P from nI_ge (a := P) (b := 400) (by omega) (by decide)), show gRf (Full z χ μ0 T) (z + 10) 6 0 = some (some (z + 11)) from c_Pr0]
    simp only [Option.bind_some]
    rw [← hb, show gSI (Full z χ μ0 T) (z + 11) 2 (nI P) b = some (Full z (cA χ 11 P b) μ0 T) from c_s11 (by omega)]
    simp only [Option.bind_some]
    rw [show gI (Full z (cA χ 11 P b) μ0 T) (z + 10) 6 1 = some (nI P) by rw [← p2]; exact c_Pr1]
    simp only [Option.bind_some, nI_1]
    rw [show gPut (Full z (cA χ 11 P b) μ0 T) (z + 10) 6 1 (.int (nI (P + 1))) = some (Full z (cI (cA χ 11 P b) 11 (nI (P + 1))) μ0 T) from c_PrP]
    rfl
  · show D_Mo_put w (nI x) (mput w μ S) = _
    unfold D_Mo_put
    simp only [m_R24, m_I25, Option.bind_some]
    rw [p3, m_s16 (by omega)]
    simp only [m_I25, Option.bind_some]
    rw [mA_1, p3, nI_1]
    simp only [m_P25, Option.bind_some]
  · show (mI (mA μ 16 P (nI x)) 25 (nI (P + 1))).2 16 i = upd (χ.2.2.1 11) P b i &&& 255
    simp only [mI_2]
    rw [mAm]
    by_cases e : i = P
    · rw [if_pos ⟨rfl, e⟩, e, pk_us, b2]
    · rw [if_neg (fun h => e h.2), pk_un e]; exact p4 i (by omega)
  · show (if j = 11 then _ else _) = _
    rw [if_neg hj]
  · show (if j = 16 then _ else _) = _
    rw [if_neg hj]
/-- pieces one behind the other -/
theorem Pc.bd {c c' : gS → Option gS} {m m' : Nat → gS → Option gS} {l l' : Nat} (h : Pc z μ0 T c m χ μ P l) (g : ∀ χ' μ', IvP χ' μ' (P + l) → PF χ χ' μ μ' → Pc z μ0 T c' m' χ' μ' (P + l) l') : Pc z μ0 T (fun S => Option.bind (c S) c') (fun w S => Option.bind (m w S) (m' w)) χ μ P (l + l') := by
  obtain ⟨χ', μ', a1, a2, a3, a4⟩ := h
  obtain ⟨χ'', μ'', b1, b2, b3, b4⟩ := g χ' μ' a3 a4
  refine ⟨χ'', μ'', ?_, fun w S => ?_, by rw [← Nat.add_assoc]; exact b3, a4.tr b4⟩
  · show Option.bind (c (Full z χ μ0 T)) c' = _
    rw [a1]; exact b1
  · show Option.bind (m w (mput w μ S)) (m' w) = _
    rw [a2]; exact b2 w S
theorem Pc.eq {c c' : gS → Option gS} {m m' : Nat → gS → Option gS} {l l' : Nat} (h : Pc z μ0 T c m χ μ P l) (hl : l' = l) (hc : c' (Full z χ μ0 T) = c (Full z χ μ0 T)) (hm : ∀ w S, m' w (mput w μ S) = m w (mput w μ S)) : Pc z μ0 T c' m' χ μ P l' := by
  subst hl
  obtain ⟨χ', μ', a1, a2, a3, a4⟩ := h
  exact ⟨χ', μ', hc.trans a1, fun w S => (hm w S).trans (a2 w S), a3, a4⟩
theorem Pc.nil (h : IvP χ μ P) : Pc z μ0 T (fun S => some S) (fun _ S => some S) χ μ P 0 := ⟨χ, μ, rfl, fun _ _ => rfl, h, PF.rf⟩
theorem nI48 {x : Nat} : 48 + nI x = nI (48 + x) := nI_add 48 x
theorem nI97 {x : Nat} : 97 + nI x = nI (97 + x) := nI_add 97 x
theorem dg_1 {x : Nat} (hx : x < 1000) : (48 + (nI x - nI x / 10 * 10) : Int32) = nI (48 + x % 10) := by
  rw [show (10 : Int32) = nI 10 from rfl, pk_rem (by omega) (by decide) (by decide), nI48]
theorem dg_2 {x : Nat} (hx : x < 1000) : (48 + (nI x / 10 - nI x / 10 / 10 * 10) : Int32) = nI (48 + x / 10 % 10) := by
  rw [show (10 : Int32) = nI 10 from rfl, pk_div (by omega) (by decide) (by decide), pk_rem (by omega) (by decide) (by decide), nI48]
theorem dg_3 {x : Nat} (hx : x < 1000) : (48 + (nI x / 100 - nI x / 100 / 10 * 10) : Int32) = nI (48 + x / 100) := by
  rw [show (10 : Int32) = nI 10 from rfl, show (100 : Int32) = nI 100 from rfl, pk_div (by omega) (by decide) (by decide), pk_rem (by omega) (by decide) (by decide), nI48]
  exact congrArg nI (by omega)
theorem dg_3' {x : Nat} (hx : x < 1000) : (48 + nI x / 100 : Int32) = nI (48 + x / 100) := by
  rw [show (100 : Int32) = nI 100 from rfl, pk_div (by omega) (by decide) (by decide), nI48]
theorem nlen_nI {x : Nat} (hx : x < 1000) : nlen (nI x) = if 99 < x then 3 else if 9 < x then 2 else 1 := by
  unfold nlen
  have e1 : (99 : Int32) < nI x ↔ 99 < x := nI_ltI (a := 99) (b := x) (by decide) (by omega)
  have e2 : (9 : Int32) < nI x ↔ 9 < x := nI_ltI (a := 9) (b := x) (by decide) (by omega)
  by_cases h1 : 99 < x
  · rw [if_pos (e1.mpr h1), if_pos h1]
  · rw [if_neg (fun h => h1 (e1.mp h)), if_neg h1]
    by_cases h2 : 9 < x
    · rw [if_pos (e2.mpr h2), if_pos h2]
    · rw [if_neg (fun h => h2 (e2.mp h)), if_neg h2]
theorem S_num {s : Nat} {c v : Int32} (hc : c = nI s) (hs : s < 256) (hv : rng v 0 999 = true) (h : IvP χ μ P) (hP : P + (1 + nlen v) ≤ 400) : Pc z μ0 T (fun S => D_Pr_writeNumber (z + 10) c v S) (fun w S => D_Mo_putNumber w c v S) χ μ P (1 + nlen v) := by
  obtain ⟨x, hx, rfl⟩ := rng_nI (n := 999) (by decide) hv
  have hx' : x < 1000 := by omega
  rw [nlen_nI hx'] at hP ⊢
  have l1 : nI x < 100 ↔ x < 100 := nI_ltI (a := x) (b := 100) (by omega) (by decide)
  have l2 : nI x < 10 ↔ x < 10 := nI_ltI (a := x) (b := 10) (by omega) (by decide)
  have m1 : nI x ≤ 99 ↔ x ≤ 99 := nI_leI (a := x) (b := 99) (by omega) (by decide)
  have m2 : nI x ≤ 9 ↔ x ≤ 9 := nI_leI (a := x) (b := 9) (by omega) (by decide)
  -- the last digit
  have t1 : ∀ {χ μ P}, IvP χ μ P → P + 1 ≤ 400 → Pc z μ0 T (fun S => B_Pr_writeNumber_45 (z + 10) (nI x) S) (fun w S => B_Mo_putNumber_42 w (nI x) S) χ μ P 1 := by
    intro χ μ P h hP
    refine (S_put (z := z) (μ0 := μ0) (T := T) (dg_1 hx') (by omega) h hP).eq rfl ?_ (fun w S => ?_)
    · show B_Pr_writeNumber_45 (z + 10) (nI x) (Full z χ μ0 T) = _
      unfold B_Pr_writeNumber_45
      rw [pr_ob]
      show Option.bind _ (fun S1 => some S1) = _
      exact ob_r _
    · show B_Mo_putNumber_42 w (nI x) (mput w μ S) = _
      unfold B_Mo_putNumber_42
      rw [m_ob]
      show Option.bind _ (fun S1 => some S1) = _
      exact ob_r _
  have t2 : ∀ {χ μ P}, IvP χ μ P → P + (if 9 < x then 2 else 1) ≤ 400 → Pc z μ0 T (fun S => B_Pr_writeNumber_25 (z + 10) (nI x) S) (fun w S => B_Mo_putNumber_22 w (nI x) S) χ μ P (if 9 < x then 2 else 1) := by
    intro χ μ P h hP
    by_cases c2 : 9 < x
    · rw [if_pos c2] at hP ⊢
      refine ((S_put (z := z) (μ0 := μ0) (T := T) (dg_2 hx') (by omega) h (by omega)).bd (fun χ' μ' h' _ => t1 h' (by omega))).eq rfl ?_ (fun w S => ?_)
      · show B_Pr_writeNumber_25 (z + 10) (nI x) (Full z χ μ0 T) = _
        unfold B_Pr_writeNumber_25
        rw [if_neg (fun h => by have := l2.mp h; omega), pr_ob]
        rfl
      · show B_Mo_putNumber_22 w (nI x) (mput w μ S) = _
        unfold B_Mo_putNumber_22
        rw [if_neg (fun h => by have := m2.mp h; omega), m_ob]
        rfl
    · rw [if_neg c2] at hP ⊢
      refine (t1 h hP).eq rfl ?_ (fun w S => ?_)
      · show B_Pr_writeNumber_25 (z + 10) (nI x) (Full z χ μ0 T) = _
        unfold B_Pr_writeNumber_25
        rw [if_pos (l2.mpr (by omega))]
      · show B_Mo_putNumber_22 w (nI x) (mput w μ S) = _
        unfold B_Mo_putNumber_22
        rw [if_pos (m2.mpr (by omega))]
  by_cases c1 : 99 < x
  · rw [if_pos c1] at hP ⊢
    refine ((S_put (z := z) (μ0 := μ0) (T := T) hc hs h (by omega)).bd (fun χ' μ' h' _ => (S_put (dg_3 hx') (by omega) h' (by omega)).bd (fun χ'' μ'' h'' _ => t2 h'' (by rw [if_pos (by omega)]; omega)))).eq (by rw [if_pos (by omega)]) ?_ (fun w S => ?_)
    · show D_Pr_writeNumber (z + 10) c (nI x) (Full z χ μ0 T) = _
      unfold D_Pr_writeNumber
      rw [pr_ob]
      show Option.bind _ (fun S1 => if nI x < 100 then _ else Option.bind (gOb S1 (z + 10) 6) _) = _
      obtain ⟨χ', μ', a1, -⟩ := S_put (z := z) (μ0 := μ0) (T := T) hc hs h (by omega)
      have a1' : D_Pr_write (z + 10) c (Full z χ μ0 T) = some (Full z χ' μ0 T) := a1
      show Option.bind (D_Pr_write (z + 10) c (Full z χ μ0 T)) _ = Option.bind (D_Pr_write (z + 10) c (Full z χ μ0 T)) _
      rw [a1']
      simp only [Option.bind_some]
      rw [if_neg (fun h => by have := l1.mp h; omega), pr_ob]
      rfl
    · show D_Mo_putNumber w c (nI x) (mput w μ S) = _
      unfold D_Mo_putNumber
      rw [m_ob]
      obtain ⟨χ', μ', -, a2, -⟩ := S_put (z := z) (μ0 := μ0) (T := T) hc hs h (by omega)
      have a2' : D_Mo_put w c (mput w μ S) = some (mput w μ' S) := a2 w S
      show Option.bind (D_Mo_put w c (mput w μ S)) _ = Option.bind (D_Mo_put w c (mput w μ S)) _
      rw [a2']
      simp only [Option.bind_some]
      rw [if_neg (fun h => by have := m1.mp h; omega), m_ob, dg_3 hx', dg_3' hx']
      rfl
  · rw [if_neg c1] at hP ⊢
    refine ((S_put (z := z) (μ0 := μ0) (T := T) hc hs h (by omega)).bd (fun χ' μ' h' _ => t2 h' (by omega))).eq rfl ?_ (fun w S => ?_)
    · show D_Pr_writeNumber (z + 10) c (nI x) (Full z χ μ0 T) = _
      unfold D_Pr_writeNumber
      rw [pr_ob]
      simp only [Option.bind_some]
      simp only [if_pos (l1.mpr (by omega))]
    · show D_Mo_putNumber w c (nI x) (mput w μ S) = _
      unfold D_Mo_putNumber
      rw [m_ob]
      simp only [Option.bind_some]
      simp only [if_pos (m1.mpr (by omega))]
theorem S_skl {v : Int32} (hv : rng v 0 7 = true) (h : IvP χ μ P) (hP : P + 1 ≤ 400) : Pc z μ0 T (fun S => D_Pr_writeSkill (z + 10) v S) (fun w S => D_Mo_put w (97 + v) S) χ μ P 1 := by
  obtain ⟨x, hx, rfl⟩ := rng07 hv
  refine (S_put (z := z) (μ0 := μ0) (T := T) (c := 97 + nI x) nI97 (by omega) h hP).eq rfl ?_ (fun w S => rfl)
  show D_Pr_writeSkill (z + 10) (nI x) (Full z χ μ0 T) = _
  unfold D_Pr_writeSkill
  rw [pr_ob]
  show Option.bind _ (fun S1 => some S1) = _
  exact ob_r _
end PR
