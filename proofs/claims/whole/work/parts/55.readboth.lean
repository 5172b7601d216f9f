/-! A TEXT IS READ BY BOTH -/
def cTail (z r : Nat) (r9 : Option Nat) (S8 : gS) : Option ((String ⊕ Int32) × gS) := Option.bind (gPut S8 z 0 1 (.int 0)) (fun S11 => Option.bind (gI S11 r 7 3) (fun v12 => Option.bind (gPut S11 z 0 2 (.int v12)) (fun S13 => Option.bind (gI S13 z 0 2) (fun v14 => (if v14 = (-1) then Option.bind (gI S13 z 0 5) (fun v16 => (if v16 < 6 then Option.bind (gRf S13 z 0 4) (fun r18 => Option.bind (gI S13 z 0 5) (fun v19 => Option.bind r18 (fun a20 => Option.bind r9 (fun a22 => Option.bind (gSR S13 a20 4 v19 a22 1) (fun S21 => Option.bind (gI S21 z 0 5) (fun v23 => Option.bind (gPut S21 z 0 5 (.int (v23 + 1))) (fun S24 => Option.bind (gPut S24 z 0 7 (va_rf (some a22))) (fun S25 => Option.bind (gI S25 a22 1 4) (fun v26 => some (.inr v26, S25)))))))))) else Option.bind (gThr S13) (fun S27 => some (.inl "java/lang/UnsupportedOperationException", S27)))) else Option.bind (gThr S13) (fun S28 => some (.inl "java/lang/IllegalStateException", S28)))))))
def cPre (z : Nat) (d : Int32) (S3 : gS) : Option ((String ⊕ Int32) × gS) := Option.bind (gNw S3 7 [.null, .int 0, .int 0, .int 0]) (fun S4 => Option.bind (gRf S4 z 0 0) (fun r5 => Option.bind (gI S4 z 0 1) (fun v6 => Option.bind (D_Rd_init S3.2.1 r5 v6 S4) (fun S7 => Option.bind (gOb S7 S3.2.1 7) (fun _ => gB2 (D_Rd_readEdition S3.2.1 d S7) (fun r9 S8 => cTail z S3.2.1 r9 S8))))))
theorem C_read {z : Nat} {d : Int32} {S : gS} : D_PT_read z d S = gTry (D_PT_requireDay d S) (fun _ S3 => cPre z d S3) := rfl
def MFr (μ μ' : mS) : Prop := (∀ k, k ≠ 0 → k ≠ 2 → k ≠ 3 → k ≠ 4 → k ≠ 5 → k ≠ 6 → μ'.1 k = μ.1 k) ∧ μ'.1 0 = 0 ∧ μ'.1 2 = 0 ∧ ∀ j x, ¬ ((3 ≤ j ∧ j ≤ 11) ∧ 300 ≤ x ∧ x < 350) → ¬ (j = 12 ∧ 7500 ≤ x ∧ x < 8750) → ¬ (j = 13 ∧ x = 6) → ¬ (j = 14 ∧ 240 ≤ x ∧ x < 280) → μ'.2 j x = μ.2 j x
section SRD
variable {z k n L P : Nat} {χ : cS} {μ : mS} {T : gS} {d : Int32}
theorem ob_self {S : gS} {q ci : Nat} {fs : List Value} (h : S.1 q = some (.inr (ci, fs))) : S = ob S q ci fs := by
  refine Prod.ext ?_ rfl
  funext i
  show S.1 i = gup S.1 q _ i
  by_cases hi : i = q
  · subst hi; rw [gup_self]; exact h
  · rw [gup_ne hi]
theorem C_pre (h : TOk z T) (hL : L ≤ 400) (hx : χ.1 1 = nI L) (hR : Rm 1 4 T) : cPre z d (Full z χ μ T) = gB2 (D_Rd_readEdition T.2.1 d (rd T.2.1 (z + 1) (nI L) 0 (-1) (Full z χ μ (nx T 4)))) (fun r9 S8 => cTail z T.2.1 r9 S8) := by
  obtain ⟨r, hr⟩ : ∃ r, r = T.2.1 := ⟨_, rfl⟩
  have h29 : z + 29 ≤ r := by have := h.1; omega
  unfold cPre
  rw [gNw_ob (S := Full z χ μ T) (l := 4) rfl hR, show (Full z χ μ T).2.1 = r from hr.symm, ← hr]
  simp only [Option.bind_some]
  rw [F_nx, F_ob h29]
  have e1 : gRf (Full z χ μ (ob (nx T 4) r 7 [.null, .int 0, .int 0, .int 0])) z 0 0 = some (some (z + 1)) := c_R0
  have e2 : gI (Full z χ μ (ob (nx T 4) r 7 [.null, .int 0, .int 0, .int 0])) z 0 1 = some (nI L) := by rw [← hx]; exact c_I1
  rw [e1, e2]
  simp only [Option.bind_some]
  have e3 : D_Rd_init r (some (z + 1)) (nI L) (Full z χ μ (ob (nx T 4) r 7 [.null, .int 0, .int 0, .int 0])) = some (rd r (z + 1) (nI L) 0 (-1) (Full z χ μ (nx T 4))) := by
    unfold D_Rd_init
    rw [← F_ob h29]
    simp only [ob_put (show 2 < [Value.null, .int 0, .int 0, .int 0].length by decide), Option.bind_some, List.set]
    rw [ob_put (by decide)]
    simp only [Option.bind_some, List.set, va_rf]
    rw [ob_put (by decide)]
    simp only [Option.bind_some, List.set]
    have e4 : gLen (ob (Full z χ μ (nx T 4)) r 7 [.ref (z + 1), .int 0, .int 0, .int (-1)]) (z + 1) 2 = some (nI 400) := by
      unfold gLen
      rw [ob_n (by omega)]
      unfold Full
      rw [cput_j (j := 1) (by decide)]
      rfl
    rw [e4]
    simp only [Option.bind_some]
    rw [if_neg (nI_nlt (a := 400) (b := L) hL (by decide)), ob_put (Nat.le_of_ble_eq_true rfl)]
    rfl
  rw [e3]
  simp only [Option.bind_some, rd_ob]
theorem S_read (h : TOk z T) (hT : IvT χ μ L) (hR : Rm (5 + 10 * L) (70 + 45 * L) T) : ∃ p' wr' μr T1, cPre z d (Full z χ μ T) = cTail z T.2.1 (some (T.2.1 + 1)) (Full z χ μ (rd T.2.1 (z + 1) (nI L) p' wr' T1)) ∧ (∀ w S, D_Mo_readAll w (mput w (mI (mI (mI μ 0 0) 3 (nI L)) 2 0) S) = some (mput w μr S)) ∧ ((wr' = -1 ∧ μr.1 5 = 0 ∧ μr.1 6 = -1) ∨ (wr' ≠ -1 ∧ μr.1 5 ≠ 0 ∧ μr.1 6 = wr')) ∧ TOk z (rd T.2.1 (z + 1) (nI L) p' wr' T1) ∧ (∀ q x, T.1 q = some x → (rd T.2.1 (z + 1) (nI L) p' wr' T1).1 q = some x) ∧ T1.2.2.1 ≤ T.2.2.1 + 5 + 10 * L ∧ T1.2.2.2 ≤ T.2.2.2 + 70 + 45 * L ∧ MFr μ μr ∧ (wr' = -1 → ∃ E, EdAt (Full z χ μ (rd T.2.1 (z + 1) (nI L) p' wr' T1)) (T.2.1 + 1) d E ∧ edIs μr 6 E ∧ edLen E ≤ L ∧ μr.2 3 300 = 0) := by
  obtain ⟨hL, t2, t3, t4, t5⟩ := hT
  obtain ⟨r, hr⟩ : ∃ r, r = T.2.1 := ⟨_, rfl⟩
  have h29 : z + 30 ≤ r := by have := h.1; omega
  have hN : TOk z (nx T 4) := ⟨Nat.le_succ_of_le h.1, h.2.1, fun q hq => h.2.2.1 q (by have : T.2.1 + 1 ≤ q := hq; omega), h.2.2.2⟩
  have hC : Cx r (z + 1) (fun i => χ.2.2.1 1 i &&& 255) (Full z χ μ (nx T 4)) := by
    refine ⟨?_, ?_, ⟨χ.2.2.1 1, ?_, fun i hi => ⟨rfl, t4 i hi⟩⟩, F_fr hN⟩
    · rw [F_hi (by omega)]; exact h.2.2.1 r (by omega)
    · show r < T.2.1 + 1; omega
    · exact cput_j (j := 1) (by decide)
  have hRn : Rm (4 + 10 * L) (66 + 45 * L) (Full z χ μ (nx T 4)) := ⟨by have := hR.1; show T.2.2.1 + 1 + _ ≤ _; omega, by have := hR.2; show T.2.2.2 + 4 + _ ≤ _; omega⟩
  obtain ⟨Se, a1, a2, a3⟩ := mkEd (n := nI L) (p := 0) (wr := -1) (d := d) hC (hRn.le (by omega) (by omega))
  have hCe := hC.grow a3
  have ee : (Full z χ μ (nx T 4)).2.1 = r + 1 := by show T.2.1 + 1 = _; omega
  rw [ee] at a1 a2
  obtain ⟨μ0, b1, b2, b3, b4, b5, b6, b7⟩ := M_readAll (μ := mI (mI (mI μ 0 0) 3 (nI L)) 2 0) (N := L) (f := fun i => χ.2.2.1 1 i &&& 255) (by rw [mI_n (by decide), mI_s]) (fun i hi => by simp only [mI_2]; exact t5 i hi)
  have hM0 : edIs μ0 6 E0 := by
    refine ⟨fun k h1 h2 => ⟨fun _ => b6 _ (by omega) (by omega), fun v hv => by cases hv⟩, fun k h1 h2 => ⟨fun _ => b6 _ (by omega) (by omega), fun v hv => by cases hv⟩, b7, fun i hi => absurd hi (by show ¬ i < 0; omega)⟩
  obtain ⟨p', wr', μr, S1, c1, c2, c3, c4, c5, c6⟩ := RdP_all (r := r) (t := z + 1) (e := r + 1) (dd := d) hL L 0 0 gF gF μ0 Se E0 (by omega) (by omega) (by omega) (by have : gF = 1000 := rfl; omega) (by have : gF = 1000 := rfl; omega) b2 hCe (hRn.gr a3 (by omega) (by omega)) a2 hM0 (by rw [E0_len]; omega)
  have g1 : Grow (4 + 10 * L) (66 + 45 * L) (Full z χ μ (nx T 4)) S1 := (a3.ti c4 (by omega)).le (by omega) (by omega)
  obtain ⟨T1, rfl, d2, d3⟩ := F_grow (lo := z + 29) (hi := z + 29) hN (Nat.le_refl _) g1.gi
  have hrT : r < T1.2.1 := by have : T.2.1 + 1 ≤ T1.2.1 := d2.2.1; omega
  have kp : ∀ q x, T.1 q = some x → T1.1 q = some x ∧ q ≠ r := fun q x hq => by
    have l := h.2.2.1.lt hq
    refine ⟨?_, by omega⟩
    rw [d2.1 q (by show q < T.2.1 + 1; omega) (by omega)]; exact hq
  have tk : TOk z (rd r (z + 1) (nI L) p' wr' T1) := by
    refine ⟨by show z + 30 ≤ T1.2.1; omega, fun q hq => ?_, fun q hq => ?_, ?_⟩
    · rw [rd_ne (by omega)]; exact d3 q hq
    · have : T1.2.1 ≤ q := hq
      rw [rd_ne (by omega)]; exact d2.2.2.1 q this
    · obtain ⟨g, hg⟩ := h.2.2.2
      exact ⟨g, by rw [rd_ne (by omega)]; exact (kp _ _ hg).1⟩
  have hC1 := hC.grow g1
  have hT1 : TOk z T1 := by
    refine ⟨by omega, d3, d2.2.2.1, ?_⟩
    obtain ⟨g, hg⟩ := h.2.2.2
    exact ⟨g, (kp _ _ hg).1⟩
  rw [← hr]
  refine ⟨p', wr', μr, T1, ?_, fun w S => (b1 w S).trans (c2 w S), ?_, tk, fun q x hq => by rw [rd_ne (kp q x hq).2]; exact (kp q x hq).1, ?_, ?_, ⟨fun k h0 h2 h3 h4 h5 h6 => ?_, ?_, ?_, fun j x h1 h2 h3 h4 => ?_⟩, fun e => ?_⟩
  · rw [C_pre h hL t2 (hR.le (by omega) (by omega)), ← hr, a1]
    have : L_Rd_readEdition_11 gF r (r + 1) 0 (rd r (z + 1) (nI L) 0 (-1) Se) = some (some (r + 1), rd r (z + 1) (nI L) p' wr' (Full z χ μ T1)) := c1
    rw [this, F_rd (by omega)]
    rfl
  · rcases c3 with ⟨x, y⟩ | x
    · exact Or.inl ⟨x, y, by rw [(c5.1.2 y).2]; exact b3⟩
    · exact Or.inr x
  · have : T1.2.2.1 ≤ T.2.2.1 + 1 + (4 + 10 * L) := d2.2.2.2.1
    omega
  · have : T1.2.2.2 ≤ T.2.2.2 + 4 + (66 + 45 * L) := d2.2.2.2.2
    omega
  · rw [c5.1.1 k h4 h5 h6, b4 k h4 h5 h6, mI_n h2, mI_n h3, mI_n h0]
  · rw [c5.1.1 0 (by decide) (by decide) (by decide), b4 0 (by decide) (by decide) (by decide), mI_n (by decide), mI_n (by decide), mI_s]
  · rw [c5.1.1 2 (by decide) (by decide) (by decide), b4 2 (by decide) (by decide) (by decide), mI_s]
  · rw [c5.2 j x (fun hh => by
      rcases hh with hh | hh | hh | hh
      · exact h1 ⟨hh.1, by omega, by omega⟩
      · exact h2 hh
      · exact h3 hh
      · exact h4 hh), b5 j x (fun hh => h1 ⟨by omega, by omega, by omega⟩) h3]
    simp only [mI_2]
  · obtain ⟨E, m1, m2, m3⟩ := c6 e
    refine ⟨E, m1.k3 (F_kp hT1 (fun q x _ hq hx => ?_)), m2, m3, ?_⟩
    · rw [rd_ne (fun hh => ?_)]; exact hq
      have := hC1.1
      rw [F_hi (by omega), ← hh, hq] at this; cases this
    · rw [c5.2 3 300 (fun hh => by rcases hh with hh | hh | hh | hh <;> omega)]; exact b6 300 (by omega) (by omega)
end SRD
