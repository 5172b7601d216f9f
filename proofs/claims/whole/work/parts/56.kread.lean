/-! THE CALL READ -/
section KR
variable {z k n L P : Nat} {χ : cS} {μ : mS} {T : gS} {d : Int32} {a : Nat → Nat} {dd : Nat → Int32} {Ev : Nat → EV}
theorem cI_s {χ : cS} {k : Nat} {v : Int32} : (cI χ k v).1 k = v := by unfold cI; exact pk_us
theorem cI_n {χ : cS} {k j : Nat} {v : Int32} (h : j ≠ k) : (cI χ k v).1 j = χ.1 j := by unfold cI; exact pk_un h
theorem cR_s {χ : cS} {k : Nat} {v : Option Nat} : (cR χ k v).2.1 k = v := by unfold cR; exact va_ups
theorem cR_n {χ : cS} {k j : Nat} {v : Option Nat} (h : j ≠ k) : (cR χ k v).2.1 j = χ.2.1 j := by unfold cR; exact va_upn h
theorem M_thx {w : Nat} {μ : mS} {S : gS} {v c : Int32} (h : v ≠ 0) : D_Mo_throwing w 0 v c (mput w μ S) = some (1, mput w (mI μ 0 2) S) := by
  unfold D_Mo_throwing B_Mo_throwing_26 B_Mo_throwing_41
  simp [m_P0, m_I0, mI_s, gZo_1, h]
/-- behind a reading that leaves the editions as they were -/
theorem Iv.read {μ' : mS} {T' : gS} {pl : Int32} (h : Iv z χ μ T k n a dd Ev L P) (hT : TOk z T') (hk : ∀ q x, T.1 q = some x → T'.1 q = some x) (hb : T'.2.2.1 ≤ T.2.2.1 + 6 + 10 * L) (hu : T'.2.2.2 ≤ T.2.2.2 + 76 + 45 * L) (m1 : ∀ k, k ≠ 0 → k ≠ 2 → k ≠ 3 → k ≠ 4 → k ≠ 5 → k ≠ 6 → μ'.1 k = μ.1 k) (m2 : μ'.1 2 = 0) (m6 : μ'.1 6 = pl) (m4 : ∀ j x, ¬ ((3 ≤ j ∧ j ≤ 11) ∧ 300 ≤ x ∧ x < 350) → ¬ (j = 12 ∧ 7500 ≤ x ∧ x < 8750) → ¬ (j = 13 ∧ x = 6) → ¬ (j = 14 ∧ 240 ≤ x ∧ x < 280) → μ'.2 j x = μ.2 j x) : Iv z (cI (cI χ 1 0) 2 pl) μ' T' (k + 1) n a dd Ev 0 P := by
  obtain ⟨t, ⟨e1, e2, e3, e4⟩, ⟨t1, t2, t3, t4, t5⟩, ⟨l, c, V, n1, n2, n3, n4⟩, ⟨p1, p2, p3, p4⟩, u, lt, pl', ⟨r1, r2⟩⟩ := h
  have K : Kp lf3 (Full z χ μ T) (Full z (cI (cI χ 1 0) 2 pl) μ' T') := F_kp t (fun q x _ hq _ => hk q x hq)
  have X : ∀ k, k ≠ 1 → k ≠ 2 → (cI (cI χ 1 0) 2 pl).1 k = χ.1 k := fun k h1 h2 => by
    show upd (upd χ.1 1 0) 2 pl k = _
    rw [pk_un h2, pk_un h1]
  refine ⟨hT, ⟨e1, by rw [X 5 (by decide) (by decide)]; exact e2, by rw [m1 7 (by decide) (by decide) (by decide) (by decide) (by decide) (by decide)]; exact e3, fun i hi => ?_⟩, ⟨Nat.zero_le _, ?_, m2, t4, fun i hi => absurd hi (by omega)⟩, ⟨l, c, V, n1, n2, n3.kk K.l3.l2, ?_⟩, ⟨p1, by rw [X 11 (by decide) (by decide)]; exact p2, by rw [m1 25 (by decide) (by decide) (by decide) (by decide) (by decide) (by decide)]; exact p3, fun i hi => by rw [m4 16 i (by omega) (by omega) (by omega) (by omega)]; exact p4 i hi⟩, fun i hi => by rw [m4 15 i (by omega) (by omega) (by omega) (by omega)]; exact u i hi, ?_, ?_, ⟨by omega, by omega⟩⟩
  · obtain ⟨a1, a2, a3, a4, a5, a6⟩ := e4 i hi
    refine ⟨a1, by rw [m4 2 i (by omega) (by omega) (by omega) (by omega)]; exact a2, a3, a4.k3 K, a5.mv ⟨fun j x h1 h2 h3 => m4 j _ (by omega) (by omega) (by omega) (by omega), fun x hx => m4 12 _ (by omega) (by omega) (by omega) (by omega), m4 13 _ (by omega) (by omega) (by omega) (by omega), fun x hx => m4 14 _ (by omega) (by omega) (by omega) (by omega)⟩ a4.ok, a6⟩
  · show upd (upd χ.1 1 0) 2 pl 1 = _
    rw [pk_un (by decide), pk_us]; rfl
  · rw [m1 23 (by decide) (by decide) (by decide) (by decide) (by decide) (by decide)]
    rcases n4 with n4 | ⟨s, s1, s2, s3, s4⟩
    · exact Or.inl n4
    · refine Or.inr ⟨s, s1, s2, by rw [m4 11 s (by omega) (by omega) (by omega) (by omega)]; exact s3, fun i hi k hk => ?_⟩
      rw [m4 12 _ (by omega) (by omega) (by omega) (by omega)]; exact s4 i hi k hk
  · unfold IvL; rw [m1 8 (by decide) (by decide) (by decide) (by decide) (by decide) (by decide)]; exact lt
  · rw [m6]; exact cI_s
theorem up_at {α : Type} {f : Nat → α} {n : Nat} {v : α} : (fun i => if i = n then v else f i) n = v := if_pos rfl
theorem up_ne {α : Type} {f : Nat → α} {n i : Nat} {v : α} (h : i ≠ n) : (fun i => if i = n then v else f i) i = f i := if_neg h
/-- .. and one that adds an edition -/
theorem Iv.store {μ' : mS} {e : Nat} {E : EV} (h : Iv z χ μ T k n a dd Ev 0 P) (hn : n < 6) (hd : rng d 0 9999 = true) (hE : EdAt (Full z χ μ T) e d E) (hl : edLen E ≤ 400) (m0 : edIs μ' n E) (m2 : μ'.2 2 n = d) (m7 : μ'.1 7 = nI (n + 1)) (m8 : μ'.1 8 = nI n) (m1 : ∀ k, k ≠ 7 → k ≠ 8 → μ'.1 k = μ.1 k) (m4 : ∀ j x, ¬ (j = 2 ∧ x = n) → ¬ ((3 ≤ j ∧ j ≤ 11) ∧ 50 * n ≤ x ∧ x < 50 * n + 50) → ¬ (j = 12 ∧ 1250 * n ≤ x ∧ x < 1250 * n + 1250) → ¬ (j = 13 ∧ x = n) → ¬ (j = 14 ∧ 40 * n ≤ x ∧ x < 40 * n + 40) → μ'.2 j x = μ.2 j x) : Iv z (cR (cI (cE χ n (some e)) 5 (nI (n + 1))) 7 (some e)) μ' T k (n + 1) (fun i => if i = n then e else a i) (fun i => if i = n then d else dd i) (fun i => if i = n then E else Ev i) 0 P := by
  obtain ⟨t, ⟨e1, e2, e3, e4⟩, ⟨t1, t2, t3, t4, t5⟩, ⟨l, c, V, n1, n2, n3, n4⟩, ⟨p1, p2, p3, p4⟩, u, lt, pl', ⟨r1, r2⟩⟩ := h
  have K : Kp lf3 (Full z χ μ T) (Full z (cR (cI (cE χ n (some e)) 5 (nI (n + 1))) 7 (some e)) μ' T) := F_kp t (fun q x _ hq _ => hq)
  have X : ∀ k, k ≠ 5 → (cR (cI (cE χ n (some e)) 5 (nI (n + 1))) 7 (some e)).1 k = χ.1 k := fun k h1 => (show (cI (cE χ n (some e)) 5 (nI (n + 1))).1 k = χ.1 k from cI_n h1)
  refine ⟨t, ⟨by omega, (show (cI (cE χ n (some e)) 5 (nI (n + 1))).1 5 = nI (n + 1) from cI_s), m7, fun i hi => ?_⟩, ⟨t1, by rw [X 1 (by decide)]; exact t2, by rw [m1 2 (by decide) (by decide)]; exact t3, t4, fun i hi => absurd hi (by omega)⟩, ⟨l, c, V, ?_, n2, n3.kk K.l3.l2, ?_⟩, ⟨p1, by rw [X 11 (by decide)]; exact p2, by rw [m1 25 (by decide) (by decide)]; exact p3, fun i hi => by rw [m4 16 i (by omega) (by omega) (by omega) (by omega) (by omega)]; exact p4 i hi⟩, fun i hi => by rw [m4 15 i (by omega) (by omega) (by omega) (by omega) (by omega)]; exact u i hi, Or.inr ⟨n, rfl, ?_, m8⟩, by rw [X 2 (by decide), m1 6 (by decide) (by decide)]; exact pl', ⟨r1, r2⟩⟩
  · by_cases hin : i = n
    · subst hin
      simp only [if_true]
      exact ⟨va_ups, m2, hd, hE.k3 K, m0, hl⟩
    · obtain ⟨a1, a2, a3, a4, a5, a6⟩ := e4 i (by omega)
      simp only [if_neg hin]
      exact ⟨(va_upn hin).trans a1, by rw [m4 2 i (by omega) (by omega) (by omega) (by omega) (by omega)]; exact a2, a3, a4.k3 K, a5.mv ⟨fun j x h1 h2 h3 => m4 j _ (by omega) (by omega) (by omega) (by omega) (by omega), fun x hx => m4 12 _ (by omega) (by omega) (by omega) (by omega) (by omega), m4 13 _ (by omega) (by omega) (by omega) (by omega) (by omega), fun x hx => m4 14 _ (by omega) (by omega) (by omega) (by omega) (by omega)⟩ a4.ok, a6⟩
  · exact (cR_n (by decide)).trans n1
  · rw [m1 23 (by decide) (by decide)]
    rcases n4 with n4 | ⟨s, s1, s2, s3, s4⟩
    · exact Or.inl n4
    · refine Or.inr ⟨s, by omega, s2, by rw [m4 11 s (by omega) (by omega) (by omega) (by omega) (by omega)]; exact s3, fun i hi k hk => ?_⟩
      rw [m4 12 _ (by omega) (by omega) (by omega) (by omega) (by omega)]; exact s4 i hi k hk
  · simp only [if_true]; exact cR_s
theorem K_read (h : Ivs z χ μ T k) (hk : k < 512) : Call z χ μ T k (fun S => D_La_read (some z) d (some (z + 29)) S) (fun w S => D_Mo_read w d S) := by
  obtain ⟨n, a, dd, Ev, L, P, h⟩ := h
  obtain ⟨tk, hE, hT, hrest⟩ := id h
  have hr := h.room hk
  have hg : gRoom (Full z χ μ T) := h.gRoom hk
  have cls : D_La_read (some z) d (some (z + 29)) (Full z χ μ T) = gCat (D_PT_read z d (Full z χ μ T)) (fun E3 S6 => (if E3 = "java/lang/IndexOutOfBoundsException" then some (1, S6) else (if E3 = "java/lang/IllegalStateException" then some (2, S6) else (if E3 = "java/lang/UnsupportedOperationException" then some (3, S6) else none)))) (fun v4 S5 => Option.bind (gSL S5 (z + 29) 1 0 v4.toInt64) (fun S14 => some (0, S14))) := by
    unfold D_La_read
    simp only [Option.bind_some]
    rw [show gOb (Full z χ μ T) z 0 = some (cfs z χ) from c_ob]
    rfl
  by_cases hd : rng d 0 9999 = true
  · obtain ⟨p', wr', μr, T1, a1, a2, a3, a4, a5, a6, a7, a8, a9⟩ := S_read (d := d) tk hT (hr.le (by omega) (by omega))
    obtain ⟨e1, e2, e3, e4⟩ := hE
    obtain ⟨T2, hT2⟩ : ∃ T2, T2 = rd T.2.1 (z + 1) (nI L) p' wr' T1 := ⟨_, rfl⟩
    rw [← hT2] at a1 a4 a5 a9
    have b6 : T2.2.2.1 ≤ T.2.2.1 + 5 + 10 * L := by rw [hT2]; exact a6
    have b7 : T2.2.2.2 ≤ T.2.2.2 + 70 + 45 * L := by rw [hT2]; exact a7
    have r3 : ∀ χ', gI (Full z χ' μ T2) T.2.1 7 3 = some wr' := fun χ' => by
      have : (Full z χ' μ T2).1 T.2.1 = some (.inr (7, [.ref (z + 1), .int (nI L), .int p', .int wr'])) := by
        rw [F_hi (by have := tk.1; omega), hT2]; exact rd_r
      exact e_I this rfl
    have hgR : Rm 1 6 T2 := ⟨by have := hr.1; omega, by have := hr.2; omega⟩
    have hg2 : ∀ χ', gRoom (Full z χ' μ T2) := fun χ' => hgR
    have w7 : μr.1 7 = nI n := by rw [a8.1 7 (by decide) (by decide) (by decide) (by decide) (by decide) (by decide)]; exact e3
    -- the class
    have c0 : D_PT_read z d (Full z χ μ T) = cTail z T.2.1 (some (T.2.1 + 1)) (Full z χ μ T2) := by
      rw [C_read, C_day hg, if_pos hd]
      exact a1
    have q1 : ∀ (χ : cS) {v : Int32}, gPut (Full z χ μ T2) z 0 1 (.int v) = some (Full z (cI χ 1 v) μ T2) := fun χ v => c_P1
    have q2 : ∀ (χ : cS) {v : Int32}, gPut (Full z χ μ T2) z 0 2 (.int v) = some (Full z (cI χ 2 v) μ T2) := fun χ v => c_P2
    have q3 : ∀ (χ : cS), gI (Full z χ μ T2) z 0 2 = some (χ.1 2) := fun χ => c_I2
    have q5 : ∀ (χ : cS), gI (Full z χ μ T2) z 0 5 = some (χ.1 5) := fun χ => c_I5
    have x5 : (cI (cI χ 1 0) 2 wr').1 5 = nI n := by
      show upd (upd χ.1 1 0) 2 wr' 5 = _
      rw [pk_un (by decide), pk_un (by decide)]; exact e2
    have c1 : D_PT_read z d (Full z χ μ T) = if wr' = -1 then (if nI n < 6 then Option.bind (gRf (Full z (cI (cI χ 1 0) 2 wr') μ T2) z 0 4) (fun r18 => Option.bind r18 (fun a20 => Option.bind (gSR (Full z (cI (cI χ 1 0) 2 wr') μ T2) a20 4 (nI n) (T.2.1 + 1) 1) (fun S21 => Option.bind (gI S21 z 0 5) (fun v23 => Option.bind (gPut S21 z 0 5 (.int (v23 + 1))) (fun S24 => Option.bind (gPut S24 z 0 7 (va_rf (some (T.2.1 + 1)))) (fun S25 => Option.bind (gI S25 (T.2.1 + 1) 1 4) (fun v26 => some (.inr v26, S25)))))))) else some (.inl UOE, Full z (cI (cI χ 1 0) 2 wr') μ (gTh T2))) else some (.inl ISE, Full z (cI (cI χ 1 0) 2 wr') μ (gTh T2)) := by
      rw [c0]
      unfold cTail
      simp only [q1, q2, q3, q5, Option.bind_some, r3]
      rw [show (cI (cI χ 1 0) 2 wr').1 2 = wr' from cI_s, x5, gThr_ok (hg2 _)]
      rfl
    -- the reference
    have ref : ∀ w S, D_Mo_read w d (mput w μ S) = B_Mo_read_64 w d (if nI n = 6 then 1 else 0) (μr.1 5) 0 w (mput w μr S) := by
      intro w S
      unfold D_Mo_read
      simp only [M_in, gB2_some]
      have hd' : (decide (0 ≤ d) && decide (d ≤ 9999)) = true := hd
      rw [hd', if_neg (by decide)]
      unfold B_Mo_read_17
      simp only [m_ob, Option.bind_some, M_th0, gB2_some]
      rw [if_pos trivial]
      simp only [m_I2, m_P3, m_P2, m_ob, Option.bind_some]
      have : (mI μ 0 0).1 2 = nI L := by rw [mI_n (by decide)]; exact hT.2.2.1
      rw [this, a2 w S]
      simp only [m_I5, m_I7, Option.bind_some]
      rw [w7]
      split <;> rfl
    rcases a3 with ⟨hw, w5, w6⟩ | ⟨hw, w5, w6⟩
    · subst hw
      obtain ⟨E, m1, m2, m3, m4⟩ := a9 rfl
      by_cases hn6 : n = 6
      · have ex : ∀ w S, D_Mo_read w d (mput w μ S) = some (0, mput w (mI μr 0 3) S) := fun w S => by
          rw [ref w S, w5, hn6]
          rw [if_pos (by decide)]
          unfold B_Mo_read_64
          simp only [m_ob, Option.bind_some, M_th001, gB2_some]
          rw [if_neg (by decide)]
        have ec : D_PT_read z d (Full z χ μ T) = some (.inl UOE, Full z (cI (cI χ 1 0) 2 (-1)) μ (gTh T2)) := by
          rw [c1, if_pos rfl, hn6, if_neg (by decide)]
        refine ⟨3, 0, cI (cI χ 1 0) 2 (-1), mI μr 0 3, gTh T2, ?_, ex, mI_s, fun e => absurd e (by decide), n, a, dd, Ev, 0, P, h.read (thOk a4) a5 (by show T2.2.2.1 + 1 ≤ _; omega) (by show T2.2.2.2 + 6 ≤ _; omega) (fun k h0 h2 h3 h4 h5 h6 => ?_) ?_ ?_ (fun j x h1 h2 h3 h4 => ?_)⟩
        · show D_La_read (some z) d (some (z + 29)) (Full z χ μ T) = _
          rw [cls, ec]; rfl
        · rw [mI_n h0]; exact a8.1 k h0 h2 h3 h4 h5 h6
        · rw [mI_n (by decide)]; exact a8.2.2.1
        · rw [mI_n (by decide)]; exact w6
        · exact a8.2.2.2 j x h1 h2 h3 h4
      · have hn : n < 6 := by omega
        obtain ⟨μ', s1, s2, s3, s4, s5, s6, s7⟩ := M_store (e := n) (E := E) (μ := mI μr 0 0) (d := d) (by omega) (by exact m2) m1.ok m4 (by rw [mI_n (by decide)]; exact w7)
        have ex : ∀ w S, D_Mo_read w d (mput w μ S) = some (nI (cn E.1 41), mput w μ' S) := fun w S => by
          rw [ref w S, w5, if_neg (show ¬ nI n = 6 from fun e => hn6 ((nI_eq (a := n) (b := 6) (by omega) (by decide)).mp e))]
          unfold B_Mo_read_64
          simp only [m_ob, Option.bind_some, M_th0, gB2_some]
          rw [if_pos trivial]
          simp only [m_I7, m_R9, Option.bind_some]
          rw [show (mI μr 0 0).1 7 = nI n by rw [mI_n (by decide)]; exact w7]
          exact s1 w S
        have iv := (h.read (μ' := mI μr 0 0) (pl := -1) a4 a5 (by omega) (by omega) (fun k h0 h2 h3 h4 h5 h6 => by rw [mI_n h0]; exact a8.1 k h0 h2 h3 h4 h5 h6) (by rw [mI_n (by decide)]; exact a8.2.2.1) (by rw [mI_n (by decide)]; exact w6) (fun j x h1 h2 h3 h4 => a8.2.2.2 j x h1 h2 h3 h4))
        have K1 : ∀ χ' μ', Kp lf3 (Full z χ μ T2) (Full z χ' μ' T2) := fun χ' μ' => F_kp a4 (fun q x _ hq _ => hq)
        have iv2 := iv.store hn hd (m1.k3 (K1 _ _)) (by have := hT.1; omega) s2 s3 s4 s5 s6 s7
        have ec : D_PT_read z d (Full z χ μ T) = some (.inr (nI (cn E.1 41)), Full z (cR (cI (cE (cI (cI χ 1 0) 2 (-1)) n (some (T.2.1 + 1))) 5 (nI (n + 1))) 7 (some (T.2.1 + 1))) μ T2) := by
          rw [c1, if_pos rfl, if_pos (show nI n < 6 from nI_lt (a := n) (b := 6) hn (by decide))]
          rw [show gRf (Full z (cI (cI χ 1 0) 2 (-1)) μ T2) z 0 4 = some (some (z + 3)) from c_R4]
          simp only [Option.bind_some]
          obtain ⟨gp, gd, gs, mF, -⟩ := m1.k3 (K1 (cI (cI χ 1 0) 2 (-1)) μ)
          have e9 : gSR (Full z (cI (cI χ 1 0) 2 (-1)) μ T2) (z + 3) 4 (nI n) (T.2.1 + 1) 1 = some (Full z (cE (cI (cI χ 1 0) 2 (-1)) n (some (T.2.1 + 1))) μ T2) := by
            have g3 : (Full z (cI (cI χ 1 0) 2 (-1)) μ T2).1 (z + 3) = some (.inl (4, 6, .inr (.inr (.inr (.inr χ.2.2.2))))) := cput_j (j := 3) (by decide)
            rw [e_SR g3 mF.1 hn (by decide)]
            refine congrArg some (c_gup (z := z) (j := 3) (by decide) rfl (fun d hd hn => ?_))
            rcases (show d = 0 ∨ d = 1 ∨ d = 2 ∨ d = 3 ∨ d = 4 ∨ d = 5 ∨ d = 6 ∨ d = 7 ∨ d = 8 ∨ d = 9 ∨ d = 10 ∨ d = 11 by omega) with rfl | rfl | rfl | rfl | rfl | rfl | rfl | rfl | rfl | rfl | rfl | rfl <;> first | rfl | exact absurd rfl hn
          rw [e9]
          simp only [Option.bind_some]
          rw [show gI (Full z (cE (cI (cI χ 1 0) 2 (-1)) n (some (T.2.1 + 1))) μ T2) z 0 5 = some (nI n) by rw [← x5]; exact c_I5]
          simp only [Option.bind_some, nI_1]
          rw [show gPut (Full z (cE (cI (cI χ 1 0) 2 (-1)) n (some (T.2.1 + 1))) μ T2) z 0 5 (.int (nI (n + 1))) = some (Full z (cI (cE (cI (cI χ 1 0) 2 (-1)) n (some (T.2.1 + 1))) 5 (nI (n + 1))) μ T2) from c_P5]
          simp only [Option.bind_some]
          rw [show gPut (Full z (cI (cE (cI (cI χ 1 0) 2 (-1)) n (some (T.2.1 + 1))) 5 (nI (n + 1))) μ T2) z 0 7 (va_rf (some (T.2.1 + 1))) = some (Full z (cR (cI (cE (cI (cI χ 1 0) 2 (-1)) n (some (T.2.1 + 1))) 5 (nI (n + 1))) 7 (some (T.2.1 + 1))) μ T2) from c_P7]
          simp only [Option.bind_some]
          obtain ⟨gp', gd', gs', mF', -⟩ := m1.k3 (K1 (cR (cI (cE (cI (cI χ 1 0) 2 (-1)) n (some (T.2.1 + 1))) 5 (nI (n + 1))) 7 (some (T.2.1 + 1))) μ)
          rw [e_I mF'.1 (k := 4) (v := nI (cn E.1 41)) rfl]
          rfl
        obtain ⟨T3, o1, o2, o3, o4, o5⟩ := outW (x := (nI (cn E.1 41)).toInt64) a4
        refine ⟨0, nI (cn E.1 41), cR (cI (cE (cI (cI χ 1 0) 2 (-1)) n (some (T.2.1 + 1))) 5 (nI (n + 1))) 7 (some (T.2.1 + 1)), μ', T3, ?_, ex, by rw [s6 0 (by decide) (by decide), mI_s], fun _ => o3, ⟨_, _, _, _, _, _, iv2.out o2 o4 o5⟩⟩
        show D_La_read (some z) d (some (z + 29)) (Full z χ μ T) = _
        rw [cls, ec]
        show Option.bind (gSL (Full z _ μ T2) (z + 29) 1 0 _) _ = _
        rw [o1]
        rfl
    · have ex : ∀ w S, D_Mo_read w d (mput w μ S) = some (0, mput w (mI μr 0 2) S) := fun w S => by
        rw [ref w S]
        unfold B_Mo_read_64
        simp only [m_ob, Option.bind_some, M_thx w5, gB2_some]
        rw [if_neg (by decide)]
      have ec : D_PT_read z d (Full z χ μ T) = some (.inl ISE, Full z (cI (cI χ 1 0) 2 wr') μ (gTh T2)) := by
        rw [c1, if_neg hw]
      refine ⟨2, 0, cI (cI χ 1 0) 2 wr', mI μr 0 2, gTh T2, ?_, ex, mI_s, fun e => absurd e (by decide), n, a, dd, Ev, 0, P, h.read (thOk a4) a5 (by show T2.2.2.1 + 1 ≤ _; omega) (by show T2.2.2.2 + 6 ≤ _; omega) (fun k h0 h2 h3 h4 h5 h6 => ?_) ?_ ?_ (fun j x h1 h2 h3 h4 => ?_)⟩
      · show D_La_read (some z) d (some (z + 29)) (Full z χ μ T) = _
        rw [cls, ec]; rfl
      · rw [mI_n h0]; exact a8.1 k h0 h2 h3 h4 h5 h6
      · rw [mI_n (by decide)]; exact a8.2.2.1
      · rw [mI_n (by decide)]; exact w6
      · exact a8.2.2.2 j x h1 h2 h3 h4
  · have ex : ∀ w S, D_Mo_read w d (mput w μ S) = some (0, mput w (mI μ 0 1) S) := fun w S => by
      unfold D_Mo_read
      simp only [M_in, gB2_some]
      have hd' : (decide (0 ≤ d) && decide (d ≤ 9999)) = false := Bool.eq_false_iff.mpr hd
      rw [hd', if_pos (show bI false = 0 from rfl)]
      unfold B_Mo_read_17
      simp only [m_ob, Option.bind_some, M_th1, gB2_some]
      rw [if_neg (by decide)]
    refine ⟨1, 0, χ, mI μ 0 1, gTh T, ?_, ex, mI_s, fun e => absurd e (by decide), n, a, dd, Ev, L, P, h.same (thOk tk) (fun q x _ hq _ => hq) (by show T.2.2.1 + 1 ≤ _; omega) (by show T.2.2.2 + 6 ≤ _; omega) rfl (fun k hk => mI_n hk)⟩
    show D_La_read (some z) d (some (z + 29)) (Full z χ μ T) = _
    rw [cls, C_read, C_day hg, if_neg hd]; rfl
end KR
