/-! PRINTING NEEDS AND PLANS -/
section PL
variable {z P l c s : Nat} {χ : cS} {μ μ0 : mS} {T : gS} {V : Nat → Nat → Int32}
theorem F_all {q : Nat} {x : gE} (h : TOk z T) (hx : lf3 x = true) (hq : (Full z χ μ0 T).1 q = some x) : ∀ χ', (Full z χ' μ0 T).1 q = some x := fun χ' => (F_kp (χ' := χ') (μ' := μ0) h (fun _ _ _ hh _ => hh)) q x hq hx
def NLa (z : Nat) (μ0 : mS) (T : gS) (l c : Nat) (V : Nat → Nat → Int32) : Prop := ∃ g, (∀ χ, (Full z χ μ0 T).1 l = some (.inr (4, [.ref (l + 1), .int (nI c)]))) ∧ (∀ χ, (Full z χ μ0 T).1 (l + 1) = some (.inl (8, 5, .inr (.inr (.inr (.inr g)))))) ∧ ∀ i, i < c → ndOk (V i) ∧ ∃ q, g i = some q ∧ ∀ χ, (Full z χ μ0 T).1 q = some (.inr (3, NdV (V i)))
theorem NLat.all (ht : TOk z T) (h : NLat (Full z χ μ0 T) l c V) : NLa z μ0 T l c V := by
  obtain ⟨g, h1, h2, h3⟩ := h
  refine ⟨g, F_all ht rfl h1, F_all ht rfl h2, fun i hi => ?_⟩
  obtain ⟨o, q, q1, q2⟩ := h3 i hi
  exact ⟨o, q, q1, F_all ht rfl q2⟩
theorem L2w_s {f p : Nat} {r : Option Nat} {x : Int32} {S : gS} : L_Pr_writeNeeds_2 (f + 1) p r x S = B_Pr_writeNeeds_2 (L_Pr_writeNeeds_2 f) p r x S := rfl
theorem L2m_s {f w : Nat} {a x : Int32} {S : gS} : L_Mo_putNeeds_2 (f + 1) w a x S = B_Mo_putNeeds_2 (L_Mo_putNeeds_2 f) w a x S := rfl
theorem C_nTail (hl : NLa z μ0 T l c V) (hc : c ≤ 5) : ∀ (m i fuel : Nat), m = 5 - i → c ≤ i → i ≤ 5 → m < fuel → L_Pr_writeNeeds_2 fuel (z + 10) (some l) (nI i) (Full z χ μ0 T) = D_Pr_write (z + 10) 59 (Full z χ μ0 T) := by
  obtain ⟨g, l1, l2, l3⟩ := hl
  intro m
  induction m with
  | zero =>
    intro i fuel hm h1 h2 hf
    obtain ⟨fu, rfl⟩ : ∃ fu, fuel = fu + 1 := ⟨fuel - 1, by omega⟩
    obtain rfl : i = 5 := by omega
    rw [L2w_s]
    unfold B_Pr_writeNeeds_2
    rw [if_pos (by decide), pr_ob]
    simp only [Option.bind_some]
    exact ob_r _
  | succ m ih =>
    intro i fuel hm h1 h2 hf
    obtain ⟨fu, rfl⟩ : ∃ fu, fuel = fu + 1 := ⟨fuel - 1, by omega⟩
    rw [L2w_s]
    unfold B_Pr_writeNeeds_2 B_Pr_writeNeeds_41 D_NL_needAt B_NL_needAt_21 B_NL_needAt_22
    rw [if_neg (show ¬ (5 : Int32) ≤ nI i from nI_ge (a := i) (b := 5) (by omega) (by decide))]
    simp only [Option.bind_some]
    rw [e_O (l1 χ), if_neg (nI_pos (by omega)), e_I (l1 χ) (k := 1) (v := nI c) rfl]
    simp only [Option.bind_some]
    rw [if_pos (nI_le h1 (by omega))]
    simp only [gB2_some, gNul, nI_1]
    exact ih (i + 1) fu (by omega) (by omega) (by omega) (by omega)
theorem S_nLoop (hl : NLa z μ0 T l c V) (hc : c ≤ 5) (hs : s < 350) : ∀ (m i fuel fuel' L P : Nat) (χ : cS) (μ : mS), m = c - i → i ≤ c → 6 ≤ fuel + i → m < fuel' → ndIs μ s c V → nlLen V i + L = nlLen V c → IvP χ μ P → P + (L + 1) ≤ 400 → Pc z μ0 T (fun S => L_Pr_writeNeeds_2 fuel (z + 10) (some l) (nI i) S) (fun w S => L_Mo_putNeeds_2 fuel' w (nI s) (nI i) S) χ μ P (L + 1) := by
  intro m
  induction m with
  | zero =>
    intro i fuel fuel' L P χ μ hm hi hf hf' hn hL h hP
    obtain ⟨fu', rfl⟩ : ∃ fu, fuel' = fu + 1 := ⟨fuel' - 1, by omega⟩
    obtain rfl : i = c := by omega
    obtain rfl : L = 0 := by omega
    refine (S_put (z := z) (μ0 := μ0) (T := T) (c := 59) (x := 59) rfl (by decide) h (by omega)).eq (by omega) (C_nTail hl hc (5 - i) i fuel rfl (Nat.le_refl _) hc (by omega)) (fun w S => ?_)
    show L_Mo_putNeeds_2 (fu' + 1) w (nI s) (nI i) (mput w μ S) = _
    rw [L2m_s]
    unfold B_Mo_putNeeds_2
    simp only [m_R18, m_ob, Option.bind_some]
    rw [m_g11 hs, hn.1]
    simp only [Option.bind_some]
    rw [if_pos (nI_le (Nat.le_refl _) (by omega))]
    exact ob_r _
  | succ m ih =>
    intro i fuel fuel' L P χ μ hm hi hf hf' hn hL h hP
    obtain ⟨fu, rfl⟩ : ∃ fu, fuel = fu + 1 := ⟨fuel - 1, by omega⟩
    obtain ⟨fu', rfl⟩ : ∃ fu, fuel' = fu + 1 := ⟨fuel' - 1, by omega⟩
    obtain ⟨g, l1, l2, l3⟩ := id hl
    obtain ⟨o, q, q1, q2⟩ := l3 i (by omega)
    have st : nlLen V (i + 1) = nlLen V i + (1 + (nlen (V i 0) + 1 + altLen (V i 2) + altLen (V i 3) + limLen (V i 4))) := rfl
    have mono : ∀ b, nlLen V (i + 1) ≤ nlLen V (i + 1 + b) := fun b => by
      induction b with
      | zero => exact Nat.le_refl _
      | succ b ih => exact Nat.le_trans ih (Nat.le_add_right _ _)
    have hle : nlLen V (i + 1) ≤ nlLen V c := by
      have := mono (c - (i + 1))
      rwa [show i + 1 + (c - (i + 1)) = c by omega] at this
    obtain ⟨sg, hsg, hsg2⟩ : ∃ sg : Nat, sg < 256 ∧ (if nI i = 0 then (58 : Int32) else 44) = nI sg := by
      split
      · exact ⟨58, by decide, rfl⟩
      · exact ⟨44, by decide, rfl⟩
    have hr : rng (V i 0) 0 999 = true := by
      have hr := o.1
      rw [rng_spec] at hr ⊢
      have h1 := hr.1
      have h2 := hr.2
      rw [Int32.le_iff_toInt_le] at h1 h2
      have e1 : (1 : Int32).toInt = 1 := by decide
      have e9 : (9 : Int32).toInt = 9 := by decide
      refine ⟨?_, ?_⟩
      · rw [Int32.le_iff_toInt_le]
        have e0 : (0 : Int32).toInt = 0 := by decide
        omega
      · rw [Int32.le_iff_toInt_le]
        have e0 : (999 : Int32).toInt = 999 := by decide
        omega
    have hn1 := hn.2 i (by omega)
    obtain ⟨χ1, μ1, a1, a2, a3, a4⟩ := S_num (z := z) (μ0 := μ0) (T := T) (c := if nI i = 0 then (58 : Int32) else 44) hsg2 hsg hr h (by omega)
    obtain ⟨χ2, μ2, b1, b2, b3, b4⟩ := S_wneed (z := z) (μ0 := μ0) (T := T) (n := 25 * s + 5 * i) o q2 (by omega) (fun j hj => by rw [a4.2.2 12 (by decide)]; exact hn1 j hj) a3 (by omega)
    have hn2 : ndIs μ2 s c V := by unfold ndIs; rw [b4.2.2 11 (by decide), b4.2.2 12 (by decide), a4.2.2 11 (by decide), a4.2.2 12 (by decide)]; exact hn
    obtain ⟨χ3, μ3, c1, c2, c3, c4⟩ := ih (i + 1) fu fu' (nlLen V c - nlLen V (i + 1)) _ χ2 μ2 (by omega) (by omega) (by omega) (by omega) hn2 (by omega) b3 (by omega)
    have a1' : D_Pr_writeNumber (z + 10) (if nI i = 0 then (58 : Int32) else 44) (V i 0) (Full z χ μ0 T) = some (Full z χ1 μ0 T) := a1
    refine ⟨χ3, μ3, ?_, fun w S => ?_, ?_, (a4.tr b4).tr c4⟩
    · show L_Pr_writeNeeds_2 (fu + 1) (z + 10) (some l) (nI i) (Full z χ μ0 T) = _
      rw [L2w_s]
      have tail : ∀ t0, B_Pr_writeNeeds_29 (L_Pr_writeNeeds_2 fu) (z + 10) (some l) (nI i) (some q) t0 (z + 10) (Full z χ μ0 T) = Option.bind (D_Pr_writeNumber (z + 10) t0 (V i 0) (Full z χ μ0 T)) (fun S3 => Option.bind (gOb S3 (z + 10) 6) (fun _ => Option.bind (D_Pr_writeNeed (z + 10) (some q) S3) (fun S5 => L_Pr_writeNeeds_2 fu (z + 10) (some l) (nI i + 1) S5))) := by
        intro t0
        unfold B_Pr_writeNeeds_29 B_Pr_writeNeeds_41
        simp only [Option.bind_some]
        rw [e_I (q2 χ) (k := 0) (v := V i 0) rfl, pr_ob]
        rfl
      unfold B_Pr_writeNeeds_2 D_NL_needAt B_NL_needAt_22
      rw [if_neg (show ¬ (5 : Int32) ≤ nI i from nI_ge (a := i) (b := 5) (by omega) (by decide))]
      simp only [Option.bind_some]
      rw [e_O (l1 χ), if_neg (nI_pos (by omega)), e_I (l1 χ) (k := 1) (v := nI c) rfl]
      simp only [Option.bind_some]
      rw [if_neg (nI_ge (a := i) (b := c) (by omega) (by omega)), e_R (l1 χ) (k := 0) (q := l + 1) rfl]
      simp only [Option.bind_some]
      rw [e_AR (l2 χ) (by omega) (by decide), q1]
      simp only [Option.bind_some, gB2_some, gNul, tail]
      have : ∀ (A : Int32 → Option gS), (if nI i = 0 then A 58 else A 44) = A (if nI i = 0 then (58 : Int32) else 44) := fun A => by split <;> rfl
      rw [this (fun t0 => Option.bind (D_Pr_writeNumber (z + 10) t0 (V i 0) (Full z χ μ0 T)) _)]
      show Option.bind (D_Pr_writeNumber (z + 10) _ (V i 0) (Full z χ μ0 T)) _ = _
      rw [a1']
      simp only [Option.bind_some]
      rw [pr_ob]
      simp only [Option.bind_some]
      rw [b1]
      simp only [Option.bind_some, nI_1]
      exact c1
    · have a2' : D_Mo_putNumber w (if nI i = 0 then (58 : Int32) else 44) (V i 0) (mput w μ S) = some (mput w μ1 S) := a2 w S
      show L_Mo_putNeeds_2 (fu' + 1) w (nI s) (nI i) (mput w μ S) = _
      rw [L2m_s]
      have bb : (25 * nI s + 5 * nI i : Int32) = nI (25 * s + 5 * i) := by rw [show (25 : Int32) = nI 25 from rfl, show (5 : Int32) = nI 5 from rfl, pk_mul, pk_mul, nI_add]
      have tail : ∀ t0, B_Mo_putNeeds_33 (L_Mo_putNeeds_2 fu') w (nI s) (nI i) (nI (25 * s + 5 * i)) t0 w (mput w μ S) = Option.bind (D_Mo_putNumber w t0 (V i 0) (mput w μ S)) (fun S4 => mNd (L_Mo_putNeeds_2 fu') w (nI s) (nI i) (nI (25 * s + 5 * i)) S4) := by
        intro t0
        unfold B_Mo_putNeeds_33
        simp only [m_R19, m_ob, Option.bind_some]
        rw [m_g12 (by omega), show μ.2 12 (25 * s + 5 * i) = V i 0 from hn1 0 (by decide)]
        rfl
      unfold B_Mo_putNeeds_2
      simp only [m_R18, Option.bind_some]
      rw [m_g11 hs, hn.1]
      simp only [Option.bind_some]
      rw [if_neg (nI_ge (a := i) (b := c) (by omega) (by omega)), bb, tail, tail]
      have : ∀ (A : Int32 → Option gS), (if nI i = 0 then A 58 else A 44) = A (if nI i = 0 then (58 : Int32) else 44) := fun A => by split <;> rfl
      rw [this (fun t0 => Option.bind (D_Mo_putNumber w t0 (V i 0) (mput w μ S)) _), a2']
      simp only [Option.bind_some]
      rw [b2 (L_Mo_putNeeds_2 fu') w (nI s) (nI i) S, nI_1]
      exact c2 w S
    · have e : P + (1 + nlen (V i 0)) + (1 + altLen (V i 2) + altLen (V i 3) + limLen (V i 4)) + (nlLen V c - nlLen V (i + 1) + 1) = P + (L + 1) := by omega
      rw [← e]; exact c3
theorem S_wneeds (hl : NLa z μ0 T l c V) (hc : c ≤ 5) (hs : s < 350) (hn : ndIs μ s c V) (h : IvP χ μ P) (hP : P + (nlLen V c + 1) ≤ 400) : Pc z μ0 T (fun S => D_Pr_writeNeeds (z + 10) (some l) S) (fun w S => D_Mo_putNeeds w (nI s) S) χ μ P (nlLen V c + 1) := S_nLoop hl hc hs c 0 gF gF (nlLen V c) P χ μ (by omega) (by omega) (by decide) (by have : gF = 1000 := rfl; omega) hn (Nat.zero_add _) h hP
theorem rng_w {x a b : Int32} (ha : 0 ≤ a) (hb : b ≤ 999) (h : rng x a b = true) : rng x 0 999 = true := by
  obtain ⟨h1, h2⟩ := rng_spec.mp h
  rw [rng_spec]
  rw [Int32.le_iff_toInt_le] at ha hb h1 h2
  refine ⟨?_, ?_⟩
  · rw [Int32.le_iff_toInt_le]; omega
  · rw [Int32.le_iff_toInt_le]; omega
/-- a plan -/
theorem S_wplan {q p b : Nat} {v : PV} (ht : TOk z T) (hp : PlAt (Full z χ μ0 T) q p v) (ho : plOk v) (hpp : p < 50) (hb : b ≤ 6) (hs : plIs μ (50 * b + p) v) (h : IvP χ μ P) (hP : P + plLen p v ≤ 400) : Pc z μ0 T (fun S => D_Pr_writePlan (z + 10) (some q) S) (fun w S => D_Mo_putPlan w (nI (50 * b + p)) S) χ μ P (plLen p v) := by
  obtain ⟨qa, qb, ql, s1, s2, s3, s4⟩ := hp
  have s1a := F_all ht rfl s1
  have s2a := F_all ht rfl s2
  have s3a := F_all ht rfl s3
  have s4a := s4.all ht
  obtain ⟨o0, os, oh, o7, oc1, oc⟩ := ho
  obtain ⟨t3, t4, ⟨t5, t67⟩, ⟨t8, t9⟩, t10, tn⟩ := hs
  have hsl : 50 * b + p < 350 := by omega
  have lp : plLen p v = (1 + nlen (nI p)) + ((1 + nlen (v.1 0)) + (stLen (v.1 1) (v.1 2) (v.1 3) + (hrLen (v.1 4) (v.1 5) (v.1 6) + ((1 + nlen (v.1 7)) + (nlLen v.2.2 v.2.1 + 1))))) := by
    unfold plLen; omega
  rw [lp] at hP ⊢
  have hz := st_pos os
  obtain ⟨χ1, μ1, a1, a2, a3, a4⟩ := S_num (z := z) (μ0 := μ0) (T := T) (c := 112) (s := 112) (v := nI p) rfl (by decide) (by rw [rng_spec]; exact ⟨nI_pos' (by omega), nI_le (a := p) (b := 999) (by omega) (by decide)⟩) h (by omega)
  obtain ⟨χ2, μ2, b1, b2, b3, b4⟩ := S_num (z := z) (μ0 := μ0) (T := T) (c := 107) (s := 107) (v := v.1 0) rfl (by decide) (rng_w (by decide) (by decide) o0) a3 (by omega)
  have f2 := a4.tr b4
  have a1' : D_Pr_writeNumber (z + 10) 112 (nI p) (Full z χ μ0 T) = some (Full z χ1 μ0 T) := a1
  have b1' : D_Pr_writeNumber (z + 10) 107 (v.1 0) (Full z χ1 μ0 T) = some (Full z χ2 μ0 T) := b1
  -- the stretch
  obtain ⟨χ3, μ3, c1, c2, c3, c4⟩ : ∃ χ3 μ3, (if bI (decide (v.1 1 = 0)) = 0 then Option.bind (gRf (Full z χ2 μ0 T) q 5 2) (fun r14 => Option.bind r14 (fun a15 => Option.bind (gI (Full z χ2 μ0 T) a15 9 0) (fun v16 => Option.bind (gOb (Full z χ2 μ0 T) (z + 10) 6) (fun _ => Option.bind (D_Pr_writeNumber (z + 10) 64 v16 (Full z χ2 μ0 T)) (fun S17 => Option.bind (gRf S17 q 5 2) (fun r19 => Option.bind r19 (fun a20 => Option.bind (gI S17 a20 9 1) (fun v21 => Option.bind (gOb S17 (z + 10) 6) (fun _ => Option.bind (D_Pr_writeNumber (z + 10) 35 v21 S17) (fun S22 => Option.bind (gRf S22 q 5 2) (fun r24 => Option.bind r24 (fun a25 => Option.bind (gI S22 a25 9 2) (fun v26 => Option.bind (gOb S22 (z + 10) 6) (fun _ => Option.bind (D_Pr_writeNumber (z + 10) 45 v26 S22) (fun S27 => B_Pr_writePlan_69 (z + 10) (some q) S27))))))))))))))) else B_Pr_writePlan_69 (z + 10) (some q) (Full z χ2 μ0 T)) = B_Pr_writePlan_69 (z + 10) (some q) (Full z χ3 μ0 T) ∧ (∀ w S, (if v.1 1 ≤ 0 then B_Mo_putPlan_67 w (nI (50 * b + p)) (mput w μ2 S) else Option.bind (gRf (mput w μ2 S) w 10 12) (fun r12 => Option.bind r12 (fun a13 => Option.bind (gAI (mput w μ2 S) a13 0 (nI (50 * b + p))) (fun v14 => Option.bind (gOb (mput w μ2 S) w 10) (fun _ => Option.bind (D_Mo_putNumber w 64 v14 (mput w μ2 S)) (fun S15 => Option.bind (gRf S15 w 10 13) (fun r17 => Option.bind r17 (fun a18 => Option.bind (gAI S15 a18 0 (nI (50 * b + p))) (fun v19 => Option.bind (gOb S15 w 10) (fun _ => Option.bind (D_Mo_putNumber w 35 v19 S15) (fun S20 => Option.bind (gRf S20 w 10 14) (fun r22 => Option.bind r22 (fun a23 => Option.bind (gAI S20 a23 0 (nI (50 * b + p))) (fun v24 => Option.bind (gOb S20 w 10) (fun _ => Option.bind (D_Mo_putNumber w 45 v24 S20) (fun S25 => B_Mo_putPlan_67 w (nI (50 * b + p)) S25)))))))))))))))) = B_Mo_putPlan_67 w (nI (50 * b + p)) (mput w μ3 S)) ∧ IvP χ3 μ3 (P + (1 + nlen (nI p)) + (1 + nlen (v.1 0)) + stLen (v.1 1) (v.1 2) (v.1 3)) ∧ PF χ2 χ3 μ2 μ3 := by
    by_cases c : v.1 1 = 0
    · refine ⟨χ2, μ2, by rw [decide_eq_true c, if_neg (by decide)], fun w S => by rw [if_pos (hz.mpr c)], ?_, PF.rf⟩
      have : stLen (v.1 1) (v.1 2) (v.1 3) = 0 := by unfold stLen; rw [if_pos c]
      rw [this]; exact b3
    · obtain ⟨t6, t7⟩ := t67 c
      have sl : stLen (v.1 1) (v.1 2) (v.1 3) = 1 + (nlen (v.1 1) + 1 + nlen (v.1 2) + 1 + nlen (v.1 3)) := by unfold stLen; rw [if_neg c]
      rw [sl] at hP ⊢
      rcases os with os | ⟨ra, rb, rc⟩
      · exact absurd os.1 c
      have rb1 : (0 : Int32) ≤ v.1 2 := by
        have := (rng_spec.mp rb).1
        rw [Int32.le_iff_toInt_le] at this ⊢
        have e1 : (1 : Int32).toInt = 1 := by decide
        have e0 : (0 : Int32).toInt = 0 := by decide
        omega
      obtain ⟨χ3, μ3, c1, c2, c3, c4⟩ := S_num (z := z) (μ0 := μ0) (T := T) (c := 64) (s := 64) (v := v.1 1) rfl (by decide) (rng_w (by decide) (by decide) ra) b3 (by omega)
      obtain ⟨χ4, μ4, d1, d2, d3, d4⟩ := S_num (z := z) (μ0 := μ0) (T := T) (c := 35) (s := 35) (v := v.1 2) rfl (by decide) (rng_w (by decide) (by decide) rb) c3 (by omega)
      obtain ⟨χ5, μ5, e1, e2, e3, e4⟩ := S_num (z := z) (μ0 := μ0) (T := T) (c := 45) (s := 45) (v := v.1 3) rfl (by decide) (rng_w rb1 (by decide) rc) d3 (by omega)
      have c1' : D_Pr_writeNumber (z + 10) 64 (v.1 1) (Full z χ2 μ0 T) = some (Full z χ3 μ0 T) := c1
      have d1' : D_Pr_writeNumber (z + 10) 35 (v.1 2) (Full z χ3 μ0 T) = some (Full z χ4 μ0 T) := d1
      have e1' : D_Pr_writeNumber (z + 10) 45 (v.1 3) (Full z χ4 μ0 T) = some (Full z χ5 μ0 T) := e1
      refine ⟨χ5, μ5, ?_, fun w S => ?_, ?_, (c4.tr d4).tr e4⟩
      · rw [decide_eq_false c, if_pos (show bI false = 0 from rfl), e_R (s1a χ2) (k := 2) (q := qa) rfl]
        simp only [Option.bind_some]
        rw [e_I (s2a χ2) (k := 0) (v := v.1 1) rfl, pr_ob]
        simp only [Option.bind_some]
        rw [c1']
        simp only [Option.bind_some]
        rw [e_R (s1a χ3) (k := 2) (q := qa) rfl]
        simp only [Option.bind_some]
        rw [e_I (s2a χ3) (k := 1) (v := v.1 2) rfl, pr_ob]
        simp only [Option.bind_some]
        rw [d1']
        simp only [Option.bind_some]
        rw [e_R (s1a χ4) (k := 2) (q := qa) rfl]
        simp only [Option.bind_some]
        rw [e_I (s2a χ4) (k := 2) (v := v.1 3) rfl, pr_ob]
        simp only [Option.bind_some]
        rw [e1']
        rfl
      · have c2' : D_Mo_putNumber w 64 (v.1 1) (mput w μ2 S) = some (mput w μ3 S) := c2 w S
        have d2' : D_Mo_putNumber w 35 (v.1 2) (mput w μ3 S) = some (mput w μ4 S) := d2 w S
        have e2' : D_Mo_putNumber w 45 (v.1 3) (mput w μ4 S) = some (mput w μ5 S) := e2 w S
        rw [if_neg (fun x => c (hz.mp x))]
        simp only [m_R12, m_ob, Option.bind_some]
        rw [m_g5 hsl, f2.2.2 5 (by decide), t5]
        simp only [Option.bind_some]
        rw [c2']
        simp only [m_R13, m_ob, Option.bind_some]
        rw [m_g6 hsl, c4.2.2 6 (by decide), f2.2.2 6 (by decide), t6]
        simp only [Option.bind_some]
        rw [d2']
        simp only [m_R14, m_ob, Option.bind_some]
        rw [m_g7 hsl, d4.2.2 7 (by decide), c4.2.2 7 (by decide), f2.2.2 7 (by decide), t7]
        simp only [Option.bind_some]
        rw [e2']
        rfl
      · have e : P + (1 + nlen (nI p)) + (1 + nlen (v.1 0)) + (1 + (nlen (v.1 1) + 1 + nlen (v.1 2) + 1 + nlen (v.1 3))) = P + (1 + nlen (nI p)) + (1 + nlen (v.1 0)) + (1 + nlen (v.1 1)) + (1 + nlen (v.1 2)) + (1 + nlen (v.1 3)) := by omega
        rw [e]; exact e3
  have f3 := f2.tr c4
  -- the hours
  obtain ⟨χ4, μ4, d1, d2, d3, d4⟩ : ∃ χ4 μ4, B_Pr_writePlan_69 (z + 10) (some q) (Full z χ3 μ0 T) = B_Pr_writePlan_93 (z + 10) (some q) (Full z χ4 μ0 T) ∧ (∀ w S, B_Mo_putPlan_67 w (nI (50 * b + p)) (mput w μ3 S) = B_Mo_putPlan_106 w (nI (50 * b + p)) (mput w μ4 S)) ∧ IvP χ4 μ4 (P + (1 + nlen (nI p)) + (1 + nlen (v.1 0)) + stLen (v.1 1) (v.1 2) (v.1 3) + hrLen (v.1 4) (v.1 5) (v.1 6)) ∧ PF χ3 χ4 μ3 μ4 := by
    have cl : B_Pr_writePlan_69 (z + 10) (some q) (Full z χ3 μ0 T) = (if v.1 4 = 0 then B_Pr_writePlan_93 (z + 10) (some q) (Full z χ3 μ0 T) else Option.bind (D_Pr_writeHours (z + 10) (some qb) (Full z χ3 μ0 T)) (fun S7 => Option.bind (gOb S7 (z + 10) 6) (fun _ => Option.bind (D_Pr_write (z + 10) 93 S7) (fun S9 => B_Pr_writePlan_93 (z + 10) (some q) S9)))) := by
      unfold B_Pr_writePlan_69
      simp only [Option.bind_some]
      rw [e_R (s1a χ3) (k := 3) (q := qb) rfl]
      simp only [Option.bind_some]
      rw [e_I (s3a χ3) (k := 0) (v := v.1 4) rfl, pr_ob]
      rfl
    have rf : ∀ w S, B_Mo_putPlan_67 w (nI (50 * b + p)) (mput w μ3 S) = (if μ.2 8 (50 * b + p) < 0 then B_Mo_putPlan_106 w (nI (50 * b + p)) (mput w μ3 S) else Option.bind (D_Mo_putNumber w 91 (μ.2 8 (50 * b + p)) (mput w μ3 S)) (fun S8 => Option.bind (gRf S8 w 10 16) (fun r10 => Option.bind r10 (fun a11 => Option.bind (gAI S8 a11 0 (nI (50 * b + p))) (fun v12 => Option.bind (gOb S8 w 10) (fun _ => Option.bind (D_Mo_putNumber w 45 v12 S8) (fun S13 => Option.bind (gOb S13 w 10) (fun _ => Option.bind (D_Mo_put w 93 S13) (fun S15 => B_Mo_putPlan_106 w (nI (50 * b + p)) S15))))))))) := by
      intro w S
      unfold B_Mo_putPlan_67
      simp only [m_R15, m_ob, Option.bind_some]
      rw [m_g8 hsl, f3.2.2 8 (by decide)]
      rfl
    rcases oh with ⟨oh1, oh2, oh3⟩ | ⟨oh1, oh2, oh3⟩
    · refine ⟨χ3, μ3, by rw [cl, if_pos oh1], fun w S => by rw [rf w S, t8 oh1, if_pos (by decide)], ?_, PF.rf⟩
      have : hrLen (v.1 4) (v.1 5) (v.1 6) = 0 := by unfold hrLen; rw [if_pos oh1]
      rw [this]; exact c3
    · have n0 : v.1 4 ≠ 0 := by rw [oh1]; decide
      obtain ⟨u8, u9⟩ := t9 n0
      have hl : hrLen (v.1 4) (v.1 5) (v.1 6) = 1 + (nlen (v.1 5) + 1 + nlen (v.1 6) + 1) := by unfold hrLen; rw [if_neg n0]
      rw [hl] at hP ⊢
      obtain ⟨χ4, μ4, d1, d2, d3, d4⟩ := S_num (z := z) (μ0 := μ0) (T := T) (c := 91) (s := 91) (v := v.1 5) rfl (by decide) (rng_w (by decide) (by decide) oh2) c3 (by omega)
      obtain ⟨χ5, μ5, e1, e2, e3, e4⟩ := S_num (z := z) (μ0 := μ0) (T := T) (c := 45) (s := 45) (v := v.1 6) rfl (by decide) (rng_w (by decide) (by decide) oh3) d3 (by omega)
      obtain ⟨χ6, μ6, g1, g2, g3, g4⟩ := S_put (z := z) (μ0 := μ0) (T := T) (c := 93) (x := 93) rfl (by decide) e3 (by omega)
      have d1' : D_Pr_writeNumber (z + 10) 91 (v.1 5) (Full z χ3 μ0 T) = some (Full z χ4 μ0 T) := d1
      have e1' : D_Pr_writeNumber (z + 10) 45 (v.1 6) (Full z χ4 μ0 T) = some (Full z χ5 μ0 T) := e1
      have g1' : D_Pr_write (z + 10) 93 (Full z χ5 μ0 T) = some (Full z χ6 μ0 T) := g1
      refine ⟨χ6, μ6, ?_, fun w S => ?_, ?_, (d4.tr e4).tr g4⟩
      · rw [cl, if_neg n0]
        unfold D_Pr_writeHours
        simp only [Option.bind_some]
        rw [e_I (s3a χ3) (k := 1) (v := v.1 5) rfl, pr_ob]
        simp only [Option.bind_some]
        rw [d1']
        simp only [Option.bind_some]
        rw [e_I (s3a χ4) (k := 2) (v := v.1 6) rfl, pr_ob]
        simp only [Option.bind_some]
        rw [e1']
        simp only [Option.bind_some]
        rw [pr_ob]
        simp only [Option.bind_some]
        rw [g1']
        rfl
      · have d2' : D_Mo_putNumber w 91 (v.1 5) (mput w μ3 S) = some (mput w μ4 S) := d2 w S
        have e2' : D_Mo_putNumber w 45 (v.1 6) (mput w μ4 S) = some (mput w μ5 S) := e2 w S
        have g2' : D_Mo_put w 93 (mput w μ5 S) = some (mput w μ6 S) := g2 w S
        rw [rf w S, u8, if_neg (i_len (rng_spec.mp oh2).1), d2']
        simp only [m_R16, m_ob, Option.bind_some]
        rw [m_g9 hsl, d4.2.2 9 (by decide), f3.2.2 9 (by decide), u9]
        simp only [Option.bind_some]
        rw [e2']
        simp only [m_ob, Option.bind_some]
        rw [g2']
        rfl
      · have e : P + (1 + nlen (nI p)) + (1 + nlen (v.1 0)) + stLen (v.1 1) (v.1 2) (v.1 3) + (1 + (nlen (v.1 5) + 1 + nlen (v.1 6) + 1)) = P + (1 + nlen (nI p)) + (1 + nlen (v.1 0)) + stLen (v.1 1) (v.1 2) (v.1 3) + (1 + nlen (v.1 5)) + (1 + nlen (v.1 6)) + 1 := by omega
        rw [e]; exact g3
  have f4 := f3.tr d4
  obtain ⟨χ5, μ5, e1, e2, e3, e4⟩ := S_num (z := z) (μ0 := μ0) (T := T) (c := 114) (s := 114) (v := v.1 7) rfl (by decide) (rng_w (by decide) (by decide) o7) d3 (by omega)
  have f5 := f4.tr e4
  have tn5 : ndIs μ5 (50 * b + p) v.2.1 v.2.2 := by unfold ndIs; rw [f5.2.2 11 (by decide), f5.2.2 12 (by decide)]; exact tn
  obtain ⟨χ6, μ6, g1, g2, g3, g4⟩ := S_wneeds (μ0 := μ0) s4a oc hsl tn5 e3 (by omega)
  have e1' : D_Pr_writeNumber (z + 10) 114 (v.1 7) (Full z χ4 μ0 T) = some (Full z χ5 μ0 T) := e1
  have g1' : D_Pr_writeNeeds (z + 10) (some ql) (Full z χ5 μ0 T) = some (Full z χ6 μ0 T) := g1
  refine ⟨χ6, μ6, ?_, fun w S => ?_, ?_, f5.tr g4⟩
  · show D_Pr_writePlan (z + 10) (some q) (Full z χ μ0 T) = _
    unfold D_Pr_writePlan
    simp only [Option.bind_some]
    rw [e_I (s1a χ) (k := 0) (v := nI p) rfl, pr_ob]
    simp only [Option.bind_some]
    rw [a1']
    simp only [Option.bind_some]
    rw [e_I (s1a χ1) (k := 1) (v := v.1 0) rfl, pr_ob]
    simp only [Option.bind_some]
    rw [b1']
    simp only [Option.bind_some]
    rw [e_R (s1a χ2) (k := 2) (q := qa) rfl]
    simp only [Option.bind_some]
    rw [e_O (s2a χ2), C_every (s2a χ2)]
    simp only [Option.bind_some, gB2_some]
    rw [e_R (s1a χ2) (k := 2) (q := qa) rfl] at c1
    simp only [Option.bind_some] at c1
    rw [e_R (s1a χ2) (k := 2) (q := qa) rfl]
    simp only [Option.bind_some]
    refine c1.trans (d1.trans ?_)
    unfold B_Pr_writePlan_93
    simp only [Option.bind_some]
    rw [e_I (s1a χ4) (k := 4) (v := v.1 7) rfl, pr_ob]
    simp only [Option.bind_some]
    rw [e1']
    simp only [Option.bind_some]
    rw [e_R (s1a χ5) (k := 5) (q := ql) rfl, pr_ob]
    simp only [Option.bind_some]
    rw [g1']
    rfl
  · have a2' : D_Mo_putNumber w 112 (nI p) (mput w μ S) = some (mput w μ1 S) := a2 w S
    have b2' : D_Mo_putNumber w 107 (v.1 0) (mput w μ1 S) = some (mput w μ2 S) := b2 w S
    have e2' : D_Mo_putNumber w 114 (v.1 7) (mput w μ4 S) = some (mput w μ5 S) := e2 w S
    have g2' : D_Mo_putNeeds w (nI (50 * b + p)) (mput w μ5 S) = some (mput w μ6 S) := g2 w S
    show D_Mo_putPlan w (nI (50 * b + p)) (mput w μ S) = _
    unfold D_Mo_putPlan
    rw [show nI (50 * b + p) - nI (50 * b + p) / 50 * 50 = nI p by rw [show (50 : Int32) = nI 50 from rfl, pk_rem (by omega) (by decide) (by decide), show (50 * b + p) % 50 = p by omega], m_ob]
    simp only [Option.bind_some]
    rw [a2']
    simp only [m_R11, m_ob, Option.bind_some]
    rw [m_g4 hsl, a4.2.2 4 (by decide), t4]
    simp only [Option.bind_some]
    rw [b2']
    have q5 : gAI (mput w μ2 S) (w + 5) 0 (nI (50 * b + p)) = some (v.1 1) := by rw [m_g5 hsl, f2.2.2 5 (by decide), t5]
    have c2' := c2 w S
    simp only [m_R12, Option.bind_some, q5, m_ob] at c2' ⊢
    refine c2'.trans ((d2 w S).trans ?_)
    unfold B_Mo_putPlan_106
    simp only [m_R17, m_ob, Option.bind_some]
    rw [m_g10 hsl, f4.2.2 10 (by decide), t10]
    simp only [Option.bind_some]
    rw [e2']
    simp only [m_ob, Option.bind_some]
    rw [g2']
    rfl
  · have e : P + ((1 + nlen (nI p)) + ((1 + nlen (v.1 0)) + (stLen (v.1 1) (v.1 2) (v.1 3) + (hrLen (v.1 4) (v.1 5) (v.1 6) + ((1 + nlen (v.1 7)) + (nlLen v.2.2 v.2.1 + 1)))))) = P + (1 + nlen (nI p)) + (1 + nlen (v.1 0)) + stLen (v.1 1) (v.1 2) (v.1 3) + hrLen (v.1 4) (v.1 5) (v.1 6) + (1 + nlen (v.1 7)) + (nlLen v.2.2 v.2.1 + 1) := by omega
    rw [e]; exact g3
end PL
