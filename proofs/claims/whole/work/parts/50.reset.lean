/-! THE REFERENCE'S READING AROUND ITS ROWS: slots cleared, slots copied -/
def evOk (E : EV) : Prop := (∀ k v, k ≤ 40 → E.1 k = some v → plOk v ∧ ∀ i, i < v.2.1 → ndOk (v.2.2 i)) ∧ (∀ k v, k ≤ 9 → E.2.1 k = some v → (1 ≤ v.1 ∧ v.1 ≤ 5) ∧ ∀ i, i < v.1 → ndOk (v.2 i)) ∧ E.2.2.1 ≤ 8 ∧ (∀ i, i < E.2.2.1 → sbOk (E.2.2.2 i)) ∧ E.1 0 = none ∧ E.2.1 0 = none
theorem NLat.ok {S : gS} {a c : Nat} {V : Nat → Nat → Int32} (h : NLat S a c V) : ∀ i, i < c → ndOk (V i) := by
  obtain ⟨g, -, -, h3⟩ := h
  exact fun i hi => (h3 i hi).1
theorem EdAt.ok {S : gS} {e : Nat} {d : Int32} {E : EV} (h : EdAt S e d E) : evOk E := by
  obtain ⟨gp, gd, gs, -, h2, h3, h4, h5, h6, h7⟩ := h
  refine ⟨fun k v hk hv => ?_, fun k v hk hv => ?_, h5, fun i hi => ?_, h6, h7⟩
  · obtain ⟨q, -, ⟨a, b, l, -, -, -, m⟩, m2⟩ := (h2 k hk).2 v hv
    exact ⟨m2, m.ok⟩
  · obtain ⟨q, -, m, m2⟩ := (h3 k hk).2 v hv
    exact ⟨m2, m.ok⟩
  · obtain ⟨q, h, -, -, -, m⟩ := h4 i hi
    exact m
def slEq (μ μ' : mS) (b b' : Nat) : Prop := (∀ j x, 3 ≤ j → j ≤ 11 → x < 50 → μ'.2 j (50 * b' + x) = μ.2 j (50 * b + x)) ∧ (∀ x, x < 1250 → μ'.2 12 (1250 * b' + x) = μ.2 12 (1250 * b + x)) ∧ μ'.2 13 b' = μ.2 13 b ∧ ∀ x, x < 40 → μ'.2 14 (40 * b' + x) = μ.2 14 (40 * b + x)
theorem ndIs.mv {μ μ' : mS} {b b' k c : Nat} {V : Nat → Nat → Int32} (h : ndIs μ (50 * b + k) c V) (g : slEq μ μ' b b') (hk : k < 50) (hc : c ≤ 5) : ndIs μ' (50 * b' + k) c V := by
  refine ⟨by rw [g.1 11 k (by decide) (by decide) hk]; exact h.1, fun i hi x hx => ?_⟩
  rw [show 25 * (50 * b' + k) + 5 * i + x = 1250 * b' + (25 * k + 5 * i + x) by omega, g.2.1 _ (by omega), ← h.2 i hi x hx]
  exact congrArg (μ.2 12) (by omega)
theorem plIs.mv {μ μ' : mS} {b b' k : Nat} {v : PV} (h : plIs μ (50 * b + k) v) (g : slEq μ μ' b b') (hk : k < 50) (hc : v.2.1 ≤ 5) : plIs μ' (50 * b' + k) v := by
  obtain ⟨m1, m2, m3, m4, m7, m8⟩ := h
  have G : ∀ j, 3 ≤ j → j ≤ 11 → μ'.2 j (50 * b' + k) = μ.2 j (50 * b + k) := fun j h1 h2 => g.1 j k h1 h2 hk
  unfold plIs stIs hrIs
  rw [G 3 (by decide) (by decide), G 4 (by decide) (by decide), G 5 (by decide) (by decide), G 6 (by decide) (by decide), G 7 (by decide) (by decide), G 8 (by decide) (by decide), G 9 (by decide) (by decide), G 10 (by decide) (by decide)]
  exact ⟨m1, m2, m3, m4, m7, m8.mv g hk hc⟩
theorem edIs.mv {μ μ' : mS} {b b' : Nat} {E : EV} (h : edIs μ b E) (g : slEq μ μ' b b') (ho : evOk E) : edIs μ' b' E := by
  obtain ⟨h1, h2, h3, h4⟩ := h
  refine ⟨fun k hk0 hk => ⟨fun x => ?_, fun v hv => ?_⟩, fun k hk0 hk => ⟨fun x => ?_, fun v hv => ⟨?_, ?_⟩⟩, ?_, fun i hi c hc => ?_⟩
  · rw [g.1 3 k (by decide) (by decide) (by omega)]; exact (h1 k hk0 hk).1 x
  · exact ((h1 k hk0 hk).2 v hv).mv g (by omega) (ho.1 k v hk hv).1.2.2.2.2.2
  · rw [show 50 * b' + 40 + k = 50 * b' + (40 + k) by omega, g.1 3 (40 + k) (by decide) (by decide) (by omega), ← (h2 k hk0 hk).1 x]
    exact congrArg (μ.2 3) (by omega)
  · rw [show 50 * b' + 40 + k = 50 * b' + (40 + k) by omega, g.1 3 (40 + k) (by decide) (by decide) (by omega), ← ((h2 k hk0 hk).2 v hv).1]
    exact congrArg (μ.2 3) (by omega)
  · rw [show 50 * b' + 40 + k = 50 * b' + (40 + k) by omega]
    refine ndIs.mv ?_ g (by omega) (ho.2.1 k v hk hv).1.2
    rw [show 50 * b + (40 + k) = 50 * b + 40 + k by omega]
    exact ((h2 k hk0 hk).2 v hv).2
  · rw [g.2.2.1]; exact h3
  · have := ho.2.2.1
    rw [show 40 * b' + 5 * i + c = 40 * b' + (5 * i + c) by omega, g.2.2.2 _ (by omega), ← h4 i hi c hc]
    exact congrArg (μ.2 14) (by omega)
section CP
variable {w : Nat} {S : gS}
theorem LA4_s {k : Nat} {x : Int32} : L_Mo_readAll_4 (k + 1) w x S = B_Mo_readAll_4 (L_Mo_readAll_4 k) w x S := rfl
def mTail (w : Nat) (S : gS) : Option gS := Option.bind (gRf S w 10 20) (fun r2 => Option.bind r2 (fun a3 => Option.bind (gSI S a3 0 6 0) (fun S4 => Option.bind (gPut S4 w 10 4 (.int 0)) (fun S5 => Option.bind (gZo 0) (fun v7 => Option.bind (gPut S5 w 10 5 (.int v7)) (fun S6 => Option.bind (gPut S6 w 10 6 (.int (-1))) (fun S8 => Option.bind (gOb S8 w 10) (fun _ => gB2 (D_Mo_see w S8) (fun v10 S9 => L_Mo_readAll_52 gF w v10 S9)))))))))
theorem M_reset : ∀ (d i fuel : Nat) (μ : mS), d = 50 - i → i ≤ 50 → d < fuel → ∃ μ', (∀ w S, L_Mo_readAll_4 fuel w (nI (300 + i)) (mput w μ S) = mTail w (mput w μ' S)) ∧ μ'.1 = μ.1 ∧ (∀ j x, ¬ (j = 3 ∧ 300 + i ≤ x ∧ x < 350) → μ'.2 j x = μ.2 j x) ∧ ∀ x, 300 + i ≤ x → x < 350 → μ'.2 3 x = 0 := by
  intro d
  induction d with
  | zero =>
    intro i fuel μ hd hi hf
    obtain ⟨fu, rfl⟩ : ∃ fu, fuel = fu + 1 := ⟨fuel - 1, by omega⟩
    obtain rfl : i = 50 := by omega
    refine ⟨μ, fun w S => ?_, rfl, fun _ _ _ => rfl, fun x h1 h2 => absurd h2 (by omega)⟩
    rw [LA4_s]
    unfold B_Mo_readAll_4
    rw [if_pos (by decide)]; rfl
  | succ d ih =>
    intro i fuel μ hd hi hf
    obtain ⟨fu, rfl⟩ : ∃ fu, fuel = fu + 1 := ⟨fuel - 1, by omega⟩
    obtain ⟨μ', a1, a2, a3, a4⟩ := ih (i + 1) fu (mA μ 3 (300 + i) 0) (by omega) (by omega) (by omega)
    refine ⟨μ', fun w S => ?_, a2, fun j x hx => ?_, fun x h1 h2 => ?_⟩
    · rw [LA4_s]
      unfold B_Mo_readAll_4
      rw [if_neg (show ¬ (350 : Int32) ≤ nI (300 + i) from nI_ge (a := 300 + i) (b := 350) (by omega) (by decide))]
      simp only [m_R10, Option.bind_some, gZ0]
      rw [m_s3 (by omega)]
      simp only [Option.bind_some, nI_1]
      exact a1 w S
    · rw [a3 j x (fun h => hx ⟨h.1, by omega, by omega⟩)]
      by_cases hj : j = 3
      · subst hj; rw [mA_an (by omega)]
      · rw [mA_n hj]
    · by_cases hx : x = 300 + i
      · rw [hx, a3 3 _ (fun h => by omega), mA_at]
      · exact a4 x (by omega) h2
theorem M_readAll {μ : mS} {N : Nat} {f : Nat → Int32} (h3 : μ.1 3 = nI N) (hT : ∀ i, i < N → μ.2 1 i = f i) : ∃ μ0, (∀ w S, D_Mo_readAll w (mput w μ S) = gB2 (D_Mo_see w (mput w μ0 S)) (fun v6 S5 => L_Mo_readAll_52 gF w v6 S5)) ∧ Sim f N 400 (nI 0) (-1) μ0 ∧ μ0.1 6 = -1 ∧ (∀ k, k ≠ 4 → k ≠ 5 → k ≠ 6 → μ0.1 k = μ.1 k) ∧ (∀ j x, ¬ (j = 3 ∧ 300 ≤ x ∧ x < 350) → ¬ (j = 13 ∧ x = 6) → μ0.2 j x = μ.2 j x) ∧ (∀ x, 300 ≤ x → x < 350 → μ0.2 3 x = 0) ∧ μ0.2 13 6 = 0 := by
  obtain ⟨μ1, a1, a2, a3, a4⟩ := M_reset 50 0 gF μ rfl (by decide) (by decide)
  have k3 : (mI (mI (mI (mA μ1 13 6 0) 4 0) 5 0) 6 (-1)).1 3 = nI N := by
    rw [mI_n (by decide), mI_n (by decide), mI_n (by decide), mA_1, a2]; exact h3
  refine ⟨mI (mI (mI (mA μ1 13 6 0) 4 0) 5 0) 6 (-1), fun w S => ?_, ⟨k3, fun i hi => ?_, Or.inl ⟨rfl, ?_, 0, Nat.zero_le _, rfl, ?_⟩⟩, mI_s, fun k h4 h5 h6 => ?_, fun j x h1 h2 => ?_, fun x h1 h2 => ?_, ?_⟩
  · unfold D_Mo_readAll
    refine (a1 w S).trans ?_
    unfold mTail
    simp only [m_R20, Option.bind_some]
    rw [show gSI (mput w μ1 S) (w + 13) 0 6 0 = some (mput w (mA μ1 13 6 0) S) from m_s13 (i := 6) (by decide)]
    simp only [Option.bind_some, m_P4, gZ0, m_P5, m_P6, m_ob]
  · simp only [mI_2]; rw [mA_n (by decide), a3 1 i (fun h => by omega)]; exact hT i hi
  · rw [mI_n (by decide), mI_s]
  · rw [mI_n (by decide), mI_n (by decide), mI_s]; rfl
  · rw [mI_n h6, mI_n h5, mI_n h4, mA_1, a2]
  · simp only [mI_2]
    by_cases hj : j = 13
    · subst hj; rw [mA_an (fun h => h2 ⟨rfl, h⟩)]; exact a3 13 x (fun h => by omega)
    · rw [mA_n hj]; exact a3 j x h1
  · simp only [mI_2]; rw [mA_n (by decide)]; exact a4 x (by omega) h2
  · simp only [mI_2]; exact mA_at
end CP
