/-! The place that a fill takes, and the line that leaves. -/
theorem mr_min (sx ux : Nat → Int32) (f : Nat) : ∀ t, sx (mr sx ux f t) = 0 ∨ ∀ x, f ≤ x → x ≤ f + t → ¬ sx x = 0 ∧ ¬ ux x < ux (mr sx ux f t) := by
  intro t
  induction t with
  | zero =>
    by_cases h : sx f = 0
    · exact Or.inl h
    · refine Or.inr (fun x h1 h2 => ?_)
      obtain rfl : x = f := by omega
      exact ⟨h, Int32.lt_irrefl⟩
  | succ t ih =>
    rw [mr]
    by_cases h1 : sx (mr sx ux f t) = 0
    · rw [if_pos h1]; exact Or.inl h1
    · rw [if_neg h1]
      have ih := ih.resolve_left h1
      by_cases h2 : sx (f + 1 + t) = 0
      · rw [if_pos h2]; exact Or.inl h2
      · rw [if_neg h2]
        by_cases h3 : ux (f + 1 + t) < ux (mr sx ux f t)
        · rw [if_pos h3]
          refine Or.inr (fun x a1 a2 => ?_)
          by_cases e : x = f + 1 + t
          · subst e; exact ⟨h2, Int32.lt_irrefl⟩
          · obtain ⟨b1, b2⟩ := ih x a1 (by omega)
            exact ⟨b1, fun z => b2 (Int32.lt_trans z h3)⟩
        · rw [if_neg h3]
          refine Or.inr (fun x a1 a2 => ?_)
          by_cases e : x = f + 1 + t
          · subst e; exact ⟨h2, h3⟩
          · exact ih x a1 (by omega)
theorem cl_scan_n (st ua : Nat → Int32) (z : Nat) : ∀ t, (cl_scan st ua z t).1 = (((List.range t).map (fun r => z + 2 * r)).filter (fun L => decide (¬ st L = 0))).length := by
  intro t
  induction t with
  | zero => rfl
  | succ t ih =>
    rw [cl_scan, List.range_succ, List.map_append, List.filter_append, List.length_append, ← ih]
    by_cases h : st (z + 2 * t) = 0
    · rw [if_pos h]; simp [h]
    · rw [if_neg h]; simp [h]
theorem cl_scan_m (st ua : Nat → Int32) (z : Nat) : ∀ t, ((cl_scan st ua z t).2 = none → ∀ r, r < t → st (z + 2 * r) = 0) ∧ ∀ o, (cl_scan st ua z t).2 = some o → ¬ st o = 0 ∧ ∀ r, r < t → ¬ st (z + 2 * r) = 0 → ¬ ua (z + 2 * r) < ua o := by
  intro t
  induction t with
  | zero => exact ⟨fun _ r hr => by omega, fun o h => by simp [cl_scan] at h⟩
  | succ t ih =>
    rw [cl_scan]
    by_cases h : st (z + 2 * t) = 0
    · rw [if_pos h]
      refine ⟨fun hn r hr => ?_, fun o ho => ⟨(ih.2 o ho).1, fun r hr hs => ?_⟩⟩
      · by_cases e : r = t
        · subst e; exact h
        · exact ih.1 hn r (by omega)
      · by_cases e : r = t
        · subst e; exact absurd h hs
        · exact (ih.2 o ho).2 r (by omega) hs
    · rw [if_neg h]
      dsimp only
      cases hc : (cl_scan st ua z t).2 with
      | none =>
        refine ⟨fun hn => (by cases hn), fun o ho => ?_⟩
        cases ho
        refine ⟨h, fun r hr hs => ?_⟩
        by_cases e : r = t
        · subst e; exact Int32.lt_irrefl
        · exact absurd (ih.1 hc r (by omega)) hs
      | some q =>
        obtain ⟨i1, i2⟩ := ih.2 q hc
        by_cases hq : ua (z + 2 * t) < ua q
        · dsimp only
          rw [if_pos hq]
          refine ⟨fun hn => (by cases hn), fun o ho => ?_⟩
          cases ho
          refine ⟨h, fun r hr hs => ?_⟩
          by_cases e : r = t
          · subst e; exact Int32.lt_irrefl
          · exact fun z2 => i2 r (by omega) hs (Int32.lt_trans z2 hq)
        · dsimp only
          rw [if_neg hq]
          refine ⟨fun hn => (by cases hn), fun o ho => ?_⟩
          cases ho
          refine ⟨i1, fun r hr hs => ?_⟩
          by_cases e : r = t
          · subst e; exact hq
          · exact i2 r (by omega) hs
/-- as many lines of a set are held as places of it are valid -/
theorem CC_count {wy i b C U z : Nat} {K : KS} {sx li ux co : Nat → Int32} {ln u v : Nat → Nat} (h : CC wy i b K sx li ux co C ln u v U) (hz : z < 2) (hw : wy < 4) :
    (cl_scan (kst K) (kua K) z 4).1 = (((List.range wy).map (fun r => 3 * z + r)).filter (fun q => decide (¬ sx (6 * i + q) = 0))).length := by
  obtain ⟨h1, h2, h3, h4, h5, h6⟩ := h
  rw [cl_scan_n]
  have nd1 : (((List.range 4).map (fun r => z + 2 * r)).filter (fun L => decide (¬ kst K L = 0))).Nodup := by
    refine List.Pairwise.filter _ ?_
    rw [List.pairwise_map]
    exact List.Pairwise.imp (fun hab e => hab (by omega)) (List.nodup_range (n := 4))
  have nd2 : ((((List.range wy).map (fun r => 3 * z + r)).filter (fun q => decide (¬ sx (6 * i + q) = 0))).map ln).Nodup := by
    rw [List.Nodup, List.pairwise_map]
    have nd : (((List.range wy).map (fun r => 3 * z + r)).filter (fun q => decide (¬ sx (6 * i + q) = 0))).Nodup := by
      refine List.Pairwise.filter _ ?_
      rw [List.pairwise_map]
      exact List.Pairwise.imp (fun hab e => hab (by omega)) (List.nodup_range (n := wy))
    refine List.Pairwise.imp_of_mem (fun {a c} ha hc hab e => hab ?_) nd
    obtain ⟨a1, a2⟩ := List.mem_filter.mp ha
    obtain ⟨c1, c2⟩ := List.mem_filter.mp hc
    obtain ⟨ra, ha1, rfl⟩ := List.mem_map.mp a1
    obtain ⟨rc, hc1, rfl⟩ := List.mem_map.mp c1
    rw [List.mem_range] at ha1 hc1
    exact h5 _ _ (by omega) (by omega) (of_decide_eq_true a2) (of_decide_eq_true c2) e
  have pm : (((List.range 4).map (fun r => z + 2 * r)).filter (fun L => decide (¬ kst K L = 0))).Perm ((((List.range wy).map (fun r => 3 * z + r)).filter (fun q => decide (¬ sx (6 * i + q) = 0))).map ln) := by
    rw [List.perm_ext_iff_of_nodup nd1 nd2]
    intro L
    constructor
    · intro hL
      obtain ⟨a1, a2⟩ := List.mem_filter.mp hL
      obtain ⟨r, hr, rfl⟩ := List.mem_map.mp a1
      rw [List.mem_range] at hr
      obtain ⟨q, hq, hs, hl⟩ := h4 (z + 2 * r) (by omega) (of_decide_eq_true a2)
      obtain ⟨b1, b2, b3, -⟩ := h3 q hq hs
      refine List.mem_map.mpr ⟨q, List.mem_filter.mpr ⟨List.mem_map.mpr ⟨q % 3, List.mem_range.mpr b1, ?_⟩, decide_eq_true hs⟩, hl⟩
      rw [hl] at b3
      omega
    · intro hL
      obtain ⟨q, hq, rfl⟩ := List.mem_map.mp hL
      obtain ⟨a1, a2⟩ := List.mem_filter.mp hq
      obtain ⟨r, hr, rfl⟩ := List.mem_map.mp a1
      rw [List.mem_range] at hr
      have hs := of_decide_eq_true a2
      obtain ⟨b1, b2, b3, b4, b5, -⟩ := h3 (3 * z + r) (by omega) hs
      refine List.mem_filter.mpr ⟨List.mem_map.mpr ⟨ln (3 * z + r) / 2, List.mem_range.mpr (by omega), by omega⟩, decide_eq_true (by rw [b5]; exact hs)⟩
  rw [pm.length_eq, List.length_map]
/-- no place is free: the line that leaves is the one at the place that the fill takes; one is free: the fill takes a free one and none leaves -/
theorem CC_room {wy i b C U z : Nat} {K : KS} {sx li ux co : Nat → Int32} {ln u v : Nat → Nat} (h : CC wy i b K sx li ux co C ln u v U) (hz : z < 2) (hw0 : 1 ≤ wy) (hw : wy < 4) (hb : b < 2 ^ 31) (hCb : C ≤ b) :
    ∃ q, q < 6 ∧ mr sx ux (6 * i + 3 * z) (wy - 1) = 6 * i + q ∧ q / 3 = z ∧ q % 3 < wy ∧ ((sx (6 * i + q) = 0 ∧ cl_leave (kst K) (kua K) wy z = none) ∨ (¬ sx (6 * i + q) = 0 ∧ cl_leave (kst K) (kua K) wy z = some (ln q))) := by
  have hcnt := CC_count h hz hw
  obtain ⟨h1, h2, h3, h4, h5, h6⟩ := h
  obtain ⟨r1, r2⟩ := mr_le sx ux (6 * i + 3 * z) (wy - 1)
  obtain ⟨q, hq⟩ : ∃ q, mr sx ux (6 * i + 3 * z) (wy - 1) = 6 * i + q := ⟨mr sx ux (6 * i + 3 * z) (wy - 1) - 6 * i, by omega⟩
  refine ⟨q, by omega, hq, by omega, by omega, ?_⟩
  rcases mr_min sx ux (6 * i + 3 * z) (wy - 1) with hm | hm
  · rw [hq] at hm
    refine Or.inl ⟨hm, ?_⟩
    unfold cl_leave
    rw [if_pos]
    rw [hcnt]
    have : ¬ ∀ a ∈ (List.range wy).map (fun r => 3 * z + r), decide (¬ sx (6 * i + a) = 0) = true := by
      intro hall
      have := hall q (List.mem_map.mpr ⟨q - 3 * z, List.mem_range.mpr (by omega), by omega⟩)
      exact of_decide_eq_true this hm
    have hl := List.length_filter_le (fun q => decide (¬ sx (6 * i + q) = 0)) ((List.range wy).map (fun r => 3 * z + r))
    have hne : (((List.range wy).map (fun r => 3 * z + r)).filter (fun q => decide (¬ sx (6 * i + q) = 0))).length ≠ ((List.range wy).map (fun r => 3 * z + r)).length := fun e => this (List.length_filter_eq_length_iff.mp e)
    rw [List.length_map, List.length_range] at hl hne
    omega
  · rw [hq] at hm
    have hsq := (hm (6 * i + q) (by omega) (by omega)).1
    refine Or.inr ⟨hsq, ?_⟩
    have hall : ∀ a ∈ (List.range wy).map (fun r => 3 * z + r), decide (¬ sx (6 * i + a) = 0) = true := by
      intro a ha
      obtain ⟨r, hr, rfl⟩ := List.mem_map.mp ha
      rw [List.mem_range] at hr
      exact decide_eq_true (hm (6 * i + (3 * z + r)) (by omega) (by omega)).1
    have hlen := List.length_filter_eq_length_iff.mpr hall
    rw [List.length_map, List.length_range] at hlen
    unfold cl_leave
    rw [if_neg (by rw [hcnt, hlen]; omega)]
    obtain ⟨m1, m2⟩ := cl_scan_m (kst K) (kua K) z 4
    cases hc : (cl_scan (kst K) (kua K) z 4).2 with
    | none =>
      obtain ⟨b1, b2, b3, b4, b5, -⟩ := h3 q (by omega) hsq
      have := m1 hc (ln q / 2) (by omega)
      rw [show z + 2 * (ln q / 2) = ln q by omega, b5] at this
      exact absurd this hsq
    | some o =>
      obtain ⟨o1, o2⟩ := m2 o hc
      obtain ⟨r, hr, ho⟩ := cl_scan_mod (kst K) (kua K) z 4 o hc
      obtain ⟨q0, hq0, hs0, hl0⟩ := h4 o (by omega) o1
      obtain ⟨b1, b2, b3, b4, b5, b6, b7, b8, b9, b10⟩ := h3 q (by omega) hsq
      obtain ⟨d1, d2, d3, d4, d5, d6, d7, d8, d9, d10⟩ := h3 q0 hq0 hs0
      by_cases e : q = q0
      · rw [e, hl0]
      · obtain ⟨c1, c2⟩ := h6 q q0 (by omega) hq0 hsq hs0 e
        have f1 := (hm (6 * i + q0) (by omega) (by omega)).2
        rw [d7, b7, nI_ltI (by omega) (by omega)] at f1
        have f2 := o2 (ln q / 2) (by omega) (by rw [show z + 2 * (ln q / 2) = ln q by omega, b5]; exact hsq)
        rw [show z + 2 * (ln q / 2) = ln q by omega, ← hl0, b9, d9, nI_ltI (by omega) (by omega)] at f2
        exact absurd (c1.mp (by omega)) f2
