/-! The bus: the other cores' lines, the fill. -/
theorem ad0 (x : Int32) : x + nI 0 = x := by
  show x + 0 = x
  exact Int32.add_zero x
theorem Memo_c2 {mw wo ct : Nat → Int32} {wb sv iv iv' ug : Int32} (h : Memo mw wb sv iv ug wo ct) (d : Int32) (e : iv + d = iv') : Memo mw wb sv iv' ug wo (upd ct 2 (ct 2 + d)) := by
  obtain ⟨m1, m2, m3, m4, m5⟩ := h
  refine ⟨m1, ?_, ?_, ?_, ?_⟩
  · rw [pk_un (by decide)]; exact m2
  · rw [pk_un (by decide)]; exact m3
  · rw [pk_us, m4]; exact e
  · rw [pk_un (by decide)]; exact m5
theorem Memo_c3 {mw wo ct : Nat → Int32} {wb sv iv ug : Int32} (h : Memo mw wb sv iv ug wo ct) : Memo mw wb sv iv (ug + nI 1) wo (upd ct 3 (ct 3 + nI 1)) := by
  obtain ⟨m1, m2, m3, m4, m5⟩ := h
  refine ⟨m1, ?_, ?_, ?_, ?_⟩
  · rw [pk_un (by decide)]; exact m2
  · rw [pk_un (by decide)]; exact m3
  · rw [pk_un (by decide)]; exact m4
  · rw [pk_us, m5]
theorem Memo_c0 {mw wo ct : Nat → Int32} {wb sv iv ug : Int32} (h : Memo mw wb sv iv ug wo ct) : Memo mw wb (sv + nI 1) iv ug wo (upd ct 0 (ct 0 + nI 1)) := by
  obtain ⟨m1, m2, m3, m4, m5⟩ := h
  refine ⟨m1, ?_, ?_, ?_, ?_⟩
  · rw [pk_us, m2]
  · rw [pk_un (by decide)]; exact m3
  · rw [pk_un (by decide)]; exact m4
  · rw [pk_un (by decide)]; exact m5
theorem upd_upd {f : Nat → Int32} {k : Nat} {v w : Int32} : upd (upd f k v) k w = upd f k w := by
  funext j
  by_cases e : j = k
  · subst e; rw [pk_us, pk_us]
  · rw [pk_un e, pk_un e, pk_un e]
/-- the other cores, one after the other: shared -/
theorem sn_sh {n wy b C i L : Nat} {S : Nat → KS} {mw : Nat → Int32} {wb sv iv ug : Int32} {wo li sx ux co ct : Nat → Int32} (hn : n ≤ 4) (hL : L < 8) (hm : Memo mw wb sv iv ug wo ct) (hc : ∀ k, k < n → CCe wy k b (S k) sx li ux co C) : ∀ t, t ≤ n →
    (sh i L S mw wb t).2.2.2 = (ms li co i (nI L) (nI 1) (nI 0) sx wo ct t).2.2.2 ∧ Memo (sh i L S mw wb t).2.1 (sh i L S mw wb t).2.2.1 sv iv ug (ms li co i (nI L) (nI 1) (nI 0) sx wo ct t).2.1 (ms li co i (nI L) (nI 1) (nI 0) sx wo ct t).2.2.1 ∧ (∀ k, k < n → CCe wy k b ((sh i L S mw wb t).1 k) (ms li co i (nI L) (nI 1) (nI 0) sx wo ct t).1 li ux co C) ∧ (∀ k, ((sh i L S mw wb t).1 k).2 = (S k).2) ∧ (∀ k M, M ≠ L → kst ((sh i L S mw wb t).1 k) M = kst (S k) M) ∧ (∀ k, (t ≤ k ∨ k = i) → (sh i L S mw wb t).1 k = S k) ∧ (∀ k, k < t → k ≠ i → (kst ((sh i L S mw wb t).1 k) L = nI 0 ∨ kst ((sh i L S mw wb t).1 k) L = nI 1)) ∧ (∀ k M, kst (S k) M = nI 0 → kst ((sh i L S mw wb t).1 k) M = nI 0) ∧ ((sh i L S mw wb t).2.2.2 = nI 0 → ∀ k, k < t → k ≠ i → kst ((sh i L S mw wb t).1 k) L = nI 0) := by
  intro t
  induction t with
  | zero => intro _; exact ⟨rfl, hm, hc, fun _ => rfl, fun _ _ _ => rfl, fun _ _ => rfl, fun k hk => absurd hk (by omega), fun _ _ h => h, fun _ k hk => absurd hk (by omega)⟩
  | succ t ih =>
    intro ht
    obtain ⟨i1, i2, i3, i4, i5, i6, i7, i9, i8⟩ := ih (by omega)
    by_cases e : t = i
    · have e1 : sh i L S mw wb (t + 1) = sh i L S mw wb t := by rw [sh, if_pos e]
      have e2 : ms li co i (nI L) (nI 1) (nI 0) sx wo ct (t + 1) = ms li co i (nI L) (nI 1) (nI 0) sx wo ct t := by rw [ms, if_pos e]
      rw [e1, e2]
      exact ⟨i1, i2, i3, i4, i5, fun k hk => i6 k (by omega), fun k hk hki => i7 k (by omega) hki, i9, fun hz k hk hki => i8 hz k (by omega) hki⟩
    · have hS : (sh i L S mw wb t).1 t = S t := i6 t (Or.inl (Nat.le_refl _))
      obtain ⟨ln, u, v, U, hct⟩ := i3 t (by omega)
      by_cases h0 : kst ((sh i L S mw wb t).1 t) L = 0
      · have e1 : sh i L S mw wb (t + 1) = sh i L S mw wb t := by rw [sh, if_neg e, if_pos h0]
        have e2 : ms li co i (nI L) (nI 1) (nI 0) sx wo ct (t + 1) = ms li co i (nI L) (nI 1) (nI 0) sx wo ct t := by rw [ms, if_neg e, CC_n hct hL h0]
        rw [e1, e2]
        refine ⟨i1, i2, i3, i4, i5, fun k hk => i6 k (by omega), fun k hk hki => ?_, i9, fun hz k hk hki => ?_⟩
        · by_cases ek : k = t
          · subst ek; exact Or.inl h0
          · exact i7 k (by omega) hki
        · by_cases ek : k = t
          · subst ek; exact h0
          · exact i8 hz k (by omega) hki
      · obtain ⟨q, q1, q2, q3, q4, q5⟩ := CC_s hct hL h0
        have e1 : sh i L S mw wb (t + 1) = (va_up (sh i L S mw wb t).1 t (upd (kst ((sh i L S mw wb t).1 t)) L (nI 1), ((sh i L S mw wb t).1 t).2), cw_mem (kst ((sh i L S mw wb t).1 t)) (kwd ((sh i L S mw wb t).1 t)) (sh i L S mw wb t).2.1 L, cw_cnt (kst ((sh i L S mw wb t).1 t)) (sh i L S mw wb t).2.2.1 L, nI 1) := by rw [sh, if_neg e, if_neg h0]
        have e2 : ms li co i (nI L) (nI 1) (nI 0) sx wo ct (t + 1) = (upd (ms li co i (nI L) (nI 1) (nI 0) sx wo ct t).1 (6 * t + q) (nI 1), mwb (ms li co i (nI L) (nI 1) (nI 0) sx wo ct t).1 li co (ms li co i (nI L) (nI 1) (nI 0) sx wo ct t).2.1 (6 * t + q), upd (mct (ms li co i (nI L) (nI 1) (nI 0) sx wo ct t).1 (ms li co i (nI L) (nI 1) (nI 0) sx wo ct t).2.2.1 (6 * t + q)) 2 (mct (ms li co i (nI L) (nI 1) (nI 0) sx wo ct t).1 (ms li co i (nI L) (nI 1) (nI 0) sx wo ct t).2.2.1 (6 * t + q) 2 + nI 0), nI 1) := by rw [ms, if_neg e, q2]
        rw [e1, e2]
        refine ⟨rfl, Memo_c2 (Memo_wb hct i2 q1 q3 q4) (nI 0) (ad0 _), fun k hk => ?_, fun k => ?_, fun k M hM => ?_, fun k hk => ?_, fun k hk hki => ?_, fun k M h => ?_, fun hz => absurd (show nI 1 = nI 0 from hz) (by decide)⟩
        · by_cases ek : k = t
          · subst ek
            dsimp only
            rw [va_up_self]
            exact ⟨ln, u, v, U, CC_state hct q1 q3 q4 (by decide) rfl rfl rfl rfl⟩
          · dsimp only
            rw [va_up_ne _ _ ek]
            obtain ⟨ln2, u2, v2, U2, hc2⟩ := i3 k hk
            exact ⟨ln2, u2, v2, U2, CC_fr hc2 (Nat.le_refl _) (Nat.le_refl _) (fun x hx => pk_un (by omega)) (fun _ _ => rfl) (fun _ _ => rfl) (fun _ _ _ _ => rfl)⟩
        · by_cases ek : k = t
          · subst ek; dsimp only; rw [va_up_self]; exact i4 k
          · dsimp only; rw [va_up_ne _ _ ek]; exact i4 k
        · by_cases ek : k = t
          · subst ek; dsimp only; rw [va_up_self]; exact (pk_un hM).trans (i5 k M hM)
          · dsimp only; rw [va_up_ne _ _ ek]; exact i5 k M hM
        · have ek : k ≠ t := by omega
          dsimp only
          rw [va_up_ne _ _ ek]
          exact i6 k (by omega)
        · by_cases ek : k = t
          · subst ek; dsimp only; rw [va_up_self]; exact Or.inr pk_us
          · dsimp only; rw [va_up_ne _ _ ek]; exact i7 k (by omega) hki
        · by_cases ek : k = t
          · subst ek; dsimp only; rw [va_up_self]
            by_cases eM : M = L
            · rw [eM] at h; exact absurd (i9 k L h) h0
            · exact (pk_un eM).trans (i9 k M h)
          · dsimp only; rw [va_up_ne _ _ ek]; exact i9 k M h
/-- the other cores, one after the other: invalid -/
theorem sn_dr {n wy b C i L : Nat} {S : Nat → KS} {mw : Nat → Int32} {wb sv iv ug : Int32} {wo li sx ux co ct : Nat → Int32} (hn : n ≤ 4) (hL : L < 8) (hm : Memo mw wb sv iv ug wo ct) (hc : ∀ k, k < n → CCe wy k b (S k) sx li ux co C) : ∀ t, t ≤ n →
     Memo (dr i L S mw wb iv t).2.1 (dr i L S mw wb iv t).2.2.1 sv (dr i L S mw wb iv t).2.2.2 ug (ms li co i (nI L) (nI 0) (nI 1) sx wo ct t).2.1 (ms li co i (nI L) (nI 0) (nI 1) sx wo ct t).2.2.1 ∧ (∀ k, k < n → CCe wy k b ((dr i L S mw wb iv t).1 k) (ms li co i (nI L) (nI 0) (nI 1) sx wo ct t).1 li ux co C) ∧ (∀ k, ((dr i L S mw wb iv t).1 k).2 = (S k).2) ∧ (∀ k M, M ≠ L → kst ((dr i L S mw wb iv t).1 k) M = kst (S k) M) ∧ (∀ k, (t ≤ k ∨ k = i) → (dr i L S mw wb iv t).1 k = S k) ∧ (∀ k, k < t → k ≠ i → kst ((dr i L S mw wb iv t).1 k) L = nI 0) ∧ (∀ k M, kst (S k) M = nI 0 → kst ((dr i L S mw wb iv t).1 k) M = nI 0)  := by
  intro t
  induction t with
  | zero => intro _; exact ⟨hm, hc, fun _ => rfl, fun _ _ _ => rfl, fun _ _ => rfl, fun k hk => absurd hk (by omega), fun _ _ h => h⟩
  | succ t ih =>
    intro ht
    obtain ⟨i2, i3, i4, i5, i6, i7, i9⟩ := ih (by omega)
    by_cases e : t = i
    · have e1 : dr i L S mw wb iv (t + 1) = dr i L S mw wb iv t := by rw [dr, if_pos e]
      have e2 : ms li co i (nI L) (nI 0) (nI 1) sx wo ct (t + 1) = ms li co i (nI L) (nI 0) (nI 1) sx wo ct t := by rw [ms, if_pos e]
      rw [e1, e2]
      exact ⟨i2, i3, i4, i5, fun k hk => i6 k (by omega), fun k hk hki => i7 k (by omega) hki, i9⟩
    · have hS : (dr i L S mw wb iv t).1 t = S t := i6 t (Or.inl (Nat.le_refl _))
      obtain ⟨ln, u, v, U, hct⟩ := i3 t (by omega)
      by_cases h0 : kst ((dr i L S mw wb iv t).1 t) L = 0
      · have e1 : dr i L S mw wb iv (t + 1) = dr i L S mw wb iv t := by rw [dr, if_neg e, if_pos h0]
        have e2 : ms li co i (nI L) (nI 0) (nI 1) sx wo ct (t + 1) = ms li co i (nI L) (nI 0) (nI 1) sx wo ct t := by rw [ms, if_neg e, CC_n hct hL h0]
        rw [e1, e2]
        refine ⟨i2, i3, i4, i5, fun k hk => i6 k (by omega), fun k hk hki => ?_, i9⟩
        · by_cases ek : k = t
          · subst ek; exact h0
          · exact i7 k (by omega) hki
      · obtain ⟨q, q1, q2, q3, q4, q5⟩ := CC_s hct hL h0
        have e1 : dr i L S mw wb iv (t + 1) = (va_up (dr i L S mw wb iv t).1 t (upd (kst ((dr i L S mw wb iv t).1 t)) L (nI 0), ((dr i L S mw wb iv t).1 t).2), cw_mem (kst ((dr i L S mw wb iv t).1 t)) (kwd ((dr i L S mw wb iv t).1 t)) (dr i L S mw wb iv t).2.1 L, cw_cnt (kst ((dr i L S mw wb iv t).1 t)) (dr i L S mw wb iv t).2.2.1 L, (dr i L S mw wb iv t).2.2.2 + nI 1) := by rw [dr, if_neg e, if_neg h0]
        have e2 : ms li co i (nI L) (nI 0) (nI 1) sx wo ct (t + 1) = (upd (ms li co i (nI L) (nI 0) (nI 1) sx wo ct t).1 (6 * t + q) (nI 0), mwb (ms li co i (nI L) (nI 0) (nI 1) sx wo ct t).1 li co (ms li co i (nI L) (nI 0) (nI 1) sx wo ct t).2.1 (6 * t + q), upd (mct (ms li co i (nI L) (nI 0) (nI 1) sx wo ct t).1 (ms li co i (nI L) (nI 0) (nI 1) sx wo ct t).2.2.1 (6 * t + q)) 2 (mct (ms li co i (nI L) (nI 0) (nI 1) sx wo ct t).1 (ms li co i (nI L) (nI 0) (nI 1) sx wo ct t).2.2.1 (6 * t + q) 2 + nI 1), nI 1) := by rw [ms, if_neg e, q2]
        rw [e1, e2]
        refine ⟨Memo_c2 (Memo_wb hct i2 q1 q3 q4) (nI 1) rfl, fun k hk => ?_, fun k => ?_, fun k M hM => ?_, fun k hk => ?_, fun k hk hki => ?_, fun k M h => ?_⟩
        · by_cases ek : k = t
          · subst ek
            dsimp only
            rw [va_up_self]
            exact ⟨ln, u, v, U, CC_drop hct q1 q3 q4 rfl rfl rfl rfl⟩
          · dsimp only
            rw [va_up_ne _ _ ek]
            obtain ⟨ln2, u2, v2, U2, hc2⟩ := i3 k hk
            exact ⟨ln2, u2, v2, U2, CC_fr hc2 (Nat.le_refl _) (Nat.le_refl _) (fun x hx => pk_un (by omega)) (fun _ _ => rfl) (fun _ _ => rfl) (fun _ _ _ _ => rfl)⟩
        · by_cases ek : k = t
          · subst ek; dsimp only; rw [va_up_self]; exact i4 k
          · dsimp only; rw [va_up_ne _ _ ek]; exact i4 k
        · by_cases ek : k = t
          · subst ek; dsimp only; rw [va_up_self]; exact (pk_un hM).trans (i5 k M hM)
          · dsimp only; rw [va_up_ne _ _ ek]; exact i5 k M hM
        · have ek : k ≠ t := by omega
          dsimp only
          rw [va_up_ne _ _ ek]
          exact i6 k (by omega)
        · by_cases ek : k = t
          · subst ek; dsimp only; rw [va_up_self]; exact pk_us
          · dsimp only; rw [va_up_ne _ _ ek]; exact i7 k (by omega) hki
        · by_cases ek : k = t
          · subst ek; dsimp only; rw [va_up_self]
            by_cases eM : M = L
            · rw [eM] at h; exact absurd (i9 k L h) h0
            · exact (pk_un eM).trans (i9 k M h)
          · dsimp only; rw [va_up_ne _ _ ek]; exact i9 k M h
/-- a line that isn't held comes to its place; the one that lay there goes back -/
theorem CC_fill {wy i b C U L : Nat} {z : Int32} {K K' : KS} {sx li ux co wo ct mw : Nat → Int32} {wb sv iv ug : Int32} {ln u v : Nat → Nat} (h : CC wy i b K sx li ux co C ln u v U) (hm : Memo mw wb sv iv ug wo ct) (hw0 : 1 ≤ wy) (hw : wy < 4) (hb : b + 1 < 2 ^ 31) (hCb : C ≤ b) (hL : L < 8) (h0 : kst K L = 0) (hz : ¬ z = 0)
    (k1 : kst K' = upd (cf_st (kst K) (cl_leave (kst K) (kua K) wy (L % 2))) L z) (k2 : kua K' = upd (kua K) L (kus K + nI 1)) (k3 : kwd K' = va_cpy (cf_mem (kst K) (kwd K) mw (cl_leave (kst K) (kua K) wy (L % 2))) (kwd K) (L * 4) (L * 4) 4) (k4 : kus K' = kus K + nI 1) :
    ∃ q, q < 6 ∧ mr sx ux (6 * i + 3 * (L % 2)) (wy - 1) = 6 * i + q ∧ (sx (6 * i + q) = nI 3 → ∃ L0, L0 < 8 ∧ li (6 * i + q) = nI L0) ∧
      Memo (cf_mem (kst K) (kwd K) mw (cl_leave (kst K) (kua K) wy (L % 2))) (cf_cnt (kst K) wb (cl_leave (kst K) (kua K) wy (L % 2))) sv iv ug (mwb sx li co wo (6 * i + q)) (mct sx ct (6 * i + q)) ∧
      (∃ ln' u' v' U', ln' q = L ∧ CC wy i (b + 1) K' (upd sx (6 * i + q) z) (upd li (6 * i + q) (nI L)) (upd ux (6 * i + q) (nI C + nI 1)) (va_cpy (mwb sx li co wo (6 * i + q)) co (4 * L) (4 * (6 * i + q)) 4) (C + 1) ln' u' v' U') ∧
      (∀ M, M ≠ L → kst K' M = kst K M ∨ kst K' M = nI 0) ∧ kst K' L = z := by
  obtain ⟨q, q1, q2, q3, q4, q5⟩ := CC_room h (z := L % 2) (by omega) hw0 hw (by omega) hCb
  refine ⟨q, q1, q2, fun hs => ?_, ?_⟩
  · obtain ⟨a1, a2, a3, a4, -⟩ := h.2.2.1 q q1 (by rw [hs]; decide)
    exact ⟨ln q, a2, a4⟩
  · rcases q5 with ⟨s1, s2⟩ | ⟨s1, s2⟩
    · rw [s2] at k1 k3 ⊢
      have n3 : ¬ sx (6 * i + q) = nI 3 := by rw [s1]; decide
      have e1 : mwb sx li co wo (6 * i + q) = wo := if_neg n3
      have e2 : mct sx ct (6 * i + q) = ct := if_neg n3
      rw [e1, e2]
      exact ⟨hm, ⟨(fun x => if x = q then L else ln x), _, _, _, if_pos rfl, CC_new h hb hCb q1 s1 q4 hL (by omega) h0 hz hm.1 k1 k2 k3 k4⟩, fun M hM => Or.inl (by rw [k1, pk_un hM]; rfl), by rw [k1, pk_us]⟩
    · rw [s2] at k1 k3 ⊢
      have hmw := Memo_wb h hm q1 s1 rfl
      obtain ⟨a1, a2, a3, a4, a5, -⟩ := h.2.2.1 q q1 s1
      have hne : L ≠ ln q := fun z2 => s1 (by rw [← a5, ← z2]; exact h0)
      have hd := CC_drop (K' := (upd (kst K) (ln q) (nI 0), K.2)) h q1 s1 rfl rfl rfl rfl rfl
      have hnw := CC_new (K' := K') (z := z) (w := mwb sx li co wo (6 * i + q)) (m := cw_mem (kst K) (kwd K) mw (ln q)) hd hb hCb q1 pk_us q4 hL (by omega) ((pk_un hne).trans h0) hz hmw.1 k1 k2 k3 k4
      rw [upd_upd] at hnw
      refine ⟨hmw, ⟨(fun x => if x = q then L else ln x), _, _, _, if_pos rfl, hnw⟩, fun M hM => ?_, by rw [k1, pk_us]⟩
      by_cases e : M = ln q
      · subst e; exact Or.inr (by rw [k1, pk_un hM]; exact pk_us)
      · exact Or.inl (by rw [k1, pk_un hM]; exact pk_un e)
