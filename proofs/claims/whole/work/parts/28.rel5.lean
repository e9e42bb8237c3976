/-! Steps that change one core. -/
theorem cs_new_eq {f g : Nat → Int32} {x : Int32} : ∀ k, (∀ q, q < k → f q = g q) → cs_new f x k = cs_new g x k := by
  intro k
  induction k with
  | zero => intro _; rfl
  | succ k ih => intro h; rw [cs_new, cs_new, h k (by omega), ih (fun q hq => h q (by omega))]
theorem cs_new_lt {f : Nat → Int32} {x : Int32} : ∀ k q, cs_new f x k = some q → q < k := by
  intro k
  induction k with
  | zero => intro q h; cases h
  | succ k ih =>
    intro q h
    rw [cs_new] at h
    by_cases e : f k = x
    · rw [if_pos e] at h; cases h; omega
    · rw [if_neg e] at h; have := ih q h; omega
theorem upd_id {f : Nat → Int32} {k : Nat} {v : Int32} (h : f k = v) : upd f k v = f := by
  funext j
  by_cases e : j = k
  · subst e; rw [pk_us, h]
  · rw [pk_un e]
theorem CC_K {wy i b C U : Nat} {K K' : KS} {sx li ux co : Nat → Int32} {ln u v : Nat → Nat} (h : CC wy i b K sx li ux co C ln u v U) (k1 : kst K' = kst K) (k2 : kua K' = kua K) (k3 : kwd K' = kwd K) (k4 : kus K' = kus K) : CC wy i b K' sx li ux co C ln u v U := by
  unfold CC at h ⊢
  rw [k1, k2, k3, k4]
  exact h
/-- a word of a held line is put: written, modified, used -/
theorem CC_put {wy i b C U j q : Nat} {x : Int32} {K K' : KS} {sx li ux co : Nat → Int32} {ln u v : Nat → Nat} (h : CC wy i b K sx li ux co C ln u v U) (hb : b + 1 < 2 ^ 31) (hCb : C ≤ b) (hq : q < 6) (hs : ¬ sx (6 * i + q) = 0) (hl : ln q = j / 4) (hj : j < 32)
    (k1 : kst K' = upd (kst K) (j / 4) (nI 3)) (k2 : kua K' = upd (kua K) (j / 4) (kus K + nI 1)) (k3 : kwd K' = upd (kwd K) j x) (k4 : kus K' = kus K + nI 1) :
    CCe wy i (b + 1) K' (upd sx (6 * i + q) (nI 3)) li (upd ux (6 * i + q) (nI C + nI 1)) (upd co (4 * (6 * i + q) + j % 4) x) (C + 1) := by
  have a1 := CC_word (K' := (kst K, kua K, upd (kwd K) j x, K.2.2.2)) (x := x) h hq hs hl hj rfl rfl rfl rfl
  have a2 := CC_state (K' := (upd (kst K) (j / 4) (nI 3), kua K, upd (kwd K) j x, K.2.2.2)) (z := nI 3) a1 hq hs hl (by decide) rfl rfl rfl rfl
  exact ⟨_, _, _, _, CC_use a2 hb hCb hq (by rw [pk_us]; decide) hl k1 k2 k3 k4⟩
/-- the buffer or the request of one core changes -/
theorem Rel_buf {n wy b sl tu i : Nat} {S : Nat → KS} {K' : KS} {mw : Nat → Int32} {wb sv iv ug ck : Int32} {wo li sx ux co sn da va la ki wa op ct sn' da' va' la' ki' wa' op' : Nat → Int32} (h : Rel n wy b S mw wb sl sv iv ug wo li sx ux co ck sn da va la ki wa op tu ct) (hb : b < 2 ^ 31) (hi : i < n)
    (k1 : kst K' = kst (S i)) (k2 : kua K' = kua (S i)) (k3 : kwd K' = kwd (S i)) (k4 : kus K' = kus (S i)) (hdm : Dom K')
    (hbb : BB i K' sn' da' va' la' ki' wa' op') (g1 : ∀ j, j ≠ i → sn' j = sn j) (g2 : ∀ p, ¬ (4 * i ≤ p ∧ p < 4 * i + 4) → da' p = da p) (g3 : ∀ p, ¬ (4 * i ≤ p ∧ p < 4 * i + 4) → va' p = va p) (g4 : ∀ j, j ≠ i → la' j = la j) (g5 : ∀ j, j ≠ i → ki' j = ki j) (g6 : ∀ j, j ≠ i → wa' j = wa j) (g7 : ∀ j, j ≠ i → op' j = op j) :
    Rel n wy b (va_up S i K') mw wb sl sv iv ug wo li sx ux co ck sn' da' va' la' ki' wa' op' tu ct := by
  have h0 := h
  obtain ⟨h1, h2, ⟨C, c1, c2, c3⟩, h4, h5, h6⟩ := h
  obtain ⟨ln, u, v, U, hc⟩ := c3 i hi
  refine Rel_up h0 hi (Nat.le_refl _) h1 c1 c2 (fun C2 e1 e2 => ?_) ⟨ln, u, v, U, CC_K hc k1 k2 k3 k4⟩ (fun _ _ => rfl) (fun _ _ => rfl) (fun _ _ => rfl) (fun _ _ => rfl) hbb g1 g2 g3 g4 g5 g6 g7 hdm (Coh_up h6 (fun L _ hs => by rw [k1] at hs; exact hs) (fun L _ hs => by rw [k1]; exact hs))
  exact Nat.le_of_eq ((nI_eq (by omega) (by omega)).mp (e1.symm.trans c1))
/-- a cache and perhaps the buffer of one core change; the clock goes on by one -/
theorem Rel_cac {n wy b sl tu i C : Nat} {S : Nat → KS} {K' : KS} {mw : Nat → Int32} {wb sv iv ug : Int32} {wo li sx ux co sn da va la ki wa op ct sx' ux' co' sn' da' va' la' ki' wa' op' : Nat → Int32} (h : Rel n wy b S mw wb sl sv iv ug wo li sx ux co (nI C) sn da va la ki wa op tu ct) (hb : b + 1 < 2 ^ 31) (hCb : C ≤ b) (hi : i < n)
    (hcc : CCe wy i (b + 1) K' sx' li ux' co' (C + 1)) (f1 : ∀ p, ¬ (6 * i ≤ p ∧ p < 6 * i + 6) → sx' p = sx p) (f3 : ∀ p, ¬ (6 * i ≤ p ∧ p < 6 * i + 6) → ux' p = ux p) (f4 : ∀ p, ¬ (24 * i ≤ p ∧ p < 24 * i + 24) → co' p = co p)
    (hbb : BB i K' sn' da' va' la' ki' wa' op') (g1 : ∀ j, j ≠ i → sn' j = sn j) (g2 : ∀ p, ¬ (4 * i ≤ p ∧ p < 4 * i + 4) → da' p = da p) (g3 : ∀ p, ¬ (4 * i ≤ p ∧ p < 4 * i + 4) → va' p = va p) (g4 : ∀ j, j ≠ i → la' j = la j) (g5 : ∀ j, j ≠ i → ki' j = ki j) (g6 : ∀ j, j ≠ i → wa' j = wa j) (g7 : ∀ j, j ≠ i → op' j = op j)
    (hd : Dom K') (hco : Coh n (va_up S i K')) :
    Rel n wy (b + 1) (va_up S i K') mw wb sl sv iv ug wo li sx' ux' co' (nI C + nI 1) sn' da' va' la' ki' wa' op' tu ct := by
  refine Rel_up h hi (by omega) h.1 (nI_add C 1) (by omega) (fun C2 e1 e2 => ?_) hcc f1 (fun _ _ => rfl) f3 f4 hbb g1 g2 g3 g4 g5 g6 g7 hd hco
  have := (nI_eq (by omega) (by omega)).mp e1
  omega
theorem Dom_put {K K' : KS} {L : Nat} (h : Dom K) (hr : krk K' = nI 0) (k1 : kst K' = upd (kst K) L (nI 3)) : Dom K' := by
  refine ⟨fun M hM => ?_, fun e => by rw [hr] at e; exact absurd e (by decide)⟩
  by_cases e : M = L
  · subst e; rw [k1, pk_us]; exact Or.inr (Or.inr (Or.inr rfl))
  · rw [k1, pk_un e]; exact h.1 M hM
theorem Coh_put {n i L : Nat} {S : Nat → KS} {K' : KS} (h : Coh n S) (ho : kst (S i) L = nI 2 ∨ kst (S i) L = nI 3) (k1 : kst K' = upd (kst (S i)) L (nI 3)) : Coh n (va_up S i K') := by
  refine Coh_up h (fun M hM hs => ?_) (fun M hM hs => ?_)
  · by_cases e : M = L
    · subst e; exact ho
    · rw [k1, pk_un e] at hs; exact hs
  · by_cases e : M = L
    · subst e
      rcases ho with ho | ho <;> rw [ho] at hs <;> exact absurd hs (by decide)
    · rw [k1, pk_un e]; exact hs
/-- a line goes back to the memory on both sides alike -/
theorem Memo_wb {wy i b C U L q : Nat} {K : KS} {sx li ux co wo ct mw : Nat → Int32} {wb sv iv ug : Int32} {ln u v : Nat → Nat} (h : CC wy i b K sx li ux co C ln u v U) (hm : Memo mw wb sv iv ug wo ct) (hq : q < 6) (hs : ¬ sx (6 * i + q) = 0) (hl : ln q = L) :
    Memo (cw_mem (kst K) (kwd K) mw L) (cw_cnt (kst K) wb L) sv iv ug (mwb sx li co wo (6 * i + q)) (mct sx ct (6 * i + q)) := by
  obtain ⟨m1, m2, m3, m4, m5⟩ := hm
  obtain ⟨a1, a2, a3, a4, a5, a6, -⟩ := h.2.2.1 q hq hs
  subst hl
  unfold cw_mem cw_cnt mwb mct
  by_cases e : sx (6 * i + q) = nI 3
  · rw [if_pos e, if_pos e, if_pos (a5.trans e), if_pos (a5.trans e)]
    refine ⟨fun a ha => ?_, ?_, ?_, ?_, ?_⟩
    · rw [a4, nI_clamp (by omega)]
      by_cases e2 : 4 * ln q ≤ a ∧ a < 4 * ln q + 4
      · rw [pk_cpy_in e2.1 e2.2, pk_cpy_in (by omega) (by omega), a6 (a - 4 * ln q) (by omega)]
        congr 1
        omega
      · rw [pk_cpy_out (by omega), pk_cpy_out (by omega)]
        exact m1 a ha
    · rw [pk_un (by decide)]; exact m2
    · rw [pk_us, m3]
    · rw [pk_un (by decide)]; exact m4
    · rw [pk_un (by decide)]; exact m5
  · rw [if_neg e, if_neg e, if_neg (fun z => e (a5.symm.trans z)), if_neg (fun z => e (a5.symm.trans z))]
    exact ⟨m1, m2, m3, m4, m5⟩
