/-! The relation between the class's state and the reference's: caches. -/
/-- core i's cache K beside the places 6i .. 6i+5; C the reference's clock, b bounds the clocks -/
def CC (wy i b : Nat) (K : KS) (sx li ux co : Nat → Int32) (C : Nat) (ln u v : Nat → Nat) (U : Nat) : Prop :=
  kus K = nI U ∧ U ≤ b ∧
  (∀ q, q < 6 → ¬ sx (6 * i + q) = 0 → q % 3 < wy ∧ ln q < 8 ∧ ln q % 2 = q / 3 ∧ li (6 * i + q) = nI (ln q) ∧ kst K (ln q) = sx (6 * i + q) ∧ (∀ k, k < 4 → co (4 * (6 * i + q) + k) = kwd K (4 * ln q + k)) ∧ ux (6 * i + q) = nI (u q) ∧ u q ≤ C ∧ kua K (ln q) = nI (v (ln q)) ∧ v (ln q) ≤ U) ∧
  (∀ L, L < 8 → ¬ kst K L = 0 → ∃ q, q < 6 ∧ ¬ sx (6 * i + q) = 0 ∧ ln q = L) ∧
  (∀ q q', q < 6 → q' < 6 → ¬ sx (6 * i + q) = 0 → ¬ sx (6 * i + q') = 0 → ln q = ln q' → q = q') ∧
  (∀ q q', q < 6 → q' < 6 → ¬ sx (6 * i + q) = 0 → ¬ sx (6 * i + q') = 0 → q ≠ q' → (u q < u q' ↔ v (ln q) < v (ln q')) ∧ u q ≠ u q')
def CCe (wy i b : Nat) (K : KS) (sx li ux co : Nat → Int32) (C : Nat) : Prop := ∃ (ln u v : Nat → Nat) (U : Nat), CC wy i b K sx li ux co C ln u v U
theorem mf_none (sx li : Nat → Int32) (c : Nat) (x : Int32) : ∀ t, mf sx li c x t = none → ∀ q, q < t → ¬ sx (6 * c + q) = 0 → ¬ li (6 * c + q) = x := by
  intro t
  induction t with
  | zero => intro _ q hq; omega
  | succ t ih =>
    intro h q hq h1 h2
    rw [mf] at h
    by_cases ht : q = t
    · subst ht
      rw [if_neg h1, if_pos h2] at h
      cases h
    · by_cases h3 : sx (6 * c + t) = 0
      · rw [if_pos h3] at h
        exact ih h q (by omega) h1 h2
      · rw [if_neg h3] at h
        by_cases h4 : li (6 * c + t) = x
        · rw [if_pos h4] at h; cases h
        · rw [if_neg h4] at h
          exact ih h q (by omega) h1 h2
/-- a line that isn't held isn't found -/
theorem CC_n {wy i b C U L : Nat} {K : KS} {sx li ux co : Nat → Int32} {ln u v : Nat → Nat} (h : CC wy i b K sx li ux co C ln u v U) (hL : L < 8) (h0 : kst K L = 0) : mf sx li i (nI L) 6 = none := by
  cases hf : mf sx li i (nI L) 6 with
  | none => rfl
  | some p =>
    obtain ⟨h1, h2, h3, h4⟩ := mf_spec sx li i (nI L) 6 p hf
    obtain ⟨q, rfl⟩ : ∃ q, p = 6 * i + q := ⟨p - 6 * i, by omega⟩
    obtain ⟨a1, a2, a3, a4, a5, -⟩ := h.2.2.1 q (by omega) h3
    have : ln q = L := (nI_eq (by omega) (by omega)).mp (a4.symm.trans h4)
    rw [this, h0] at a5
    exact absurd a5.symm h3
/-- a line that is held is found -/
theorem CC_s {wy i b C U L : Nat} {K : KS} {sx li ux co : Nat → Int32} {ln u v : Nat → Nat} (h : CC wy i b K sx li ux co C ln u v U) (hL : L < 8) (h0 : ¬ kst K L = 0) : ∃ q, q < 6 ∧ mf sx li i (nI L) 6 = some (6 * i + q) ∧ ¬ sx (6 * i + q) = 0 ∧ ln q = L ∧ sx (6 * i + q) = kst K L := by
  obtain ⟨q, hq, h1, h2⟩ := h.2.2.2.1 L hL h0
  obtain ⟨a1, a2, a3, a4, a5, -⟩ := h.2.2.1 q hq h1
  cases hf : mf sx li i (nI L) 6 with
  | none => exact absurd (by rw [a4, h2]) (mf_none sx li i (nI L) 6 hf q hq h1)
  | some p =>
    obtain ⟨b1, b2, b3, b4⟩ := mf_spec sx li i (nI L) 6 p hf
    obtain ⟨q', rfl⟩ : ∃ q, p = 6 * i + q := ⟨p - 6 * i, by omega⟩
    obtain ⟨c1, c2, c3, c4, c5, -⟩ := h.2.2.1 q' (by omega) b3
    have e1 : ln q' = L := (nI_eq (by omega) (by omega)).mp (c4.symm.trans b4)
    exact ⟨q', by omega, rfl, b3, e1, by rw [← c5, e1]⟩
/-- other cores' places don't matter -/
theorem CC_fr {wy i b b' C C' U : Nat} {K : KS} {sx li ux co sx' li' ux' co' : Nat → Int32} {ln u v : Nat → Nat} (h : CC wy i b K sx li ux co C ln u v U) (hb : b ≤ b') (hC : C ≤ C') (e1 : ∀ q, q < 6 → sx' (6 * i + q) = sx (6 * i + q)) (e2 : ∀ q, q < 6 → li' (6 * i + q) = li (6 * i + q)) (e3 : ∀ q, q < 6 → ux' (6 * i + q) = ux (6 * i + q)) (e4 : ∀ q k, q < 6 → k < 4 → co' (4 * (6 * i + q) + k) = co (4 * (6 * i + q) + k)) : CC wy i b' K sx' li' ux' co' C' ln u v U := by
  obtain ⟨h1, h2, h3, h4, h5, h6⟩ := h
  refine ⟨h1, by omega, fun q hq hs => ?_, fun L hL hs => ?_, fun q q' hq hq' hs hs' he => ?_, fun q q' hq hq' hs hs' hn => ?_⟩
  · rw [e1 q hq] at hs ⊢
    obtain ⟨a1, a2, a3, a4, a5, a6, a7, a8, a9, a10⟩ := h3 q hq hs
    exact ⟨a1, a2, a3, by rw [e2 q hq]; exact a4, a5, fun k hk => by rw [e4 q k hq hk]; exact a6 k hk, by rw [e3 q hq]; exact a7, by omega, a9, a10⟩
  · obtain ⟨q, hq, a1, a2⟩ := h4 L hL hs
    exact ⟨q, hq, by rw [e1 q hq]; exact a1, a2⟩
  · rw [e1 q hq] at hs; rw [e1 q' hq'] at hs'
    exact h5 q q' hq hq' hs hs' he
  · rw [e1 q hq] at hs; rw [e1 q' hq'] at hs'
    exact h6 q q' hq hq' hs hs' hn
/-- a held line is used -/
theorem CC_use {wy i b C U L q : Nat} {K K' : KS} {sx li ux co : Nat → Int32} {ln u v : Nat → Nat} (h : CC wy i b K sx li ux co C ln u v U) (hb : b + 1 < 2 ^ 31) (hCb : C ≤ b) (hq : q < 6) (hs : ¬ sx (6 * i + q) = 0) (hl : ln q = L) (k1 : kst K' = kst K) (k2 : kua K' = upd (kua K) L (kus K + nI 1)) (k3 : kwd K' = kwd K) (k4 : kus K' = kus K + nI 1) :
    CC wy i (b + 1) K' sx li (upd ux (6 * i + q) (nI C + nI 1)) co (C + 1) ln (fun x => if x = q then C + 1 else u x) (fun x => if x = L then U + 1 else v x) (U + 1) := by
  obtain ⟨h1, h2, h3, h4, h5, h6⟩ := h
  have hne : ∀ x, x < 6 → ¬ sx (6 * i + x) = 0 → x ≠ q → ln x ≠ L := fun x hx hsx hn e => hn (h5 x q hx hq hsx hs (e.trans hl.symm))
  refine ⟨by rw [k4, h1, nI_add], by omega, fun x hx hsx => ?_, fun M hM hsM => ?_, fun x x' hx hx' hsx hsx' he => h5 x x' hx hx' hsx hsx' he, fun x x' hx hx' hsx hsx' hn => ?_⟩
  · obtain ⟨a1, a2, a3, a4, a5, a6, a7, a8, a9, a10⟩ := h3 x hx hsx
    refine ⟨a1, a2, a3, a4, by rw [k1]; exact a5, fun k hk => by rw [k3]; exact a6 k hk, ?_, ?_, ?_, ?_⟩
    · by_cases e : x = q
      · subst e; dsimp only; rw [pk_us, if_pos rfl, nI_add]
      · dsimp only; rw [pk_un (by omega), if_neg e]; exact a7
    · by_cases e : x = q
      · simp only [e, if_true]; omega
      · simp only [e, if_false]; omega
    · by_cases e : x = q
      · subst e
        dsimp only; rw [k2, hl, pk_us, if_pos rfl, h1, nI_add]
      · have e2 := hne x hx hsx e
        dsimp only; rw [k2, pk_un e2, if_neg e2]; exact a9
    · by_cases e : x = q
      · subst e
        simp only [hl, if_true]; omega
      · have e2 := hne x hx hsx e
        simp only [e2, if_false]; omega
  · rw [k1] at hsM
    exact h4 M hM hsM
  · obtain ⟨a1, a2, a3, a4, a5, a6, a7, a8, a9, a10⟩ := h3 x hx hsx
    obtain ⟨b1, b2, b3, b4, b5, b6, b7, b8, b9, b10⟩ := h3 x' hx' hsx'
    obtain ⟨c1, c2⟩ := h6 x x' hx hx' hsx hsx' hn
    by_cases e : x = q
    · subst e
      have e' : x' ≠ x := fun z => hn z.symm
      have e2 := hne x' hx' hsx' e'
      simp only [if_true, e', if_false, hl, e2]
      omega
    · have e2 := hne x hx hsx e
      by_cases e' : x' = q
      · subst e'
        simp only [e, if_false, if_true, hl, e2]
        omega
      · have e2' := hne x' hx' hsx' e'
        simp only [e, e', e2, e2', if_false]
        exact ⟨c1, c2⟩
/-- a held line gets another state (not invalid) -/
theorem CC_state {wy i b C U L q : Nat} {z : Int32} {K K' : KS} {sx li ux co : Nat → Int32} {ln u v : Nat → Nat} (h : CC wy i b K sx li ux co C ln u v U) (hq : q < 6) (hs : ¬ sx (6 * i + q) = 0) (hl : ln q = L) (hz : ¬ z = 0) (k1 : kst K' = upd (kst K) L z) (k2 : kua K' = kua K) (k3 : kwd K' = kwd K) (k4 : kus K' = kus K) :
    CC wy i b K' (upd sx (6 * i + q) z) li ux co C ln u v U := by
  obtain ⟨h1, h2, h3, h4, h5, h6⟩ := h
  have hv : ∀ x, x < 6 → (¬ upd sx (6 * i + q) z (6 * i + x) = 0 ↔ ¬ sx (6 * i + x) = 0) := by
    intro x hx
    by_cases e : x = q
    · subst e; rw [pk_us]; exact ⟨fun _ => hs, fun _ => hz⟩
    · rw [pk_un (by omega)]
  have hne : ∀ x, x < 6 → ¬ sx (6 * i + x) = 0 → x ≠ q → ln x ≠ L := fun x hx hsx hn e => hn (h5 x q hx hq hsx hs (e.trans hl.symm))
  refine ⟨by rw [k4]; exact h1, h2, fun x hx hsx => ?_, fun M hM hsM => ?_, fun x x' hx hx' hsx hsx' he => h5 x x' hx hx' ((hv x hx).mp hsx) ((hv x' hx').mp hsx') he, fun x x' hx hx' hsx hsx' hn => h6 x x' hx hx' ((hv x hx).mp hsx) ((hv x' hx').mp hsx') hn⟩
  · have hsx0 := (hv x hx).mp hsx
    obtain ⟨a1, a2, a3, a4, a5, a6, a7, a8, a9, a10⟩ := h3 x hx hsx0
    refine ⟨a1, a2, a3, a4, ?_, fun k hk => by rw [k3]; exact a6 k hk, a7, a8, by rw [k2]; exact a9, a10⟩
    by_cases e : x = q
    · subst e; rw [k1, hl, pk_us, pk_us]
    · rw [k1, pk_un (hne x hx hsx0 e), pk_un (by omega)]; exact a5
  · by_cases e : M = L
    · exact ⟨q, hq, (hv q hq).mpr hs, hl.trans e.symm⟩
    · rw [k1, pk_un e] at hsM
      obtain ⟨x, hx, a1, a2⟩ := h4 M hM hsM
      exact ⟨x, hx, (hv x hx).mpr a1, a2⟩
/-- a held line leaves -/
theorem CC_drop {wy i b C U L q : Nat} {K K' : KS} {sx li ux co : Nat → Int32} {ln u v : Nat → Nat} (h : CC wy i b K sx li ux co C ln u v U) (hq : q < 6) (hs : ¬ sx (6 * i + q) = 0) (hl : ln q = L) (k1 : kst K' = upd (kst K) L (nI 0)) (k2 : kua K' = kua K) (k3 : kwd K' = kwd K) (k4 : kus K' = kus K) :
    CC wy i b K' (upd sx (6 * i + q) (nI 0)) li ux co C ln u v U := by
  obtain ⟨h1, h2, h3, h4, h5, h6⟩ := h
  have hne : ∀ x, x < 6 → ¬ sx (6 * i + x) = 0 → x ≠ q → ln x ≠ L := fun x hx hsx hn e => hn (h5 x q hx hq hsx hs (e.trans hl.symm))
  have hv : ∀ x, x < 6 → ¬ upd sx (6 * i + q) (nI 0) (6 * i + x) = 0 → x ≠ q ∧ ¬ sx (6 * i + x) = 0 := by
    intro x hx hsx
    by_cases e : x = q
    · subst e; rw [pk_us] at hsx; exact absurd rfl hsx
    · rw [pk_un (by omega)] at hsx; exact ⟨e, hsx⟩
  refine ⟨by rw [k4]; exact h1, h2, fun x hx hsx => ?_, fun M hM hsM => ?_, fun x x' hx hx' hsx hsx' he => h5 x x' hx hx' (hv x hx hsx).2 (hv x' hx' hsx').2 he, fun x x' hx hx' hsx hsx' hn => h6 x x' hx hx' (hv x hx hsx).2 (hv x' hx' hsx').2 hn⟩
  · obtain ⟨e, hsx0⟩ := hv x hx hsx
    obtain ⟨a1, a2, a3, a4, a5, a6, a7, a8, a9, a10⟩ := h3 x hx hsx0
    exact ⟨a1, a2, a3, a4, by rw [k1, pk_un (hne x hx hsx0 e), pk_un (by omega)]; exact a5, fun k hk => by rw [k3]; exact a6 k hk, a7, a8, by rw [k2]; exact a9, a10⟩
  · by_cases e : M = L
    · rw [k1, e, pk_us] at hsM; exact absurd rfl hsM
    · rw [k1, pk_un e] at hsM
      obtain ⟨x, hx, a1, a2⟩ := h4 M hM hsM
      have e2 : x ≠ q := fun z => e (by rw [← a2, z, hl])
      exact ⟨x, hx, by rw [pk_un (by omega)]; exact a1, a2⟩
/-- a word of a held line is written -/
theorem CC_word {wy i b C U j q : Nat} {x : Int32} {K K' : KS} {sx li ux co : Nat → Int32} {ln u v : Nat → Nat} (h : CC wy i b K sx li ux co C ln u v U) (hq : q < 6) (hs : ¬ sx (6 * i + q) = 0) (hl : ln q = j / 4) (hj : j < 32) (k1 : kst K' = kst K) (k2 : kua K' = kua K) (k3 : kwd K' = upd (kwd K) j x) (k4 : kus K' = kus K) :
    CC wy i b K' sx li ux (upd co (4 * (6 * i + q) + j % 4) x) C ln u v U := by
  obtain ⟨h1, h2, h3, h4, h5, h6⟩ := h
  have hne : ∀ y, y < 6 → ¬ sx (6 * i + y) = 0 → y ≠ q → ln y ≠ j / 4 := fun y hy hsy hn e => hn (h5 y q hy hq hsy hs (e.trans hl.symm))
  refine ⟨by rw [k4]; exact h1, h2, fun y hy hsy => ?_, fun M hM hsM => by rw [k1] at hsM; exact h4 M hM hsM, h5, h6⟩
  obtain ⟨a1, a2, a3, a4, a5, a6, a7, a8, a9, a10⟩ := h3 y hy hsy
  refine ⟨a1, a2, a3, a4, by rw [k1]; exact a5, fun k hk => ?_, a7, a8, by rw [k2]; exact a9, a10⟩
  by_cases e : y = q
  · subst e
    by_cases ek : k = j % 4
    · subst ek
      rw [pk_us, k3, hl, show 4 * (j / 4) + j % 4 = j by omega, pk_us]
    · rw [pk_un (by omega), k3, pk_un (by omega)]; exact a6 k hk
  · have e2 := hne y hy hsy e
    rw [pk_un (by omega), k3, pk_un (by omega)]; exact a6 k hk
/-- a line comes to an invalid place of its set -/
theorem CC_new {wy i b C U L q : Nat} {z : Int32} {K K' : KS} {sx li ux co w m : Nat → Int32} {ln u v : Nat → Nat} (h : CC wy i b K sx li ux co C ln u v U) (hb : b + 1 < 2 ^ 31) (hCb : C ≤ b) (hq : q < 6) (hs : sx (6 * i + q) = 0) (hw : q % 3 < wy) (hL : L < 8) (hset : L % 2 = q / 3) (h0 : kst K L = 0) (hz : ¬ z = 0) (hm : ∀ a, a < 32 → w a = m a)
    (k1 : kst K' = upd (kst K) L z) (k2 : kua K' = upd (kua K) L (kus K + nI 1)) (k3 : kwd K' = va_cpy m (kwd K) (L * 4) (L * 4) 4) (k4 : kus K' = kus K + nI 1) :
    CC wy i (b + 1) K' (upd sx (6 * i + q) z) (upd li (6 * i + q) (nI L)) (upd ux (6 * i + q) (nI C + nI 1)) (va_cpy w co (4 * L) (4 * (6 * i + q)) 4) (C + 1) (fun x => if x = q then L else ln x) (fun x => if x = q then C + 1 else u x) (fun x => if x = L then U + 1 else v x) (U + 1) := by
  obtain ⟨h1, h2, h3, h4, h5, h6⟩ := h
  have hne : ∀ x, x < 6 → ¬ sx (6 * i + x) = 0 → x ≠ q ∧ ln x ≠ L := by
    intro x hx hsx
    refine ⟨fun e => hsx (by rw [e]; exact hs), fun e => ?_⟩
    obtain ⟨a1, a2, a3, a4, a5, -⟩ := h3 x hx hsx
    rw [e, h0] at a5
    exact hsx a5.symm
  have hv : ∀ x, x < 6 → ¬ upd sx (6 * i + q) z (6 * i + x) = 0 → x = q ∨ (x ≠ q ∧ ¬ sx (6 * i + x) = 0) := by
    intro x hx hsx
    by_cases e : x = q
    · exact Or.inl e
    · rw [pk_un (by omega)] at hsx; exact Or.inr ⟨e, hsx⟩
  refine ⟨by rw [k4, h1, nI_add], by omega, fun x hx hsx => ?_, fun M hM hsM => ?_, fun x x' hx hx' hsx hsx' he => ?_, fun x x' hx hx' hsx hsx' hn => ?_⟩
  · rcases hv x hx hsx with e | ⟨e, hsx0⟩
    · subst e
      simp only [if_true]
      refine ⟨hw, hL, hset, by rw [pk_us], by rw [k1, pk_us, pk_us], fun k hk => ?_, by rw [pk_us, nI_add], by omega, by rw [k2, pk_us, h1, nI_add], by omega⟩
      rw [pk_cpy_in (by omega) (by omega), k3, pk_cpy_in (by omega) (by omega), hm _ (by omega)]
      congr 1
      omega
    · obtain ⟨-, e2⟩ := hne x hx hsx0
      obtain ⟨a1, a2, a3, a4, a5, a6, a7, a8, a9, a10⟩ := h3 x hx hsx0
      simp only [e, e2, if_false]
      refine ⟨a1, a2, a3, by rw [pk_un (by omega)]; exact a4, by rw [k1, pk_un e2, pk_un (by omega)]; exact a5, fun k hk => ?_, by rw [pk_un (by omega)]; exact a7, by omega, by rw [k2, pk_un e2]; exact a9, by omega⟩
      rw [pk_cpy_out (by omega), k3, pk_cpy_out (by omega)]; exact a6 k hk
  · by_cases e : M = L
    · exact ⟨q, hq, by rw [pk_us]; exact hz, by dsimp only; rw [if_pos rfl]; exact e.symm⟩
    · rw [k1, pk_un e] at hsM
      obtain ⟨x, hx, a1, a2⟩ := h4 M hM hsM
      obtain ⟨e2, -⟩ := hne x hx a1
      exact ⟨x, hx, by rw [pk_un (by omega)]; exact a1, by dsimp only; rw [if_neg e2]; exact a2⟩
  · rcases hv x hx hsx with e | ⟨e, hsx0⟩ <;> rcases hv x' hx' hsx' with e' | ⟨e', hsx0'⟩
    · rw [e, e']
    · dsimp only at he; rw [if_pos e, if_neg e'] at he
      exact absurd he.symm (hne x' hx' hsx0').2
    · dsimp only at he; rw [if_neg e, if_pos e'] at he
      exact absurd he (hne x hx hsx0).2
    · dsimp only at he; rw [if_neg e, if_neg e'] at he
      exact h5 x x' hx hx' hsx0 hsx0' he
  · rcases hv x hx hsx with e | ⟨e, hsx0⟩ <;> rcases hv x' hx' hsx' with e' | ⟨e', hsx0'⟩
    · exact absurd (e.trans e'.symm) hn
    · obtain ⟨-, e2⟩ := hne x' hx' hsx0'
      obtain ⟨b1, b2, b3, b4, b5, b6, b7, b8, b9, b10⟩ := h3 x' hx' hsx0'
      simp only [e, if_true, e', if_false, e2]
      omega
    · obtain ⟨-, e2⟩ := hne x hx hsx0
      obtain ⟨b1, b2, b3, b4, b5, b6, b7, b8, b9, b10⟩ := h3 x hx hsx0
      simp only [e, e', if_true, if_false, e2]
      omega
    · obtain ⟨-, e2⟩ := hne x hx hsx0
      obtain ⟨-, e2'⟩ := hne x' hx' hsx0'
      obtain ⟨c1, c2⟩ := h6 x x' hx hx' hsx0 hsx0' hn
      simp only [e, e', e2, e2', if_false]
      exact ⟨c1, c2⟩
