/-! The reference, as numbers and functions. -/
/-- the place among core c's first t that holds line x (the last such) -/
def mf (sx li : Nat → Int32) (c : Nat) (x : Int32) : Nat → Option Nat
  | 0 => none
  | t + 1 => if sx (6 * c + t) = 0 then mf sx li c x t else if li (6 * c + t) = x then some (6 * c + t) else mf sx li c x t
theorem mf_spec (sx li : Nat → Int32) (c : Nat) (x : Int32) : ∀ (t p : Nat), mf sx li c x t = some p → 6 * c ≤ p ∧ p < 6 * c + t ∧ ¬ sx p = 0 ∧ li p = x := by
  intro t
  induction t with
  | zero => intro p h; simp [mf] at h
  | succ t ih =>
    intro p h
    rw [mf] at h
    by_cases h1 : sx (6 * c + t) = 0
    · rw [if_pos h1] at h
      obtain ⟨a, b, d⟩ := ih p h
      exact ⟨a, by omega, d⟩
    · rw [if_neg h1] at h
      by_cases h2 : li (6 * c + t) = x
      · rw [if_pos h2] at h
        cases h
        exact ⟨by omega, by omega, h1, h2⟩
      · rw [if_neg h2] at h
        obtain ⟨a, b, d⟩ := ih p h
        exact ⟨a, by omega, d⟩
/-- the place of a set (its first is f) that a fill takes, after t further places -/
def mr (sx ux : Nat → Int32) (f : Nat) : Nat → Nat
  | 0 => f
  | t + 1 => if sx (mr sx ux f t) = 0 then mr sx ux f t else if sx (f + 1 + t) = 0 then f + 1 + t else if ux (f + 1 + t) < ux (mr sx ux f t) then f + 1 + t else mr sx ux f t
theorem mr_le (sx ux : Nat → Int32) (f : Nat) : ∀ t, f ≤ mr sx ux f t ∧ mr sx ux f t ≤ f + t := by
  intro t
  induction t with
  | zero => simp [mr]
  | succ t ih =>
    rw [mr]
    by_cases h1 : sx (mr sx ux f t) = 0
    · rw [if_pos h1]; omega
    · rw [if_neg h1]
      by_cases h2 : sx (f + 1 + t) = 0
      · rw [if_pos h2]; omega
      · rw [if_neg h2]
        by_cases h3 : ux (f + 1 + t) < ux (mr sx ux f t)
        · rw [if_pos h3]; omega
        · rw [if_neg h3]; omega
theorem cpy_0 (f g : Nat → Int32) (a b : Nat) : va_cpy f g a b 0 = g := by
  funext k; simp only [va_cpy]; rw [if_neg (by omega)]
theorem cpy_s (f g : Nat → Int32) (a b t : Nat) : upd (va_cpy f g a b t) (b + t) (f (a + t)) = va_cpy f g a b (t + 1) := by
  funext k
  by_cases h : k = b + t
  · subst h
    simp only [upd, va_cpy, if_true]
    rw [if_pos (by omega), show b + t - b = t by omega]
  · simp only [upd, va_cpy, if_neg h]
    by_cases h2 : b ≤ k ∧ k < b + t
    · rw [if_pos h2, if_pos (by omega)]
    · rw [if_neg h2, if_neg (by omega)]
/-- the words behind a place's going back, if it is modified; the counts -/
def mwb (sx li co wo : Nat → Int32) (p : Nat) : Nat → Int32 := if sx p = nI 3 then va_cpy co wo (4 * p) (4 * (li p).toNatClampNeg) 4 else wo
def mct (sx ct : Nat → Int32) (p : Nat) : Nat → Int32 := if sx p = nI 3 then upd ct 1 (ct 1 + nI 1) else ct
/-- the first store leaves, of a row of four from f on: t have moved up -/
def md_sh (a : Nat → Int32) (f t : Nat) : Nat → Int32 := fun q => if f ≤ q ∧ q < f + t then a (q + 1) else a q
theorem md_sh_0 (a : Nat → Int32) (f : Nat) : md_sh a f 0 = a := by
  funext q; simp only [md_sh]; rw [if_neg (by omega)]
theorem md_sh_s (a : Nat → Int32) (f t : Nat) : upd (md_sh a f t) (f + t) (md_sh a f t (f + t + 1)) = md_sh a f (t + 1) := by
  funext q
  by_cases h : q = f + t
  · subst h
    simp only [upd, md_sh, if_true]
    rw [if_neg (by omega), if_pos (by omega)]
  · simp only [upd, md_sh, if_neg h]
    by_cases h2 : f ≤ q ∧ q < f + t
    · rw [if_pos h2, if_pos (by omega)]
    · rw [if_neg h2, if_neg (by omega)]
/-- what the other cores' places become, after t cores: states, words, counts, whether one had the line. z: the new state, d: what is added to the count -/
def ms (li co : Nat → Int32) (c : Nat) (x z d : Int32) (sx wo ct : Nat → Int32) : Nat → (Nat → Int32) × (Nat → Int32) × (Nat → Int32) × Int32
  | 0 => (sx, wo, ct, nI 0)
  | t + 1 => if t = c then ms li co c x z d sx wo ct t else
    match mf (ms li co c x z d sx wo ct t).1 li t x 6 with
    | none => ms li co c x z d sx wo ct t
    | some p => (upd (ms li co c x z d sx wo ct t).1 p z, mwb (ms li co c x z d sx wo ct t).1 li co (ms li co c x z d sx wo ct t).2.1 p,
        upd (mct (ms li co c x z d sx wo ct t).1 (ms li co c x z d sx wo ct t).2.2.1 p) 2 (mct (ms li co c x z d sx wo ct t).1 (ms li co c x z d sx wo ct t).2.2.1 p 2 + d), nI 1)
theorem ms_b (li co : Nat → Int32) (c : Nat) (x z d : Int32) (sx wo ct : Nat → Int32) : ∀ t, (ms li co c x z d sx wo ct t).2.2.2 = nI 0 ∨ (ms li co c x z d sx wo ct t).2.2.2 = nI 1 := by
  intro t
  induction t with
  | zero => exact Or.inl rfl
  | succ t ih =>
    rw [ms]
    by_cases h : t = c
    · rw [if_pos h]; exact ih
    · rw [if_neg h]
      cases mf (ms li co c x z d sx wo ct t).1 li t x 6 with
      | none => exact ih
      | some p => exact Or.inr rfl
/-- the last of the first t cores that has the line modified gives the word -/
def mz (sx li co : Nat → Int32) (x w : Int32) (r : Nat) : Nat → Int32
  | 0 => w
  | t + 1 => match mf sx li t x 6 with
    | none => mz sx li co x w r t
    | some p => if sx p = nI 3 then co (4 * p + r) else mz sx li co x w r t
/-- the first core from the turn on that waits, among the next t: none yet -/
def mq (ki : Nat → Int32) (n u t : Nat) : Prop := ∀ k, k < t → ki ((u + k) % n) ≤ 0
