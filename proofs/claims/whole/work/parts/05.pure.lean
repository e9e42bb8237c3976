/-! The class, as numbers and functions: what each method answers and leaves. -/
abbrev tysK (cI cO : ClassId) : List (ClassId × FieldType) := [(cI, .int), (cO, .object "SnoopingBus$Core")]
def bz (x : Int32) : Int32 := if x = 0 then nI 0 else nI 1
def be (x y : Int32) : Int32 := if x = y then nI 1 else nI 0
theorem bz_0 {x : Int32} (h : x = 0) : nI 0 = bz x := by simp [bz, h]
theorem bz_1 {x : Int32} (h : ¬ x = 0) : nI 1 = bz x := by simp [bz, h]
theorem bz_eq {x : Int32} : bz x = 0 ↔ x = 0 := by
  by_cases h : x = 0
  · simp [bz, h]; decide
  · simp [bz, h]; decide
/-- the line is exclusive or modified -/
def ow (x : Int32) : Int32 := if x = nI 2 then nI 1 else if x = nI 3 then nI 1 else nI 0
theorem ow_eq {x : Int32} : ow x = 0 ↔ ¬ x = nI 2 ∧ ¬ x = nI 3 := by
  by_cases h : x = nI 2
  · simp [ow, h]; decide
  · by_cases h3 : x = nI 3
    · simp [ow, h3]; decide
    · simp [ow, h, h3]; decide
def cw_mem (st wd mw : Nat → Int32) (L : Nat) : Nat → Int32 := if st L = nI 3 then va_cpy wd mw (L * 4) (L * 4) 4 else mw
def cw_cnt (st : Nat → Int32) (wb : Int32) (L : Nat) : Int32 := if st L = nI 3 then wb + nI 1 else wb
def cl_on (o : Option Nat) : Int32 := match o with
  | none => -1
  | some k => nI k
def cl_scan (st ua : Nat → Int32) (s : Nat) : Nat → Nat × Option Nat
  | 0 => (0, none)
  | t + 1 => if st (s + 2 * t) = 0 then cl_scan st ua s t else ((cl_scan st ua s t).1 + 1, match (cl_scan st ua s t).2 with
    | none => some (s + 2 * t)
    | some o => if ua (s + 2 * t) < ua o then some (s + 2 * t) else some o)
def cl_leave (st ua : Nat → Int32) (wy s : Nat) : Option Nat := if (cl_scan st ua s 4).1 < wy then none else (cl_scan st ua s 4).2
def cf_st (st : Nat → Int32) (o : Option Nat) : Nat → Int32 := match o with
  | none => st
  | some k => upd st k (nI 0)
def cf_mem (st wd mw : Nat → Int32) (o : Option Nat) : Nat → Int32 := match o with
  | none => mw
  | some k => cw_mem st wd mw k
def cf_cnt (st : Nat → Int32) (wb : Int32) (o : Option Nat) : Int32 := match o with
  | none => wb
  | some k => cw_cnt st wb k
/-- the newest of the first n stores to an address -/
def cs_new (sa : Nat → Int32) (x : Int32) : Nat → Option Nat
  | 0 => none
  | n + 1 => if sa n = x then some n else cs_new sa x n
/-- the oldest store leaves: t of the others have moved up -/
def cs_sh (f : Nat → Int32) (t : Nat) : Nat → Int32 := fun i => if i < t then f (i + 1) else f i
theorem cs_sh_0 (f : Nat → Int32) : cs_sh f 0 = f := by funext i; simp [cs_sh]
theorem cs_sh_s (f : Nat → Int32) (t : Nat) : upd (cs_sh f t) t (cs_sh f t (t + 1)) = cs_sh f (t + 1) := by
  funext i
  by_cases h : i = t
  · subst h; simp [upd, cs_sh, show ¬ i + 1 < i by omega]
  · by_cases h2 : i < t
    · simp [upd, cs_sh, h, h2, Nat.lt_succ_of_lt h2]
    · simp [upd, cs_sh, h, h2, show ¬ i < t + 1 by omega]
theorem dec1 (x : Int32) : x + Int32.ofInt (-1) = x - nI 1 := by rw [Int32.sub_eq_add_neg]; rfl
theorem vp_hi {x : Int32} {n : Nat} (hn : n < 2 ^ 31) (h : ¬ vp_in x n) (h0 : ¬ x < 0) : nI n ≤ x := by
  obtain ⟨j, hj, rfl⟩ := nI_of h0
  exact (nI_leI hn hj).mpr (Nat.le_of_not_lt (fun q => h (vp_in_nI q hn)))
theorem nI_m1 {n : Nat} (h : n < 2 ^ 31) : ¬ nI n = -1 := fun q => nI_pos h (by rw [q]; decide)
theorem cl_scan_lt (st ua : Nat → Int32) (s : Nat) : ∀ (t o : Nat), (cl_scan st ua s t).2 = some o → o < s + 2 * t := by
  intro t
  induction t with
  | zero => intro o h; simp [cl_scan] at h
  | succ t ih =>
    intro o h
    rw [cl_scan] at h
    by_cases hz : st (s + 2 * t) = 0
    · rw [if_pos hz] at h
      have := ih o h
      omega
    · rw [if_neg hz] at h
      dsimp only at h
      cases hc : (cl_scan st ua s t).2 with
      | none => rw [hc] at h; dsimp only at h; cases h; omega
      | some q =>
        rw [hc] at h
        dsimp only at h
        have := ih q hc
        by_cases hq : ua (s + 2 * t) < ua q
        · rw [if_pos hq] at h; cases h; omega
        · rw [if_neg hq] at h; cases h; omega
theorem cl_scan_le (st ua : Nat → Int32) (s : Nat) : ∀ t : Nat, (cl_scan st ua s t).1 ≤ t := by
  intro t
  induction t with
  | zero => simp [cl_scan]
  | succ t ih =>
    rw [cl_scan]
    by_cases hz : st (s + 2 * t) = 0
    · rw [if_pos hz]; omega
    · rw [if_neg hz]; show _ + 1 ≤ _; omega
theorem cl_scan_mod (st ua : Nat → Int32) (s : Nat) : ∀ (t o : Nat), (cl_scan st ua s t).2 = some o → ∃ r, r < t ∧ o = s + 2 * r := by
  intro t
  induction t with
  | zero => intro o h; simp [cl_scan] at h
  | succ t ih =>
    intro o h
    rw [cl_scan] at h
    by_cases hz : st (s + 2 * t) = 0
    · rw [if_pos hz] at h
      obtain ⟨r, h1, h2⟩ := ih o h
      exact ⟨r, by omega, h2⟩
    · rw [if_neg hz] at h
      dsimp only at h
      cases hc : (cl_scan st ua s t).2 with
      | none => rw [hc] at h; dsimp only at h; cases h; exact ⟨t, by omega, rfl⟩
      | some q =>
        rw [hc] at h
        dsimp only at h
        by_cases hq : ua (s + 2 * t) < ua q
        · rw [if_pos hq] at h; cases h; exact ⟨t, by omega, rfl⟩
        · rw [if_neg hq] at h; cases h
          obtain ⟨r, h1, h2⟩ := ih _ hc
          exact ⟨r, by omega, h2⟩
theorem cl_leave_lt (st ua : Nat → Int32) (wy s o : Nat) (hs : s < 2) (h : cl_leave st ua wy s = some o) : o < 8 := by
  unfold cl_leave at h
  by_cases hw : (cl_scan st ua s 4).1 < wy
  · rw [if_pos hw] at h; cases h
  · rw [if_neg hw] at h
    obtain ⟨r, h1, h2⟩ := cl_scan_mod st ua s 4 o h
    omega
