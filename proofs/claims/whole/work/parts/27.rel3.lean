/-! The relation of the whole states. -/
def BB (i : Nat) (K : KS) (sn da va la ki wa op : Nat → Int32) : Prop :=
  sn i = nI (kk K) ∧ kk K ≤ 4 ∧ (∀ q, q < kk K → da (4 * i + q) = ksa K q ∧ va (4 * i + q) = ksw K q ∧ ∃ j, j < 32 ∧ ksa K q = nI j) ∧ la i = klw K ∧ ki i = krk K ∧
  (krk K = nI 0 ∨ ∃ kd, 1 ≤ kd ∧ kd ≤ 4 ∧ krk K = nI kd ∧ kra K < 32 ∧ wa i = nI (kra K) ∧ (3 ≤ kd → op i = krw K) ∧ (kd = 2 → 1 ≤ kk K ∧ ksa K 0 = nI (kra K) ∧ ksw K 0 = krw K))
/-- states are 0 to 3; a line that a core waits to read isn't held by it -/
def Dom (K : KS) : Prop := (∀ L, L < 8 → kst K L = nI 0 ∨ kst K L = nI 1 ∨ kst K L = nI 2 ∨ kst K L = nI 3) ∧ (krk K = nI 1 → kst K (kra K / 4) = nI 0)
def Coh (n : Nat) (S : Nat → KS) : Prop := ∀ i j L, i < n → j < n → i ≠ j → L < 8 → (kst (S i) L = nI 2 ∨ kst (S i) L = nI 3) → kst (S j) L = nI 0
def Memo (mw : Nat → Int32) (wb sv iv ug : Int32) (wo ct : Nat → Int32) : Prop := (∀ a, a < 32 → wo a = mw a) ∧ ct 0 = sv ∧ ct 1 = wb ∧ ct 2 = iv ∧ ct 3 = ug
def Rel (n wy b : Nat) (S : Nat → KS) (mw : Nat → Int32) (wb : Int32) (sl : Nat) (sv iv ug : Int32) (wo li sx ux co : Nat → Int32) (ck : Int32) (sn da va la ki wa op : Nat → Int32) (tu : Nat) (ct : Nat → Int32) : Prop :=
  Memo mw wb sv iv ug wo ct ∧ (sl < n ∧ tu = (sl + 1) % n) ∧ (∃ C, ck = nI C ∧ C ≤ b ∧ ∀ i, i < n → CCe wy i b (S i) sx li ux co C) ∧ (∀ i, i < n → BB i (S i) sn da va la ki wa op) ∧ (∀ i, i < n → Dom (S i)) ∧ Coh n S
theorem Rel_mono {n wy b b' sl tu : Nat} {S : Nat → KS} {mw : Nat → Int32} {wb sv iv ug ck : Int32} {wo li sx ux co sn da va la ki wa op ct : Nat → Int32} (h : Rel n wy b S mw wb sl sv iv ug wo li sx ux co ck sn da va la ki wa op tu ct) (hb : b ≤ b') : Rel n wy b' S mw wb sl sv iv ug wo li sx ux co ck sn da va la ki wa op tu ct := by
  obtain ⟨h1, h2, ⟨C, c1, c2, c3⟩, h4, h5, h6⟩ := h
  refine ⟨h1, h2, ⟨C, c1, by omega, fun i hi => ?_⟩, h4, h5, h6⟩
  obtain ⟨ln, u, v, U, hc⟩ := c3 i hi
  exact ⟨ln, u, v, U, CC_fr hc hb (Nat.le_refl _) (fun _ _ => rfl) (fun _ _ => rfl) (fun _ _ => rfl) (fun _ _ _ _ => rfl)⟩
theorem BB_fr {i : Nat} {K : KS} {sn da va la ki wa op sn' da' va' la' ki' wa' op' : Nat → Int32} (h : BB i K sn da va la ki wa op) (e1 : sn' i = sn i) (e2 : ∀ q, q < 4 → da' (4 * i + q) = da (4 * i + q)) (e3 : ∀ q, q < 4 → va' (4 * i + q) = va (4 * i + q)) (e4 : la' i = la i) (e5 : ki' i = ki i) (e6 : wa' i = wa i) (e7 : op' i = op i) : BB i K sn' da' va' la' ki' wa' op' := by
  obtain ⟨h1, h2, h3, h4, h5, h6⟩ := h
  refine ⟨by rw [e1]; exact h1, h2, fun q hq => ?_, by rw [e4]; exact h4, by rw [e5]; exact h5, ?_⟩
  · rw [e2 q (by omega), e3 q (by omega)]; exact h3 q hq
  · rw [e6, e7]; exact h6
/-- one core changes, and its part of the reference's rows -/
theorem Rel_up {n wy b b' sl tu i C' : Nat} {S : Nat → KS} {K' : KS} {mw mw' : Nat → Int32} {wb sv iv ug wb' sv' iv' ug' ck ck' : Int32} {wo li sx ux co sn da va la ki wa op ct wo' li' sx' ux' co' sn' da' va' la' ki' wa' op' ct' : Nat → Int32} (h : Rel n wy b S mw wb sl sv iv ug wo li sx ux co ck sn da va la ki wa op tu ct) (hi : i < n) (hb : b ≤ b')
    (hM : Memo mw' wb' sv' iv' ug' wo' ct') (hck : ck' = nI C') (hC' : C' ≤ b') (hmono : ∀ C, ck = nI C → C ≤ b → C ≤ C') (hcc : CCe wy i b' K' sx' li' ux' co' C')
    (f1 : ∀ p, ¬ (6 * i ≤ p ∧ p < 6 * i + 6) → sx' p = sx p) (f2 : ∀ p, ¬ (6 * i ≤ p ∧ p < 6 * i + 6) → li' p = li p) (f3 : ∀ p, ¬ (6 * i ≤ p ∧ p < 6 * i + 6) → ux' p = ux p) (f4 : ∀ p, ¬ (24 * i ≤ p ∧ p < 24 * i + 24) → co' p = co p)
    (hbb : BB i K' sn' da' va' la' ki' wa' op') (g1 : ∀ j, j ≠ i → sn' j = sn j) (g2 : ∀ p, ¬ (4 * i ≤ p ∧ p < 4 * i + 4) → da' p = da p) (g3 : ∀ p, ¬ (4 * i ≤ p ∧ p < 4 * i + 4) → va' p = va p) (g4 : ∀ j, j ≠ i → la' j = la j) (g5 : ∀ j, j ≠ i → ki' j = ki j) (g6 : ∀ j, j ≠ i → wa' j = wa j) (g7 : ∀ j, j ≠ i → op' j = op j)
    (hd : Dom K') (hco : Coh n (va_up S i K')) : Rel n wy b' (va_up S i K') mw' wb' sl sv' iv' ug' wo' li' sx' ux' co' ck' sn' da' va' la' ki' wa' op' tu ct' := by
  obtain ⟨h1, h2, ⟨C, c1, c2, c3⟩, h4, h5, h6⟩ := h
  refine ⟨hM, h2, ⟨C', hck, hC', fun j hj => ?_⟩, fun j hj => ?_, fun j hj => ?_, hco⟩
  · by_cases e : j = i
    · subst e; rw [va_up_self]; exact hcc
    · rw [va_up_ne _ _ e]
      obtain ⟨ln, u, v, U, hc⟩ := c3 j hj
      exact ⟨ln, u, v, U, CC_fr hc hb (hmono C c1 c2) (fun q hq => f1 _ (by omega)) (fun q hq => f2 _ (by omega)) (fun q hq => f3 _ (by omega)) (fun q k hq hk => f4 _ (by omega))⟩
  · by_cases e : j = i
    · subst e; rw [va_up_self]; exact hbb
    · rw [va_up_ne _ _ e]
      exact BB_fr (h4 j hj) (g1 j e) (fun q hq => g2 _ (by omega)) (fun q hq => g3 _ (by omega)) (g4 j e) (g5 j e) (g6 j e) (g7 j e)
  · by_cases e : j = i
    · subst e; rw [va_up_self]; exact hd
    · rw [va_up_ne _ _ e]; exact h5 j hj
theorem Coh_up {n i : Nat} {S : Nat → KS} {K' : KS} (h : Coh n S) (h1 : ∀ L, L < 8 → kst K' L = nI 2 ∨ kst K' L = nI 3 → kst (S i) L = nI 2 ∨ kst (S i) L = nI 3) (h2 : ∀ L, L < 8 → kst (S i) L = nI 0 → kst K' L = nI 0) : Coh n (va_up S i K') := by
  intro a c L ha hc hac hL hs
  by_cases ea : a = i
  · subst ea
    rw [va_up_self] at hs
    rw [va_up_ne _ _ (fun z => hac z.symm)]
    exact h a c L ha hc hac hL (h1 L hL hs)
  · rw [va_up_ne _ _ ea] at hs
    by_cases ec : c = i
    · subst ec
      rw [va_up_self]
      exact h2 L hL (h a c L ha hc hac hL hs)
    · rw [va_up_ne _ _ ec]
      exact h a c L ha hc hac hL hs
/-- what a step of the law asks: both answer r, and the relation holds behind -/
def Ans (l : Launch) (D : va_G) (cI cO : ClassId) (aB aM aR aW n wy : Nat) (g : Nat → Option Nat) (ad : Nat → Nat → Nat) (aX : Nat) (e : Nat → Nat) (yC yM : MethodName) (wC wM : List Cond) (avC avM : List Value) (b' : Nat) (S : Nat → KS) (mw : Nat → Int32) (wb : Int32) (sl : Nat) (sv iv ug : Int32) (wo li sx ux co : Nat → Int32) (ck : Int32) (sn da va la ki wa op : Nat → Int32) (tu : Nat) (ct : Nat → Int32) : Prop :=
  ∃ (r : Int32) (S' : Nat → KS) (mw' : Nat → Int32) (wb' : Int32) (sl' : Nat) (sv' iv' ug' : Int32) (wo' li' sx' ux' co' : Nat → Int32) (ck' : Int32) (sn' da' va' la' ki' wa' op' : Nat → Int32) (tu' : Nat) (ct' : Nat → Int32),
    OKM l yC wC D (tysK cI cO) avC (WC cI cO aB aM aR aW n wy g ad S mw wb sl sv iv ug) r (WC cI cO aB aM aR aW n wy g ad S' mw' wb' sl' sv' iv' ug') ∧
    OKM l yM wM D (tysK cI cO) avM (WM cI aX e n wy wo li sx ux co ck sn da va la ki wa op tu ct) r (WM cI aX e n wy wo' li' sx' ux' co' ck' sn' da' va' la' ki' wa' op' tu' ct') ∧
    Rel n wy b' S' mw' wb' sl' sv' iv' ug' wo' li' sx' ux' co' ck' sn' da' va' la' ki' wa' op' tu' ct'
theorem vp_cases (x : Int32) {n : Nat} (hn : n < 2 ^ 31) : (∃ j, j < n ∧ x = nI j) ∨ ¬ vp_in x n := by
  by_cases h : vp_in x n
  · obtain ⟨j, hj, e⟩ := vp_in_of h hn
    exact Or.inl ⟨j, hj, e⟩
  · exact Or.inr h
theorem va_same {S : Nat → KS} {i : Nat} : va_up S i (kst (S i), kua (S i), kwd (S i), kus (S i), ksa (S i), ksw (S i), kk (S i), krk (S i), kra (S i), krw (S i), klw (S i)) = S := by
  funext j
  by_cases h : j = i
  · subst h; exact va_up_self _ _ _
  · exact va_up_ne _ _ h
theorem CC_at {wy i b C U j q : Nat} {K : KS} {sx li ux co : Nat → Int32} {ln u v : Nat → Nat} (h : CC wy i b K sx li ux co C ln u v U) (hq : q < 6) (hs : ¬ sx (6 * i + q) = 0) (hl : ln q = j / 4) : co (4 * (6 * i + q) + j % 4) = kwd K j := by
  rw [(h.2.2.1 q hq hs).2.2.2.2.2.1 (j % 4) (by omega), hl]
  congr 1
  omega
theorem mz_none {sx li co : Nat → Int32} {x w : Int32} {r : Nat} : ∀ t, (∀ k, k < t → ∀ p, mf sx li k x 6 = some p → ¬ sx p = nI 3) → mz sx li co x w r t = w := by
  intro t
  induction t with
  | zero => intro _; rfl
  | succ t ih =>
    intro h
    rw [mz]
    cases hf : mf sx li t x 6 with
    | none => exact ih (fun k hk => h k (by omega))
    | some p =>
      dsimp only
      rw [if_neg (h t (by omega) p hf)]
      exact ih (fun k hk => h k (by omega))
theorem mz_some {sx li co : Nat → Int32} {x w : Int32} {r t0 p : Nat} (hp : mf sx li t0 x 6 = some p) (hs : sx p = nI 3) : ∀ t, t0 < t → (∀ k, k < t → k ≠ t0 → mf sx li k x 6 = none) → mz sx li co x w r t = co (4 * p + r) := by
  intro t
  induction t with
  | zero => intro h; omega
  | succ t ih =>
    intro h hn
    rw [mz]
    by_cases e : t = t0
    · subst e
      rw [hp]
      exact if_pos hs
    · rw [hn t (by omega) e]
      exact ih (by omega) (fun k hk he => hn k (by omega) he)
theorem first_or (P : Nat → Prop) (n : Nat) : (∀ k, k < n → ¬ P k) ∨ ∃ t, t < n ∧ P t ∧ ∀ k, k < t → ¬ P k := by
  induction n with
  | zero => exact Or.inl (fun k hk => by omega)
  | succ n ih =>
    rcases ih with h | ⟨t, h1, h2, h3⟩
    · by_cases hp : P n
      · exact Or.inr ⟨n, by omega, hp, h⟩
      · refine Or.inl (fun k hk => ?_)
        by_cases e : k = n
        · subst e; exact hp
        · exact h k (by omega)
    · exact Or.inr ⟨t, by omega, h2, h3⟩
set_option maxHeartbeats 2000000 in
theorem s_last (l : Launch) (D : va_G) (cI cO : ClassId) (aB aM aR aW n wy : Nat) (g : Nat → Option Nat) (ad : Nat → Nat → Nat) (aX : Nat) (e : Nat → Nat) (b : Nat) (S : Nat → KS) (mw : Nat → Int32) (wb : Int32) (sl : Nat) (sv iv ug : Int32) (wo li sx ux co : Nat → Int32) (ck : Int32) (sn da va la ki wa op : Nat → Int32) (tu : Nat) (ct : Nat → Int32) (x : Int32) (hn2 : 2 ≤ n) (hn : n ≤ 4) (hw0 : 1 ≤ wy) (hw : wy < 4) (hb : b + 2 < 2 ^ 31) (hg : ∀ i, i < n → g i = some (ad i 0)) (hR : Rel n wy b S mw wb sl sv iv ug wo li sx ux co ck sn da va la ki wa op tu ct) : Ans l D cI cO aB aM aR aW n wy g ad aX e y_Bus_last y_Model_last w_Bus_last w_Model_last [.ref aB, .int x] [.ref aX, .int x] (b + 2) S mw wb sl sv iv ug wo li sx ux co ck sn da va la ki wa op tu ct := by
  have hR0 := hR
  obtain ⟨⟨m1, m2, m3, m4, m5⟩, ⟨t1, t2⟩, ⟨C, c1, c2, c3⟩, b4, d5, o6⟩ := hR
  rcases vp_cases x (n := n) (by omega) with ⟨i, hi, rfl⟩ | hx0
  · obtain ⟨p1, p2, p3, p4, p5, p6⟩ := b4 i hi
    obtain ⟨ln, u, v, U, hc⟩ := c3 i hi
    have h1 := lc_last_ok l D cI cO aB aM aR aW n wy sl sv iv ug wb g mw ad S i hn hg hi
    rw [va_same] at h1
    have h2 := lm_last_ok l D cI cO aX e n wy wo li sx ux co ck sn da va la ki wa op tu ct i hn hi
    rw [p4] at h2
    exact ⟨_, _, _, _, _, _, _, _, _, _, _, _, _, _, _, _, _, _, _, _, _, _, _, h1, h2, Rel_mono hR0 (by omega)⟩
  · have h1 := lc_last_bc l D cI cO aB aM aR aW n wy sl sv iv ug wb g mw ad S x hn hg hx0
    have h2 := lm_last_bc l D cI cO aX e n wy wo li sx ux co ck sn da va la ki wa op tu ct x hn hx0
    exact ⟨_, _, _, _, _, _, _, _, _, _, _, _, _, _, _, _, _, _, _, _, _, _, _, h1, h2, Rel_mono hR0 (by omega)⟩
set_option maxHeartbeats 2000000 in
theorem s_request (l : Launch) (D : va_G) (cI cO : ClassId) (aB aM aR aW n wy : Nat) (g : Nat → Option Nat) (ad : Nat → Nat → Nat) (aX : Nat) (e : Nat → Nat) (b : Nat) (S : Nat → KS) (mw : Nat → Int32) (wb : Int32) (sl : Nat) (sv iv ug : Int32) (wo li sx ux co : Nat → Int32) (ck : Int32) (sn da va la ki wa op : Nat → Int32) (tu : Nat) (ct : Nat → Int32) (x : Int32) (hn2 : 2 ≤ n) (hn : n ≤ 4) (hw0 : 1 ≤ wy) (hw : wy < 4) (hb : b + 2 < 2 ^ 31) (hg : ∀ i, i < n → g i = some (ad i 0)) (hR : Rel n wy b S mw wb sl sv iv ug wo li sx ux co ck sn da va la ki wa op tu ct) : Ans l D cI cO aB aM aR aW n wy g ad aX e y_Bus_request y_Model_request w_Bus_request w_Model_request [.ref aB, .int x] [.ref aX, .int x] (b + 2) S mw wb sl sv iv ug wo li sx ux co ck sn da va la ki wa op tu ct := by
  have hR0 := hR
  obtain ⟨⟨m1, m2, m3, m4, m5⟩, ⟨t1, t2⟩, ⟨C, c1, c2, c3⟩, b4, d5, o6⟩ := hR
  rcases vp_cases x (n := n) (by omega) with ⟨i, hi, rfl⟩ | hx0
  · obtain ⟨p1, p2, p3, p4, p5, p6⟩ := b4 i hi
    obtain ⟨ln, u, v, U, hc⟩ := c3 i hi
    rcases p6 with p0 | ⟨kd, k1, k2, k3, k4, k5, -⟩
    · have z0 : krk (S i) = 0 := p0
      have h1 := lc_request_0 l D cI cO aB aM aR aW n wy sl sv iv ug wb g mw ad S i hn hg hi z0
      rw [va_same] at h1
      have h2 := lm_request_0 l D cI cO aX e n wy wo li sx ux co ck sn da va la ki wa op tu ct i hn hi (p5.trans z0)
      exact ⟨_, _, _, _, _, _, _, _, _, _, _, _, _, _, _, _, _, _, _, _, _, _, _, h1, h2, Rel_mono hR0 (by omega)⟩
    · have z0 : ¬ krk (S i) = 0 := by rw [k3]; exact nI_ne0 (by omega) (by omega)
      have h1 := lc_request_1 l D cI cO aB aM aR aW n wy sl sv iv ug wb g mw ad S i hn hg hi z0 k4
      rw [va_same] at h1
      have h2 := lm_request_1 l D cI cO aX e n wy wo li sx ux co ck sn da va la ki wa op tu ct i (kra (S i)) hn hi k4 (by rw [p5]; exact z0) k5
      rw [p5] at h2
      exact ⟨_, _, _, _, _, _, _, _, _, _, _, _, _, _, _, _, _, _, _, _, _, _, _, h1, h2, Rel_mono hR0 (by omega)⟩
  · have h1 := lc_request_bc l D cI cO aB aM aR aW n wy sl sv iv ug wb g mw ad S x hn hg hx0
    have h2 := lm_request_bc l D cI cO aX e n wy wo li sx ux co ck sn da va la ki wa op tu ct x hn hx0
    exact ⟨_, _, _, _, _, _, _, _, _, _, _, _, _, _, _, _, _, _, _, _, _, _, _, h1, h2, Rel_mono hR0 (by omega)⟩
set_option maxHeartbeats 2000000 in
theorem s_buffered (l : Launch) (D : va_G) (cI cO : ClassId) (aB aM aR aW n wy : Nat) (g : Nat → Option Nat) (ad : Nat → Nat → Nat) (aX : Nat) (e : Nat → Nat) (b : Nat) (S : Nat → KS) (mw : Nat → Int32) (wb : Int32) (sl : Nat) (sv iv ug : Int32) (wo li sx ux co : Nat → Int32) (ck : Int32) (sn da va la ki wa op : Nat → Int32) (tu : Nat) (ct : Nat → Int32) (x : Int32) (hn2 : 2 ≤ n) (hn : n ≤ 4) (hw0 : 1 ≤ wy) (hw : wy < 4) (hb : b + 2 < 2 ^ 31) (hg : ∀ i, i < n → g i = some (ad i 0)) (hR : Rel n wy b S mw wb sl sv iv ug wo li sx ux co ck sn da va la ki wa op tu ct) : Ans l D cI cO aB aM aR aW n wy g ad aX e y_Bus_buffered y_Model_buffered w_Bus_buffered w_Model_buffered [.ref aB, .int x] [.ref aX, .int x] (b + 2) S mw wb sl sv iv ug wo li sx ux co ck sn da va la ki wa op tu ct := by
  have hR0 := hR
  obtain ⟨⟨m1, m2, m3, m4, m5⟩, ⟨t1, t2⟩, ⟨C, c1, c2, c3⟩, b4, d5, o6⟩ := hR
  rcases vp_cases x (n := n) (by omega) with ⟨i, hi, rfl⟩ | hx0
  · obtain ⟨p1, p2, p3, p4, p5, p6⟩ := b4 i hi
    obtain ⟨ln, u, v, U, hc⟩ := c3 i hi
    have h1 := lc_buffered_ok l D cI cO aB aM aR aW n wy sl sv iv ug wb g mw ad S i hn hg hi
    rw [va_same] at h1
    have h2 := lm_buffered_ok l D cI cO aX e n wy wo li sx ux co ck sn da va la ki wa op tu ct i hn hi
    rw [p1] at h2
    exact ⟨_, _, _, _, _, _, _, _, _, _, _, _, _, _, _, _, _, _, _, _, _, _, _, h1, h2, Rel_mono hR0 (by omega)⟩
  · have h1 := lc_buffered_bc l D cI cO aB aM aR aW n wy sl sv iv ug wb g mw ad S x hn hg hx0
    have h2 := lm_buffered_bc l D cI cO aX e n wy wo li sx ux co ck sn da va la ki wa op tu ct x hn hx0
    exact ⟨_, _, _, _, _, _, _, _, _, _, _, _, _, _, _, _, _, _, _, _, _, _, _, h1, h2, Rel_mono hR0 (by omega)⟩
set_option maxHeartbeats 2000000 in
theorem s_state (l : Launch) (D : va_G) (cI cO : ClassId) (aB aM aR aW n wy : Nat) (g : Nat → Option Nat) (ad : Nat → Nat → Nat) (aX : Nat) (e : Nat → Nat) (b : Nat) (S : Nat → KS) (mw : Nat → Int32) (wb : Int32) (sl : Nat) (sv iv ug : Int32) (wo li sx ux co : Nat → Int32) (ck : Int32) (sn da va la ki wa op : Nat → Int32) (tu : Nat) (ct : Nat → Int32) (x y : Int32) (hn2 : 2 ≤ n) (hn : n ≤ 4) (hw0 : 1 ≤ wy) (hw : wy < 4) (hb : b + 2 < 2 ^ 31) (hg : ∀ i, i < n → g i = some (ad i 0)) (hR : Rel n wy b S mw wb sl sv iv ug wo li sx ux co ck sn da va la ki wa op tu ct) : Ans l D cI cO aB aM aR aW n wy g ad aX e y_Bus_state y_Model_state w_Bus_state w_Model_state [.ref aB, .int x, .int y] [.ref aX, .int x, .int y] (b + 2) S mw wb sl sv iv ug wo li sx ux co ck sn da va la ki wa op tu ct := by
  have hR0 := hR
  obtain ⟨⟨m1, m2, m3, m4, m5⟩, ⟨t1, t2⟩, ⟨C, c1, c2, c3⟩, b4, d5, o6⟩ := hR
  rcases vp_cases x (n := n) (by omega) with ⟨i, hi, rfl⟩ | hx0
  · obtain ⟨p1, p2, p3, p4, p5, p6⟩ := b4 i hi
    obtain ⟨ln, u, v, U, hc⟩ := c3 i hi
    rcases vp_cases y (n := 8) (by decide) with ⟨L, hL, rfl⟩ | hy0
    · have h1 := lc_state_ok l D cI cO aB aM aR aW n wy sl sv iv ug wb g mw ad S i L hn hg hi hL
      rw [va_same] at h1
      by_cases h0 : kst (S i) L = 0
      · have h2 := lm_state_n l D cI cO aX e n wy wo li sx ux co ck sn da va la ki wa op tu ct i L hn hi hL (CC_n hc hL h0)
        rw [h0] at h1
        exact ⟨_, _, _, _, _, _, _, _, _, _, _, _, _, _, _, _, _, _, _, _, _, _, _, h1, h2, Rel_mono hR0 (by omega)⟩
      · obtain ⟨q, q1, q2, q3, q4, q5⟩ := CC_s hc hL h0
        have h2 := lm_state_s l D cI cO aX e n wy wo li sx ux co ck sn da va la ki wa op tu ct i L (6 * i + q) hn hi hL q2
        rw [q5] at h2
        exact ⟨_, _, _, _, _, _, _, _, _, _, _, _, _, _, _, _, _, _, _, _, _, _, _, h1, h2, Rel_mono hR0 (by omega)⟩
    · have h1 := lc_state_ba l D cI cO aB aM aR aW n wy sl sv iv ug wb g mw ad S i y hn hg hi hy0
      have h2 := lm_state_ba l D cI cO aX e n wy wo li sx ux co ck sn da va la ki wa op tu ct i y hn hi hy0
      exact ⟨_, _, _, _, _, _, _, _, _, _, _, _, _, _, _, _, _, _, _, _, _, _, _, h1, h2, Rel_mono hR0 (by omega)⟩
  · have h1 := lc_state_bc l D cI cO aB aM aR aW n wy sl sv iv ug wb g mw ad S x y hn hg hx0
    have h2 := lm_state_bc l D cI cO aX e n wy wo li sx ux co ck sn da va la ki wa op tu ct x y hn hx0
    exact ⟨_, _, _, _, _, _, _, _, _, _, _, _, _, _, _, _, _, _, _, _, _, _, _, h1, h2, Rel_mono hR0 (by omega)⟩
set_option maxHeartbeats 2000000 in
theorem s_copy (l : Launch) (D : va_G) (cI cO : ClassId) (aB aM aR aW n wy : Nat) (g : Nat → Option Nat) (ad : Nat → Nat → Nat) (aX : Nat) (e : Nat → Nat) (b : Nat) (S : Nat → KS) (mw : Nat → Int32) (wb : Int32) (sl : Nat) (sv iv ug : Int32) (wo li sx ux co : Nat → Int32) (ck : Int32) (sn da va la ki wa op : Nat → Int32) (tu : Nat) (ct : Nat → Int32) (x y : Int32) (hn2 : 2 ≤ n) (hn : n ≤ 4) (hw0 : 1 ≤ wy) (hw : wy < 4) (hb : b + 2 < 2 ^ 31) (hg : ∀ i, i < n → g i = some (ad i 0)) (hR : Rel n wy b S mw wb sl sv iv ug wo li sx ux co ck sn da va la ki wa op tu ct) : Ans l D cI cO aB aM aR aW n wy g ad aX e y_Bus_copy y_Model_copy w_Bus_copy w_Model_copy [.ref aB, .int x, .int y] [.ref aX, .int x, .int y] (b + 2) S mw wb sl sv iv ug wo li sx ux co ck sn da va la ki wa op tu ct := by
  have hR0 := hR
  obtain ⟨⟨m1, m2, m3, m4, m5⟩, ⟨t1, t2⟩, ⟨C, c1, c2, c3⟩, b4, d5, o6⟩ := hR
  rcases vp_cases x (n := n) (by omega) with ⟨i, hi, rfl⟩ | hx0
  · obtain ⟨p1, p2, p3, p4, p5, p6⟩ := b4 i hi
    obtain ⟨ln, u, v, U, hc⟩ := c3 i hi
    rcases vp_cases y (n := 32) (by decide) with ⟨j, hj, rfl⟩ | hy0
    · by_cases h0 : kst (S i) (j / 4) = 0
      · have h1 := lc_copy_0 l D cI cO aB aM aR aW n wy sl sv iv ug wb g mw ad S i j hn hg hi hj h0
        rw [va_same] at h1
        have h2 := lm_copy_n l D cI cO aX e n wy wo li sx ux co ck sn da va la ki wa op tu ct i j hn hi hj (CC_n hc (by omega) h0)
        exact ⟨_, _, _, _, _, _, _, _, _, _, _, _, _, _, _, _, _, _, _, _, _, _, _, h1, h2, Rel_mono hR0 (by omega)⟩
      · have h1 := lc_copy_1 l D cI cO aB aM aR aW n wy sl sv iv ug wb g mw ad S i j hn hg hi hj h0
        rw [va_same] at h1
        obtain ⟨q, q1, q2, q3, q4, q5⟩ := CC_s hc (by omega) h0
        have h2 := lm_copy_s l D cI cO aX e n wy wo li sx ux co ck sn da va la ki wa op tu ct i j (6 * i + q) hn hi hj q2
        rw [CC_at hc q1 q3 q4] at h2
        exact ⟨_, _, _, _, _, _, _, _, _, _, _, _, _, _, _, _, _, _, _, _, _, _, _, h1, h2, Rel_mono hR0 (by omega)⟩
    · have h1 := lc_copy_ba l D cI cO aB aM aR aW n wy sl sv iv ug wb g mw ad S i y hn hg hi hy0
      have h2 := lm_copy_ba l D cI cO aX e n wy wo li sx ux co ck sn da va la ki wa op tu ct i y hn hi hy0
      exact ⟨_, _, _, _, _, _, _, _, _, _, _, _, _, _, _, _, _, _, _, _, _, _, _, h1, h2, Rel_mono hR0 (by omega)⟩
  · have h1 := lc_copy_bc l D cI cO aB aM aR aW n wy sl sv iv ug wb g mw ad S x y hn hg hx0
    have h2 := lm_copy_bc l D cI cO aX e n wy wo li sx ux co ck sn da va la ki wa op tu ct x y hn hx0
    exact ⟨_, _, _, _, _, _, _, _, _, _, _, _, _, _, _, _, _, _, _, _, _, _, _, h1, h2, Rel_mono hR0 (by omega)⟩
set_option maxHeartbeats 2000000 in
theorem s_memory (l : Launch) (D : va_G) (cI cO : ClassId) (aB aM aR aW n wy : Nat) (g : Nat → Option Nat) (ad : Nat → Nat → Nat) (aX : Nat) (e : Nat → Nat) (b : Nat) (S : Nat → KS) (mw : Nat → Int32) (wb : Int32) (sl : Nat) (sv iv ug : Int32) (wo li sx ux co : Nat → Int32) (ck : Int32) (sn da va la ki wa op : Nat → Int32) (tu : Nat) (ct : Nat → Int32) (x : Int32) (hn2 : 2 ≤ n) (hn : n ≤ 4) (hw0 : 1 ≤ wy) (hw : wy < 4) (hb : b + 2 < 2 ^ 31) (hg : ∀ i, i < n → g i = some (ad i 0)) (hR : Rel n wy b S mw wb sl sv iv ug wo li sx ux co ck sn da va la ki wa op tu ct) : Ans l D cI cO aB aM aR aW n wy g ad aX e y_Bus_memory y_Model_memory w_Bus_memory w_Model_memory [.ref aB, .int x] [.ref aX, .int x] (b + 2) S mw wb sl sv iv ug wo li sx ux co ck sn da va la ki wa op tu ct := by
  have hR0 := hR
  obtain ⟨⟨m1, m2, m3, m4, m5⟩, ⟨t1, t2⟩, ⟨C, c1, c2, c3⟩, b4, d5, o6⟩ := hR
  rcases vp_cases x (n := 32) (by decide) with ⟨j, hj, rfl⟩ | hy0
  · have h1 := lc_memory_1 l D cI cO aB aM aR aW n wy sl sv iv ug wb g mw ad S j hn hg hj
    have h2 := lm_memory_1 l D cI cO aX e n wy wo li sx ux co ck sn da va la ki wa op tu ct j hj
    rw [m1 j hj] at h2
    exact ⟨_, _, _, _, _, _, _, _, _, _, _, _, _, _, _, _, _, _, _, _, _, _, _, h1, h2, Rel_mono hR0 (by omega)⟩
  · have h1 := lc_memory_0 l D cI cO aB aM aR aW n wy sl sv iv ug wb g mw ad S x hn hg hy0
    have h2 := lm_memory_0 l D cI cO aX e n wy wo li sx ux co ck sn da va la ki wa op tu ct x hy0
    exact ⟨_, _, _, _, _, _, _, _, _, _, _, _, _, _, _, _, _, _, _, _, _, _, _, h1, h2, Rel_mono hR0 (by omega)⟩
set_option maxHeartbeats 2000000 in
theorem s_count (l : Launch) (D : va_G) (cI cO : ClassId) (aB aM aR aW n wy : Nat) (g : Nat → Option Nat) (ad : Nat → Nat → Nat) (aX : Nat) (e : Nat → Nat) (b : Nat) (S : Nat → KS) (mw : Nat → Int32) (wb : Int32) (sl : Nat) (sv iv ug : Int32) (wo li sx ux co : Nat → Int32) (ck : Int32) (sn da va la ki wa op : Nat → Int32) (tu : Nat) (ct : Nat → Int32) (x : Int32) (hn2 : 2 ≤ n) (hn : n ≤ 4) (hw0 : 1 ≤ wy) (hw : wy < 4) (hb : b + 2 < 2 ^ 31) (hg : ∀ i, i < n → g i = some (ad i 0)) (hR : Rel n wy b S mw wb sl sv iv ug wo li sx ux co ck sn da va la ki wa op tu ct) : Ans l D cI cO aB aM aR aW n wy g ad aX e y_Bus_count y_Model_count w_Bus_count w_Model_count [.ref aB, .int x] [.ref aX, .int x] (b + 2) S mw wb sl sv iv ug wo li sx ux co ck sn da va la ki wa op tu ct := by
  have hR0 := hR
  obtain ⟨⟨m1, m2, m3, m4, m5⟩, ⟨t1, t2⟩, ⟨C, c1, c2, c3⟩, b4, d5, o6⟩ := hR
  rcases vp_cases x (n := 4) (by decide) with ⟨j, hj, rfl⟩ | hy0
  · have h2 := lm_count_1 l D cI cO aX e n wy wo li sx ux co ck sn da va la ki wa op tu ct j hj
    rcases (show j = 0 ∨ j = 1 ∨ j = 2 ∨ j = 3 by omega) with rfl | rfl | rfl | rfl
    · have h1 := lc_count_0 l D cI cO aB aM aR aW n wy sl sv iv ug wb g mw ad S hn hg
      rw [m2] at h2
      exact ⟨_, _, _, _, _, _, _, _, _, _, _, _, _, _, _, _, _, _, _, _, _, _, _, h1, h2, Rel_mono hR0 (by omega)⟩
    · have h1 := lc_count_1 l D cI cO aB aM aR aW n wy sl sv iv ug wb g mw ad S hn hg
      rw [m3] at h2
      exact ⟨_, _, _, _, _, _, _, _, _, _, _, _, _, _, _, _, _, _, _, _, _, _, _, h1, h2, Rel_mono hR0 (by omega)⟩
    · have h1 := lc_count_2 l D cI cO aB aM aR aW n wy sl sv iv ug wb g mw ad S hn hg
      rw [m4] at h2
      exact ⟨_, _, _, _, _, _, _, _, _, _, _, _, _, _, _, _, _, _, _, _, _, _, _, h1, h2, Rel_mono hR0 (by omega)⟩
    · have h1 := lc_count_3 l D cI cO aB aM aR aW n wy sl sv iv ug wb g mw ad S hn hg
      rw [m5] at h2
      exact ⟨_, _, _, _, _, _, _, _, _, _, _, _, _, _, _, _, _, _, _, _, _, _, _, h1, h2, Rel_mono hR0 (by omega)⟩
  · have h1 := lc_count_b l D cI cO aB aM aR aW n wy sl sv iv ug wb g mw ad S x hn hg hy0
    have h2 := lm_count_b l D cI cO aX e n wy wo li sx ux co ck sn da va la ki wa op tu ct x hy0
    exact ⟨_, _, _, _, _, _, _, _, _, _, _, _, _, _, _, _, _, _, _, _, _, _, _, h1, h2, Rel_mono hR0 (by omega)⟩
set_option maxHeartbeats 2000000 in
theorem s_victim (l : Launch) (D : va_G) (cI cO : ClassId) (aB aM aR aW n wy : Nat) (g : Nat → Option Nat) (ad : Nat → Nat → Nat) (aX : Nat) (e : Nat → Nat) (b : Nat) (S : Nat → KS) (mw : Nat → Int32) (wb : Int32) (sl : Nat) (sv iv ug : Int32) (wo li sx ux co : Nat → Int32) (ck : Int32) (sn da va la ki wa op : Nat → Int32) (tu : Nat) (ct : Nat → Int32) (x y : Int32) (hn2 : 2 ≤ n) (hn : n ≤ 4) (hw0 : 1 ≤ wy) (hw : wy < 4) (hb : b + 2 < 2 ^ 31) (hg : ∀ i, i < n → g i = some (ad i 0)) (hR : Rel n wy b S mw wb sl sv iv ug wo li sx ux co ck sn da va la ki wa op tu ct) : Ans l D cI cO aB aM aR aW n wy g ad aX e y_Bus_victim y_Model_victim w_Bus_victim w_Model_victim [.ref aB, .int x, .int y] [.ref aX, .int x, .int y] (b + 2) S mw wb sl sv iv ug wo li sx ux co ck sn da va la ki wa op tu ct := by
  have hR0 := hR
  obtain ⟨⟨m1, m2, m3, m4, m5⟩, ⟨t1, t2⟩, ⟨C, c1, c2, c3⟩, b4, d5, o6⟩ := hR
  rcases vp_cases x (n := n) (by omega) with ⟨i, hi, rfl⟩ | hx0
  · obtain ⟨p1, p2, p3, p4, p5, p6⟩ := b4 i hi
    obtain ⟨ln, u, v, U, hc⟩ := c3 i hi
    rcases vp_cases y (n := 2) (by decide) with ⟨z, hz, rfl⟩ | hy0
    · have h1 := lc_victim_ok l D cI cO aB aM aR aW n wy sl sv iv ug wb g mw ad S i z hn hg hi hz hw
      rw [va_same] at h1
      obtain ⟨q, q1, q2, q3, q4, q5⟩ := CC_room hc hz hw0 hw (by omega) c2
      rcases q5 with ⟨s1, s2⟩ | ⟨s1, s2⟩
      · rw [s2] at h1
        have h2 := lm_victim_0 l D cI cO aX e n wy wo li sx ux co ck sn da va la ki wa op tu ct i z (6 * i + q) hn hi hz hw0 hw q2 s1
        exact ⟨_, _, _, _, _, _, _, _, _, _, _, _, _, _, _, _, _, _, _, _, _, _, _, h1, h2, Rel_mono hR0 (by omega)⟩
      · rw [s2] at h1
        have h2 := lm_victim_1 l D cI cO aX e n wy wo li sx ux co ck sn da va la ki wa op tu ct i z (6 * i + q) hn hi hz hw0 hw q2 s1
        rw [(hc.2.2.1 q q1 s1).2.2.2.1] at h2
        exact ⟨_, _, _, _, _, _, _, _, _, _, _, _, _, _, _, _, _, _, _, _, _, _, _, h1, h2, Rel_mono hR0 (by omega)⟩
    · have h1 := lc_victim_ba l D cI cO aB aM aR aW n wy sl sv iv ug wb g mw ad S i y hn hg hi hy0
      have h2 := lm_victim_ba l D cI cO aX e n wy wo li sx ux co ck sn da va la ki wa op tu ct i y hn hi hy0
      exact ⟨_, _, _, _, _, _, _, _, _, _, _, _, _, _, _, _, _, _, _, _, _, _, _, h1, h2, Rel_mono hR0 (by omega)⟩
  · have h1 := lc_victim_bc l D cI cO aB aM aR aW n wy sl sv iv ug wb g mw ad S x y hn hg hx0
    have h2 := lm_victim_bc l D cI cO aX e n wy wo li sx ux co ck sn da va la ki wa op tu ct x y hn hx0
    exact ⟨_, _, _, _, _, _, _, _, _, _, _, _, _, _, _, _, _, _, _, _, _, _, _, h1, h2, Rel_mono hR0 (by omega)⟩
set_option maxHeartbeats 2000000 in
theorem s_seen (l : Launch) (D : va_G) (cI cO : ClassId) (aB aM aR aW n wy : Nat) (g : Nat → Option Nat) (ad : Nat → Nat → Nat) (aX : Nat) (e : Nat → Nat) (b : Nat) (S : Nat → KS) (mw : Nat → Int32) (wb : Int32) (sl : Nat) (sv iv ug : Int32) (wo li sx ux co : Nat → Int32) (ck : Int32) (sn da va la ki wa op : Nat → Int32) (tu : Nat) (ct : Nat → Int32) (x : Int32) (hn2 : 2 ≤ n) (hn : n ≤ 4) (hw0 : 1 ≤ wy) (hw : wy < 4) (hb : b + 2 < 2 ^ 31) (hg : ∀ i, i < n → g i = some (ad i 0)) (hR : Rel n wy b S mw wb sl sv iv ug wo li sx ux co ck sn da va la ki wa op tu ct) : Ans l D cI cO aB aM aR aW n wy g ad aX e y_Bus_seen y_Model_seen w_Bus_seen w_Model_seen [.ref aB, .int x] [.ref aX, .int x] (b + 2) S mw wb sl sv iv ug wo li sx ux co ck sn da va la ki wa op tu ct := by
  have hR0 := hR
  obtain ⟨⟨m1, m2, m3, m4, m5⟩, ⟨t1, t2⟩, ⟨C, c1, c2, c3⟩, b4, d5, o6⟩ := hR
  rcases vp_cases x (n := 32) (by decide) with ⟨j, hj, rfl⟩ | hy0
  · have h2 := lm_seen_1 l D cI cO aX e n wy wo li sx ux co ck sn da va la ki wa op tu ct j hn hj
    rcases first_or (fun k => kst (S k) (j / 4) = nI 3) n with hq | ⟨t0, h0, h3, hq⟩
    · have h1 := lf_seen_n l D cI cO aB aM aR n sl sv iv ug g aW wy wb mw ad S j hn hg hj hq
      rw [mz_none n ?_, m1 j hj] at h2
      · exact ⟨_, _, _, _, _, _, _, _, _, _, _, _, _, _, _, _, _, _, _, _, _, _, _, h1, h2, Rel_mono hR0 (by omega)⟩
      · intro k hk p hp hs
        obtain ⟨ln, u, v, U, hc⟩ := c3 k hk
        obtain ⟨a1, a2, a3, a4⟩ := mf_spec sx li k (nI (j / 4)) 6 p hp
        by_cases hz : kst (S k) (j / 4) = 0
        · rw [CC_n hc (by omega) hz] at hp; cases hp
        · obtain ⟨q, q1, q2, q3, q4, q5⟩ := CC_s hc (by omega) hz
          rw [hp] at q2; cases q2
          exact hq k hk (q5.symm.trans hs)
    · have h1 := lf_seen_m l D cI cO aB aM aR n sl sv iv ug g aW wy wb mw ad S j t0 hn hg hj h0 hq h3
      obtain ⟨ln, u, v, U, hc⟩ := c3 t0 h0
      obtain ⟨q, q1, q2, q3, q4, q5⟩ := CC_s hc (L := j / 4) (by omega) (by rw [h3]; decide)
      rw [mz_some q2 (q5.trans h3) n h0 ?_, CC_at hc q1 q3 q4] at h2
      · exact ⟨_, _, _, _, _, _, _, _, _, _, _, _, _, _, _, _, _, _, _, _, _, _, _, h1, h2, Rel_mono hR0 (by omega)⟩
      · intro k hk hne
        obtain ⟨ln, u, v, U, hc⟩ := c3 k hk
        exact CC_n hc (by omega) (o6 t0 k (j / 4) h0 hk (fun z => hne z.symm) (by omega) (Or.inr h3))
  · have h1 := lf_seen_b l D cI cO aB aM aR n sl sv iv ug g aW wy wb mw ad S x hy0
    have h2 := lm_seen_0 l D cI cO aX e n wy wo li sx ux co ck sn da va la ki wa op tu ct x hy0
    exact ⟨_, _, _, _, _, _, _, _, _, _, _, _, _, _, _, _, _, _, _, _, _, _, _, h1, h2, Rel_mono hR0 (by omega)⟩
