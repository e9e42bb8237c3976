/-! A family of cores in a world; calls that take the family along. -/
section MKF
variable {p : Program} {l : Launch} {e : Env} {R : Room} {s : State} {m : MethodId} {args : Array Value} {below : List Frame} {meth : Method} {c : Code} {H : Heap} {locs : List Loc} {cells slots : Nat} {Q : State → Prop} {pc : Nat} {ls : Array Slot} {rest st0 : List Value} {cc : ByteArray}
variable {D : va_G} {tys : List (ClassId × FieldType)} {A : Nat → Prop} {X pl pl1 wc wr w1 w2 X1 : va_W} {r v : Int32} {H0 : Heap} {a : Array Value}
theorem mk_calliP (hP : va_P D vwCl (X ++ pl) H) (hD : va_D A (X ++ pl)) (hS : va_S A H0 H locs) (hA : ∀ q : Nat, H0.size ≤ q → A q) (isC isR isB : List Nat) (hC : isC.map (fun i => X[i]?) = wc.map some) (hR : isR.map (fun i => X[i]?) = wr.map some) (hB : isB.map (fun i => (wr ++ w1)[i]?) = X1.map some) (hn : va_nd isR = true) (hnB : va_nd isB = true) (hdis : ∀ i ∈ isR, i ∉ isC)
    (hr : va_Run p l e R s m args below meth c H locs cells slots 0 0 (F0 m pc ls st0) rest (mk_Qi D tys r (w1 ++ pl1) (va_A (wc ++ pl) H.size) a) (va_A (wc ++ pl) H.size))
    (kk : ∀ (H1 : Heap) (locs1 : List Loc), va_P D vwCl (X1 ++ pl1) H1 → va_D A (X1 ++ pl1) → va_S A H0 H1 locs1 → W p l e R s m args below meth c H1 locs1 cells slots Q (F0 m (pc + 3) ls (.int r :: rest))) : W p l e R s m args below meth c H locs cells slots Q (F0 m pc ls st0) := by
  have hF := va_freeP hD hS hA isC hC
  refine va_calli hr hS (fun q _ h => hF q h) hF (fun r' u t H1 locs1 ht hvm hp hB1 hz hk hS1 => ?_)
  obtain ⟨hP1, hK1, hD1⟩ := hB1
  rw [ht] at hP1
  subst hp
  obtain ⟨hP2, hD2⟩ := va_joinP hP hD isC isR hC hR hn hdis hk hF hP1 hD1
  exact kk H1 locs1 (hP2.part isB hB) (hD2.part isB hnB hB) hS1
theorem mk_callvP (hP : va_P D vwCl (X ++ pl) H) (hD : va_D A (X ++ pl)) (hS : va_S A H0 H locs) (hA : ∀ q : Nat, H0.size ≤ q → A q) (isC isR isB : List Nat) (hC : isC.map (fun i => X[i]?) = wc.map some) (hR : isR.map (fun i => X[i]?) = wr.map some) (hB : isB.map (fun i => (wr ++ w1)[i]?) = X1.map some) (hn : va_nd isR = true) (hnB : va_nd isB = true) (hdis : ∀ i ∈ isR, i ∉ isC)
    (hr : va_Run p l e R s m args below meth c H locs cells slots 0 0 (F0 m pc ls st0) rest (mk_Qv D tys (w1 ++ pl1) (va_A (wc ++ pl) H.size) a) (va_A (wc ++ pl) H.size))
    (kk : ∀ (H1 : Heap) (locs1 : List Loc), va_P D vwCl (X1 ++ pl1) H1 → va_D A (X1 ++ pl1) → va_S A H0 H1 locs1 → W p l e R s m args below meth c H1 locs1 cells slots Q (F0 m (pc + 3) ls rest)) : W p l e R s m args below meth c H locs cells slots Q (F0 m pc ls st0) := by
  have hF := va_freeP hD hS hA isC hC
  refine va_callv hr hS (fun q _ h => hF q h) hF (fun u t H1 locs1 ht hvm hp hB1 hz hk hS1 => ?_)
  obtain ⟨hP1, hK1, hD1⟩ := hB1
  rw [ht] at hP1
  obtain ⟨hP2, hD2⟩ := va_joinP hP hD isC isR hC hR hn hdis hk hF hP1 hD1
  exact kk H1 locs1 (hP2.part isB hB) (hD2.part isB hnB hB) hS1
theorem mk_preVP {As : List Value} {b : Nat} {C : String} (hN : nwK s) (hK : va_K D vwCl tys s) (hP : va_P D vwCl (X ++ pl) H) (hD : va_D A (X ++ pl)) (isC : List Nat) (hn : va_nd isC = true) (hC : isC.map (fun i => X[i]?) = wc.map some) (q0 : Nat) {ci : Nat} {q : vw_C} {fs : List Value} (hc : vwCl[ci]? = some q) (he : X[q0]? = some (b, .inr (ci, fs))) (hq : q.1 = C) : PreV s H C b (mk_P D tys (.ref b :: As) H.size (wc ++ pl)) As := by
  subst hq
  exact ⟨mk_blind, va_recv (q0 := q0) hK hP hc (by rw [List.getElem?_append_left (List.getElem?_eq_some_iff.mp he).1]; exact he), fun U hU hW => ⟨rfl, by rw [hU], by rw [hU]; exact hP.part isC hC, va_K.moved hW.alike hK, (hD.part isC hn hC).weaken (fun _ _ _ _ => trivial), hN.warm hW⟩⟩
end MKF
/-- a core's state: states, usedAt, words, uses; store addresses, store words, stores; kind, address, word of its request; last word -/
abbrev KS : Type := (Nat → Int32) × (Nat → Int32) × (Nat → Int32) × Int32 × (Nat → Int32) × (Nat → Int32) × Nat × Int32 × Nat × Int32 × Int32
abbrev kst (S : KS) : Nat → Int32 := S.1
abbrev kua (S : KS) : Nat → Int32 := S.2.1
abbrev kwd (S : KS) : Nat → Int32 := S.2.2.1
abbrev kus (S : KS) : Int32 := S.2.2.2.1
abbrev ksa (S : KS) : Nat → Int32 := S.2.2.2.2.1
abbrev ksw (S : KS) : Nat → Int32 := S.2.2.2.2.2.1
abbrev kk (S : KS) : Nat := S.2.2.2.2.2.2.1
abbrev krk (S : KS) : Int32 := S.2.2.2.2.2.2.2.1
abbrev kra (S : KS) : Nat := S.2.2.2.2.2.2.2.2.1
abbrev krw (S : KS) : Int32 := S.2.2.2.2.2.2.2.2.2.1
abbrev klw (S : KS) : Int32 := S.2.2.2.2.2.2.2.2.2.2
/-- its seven cells -/
def fw (cI : ClassId) (aM wy : Nat) (a : Nat → Nat) (S : KS) : va_W := [(a 0, .inr (1, [.ref (a 3), .ref (a 1), .ref (a 2), .int (nI (kk S)), .int (krk S), .int (nI (kra S)), .int (krw S), .int (klw S)])), (a 1, .inl (cI, 4, .inl (ksa S))), (a 2, .inl (cI, 4, .inl (ksw S))), (a 3, .inr (0, [.ref aM, .int (nI wy), .ref (a 4), .ref (a 5), .ref (a 6), .int (kus S)])), (a 4, .inl (cI, 8, .inl (kst S))), (a 5, .inl (cI, 8, .inl (kua S))), (a 6, .inl (cI, 32, .inl (kwd S)))]
def FM (cI : ClassId) (aM wy n : Nat) (ad : Nat → Nat → Nat) (S : Nat → KS) : va_W := fam n (fun i => fw cI aM wy (ad i) (S i))
def FX (cI : ClassId) (aM wy n : Nat) (ad : Nat → Nat → Nat) (S : Nat → KS) (o : Nat) : va_W := famx n o (fun i => fw cI aM wy (ad i) (S i))
theorem FM_at {cI : ClassId} {aM wy n o : Nat} {ad : Nat → Nat → Nat} {S : Nat → KS} (ho : o < n) (B : va_W) : (B ++ FM cI aM wy n ad S).Perm ((B ++ fw cI aM wy (ad o) (S o)) ++ FX cI aM wy n ad S o) := fam_at ho B
theorem FM_back {cI : ClassId} {aM wy n o : Nat} {ad : Nat → Nat → Nat} {S : Nat → KS} (ho : o < n) (B : va_W) (T : KS) : ((B ++ fw cI aM wy (ad o) T) ++ FX cI aM wy n ad S o).Perm (B ++ FM cI aM wy n ad (va_up S o T)) := by
  have h := (FM_at (cI := cI) (aM := aM) (wy := wy) (ad := ad) (S := va_up S o T) ho B).symm
  rw [va_up_self] at h
  have e : FX cI aM wy n ad (va_up S o T) o = FX cI aM wy n ad S o := famx_eq (fun j hj => by rw [va_up_ne _ _ hj])
  rw [e] at h
  exact h
theorem FX_up {cI : ClassId} {aM wy n o : Nat} {ad : Nat → Nat → Nat} {S : Nat → KS} (T : KS) : FX cI aM wy n ad (va_up S o T) o = FX cI aM wy n ad S o := famx_eq (fun j hj => by rw [va_up_ne _ _ hj])
/-- the line L goes to shared at the first t cores but c: cores, memory, write-backs, whether one held it -/
def sh (c L : Nat) (S : Nat → KS) (mw : Nat → Int32) (wb : Int32) : Nat → (Nat → KS) × (Nat → Int32) × Int32 × Int32
  | 0 => (S, mw, wb, nI 0)
  | t + 1 => if t = c then sh c L S mw wb t else if kst ((sh c L S mw wb t).1 t) L = 0 then sh c L S mw wb t else
    (va_up (sh c L S mw wb t).1 t (upd (kst ((sh c L S mw wb t).1 t)) L (nI 1), ((sh c L S mw wb t).1 t).2), cw_mem (kst ((sh c L S mw wb t).1 t)) (kwd ((sh c L S mw wb t).1 t)) (sh c L S mw wb t).2.1 L, cw_cnt (kst ((sh c L S mw wb t).1 t)) (sh c L S mw wb t).2.2.1 L, nI 1)
/-- the line L is dropped at the first t cores but c; the last: how many -/
def dr (c L : Nat) (S : Nat → KS) (mw : Nat → Int32) (wb iv : Int32) : Nat → (Nat → KS) × (Nat → Int32) × Int32 × Int32
  | 0 => (S, mw, wb, iv)
  | t + 1 => if t = c then dr c L S mw wb iv t else if kst ((dr c L S mw wb iv t).1 t) L = 0 then dr c L S mw wb iv t else
    (va_up (dr c L S mw wb iv t).1 t (upd (kst ((dr c L S mw wb iv t).1 t)) L (nI 0), ((dr c L S mw wb iv t).1 t).2), cw_mem (kst ((dr c L S mw wb iv t).1 t)) (kwd ((dr c L S mw wb iv t).1 t)) (dr c L S mw wb iv t).2.1 L, cw_cnt (kst ((dr c L S mw wb iv t).1 t)) (dr c L S mw wb iv t).2.2.1 L, (dr c L S mw wb iv t).2.2.2 + nI 1)
theorem sh_b (c L : Nat) (S : Nat → KS) (mw : Nat → Int32) (wb : Int32) : ∀ t, (sh c L S mw wb t).2.2.2 = nI 0 ∨ (sh c L S mw wb t).2.2.2 = nI 1 := by
  intro t
  induction t with
  | zero => exact Or.inl rfl
  | succ t ih =>
    rw [sh]
    by_cases h : t = c
    · rw [if_pos h]; exact ih
    · rw [if_neg h]
      by_cases h2 : kst ((sh c L S mw wb t).1 t) L = 0
      · rw [if_pos h2]; exact ih
      · rw [if_neg h2]; exact Or.inr rfl
theorem FM_same {cI : ClassId} {aM wy n o : Nat} {ad : Nat → Nat → Nat} {S : Nat → KS} : FM cI aM wy n ad (va_up S o (kst (S o), kua (S o), kwd (S o), kus (S o), ksa (S o), ksw (S o), kk (S o), krk (S o), kra (S o), krw (S o), klw (S o))) = FM cI aM wy n ad S := by
  have e : va_up S o (kst (S o), kua (S o), kwd (S o), kus (S o), ksa (S o), ksw (S o), kk (S o), krk (S o), kra (S o), krw (S o), klw (S o)) = S := by
    funext j
    by_cases h : j = o
    · subst h; exact va_up_self _ _ _
    · exact va_up_ne _ _ h
  rw [e]
