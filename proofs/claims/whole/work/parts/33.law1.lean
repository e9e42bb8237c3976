/-! THE CLAIM OUT OF ONE WALK OF THE LAW'S BODY. Your part is whole_start (and what it stands on); all else here is the same for every law, but numbers. -/
def R_law : String := "SnoopingBusLaw"
def lw_P (b : Addr) (xs : List Int32) (args : Array Value) (s : State) : Prop := args = #[.ref b] ∧ s.IntsAt b xs ∧ xs.length ≤ 2050 ∧ (Jvm.Cond.and given_1 narrow_1).before args s = true
def lw_Q (_ : Array Value) (s : State) (o : Outcome) (t : State) : Prop := o = .returned (some (.int 1)) ∧ Framed s o t [] 600000 7302249
def lw_Z (below : List Frame) (a : Array Value) (s : State) : State → Prop := fun t => ∃ o, t.status = .running ∧ Ended t below o ∧ lw_Q a s o t
/-- the law's own end, with 1 on the stack, nothing written that was there before, its room as the claim has it -/
theorem lw_ret {p : Program} {l : Launch} {e : Env} {s : State} {m : MethodId} {below : List Frame} {meth : Method} {c : Code} {b : Nat} (hx : p.tables.exec = Jvm.exec) (hb : c.code = code) (hr : meth.sig.returnType = ret) (hlocks : meth.locks = false) {pc : Nat} {H : Heap} {ls : Array Slot} (hdg : decode code pc = .ok (.ireturn, 1)) : W p l e room_1 s m #[Value.ref b] below meth c H [] 600000 7302249 (lw_Z below #[Value.ref b] s) (F0 m pc ls [.int 1]) := by
  intro T hT X
  obtain ⟨fs, hret, hrun, hended, hW, hframe⟩ := X.leave (v := some (.int 1)) (hlocks := hlocks) (fun h => by rw [hr] at h; cases h)
  have hmeth' : T.vm.method? m = some meth := X.method'
  refine ⟨T.setFrames fs, ?_, .returned (some (.int 1)), hrun, hended, rfl, ⟨_, rfl⟩, hW, hframe⟩
  jvm_step X.here [X.here.top, hx, hb, hdg, hmeth', hr, ret, narrow_b1]
  (try refine ⟨rfl, ?_⟩); (try refine ⟨rfl, ?_⟩)
  first | (intro acts; rw [hret _ acts rfl rfl rfl]) | rw [hret _ _ rfl rfl rfl]
  exact Steps.refl _
/-- what holds at the law's entry: the machine, the code, the tables' words (any of lw_tbl by 'hts w (by decide +kernel)'), the script of L ints xs at the cell b, what the Statement gives of the start (any of its parts by flat_of_before) -/
def lw_At (p : Program) (s : State) (m : MethodId) (meth : Method) (c : Code) (b L : Nat) (xs : Nat → Int32) : Prop :=
  p.tables.exec = Jvm.exec ∧ c.code = code ∧ meth.sig.returnType = ret ∧ c.maxLocals = 4 ∧ s.vm.findClass R_law = some m.cls ∧ (∀ w ∈ lw_tbl, w.before #[Value.ref b] s = true) ∧ va_X b L xs s s.heap ∧ b < s.heap.size ∧ meth.locks = false ∧ (Jvm.Cond.and given_1 narrow_1).before #[Value.ref b] s = true
/-! The law: its start, its calls. -/
section MKZ
variable {p : Program} {l : Launch} {e : Env} {R : Room} {s : State} {m : MethodId} {args : Array Value} {below : List Frame} {meth : Method} {c : Code} {H : Heap} {locs : List Loc} {cells slots : Nat} {Q : State → Prop} {pc : Nat} {ls : Array Slot} {rest st0 : List Value} {cc : ByteArray}
variable {D : va_G} {tys : List (ClassId × FieldType)} {A : Nat → Prop} {wc wr w1 : va_W} {r : Int32} {H0 : Heap} {a : Array Value}
theorem mk_sld (hx : p.tables.exec = Jvm.exec) (hb : c.code = cc) {b L : Nat} {xs : Nat → Int32} (hX : va_X b L xs s H0) (hbl : b < H0.size) (hbA : ¬ A b) (hS : va_S A H0 H locs) {j : Nat} (hj : j < L) (hL : L < 2 ^ 31) (hdg : decode cc pc = .ok (.iaload, 1))
    (kk : W p l e R s m args below meth c H locs cells slots Q (F0 m (pc + 1) ls (.int (xs j) :: rest))) : W p l e R s m args below meth c H locs cells slots Q (F0 m pc ls (.int (nI j) :: .ref b :: rest)) := by
  refine va_sld hx hb hX hbl hbA hS (vp_in_nI hj hL) hdg ?_
  rw [nI_clamp (by omega)]
  exact kk
theorem range_some (w : va_W) : (List.range w.length).map (fun i => w[i]?) = w.map some := by
  apply List.ext_getElem?
  intro k
  rw [List.getElem?_map, List.getElem?_map]
  by_cases h : k < w.length
  · rw [List.getElem?_range h, List.getElem?_eq_getElem h]
    simp [h]
  · rw [List.getElem?_eq_none (by simp; omega), List.getElem?_eq_none (by omega)]
    rfl
theorem mk_run {y : MethodName} {bytes : ByteArray} {maxL n index ci : Nat} {ret : Option FieldType} {own C : String} {b : Nat} {As : List Value} {q : vw_C} {fs : List Value} (hx : p.tables.exec = Jvm.exec) (hb : c.code = cc) (hml : c.maxLocals = 4) (hown : s.vm.findClass own = some m.cls) (hts : ∀ w ∈ BG, w.before args s = true) (hN : nwK s) (hK : va_K D vwCl tys s)
    (hP : va_P D vwCl (wc ++ wr) H) (hD : va_D A (wc ++ wr)) (hS : va_S A H0 H locs) (hA : ∀ q : Nat, H0.size ≤ q → A q)
    (hOK : OKM l y (Cond.code y bytes maxL ret :: BG) D tys (.ref b :: As) wc r w1) (hg : GoodIn BG (Cond.code y bytes maxL ret :: BG)) (hmx : maxL ≤ 10) (hini : (Cond.initialized y.cls).before args s = true) (hl : (Cond.methodLink own index y).before args s = true) (hin : (Cond.instanceMethod y).before args s = true) (hse : (Cond.selects C y y).before args s = true)
    (hd : y.cls ≠ "java/lang/invoke/MethodHandle" ∧ y.cls ≠ "java/lang/invoke/VarHandle" ∧ (parseMethodDescriptor y.desc).map (fun d => d.parameters.length) = some n) (hc : vwCl[ci]? = some q) (he : wc[0]? = some (b, .inr (ci, fs))) (hq : q.1 = C) (hls : ls.size = 4) (hn : As.length = n) (hst : st0 = As.reverse ++ .ref b :: rest) (hrest : (rest.map fun v => v.category).sum ≤ 8) (hdg : decode cc pc = .ok (.invokevirtual index, 3)) (hc0 : cells ≤ 600000) (hs0 : slots ≤ 7302249)
    (kk : ∀ (H1 : Heap) (locs1 : List Loc), va_P D vwCl (w1 ++ wr) H1 → va_D A (w1 ++ wr) → va_S A H0 H1 locs1 → W p l e room_1 s m args below meth c H1 locs1 cells slots Q (F0 m (pc + 3) ls (.int r :: rest))) : W p l e room_1 s m args below meth c H locs cells slots Q (F0 m pc ls st0) := by
  obtain ⟨rm, r1, r2, r3, r4, hM⟩ := hOK
  subst hq
  have hC := range_some wc
  have hnd : va_nd (List.range wc.length) = true := by
    have key : ∀ l : List Nat, l.Nodup → va_nd l = true := by
      intro l
      induction l with
      | nil => intro _; rfl
      | cons x t ih =>
        intro h
        rw [List.nodup_cons] at h
        unfold va_nd
        simp [h.1, ih h.2]
    exact key _ List.nodup_range
  have hpre : PreV s H q.1 b (mk_P D tys (.ref b :: As) H.size wc) As :=
    mk_preV (q0 := 0) hN hK hP hD (List.range wc.length) hnd hC hc he rfl
  have hrun : va_Run p l e room_1 s m args below meth c H locs cells slots 0 0 (F0 m pc ls st0) rest (mk_Qi D tys r w1 (va_A wc H.size) (Value.ref b :: As).toArray) (va_A wc H.size) :=
    va_runV (b := b) (As := As) (rest := rest) (C := q.1) ⟨hx, hb, hml, hown, hts⟩ (hM H.size) ⟨callB_of n hts hg rfl r1 r2 hini hl hd ⟨show rm.frames + 1 ≤ 9 by omega, show 8 + (maxL + 11) + rm.locals ≤ 320 by omega⟩, hin, hse⟩ hpre rfl hn hls hst (lv_room (m := m) (pc := pc) (ls := ls) (rest := st0) hrest) hdg ⟨hc0, hs0⟩
  refine mk_calli (X := wc) (pl := wr) (wc := wc) (wr := []) (w1 := w1) (X1 := w1) hP hD hS hA (List.range wc.length) [] (List.range w1.length) hC rfl (by rw [List.nil_append]; exact range_some w1) rfl ?_ (fun i hi => by cases hi) hrun kk
  have key : ∀ l : List Nat, l.Nodup → va_nd l = true := by
    intro l
    induction l with
    | nil => intro _; rfl
    | cons x t ih =>
      intro h
      rw [List.nodup_cons] at h
      unfold va_nd
      simp [h.1, ih h.2]
  exact key _ List.nodup_range
end MKZ
set_option maxHeartbeats 4000000 in
set_option maxRecDepth 100000 in
theorem n_cell (l : Launch) (b L : Nat) (xs : Nat → Int32) (k : Nat) (hk : k < 2) (hL : L ≤ 2050) : Met l y_Law_cell w_Law_cell ({ frames := 0, cells := 0, slots := 0, locals := 0 } : Room) (va_Pc [.ref b, .int (nI k)] (fun U => va_X b L xs U U.heap ∧ b < U.heap.size)) (va_Qi (fun (x : Int32) (_ : Unit) => x = if k < L then xs k else 0) (fun _ _ => True) (fun _ => False)) 0 0 (fun _ => False) := by
  refine Met.ofW (cc := b_Law_cell) (maxL := 2) (ret := some .int) (by decide) rfl ?_
  intro p e s m args below meth c s₁ B hml hv
  obtain ⟨rfl, hX, hbl⟩ := hv
  have hx := B.exec
  have hb := B.bytes
  have hr := B.returns
  have hlocks := B.notSynchronized
  have hS : va_S (fun _ => False) s.heap s.heap [] := va_S.rf
  have hl := lv_entry ([.ref b, .int (nI k)]) (n := 2) (Nat.le_of_ble_eq_true rfl)
  rw [lg_entry_eq]
  generalize (lg_sl ([.ref b, .int (nI k)]) ++ List.replicate (2 - (lg_sl ([.ref b, .int (nI k)])).length) Slot.unset).toArray = ls at hl ⊢
  have hl : lv_has ls 2 [(0, .ref b), (1, .int (nI k))] := hl
  refine lv_iload_n hx hb d_Law_cell_0 rfl (lv_at hl 1 rfl) ?_
  refine lv_aload_n hx hb d_Law_cell_1 rfl (lv_at hl 0 rfl) ?_
  refine va_slen hx hb hX hbl (fun h => h) hS d_Law_cell_2 ?_
  refine mk_top (show _ = nI L from rfl) ?_
  refine lv_icmp_ge (tgt := 12) hx hb d_Law_cell_3 rfl (fun h => ?_) (fun h => ?_)
  · have h' : L ≤ k := (nI_leI (by omega) (by omega)).mp h
    refine lv_iconst (v := 0) hx hb d_Law_cell_12 (by decide) ?_
    exact W.iret hx hb hr (fun t ht hW => ⟨⟨0, (), rfl, by rw [if_neg (by omega)], trivial⟩, hS.F ht⟩) hS.2.2 d_Law_cell_13 hlocks
  · have h' : ¬ L ≤ k := fun q => h ((nI_leI (by omega) (by omega)).mpr q)
    refine lv_aload_n hx hb d_Law_cell_6 rfl (lv_at hl 0 rfl) ?_
    refine lv_iload_n hx hb d_Law_cell_7 rfl (lv_at hl 1 rfl) ?_
    refine mk_sld hx hb hX hbl (fun h => h) hS (show k < L by omega) (by omega) d_Law_cell_8 ?_
    refine lv_goto (tgt := 13) hx hb d_Law_cell_9 rfl ?_
    exact W.iret hx hb hr (fun t ht hW => ⟨⟨xs k, (), rfl, by rw [if_pos (by omega)], trivial⟩, hS.F ht⟩) hS.2.2 d_Law_cell_13 hlocks
section MKY
variable {p : Program} {l : Launch} {e : Env} {s : State} {m : MethodId} {args : Array Value} {below : List Frame} {meth : Method} {c : Code} {H : Heap} {locs : List Loc} {cells slots : Nat} {Q : State → Prop} {pc : Nat} {ls : Array Slot} {rest : List Value}
variable {D : va_G} {A : Nat → Prop} {w : va_W}
theorem mk_cell {b L : Nat} {xs : Nat → Int32} (hx : p.tables.exec = Jvm.exec) (hb : c.code = code) (hml : c.maxLocals = 4) (hown : s.vm.findClass R_law = some m.cls) (hts : ∀ w ∈ BG, w.before args s = true) (hX : va_X b L xs s s.heap) (hbl : b < s.heap.size) (hbA : ¬ A b) (hS : va_S A s.heap H locs) (hP : va_P D vwCl w H) (k : Nat) (hk : k < 2) (hL : L ≤ 2050) (hls : ls.size = 4) (hrest : (rest.map fun v => v.category).sum ≤ 8) (hdg : decode code pc = .ok (.invokestatic 9, 3)) (hc0 : cells ≤ 600000) (hs0 : slots ≤ 7302249)
    (kk : ∀ (H1 : Heap) (locs1 : List Loc), va_P D vwCl w H1 → va_S A s.heap H1 locs1 → W p l e room_1 s m args below meth c H1 locs1 cells slots Q (F0 m (pc + 3) ls (.int (if k < L then xs k else 0) :: rest))) : W p l e room_1 s m args below meth c H locs cells slots Q (F0 m pc ls (.int (nI k) :: .ref b :: rest)) := by
  have hXH : va_X b L xs s H := hX.kept (hS.2.1 b hbl hbA)
  have hrun := va_runS (p := p) (e := e) (R := room_1) (below := below) (meth := meth) (H := H) (locs := locs) (cells := cells) (slots := slots) (g := F0 m pc ls (.int (nI k) :: .ref b :: rest)) (As := [.ref b, .int (nI k)]) (rest := rest) (own := R_law) (index := 9) (Ts := BG) (cc := code) (nL := 4) (m := m) (c := c) (s := s) (args := args) ⟨hx, hb, hml, hown, hts⟩ (n_cell l b L xs k hk hL) ⟨callB_of 2 hts g_Law_cell rfl rfl rfl (hts _ iw_44) (hts _ ilaw_m_9) (by decide +kernel) ⟨by decide, by decide⟩, hts _ iw_226⟩
    ⟨fun a U g mk q => ⟨q.1, va_X.moved (u := U) (U := U.calling g mk a) (Vm.Alike.refl U.vm) q.2.1, q.2.2⟩, fun U hU hW => ⟨rfl, by rw [hU]; exact hXH.moved hW.alike, by rw [hU]; exact Nat.lt_of_lt_of_le hbl hS.1⟩⟩ rfl rfl hls rfl (lv_room (m := m) (pc := pc) (ls := ls) (rest := .int (nI k) :: .ref b :: rest) hrest) hdg ⟨hc0, hs0⟩
  refine va_calli hrun hS (fun q _ h => absurd h (fun h => h)) (fun q h => absurd h (fun h => h)) (fun r u t H1 locs1 ht hvm hp _ hz hkp hS1 => ?_)
  subst hp
  exact kk H1 locs1 (hP.kept (fun k q hq => hkp q.1 ((hP k q hq).lt) (fun h => h))) hS1
end MKY
theorem clamp4 (x : Int32) : ∃ n, 2 ≤ n ∧ n ≤ 4 ∧ (if nI 2 < (if x < nI 4 then x else nI 4) then (if x < nI 4 then x else nI 4) else nI 2) = nI n ∧ (if x < nI 2 then nI 2 else if nI 4 < x then nI 4 else x) = nI n := by
  by_cases h1 : x < nI 2
  · refine ⟨2, by omega, by omega, ?_, by rw [if_pos h1]⟩
    have h2 : x < nI 4 := Int32.lt_trans h1 (by decide)
    rw [if_pos h2, if_neg (fun z => Int32.lt_irrefl (Int32.lt_trans z h1))]
  · by_cases h2 : nI 4 < x
    · refine ⟨4, by omega, by omega, ?_, by rw [if_neg h1, if_pos h2]⟩
      rw [if_neg (fun z => Int32.lt_irrefl (Int32.lt_trans z h2)), if_pos (by decide)]
    · have h3 := Int32.not_lt.mp h1
      have h4 := Int32.not_lt.mp h2
      obtain ⟨j, hj, rfl⟩ := nI_of2 (M := nI 4) (n := 4) (by decide) (fun z => h1 (Int32.lt_trans z (by decide))) h4
      have h5 : 2 ≤ j := (nI_leI (by omega) (by omega)).mp h3
      refine ⟨j, h5, hj, ?_, by rw [if_neg h1, if_neg h2]⟩
      by_cases h6 : nI j < nI 4
      · rw [if_pos h6]
        by_cases h7 : nI 2 < nI j
        · rw [if_pos h7]
        · rw [if_neg h7]
          have := (nI_leI (by omega) (by omega)).mp (Int32.not_lt.mp h7)
          congr 1; omega
      · rw [if_neg h6, if_pos (by decide)]
        have := (nI_leI (by omega) (by omega)).mp (Int32.not_lt.mp h6)
        congr 1; omega
theorem clamp3 (x : Int32) : ∃ n, 1 ≤ n ∧ n ≤ 3 ∧ (if nI 1 < (if x < nI 3 then x else nI 3) then (if x < nI 3 then x else nI 3) else nI 1) = nI n ∧ (if x < nI 1 then nI 1 else if nI 3 < x then nI 3 else x) = nI n := by
  by_cases h1 : x < nI 1
  · refine ⟨1, by omega, by omega, ?_, by rw [if_pos h1]⟩
    have h2 : x < nI 3 := Int32.lt_trans h1 (by decide)
    rw [if_pos h2, if_neg (fun z => Int32.lt_irrefl (Int32.lt_trans z h1))]
  · by_cases h2 : nI 3 < x
    · refine ⟨3, by omega, by omega, ?_, by rw [if_neg h1, if_pos h2]⟩
      rw [if_neg (fun z => Int32.lt_irrefl (Int32.lt_trans z h2)), if_pos (by decide)]
    · have h3 := Int32.not_lt.mp h1
      have h4 := Int32.not_lt.mp h2
      obtain ⟨j, hj, rfl⟩ := nI_of2 (M := nI 3) (n := 3) (by decide) (fun z => h1 (Int32.lt_trans z (by decide))) h4
      have h5 : 1 ≤ j := (nI_leI (by omega) (by omega)).mp h3
      refine ⟨j, h5, hj, ?_, by rw [if_neg h1, if_neg h2]⟩
      by_cases h6 : nI j < nI 3
      · rw [if_pos h6]
        by_cases h7 : nI 1 < nI j
        · rw [if_pos h7]
        · rw [if_neg h7]
          have := (nI_leI (by omega) (by omega)).mp (Int32.not_lt.mp h7)
          congr 1; omega
      · rw [if_neg h6, if_pos (by decide)]
        have := (nI_leI (by omega) (by omega)).mp (Int32.not_lt.mp h6)
        congr 1; omega
