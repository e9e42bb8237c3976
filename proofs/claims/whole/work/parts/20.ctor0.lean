/-! Constructors: contracts that make cells. -/
def mk_PE (E : State → Prop) (D : va_G) (tys : List (ClassId × FieldType)) (av : List Value) (sz : Nat) (w : va_W) : Array Value → State → Prop := fun a U => mk_P D tys av sz w a U ∧ E U
def mk_QE {U : Type} (D : va_G) (tys : List (ClassId × FieldType)) (W : U → va_W) (A : Nat → Prop) : Array Value → State → Outcome → State → Prop :=
  va_Qv (fun (_ : U) => True) (fun u => mk_B D tys A (W u)) A
def mk_N (l : Launch) (y : MethodName) (ws : List Cond) (rm : Room) (E : State → Prop) (D : va_G) (tys : List (ClassId × FieldType)) (av : List Value) (w : va_W) (Qf : (Nat → Prop) → Array Value → State → Outcome → State → Prop) (mc ms : Nat) : Prop :=
  ∀ sz, Met l y ws rm (mk_PE E D tys av sz w) (Qf (va_A w sz)) mc ms (va_A w sz)
theorem mk_startN {l : Launch} {y : MethodName} {rm : Room} {cc : ByteArray} {maxL mc ms : Nat} {ret : Option FieldType} {E : State → Prop} {D : va_G} {tys : List (ClassId × FieldType)} {av : List Value} {w : va_W} {Qf : (Nat → Prop) → Array Value → State → Outcome → State → Prop}
    (hy : plainName y.cls = true) (hn : (lg_sl av).length ≤ maxL)
    (body : ∀ (p : Program) (e : Env) (s : State) (m : MethodId) (below : List Frame) (meth : Method) (c : Code) (A : Nat → Prop) (ls : Array Slot) (H : Heap) (locs : List Loc), E s → p.tables.exec = Jvm.exec → c.code = cc → c.maxLocals = maxL → meth.sig.returnType = ret → meth.locks = false → meth.name = y.name → (∀ x ∈ BG, x.before av.toArray s = true) → nwK s → s.vm.findClass y.cls = some m.cls → va_K D vwCl tys s → va_P D vwCl w H → va_D A w → (∀ q : Nat, s.heap.size ≤ q → A q) → lv_has ls maxL (lv_args 0 av) → va_S A s.heap H locs →
      W p l e rm s m av.toArray below meth c H locs 0 0 (MQ below (Qf A) av.toArray s mc ms A) (F0 m 0 ls [])) : mk_N l y (Cond.code y cc maxL ret :: BG) rm E D tys av w Qf mc ms := by
  intro sz
  refine Met.ofW (cc := cc) (maxL := maxL) (ret := ret) hy rfl ?_
  intro p e s m args below meth c s₁ B hml hv
  obtain ⟨⟨rfl, hsz, hP, hK, hD0, hN⟩, hE⟩ := hv
  subst hsz
  have hl := lv_entry av (n := maxL) hn
  rw [lg_entry_eq]
  exact body p e s m below meth c _ _ _ _ hE B.exec B.bytes hml B.returns B.notSynchronized (name_of_methodNamed B.named B.method).1 (fun w hw => atoms_spec (ws := Cond.code y cc maxL ret :: BG) B.pre w (List.mem_cons_of_mem _ hw)) hN (findClass_of_methodNamed B.named) hK hP hD0.self (fun q h => Or.inr h) hl va_S.rf
section MKN
variable {p : Program} {l : Launch} {e : Env} {R : Room} {s : State} {m : MethodId} {args : Array Value} {below : List Frame} {meth : Method} {c : Code} {H : Heap} {locs : List Loc} {cells slots mc ms : Nat} {Q : State → Prop} {pc : Nat} {ls : Array Slot} {rest st0 : List Value} {cc : ByteArray}
variable {D : va_G} {tys : List (ClassId × FieldType)} {A : Nat → Prop} {X pl wc wr w2 : va_W} {H0 : Heap} {a : Array Value} {cI cO : ClassId}
theorem mk_vretE {U : Type} {W1 : U → va_W} {w1 : va_W} (u : U) (hx : p.tables.exec = Jvm.exec) (hb : c.code = cc) (hr : meth.sig.returnType = none) (hlocks : meth.locks = false) (hK : va_K D vwCl tys s) (hP : va_P D vwCl w1 H) (hD : va_D A w1) (hS : va_S A s.heap H locs) (hdg : decode cc pc = .ok (.return_, 1)) (ew : w1 = W1 u) :
    W p l e R s m args below meth c H locs cells slots (MQ below (mk_QE D tys W1 A) args s cells slots A) (F0 m pc ls []) := by
  subst ew
  exact W.vret hx hb hr (fun t ht hW => ⟨⟨u, rfl, trivial, by rw [ht]; exact hP, va_K.moved hW.alike hK, hD⟩, hS.F ht⟩) hS.2.2 hdg hlocks
theorem mk_callvE {U : Type} {w1 X1 : U → va_W} (hP : va_P D vwCl (X ++ pl) H) (hD : va_D A (X ++ pl)) (hS : va_S A H0 H locs) (hA : ∀ q : Nat, H0.size ≤ q → A q) (isC isR isB : List Nat) (hC : isC.map (fun i => X[i]?) = wc.map some) (hR : isR.map (fun i => X[i]?) = wr.map some) (hB : ∀ u, isB.map (fun i => (wr ++ w1 u)[i]?) = (X1 u).map some) (hn : va_nd isR = true) (hnB : va_nd isB = true) (hdis : ∀ i ∈ isR, i ∉ isC)
    (hr : va_Run p l e R s m args below meth c H locs cells slots mc ms (F0 m pc ls st0) rest (mk_QE D tys w1 (va_A wc H.size) a) (va_A wc H.size))
    (kk : ∀ (u : U) (H1 : Heap) (locs1 : List Loc), va_P D vwCl (X1 u ++ pl) H1 → va_D A (X1 u ++ pl) → va_S A H0 H1 locs1 → W p l e R s m args below meth c H1 locs1 (cells + mc) (slots + ms) Q (F0 m (pc + 3) ls rest)) : W p l e R s m args below meth c H locs cells slots Q (F0 m pc ls st0) := by
  have hF := mk_fr hD hS hA isC hC
  refine va_callv hr hS (fun q _ h => hF q h) hF (fun u t H1 locs1 ht hvm hp hB1 hz hk hS1 => ?_)
  obtain ⟨hP1, hK1, hD1⟩ := hB1
  rw [ht] at hP1
  obtain ⟨hP2, hD2⟩ := va_joinQ hP hD isC isR hC hR hn hdis hk hF hP1 hD1
  exact kk u H1 locs1 (hP2.part isB (hB u)) (hD2.part isB hnB (hB u)) hS1
theorem mk_preE {E : State → Prop} {As : List Value} (hE : ∀ U : State, s.WarmedH U.vm → E U) (hb : ∀ (U : State) (g : JFrame) (mk : MethodId) (a : Array Value), E U → E (U.calling g mk a)) (hN : nwK s) (hK : va_K D vwCl tys s) (hP : va_P D vwCl (X ++ pl) H) (hD : va_D A (X ++ pl)) (isC : List Nat) (hn : va_nd isC = true) (hC : isC.map (fun i => X[i]?) = wc.map some) : PreS s H (mk_PE E D tys As H.size wc) As :=
  ⟨fun a U g mk q => ⟨mk_blind a U g mk q.1, hb U g mk a q.2⟩, fun U hU hW => ⟨⟨rfl, by rw [hU], by rw [hU]; exact mk_pcut hP isC hC, va_K.moved hW.alike hK, (mk_dcut hD isC hn hC).weaken (fun _ _ _ _ => trivial), hN.warm hW⟩, hE U hW⟩⟩
theorem mk_newa (hx : p.tables.exec = Jvm.exec) (hb : c.code = cc) (harr : (Cond.arrayClass FieldType.int).before args s = true) (hK : va_K D vwCl (tysK cI cO) s) (hP : va_P D vwCl (X ++ pl) H) (hD : va_D A (X ++ pl)) (hS : va_S A H0 H locs) (hA : ∀ q : Nat, H0.size ≤ q → A q) {N : Nat} (hN : N < 1000) (hcells : cells + 1 ≤ R.cells) (hslots : slots + N ≤ R.slots) (hdg : decode cc pc = .ok (.newarray .int, 2))
    (kk : ∀ (q : Nat) (H1 : Heap), va_P D vwCl ((X ++ [(q, .inl (cI, N, .inl (fun _ => 0)))]) ++ pl) H1 → va_D A ((X ++ [(q, .inl (cI, N, .inl (fun _ => 0)))]) ++ pl) → va_S A H0 H1 locs →
      W p l e R s m args below meth c H1 locs (cells + 1) (slots + N) Q (F0 m (pc + 2) ls (.ref q :: rest))) : W p l e R s m args below meth c H locs cells slots Q (F0 m pc ls (.int (nI N) :: rest)) := by
  refine va_newa (atype := .int) (ty := .int) (a0 := (N, .inl (fun _ => 0))) hx hb harr rfl hK hP hD hS hA (fun cA => rfl) (nI_pos (by omega)) (nI_clamp (by omega)) (by simp [componentBytes]; omega) hcells hslots hdg (fun q cA H1 hK1 hP1 hD1 hS1 => ?_)
  have e : cA = cI := by
    have h1 : s.vm.findClass ("[" ++ (FieldType.int).toString) = some cA := (hK1.2 2 (cA, .int) rfl).2
    have h2 : s.vm.findClass ("[" ++ (FieldType.int).toString) = some cI := (hK.2 0 (cI, .int) rfl).2
    exact Option.some.inj (h1.symm.trans h2)
  subst e
  exact kk q H1 hP1.swap hD1.swap hS1
theorem mk_newq (hx : p.tables.exec = Jvm.exec) (hb : c.code = cc) {own : String} {index : Nat} (hown : s.vm.findClass own = some m.cls) (hcl : (Cond.classLink own index "SnoopingBus$Core").before args s = true) (hover : va_AO "SnoopingBus$Core" s) (hK : va_K D vwCl (tysK cI cO) s) (hP : va_P D vwCl (X ++ pl) H) (hD : va_D A (X ++ pl)) (hS : va_S A H0 H locs) (hA : ∀ q : Nat, H0.size ≤ q → A q) {N : Nat} (hN : N < 1000) (hcells : cells + 1 ≤ R.cells) (hslots : slots + N ≤ R.slots) (hdg : decode cc pc = .ok (.anewarray index, 3))
    (kk : ∀ (q : Nat) (H1 : Heap), va_P D vwCl ((X ++ [(q, .inl (cO, N, .inr (.inr (.inr (.inr (fun _ => none))))))]) ++ pl) H1 → va_D A ((X ++ [(q, .inl (cO, N, .inr (.inr (.inr (.inr (fun _ => none))))))]) ++ pl) → va_S A H0 H1 locs →
      W p l e R s m args below meth c H1 locs (cells + 1) (slots + N) Q (F0 m (pc + 3) ls (.ref q :: rest))) : W p l e R s m args below meth c H locs cells slots Q (F0 m pc ls (.int (nI N) :: rest)) := by
  refine va_newq hx hb hown hcl hover hK hP hD hS hA (nI_pos (by omega)) (nI_clamp (by omega)) (by omega) hcells hslots hdg (fun q cA H1 hK1 hP1 hD1 hS1 => ?_)
  have e : cA = cO := by
    obtain ⟨_, _, _, _, _, h1⟩ := (hK1.2 2 (cA, .object "SnoopingBus$Core") rfl).2
    obtain ⟨_, _, _, _, _, h2⟩ := (hK.2 1 (cO, .object "SnoopingBus$Core") rfl).2
    exact Option.some.inj (h1.symm.trans h2)
  subst e
  exact kk q H1 hP1.swap hD1.swap hS1
theorem mk_new {C : String} {T : u_T} {N ci index : Nat} {own : String} (hx : p.tables.exec = Jvm.exec) (hb : c.code = cc) (hts : ∀ w ∈ BG, w.before args s = true) (hin : ∀ w ∈ u_ws C T N, w ∈ BG) (ty : Nat → FieldType) (hty : ∀ k, k < N → parseFieldDescriptor (T k).2.2.1 = some (ty k)) (hown : s.vm.findClass own = some m.cls) (hcl : (Cond.classLink own index C).before args s = true) (hinst : (Cond.instantiable C N).before args s = true) (hini : (Cond.initialized C).before args s = true)
    (hK : va_K D vwCl tys s) (hP : va_P D vwCl (X ++ pl) H) (hD : va_D A (X ++ pl)) (hS : va_S A H0 H locs) (hA : ∀ q : Nat, H0.size ≤ q → A q) (hc : vwCl[ci]? = some (C, T, N)) {fs : List Value} (hfs : ∀ j, j < N → defaultValue (ty j) = vp_V fs j) (hcells : cells + 1 ≤ R.cells) (hslots : slots + N ≤ R.slots) (hdg : decode cc pc = .ok (.new index, 3))
    (kk : ∀ (q : Nat) (H1 : Heap), va_P D vwCl ((X ++ [(q, .inr (ci, fs))]) ++ pl) H1 → va_D A ((X ++ [(q, .inr (ci, fs))]) ++ pl) → va_S A H0 H1 locs →
      W p l e R s m args below meth c H1 locs (cells + 1) (slots + N) Q (F0 m (pc + 3) ls (.ref q :: rest))) : W p l e R s m args below meth c H locs cells slots Q (F0 m pc ls rest) :=
  va_new hx hb hts hin ty hty hown hcl hinst hini hK hP hD hS hA hc hfs hcells hslots hdg (fun q H1 hP1 hD1 hS1 => kk q H1 hP1.swap hD1.swap hS1)
end MKN
theorem fs_Cache : ∀ j, j < 6 → defaultValue (ty_Cache j) = vp_V [.null, .int 0, .null, .null, .null, .int 0] j := by decide +kernel
theorem fs_Core : ∀ j, j < 8 → defaultValue (ty_Core j) = vp_V [.null, .null, .null, .int 0, .int 0, .int 0, .int 0, .int 0] j := by decide +kernel
theorem fs_Mem : ∀ j, j < 2 → defaultValue (ty_Mem j) = vp_V [.null, .int 0] j := by decide +kernel
theorem fs_Bus : ∀ j, j < 6 → defaultValue (ty_Bus j) = vp_V [.null, .null, .int 0, .int 0, .int 0, .int 0] j := by decide +kernel
theorem fs_Model : ∀ j, j < 17 → defaultValue (ty_Model j) = vp_V [.int 0, .int 0, .null, .null, .null, .null, .null, .int 0, .null, .null, .null, .null, .null, .null, .null, .int 0, .null] j := by decide +kernel
/-- seven addresses as a function -/
def mkad (q0 q1 q2 q3 q4 q5 q6 : Nat) : Nat → Nat := fun k => match k with
  | 0 => q0
  | 1 => q1
  | 2 => q2
  | 3 => q3
  | 4 => q4
  | 5 => q5
  | _ => q6
theorem FM_push {cI : ClassId} {aM wy t : Nat} {ad : Nat → Nat → Nat} {S : Nat → KS} (B : va_W) (a : Nat → Nat) : ((B ++ fw cI aM wy a (S t)) ++ FM cI aM wy t ad S).Perm (B ++ FM cI aM wy (t + 1) (va_up ad t a) S) := by
  have e : FM cI aM wy (t + 1) (va_up ad t a) S = FM cI aM wy t ad S ++ fw cI aM wy a (S t) := by
    unfold FM fam
    rw [List.range_succ, List.flatMap_append]
    congr 1
    · rw [List.flatMap_def, List.flatMap_def]
      congr 1
      apply List.map_congr_left
      intro j hj
      have : j ≠ t := Nat.ne_of_lt (List.mem_range.mp hj)
      rw [va_up_ne _ _ this]
    · simp [va_up_self]
  rw [e, List.append_assoc]
  exact List.Perm.append_left B List.perm_append_comm
