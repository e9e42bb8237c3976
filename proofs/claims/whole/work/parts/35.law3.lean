/-! The law's start. -/
section MKX
variable {p : Program} {l : Launch} {e : Env} {s : State} {m : MethodId} {args : Array Value} {below : List Frame} {meth : Method} {c : Code} {H : Heap} {locs : List Loc} {cells slots mc ms : Nat} {Q : State → Prop} {pc : Nat} {ls : Array Slot} {rest st0 : List Value}
variable {D : va_G} {tys : List (ClassId × FieldType)} {A : Nat → Prop} {wc wr : va_W} {H0 : Heap}
theorem mk_ctorL {U : Type} {W1 : U → va_W} {y : MethodName} {bytes : ByteArray} {maxL n index b : Nat} {As : List Value} {E : State → Prop} {rm : Room} (hx : p.tables.exec = Jvm.exec) (hb : c.code = code) (hml : c.maxLocals = 4) (hown : s.vm.findClass R_law = some m.cls) (hts : ∀ w ∈ BG, w.before args s = true) (hN : nwK s) (hK : va_K D vwCl tys s) (hP : va_P D vwCl (wc ++ wr) H) (hD : va_D A (wc ++ wr)) (hS : va_S A H0 H locs) (hA : ∀ q : Nat, H0.size ≤ q → A q)
    (hM : mk_N l y (Cond.code y bytes maxL none :: BG) rm E D tys (.ref b :: As) wc (mk_QE D tys W1) mc ms) (hrc : rm.cells = mc) (hrs : rm.slots = ms) (hR : rm.frames + 1 ≤ 9 ∧ 8 + (maxL + 11) + rm.locals ≤ 320) (hE : ∀ U : State, s.WarmedH U.vm → E U) (hEb : ∀ (U : State) (g : JFrame) (mk : MethodId) (a : Array Value), E U → E (U.calling g mk a))
    (hg : GoodIn BG (Cond.code y bytes maxL none :: BG)) (hini : (Cond.initialized y.cls).before args s = true) (hl : (Cond.methodLink R_law index y).before args s = true) (hin : (Cond.instanceMethod y).before args s = true) (hy1 : y.name = "<init>") (hd : y.cls ≠ "java/lang/invoke/MethodHandle" ∧ y.cls ≠ "java/lang/invoke/VarHandle" ∧ (parseMethodDescriptor y.desc).map (fun d => d.parameters.length) = some n) (hls : ls.size = 4) (hn : As.length = n) (hst : st0 = As.reverse ++ .ref b :: rest) (hrest : (rest.map fun v => v.category).sum ≤ 8) (hdg : decode code pc = .ok (.invokespecial index, 3)) (hc0 : cells + mc ≤ 600000) (hs0 : slots + ms ≤ 7302249)
    (kk : ∀ (u : U) (H1 : Heap) (locs1 : List Loc), va_P D vwCl (W1 u ++ wr) H1 → va_D A (W1 u ++ wr) → va_S A H0 H1 locs1 → W p l e room_1 s m args below meth c H1 locs1 (cells + mc) (slots + ms) Q (F0 m (pc + 3) ls rest)) : W p l e room_1 s m args below meth c H locs cells slots Q (F0 m pc ls st0) := by
  have hC := range_some wc
  have hnd : va_nd (List.range wc.length) = true := by
    have key : ∀ l : List Nat, l.Nodup → va_nd l = true := by
      intro l
      induction l with
      | nil => intro _; rfl
      | cons x t ih =>
        intro h
        rw [List.nodup_cons] at h
        unfold va_nd
        simp [h.1, ih h.2]
    exact key _ List.nodup_range
  have hpre : PreS s H (mk_PE E D tys (.ref b :: As) H.size wc) (.ref b :: As) := mk_preE hE hEb hN hK hP hD (List.range wc.length) hnd hC
  have hrun : va_Run p l e room_1 s m args below meth c H locs cells slots mc ms (F0 m pc ls st0) rest (mk_QE D tys W1 (va_A wc H.size) (Value.ref b :: As).toArray) (va_A wc H.size) :=
    va_runI (b := b) (As := As) (rest := rest) ⟨hx, hb, hml, hown, hts⟩ (hM H.size) ⟨callB_of n hts hg rfl hrc hrs hini hl hd hR, hy1, hin⟩ hpre rfl hn hls hst (lv_room (m := m) (pc := pc) (ls := ls) (rest := st0) hrest) hdg ⟨hc0, hs0⟩
  have hF := mk_fr hD hS hA (List.range wc.length) hC
  refine va_callv hrun hS (fun q _ h => hF q h) hF (fun u t H1 locs1 ht hvm hp hB1 hz hk hS1 => ?_)
  obtain ⟨hP1, hK1, hD1⟩ := hB1
  rw [ht] at hP1
  obtain ⟨hP2, hD2⟩ := va_joinQ (wr := []) hP hD (List.range wc.length) [] hC rfl rfl (fun i hi => by cases hi) hk hF hP1 hD1
  exact kk u H1 locs1 hP2 hD2 hS1
end MKX
theorem law_nw {args : Array Value} {s : State} (hts0 : ∀ w ∈ lw_tbl, w.before args s = true) : nwK s := by
  intro w hw
  have h1 := hts0 w (List.mem_append_right _ (List.mem_filter.mp hw).1)
  have hn := (List.mem_filter.mp hw).2
  match w, hn, h1 with
  | .fieldLinkNest .., _, h1 => exact va_Nw.of rfl h1
  | .methodLinkNest .., _, h1 => exact va_Nw.of rfl h1
theorem law_K {args : Array Value} {s : State} (hts : ∀ w ∈ BG, w.before args s = true) (hAO : va_AO "SnoopingBus$Core" s) : ∃ (D : va_G) (cI cO : ClassId), va_K D vwCl (tysK cI cO) s := by
  obtain ⟨c0, i0, h0⟩ := u_known hts in_Cache (hts _ iw_380)
  obtain ⟨c1, i1, h1⟩ := u_known hts in_Core (hts _ iw_379)
  obtain ⟨c2, i2, h2⟩ := u_known hts in_Mem (hts _ iw_374)
  obtain ⟨c3, i3, h3⟩ := u_known hts in_Bus (hts _ iw_371)
  obtain ⟨c4, i4, h4⟩ := u_known hts in_Model (hts _ iw_381)
  obtain ⟨cI, kI, pI, a1, a2, a3⟩ := Cond.arrayClass_spec (hts _ iw_370)
  obtain ⟨pO, cO, kO, b1, b2, b3, b4, b5⟩ := Cond.arrayOver_spec hAO
  refine ⟨((fun k => match k with
    | 0 => c0
    | 1 => c1
    | 2 => c2
    | 3 => c3
    | _ => c4), (fun k => match k with
    | 0 => i0
    | 1 => i1
    | 2 => i2
    | 3 => i3
    | _ => i4)), cI, cO, fun c q hq => ?_, fun k q hk => ?_⟩
  · match c, hq with
    | 0, hq => cases hq; exact h0
    | 1, hq => cases hq; exact h1
    | 2, hq => cases hq; exact h2
    | 3, hq => cases hq; exact h3
    | 4, hq => cases hq; exact h4
    | c + 5, hq => simp at hq
  · match k, hk with
    | 0, hk => cases hk; exact ⟨fun n z => ⟨fun k h => (by cases h), kI, a2, pI, a3⟩, a1⟩
    | 1, hk => cases hk; exact ⟨fun n z => ⟨fun k h => (by cases h), kO, b3, pO, b4⟩, kO, pO, b3, b4, b1, b5⟩
    | k + 2, hk => simp at hk
theorem Rel_0 {n wy : Nat} (hn : 2 ≤ n) : Rel n wy 0 (fun _ => K0) (fun _ => 0) 0 (n - 1) 0 0 0 (fun _ => 0) (fun _ => 0) (fun _ => 0) (fun _ => 0) (fun _ => 0) 0 (fun _ => 0) (fun _ => 0) (fun _ => 0) (fun _ => 0) (fun _ => 0) (fun _ => 0) (fun _ => 0) 0 (fun _ => 0) := by
  refine ⟨⟨fun _ _ => rfl, rfl, rfl, rfl, rfl⟩, ⟨by omega, by rw [show n - 1 + 1 = n by omega, Nat.mod_self]⟩, ⟨0, rfl, Nat.le_refl _, fun i hi => ?_⟩, fun i hi => ?_, fun i hi => ?_, ?_⟩
  · exact ⟨fun _ => 0, fun _ => 0, fun _ => 0, 0, rfl, Nat.le_refl _, fun q hq h => absurd rfl h, fun L hL h => absurd rfl h, fun q q' hq hq' h => absurd rfl h, fun q q' hq hq' h => absurd rfl h⟩
  · exact ⟨rfl, Nat.zero_le _, fun q hq => absurd hq (Nat.not_lt_zero _), rfl, rfl, Or.inl rfl⟩
  · exact ⟨fun L hL => Or.inl rfl, fun h => absurd (show nI 0 = nI 1 from h) (by decide)⟩
  · intro i j L hi hj hij hL h
    rcases h with h | h
    · exact absurd (show (0 : Int32) = nI 2 from h) (by decide)
    · exact absurd (show (0 : Int32) = nI 3 from h) (by decide)
def mkad13 (q_e0 q_e1 q_e2 q_e3 q_e4 q_e5 q_e6 q_e7 q_e8 q_e9 q_e10 q_e11 q_e12 : Nat) : Nat → Nat := fun k => match k with
  | 0 => q_e0
  | 1 => q_e1
  | 2 => q_e2
  | 3 => q_e3
  | 4 => q_e4
  | 5 => q_e5
  | 6 => q_e6
  | 7 => q_e7
  | 8 => q_e8
  | 9 => q_e9
  | 10 => q_e10
  | 11 => q_e11
  | _ => q_e12
set_option maxHeartbeats 4000000 in
set_option maxRecDepth 100000 in
/-- from the entry, for every script of at most 2050 ints, the law comes to its end with true -/
theorem whole_start {p : Program} {e : Env} {s : State} {m : MethodId} {below : List Frame} {meth : Method} {c : Code} (l : Launch) {b L : Nat} {xs : Nat → Int32} (hL : L ≤ 2050) (C0 : lw_At p s m meth c b L xs) : W p l e room_1 s m #[Value.ref b] below meth c s.heap [] 0 0 (lw_Z below #[Value.ref b] s) (entryFrame m ([Value.ref b] : List Value).toArray 4) := by
  obtain ⟨hx, hb, hr, hml, hown, hts0, hX, hbl, hlocks, hgv⟩ := C0
  have hts : ∀ w ∈ BG, w.before #[Value.ref b] s = true := fun w hw => hts0 w (List.mem_filter.mp hw).1
  have hN : nwK s := law_nw hts0
  have hAO : va_AO "SnoopingBus$Core" s := va_AO.of (hts0 _ ilaw_over)
  obtain ⟨D, cI, cO, hK⟩ := law_K hts hAO
  have hS : va_S (fun q => s.heap.size ≤ q) s.heap s.heap [] := va_S.rf
  have hbA : ¬ s.heap.size ≤ b := by omega
  have hP : va_P D vwCl ([] ++ []) s.heap := fun k q h => by simp at h
  have hD : va_D (fun q => s.heap.size ≤ q) ([] ++ []) := ⟨fun i j p q h => by simp at h, fun k q h => by simp at h⟩
  have hl := lv_entry ([.ref b]) (n := 4) (Nat.le_of_ble_eq_true rfl)
  rw [lg_entry_eq]
  generalize (lg_sl ([.ref b]) ++ List.replicate (4 - (lg_sl ([.ref b])).length) Slot.unset).toArray = ls at hl ⊢
  have hl : lv_has ls 4 [(0, .ref b)] := hl
  obtain ⟨x0, hx0⟩ : ∃ z, z = if 0 < L then xs 0 else 0 := ⟨_, rfl⟩
  obtain ⟨x1, hx1⟩ : ∃ z, z = if 1 < L then xs 1 else 0 := ⟨_, rfl⟩
  obtain ⟨n, hn2, hn, hcn, hcn2⟩ := clamp4 x0
  obtain ⟨wy, hw0, hw3, hcw, hcw2⟩ := clamp3 x1
  refine mk_new (X := []) (pl := []) (ci := 3) (fs := [.null, .null, .int 0, .int 0, .int 0, .int 0]) (C := R_Bus) (T := T_Bus) (N := 6) hx hb hts in_Bus ty_Bus tyok_Bus hown (hts _ ilaw_c_7) (hts _ iw_371) (hts _ iw_39) hK hP hD hS (fun _ h => h) rfl fs_Bus (show 0 + 1 ≤ 600000 by omega) (show 0 + 6 ≤ 7302249 by omega) d_Law_law_0 (fun aB H hP hD hS => ?_)
  have hP : va_P D vwCl ([(aB, .inr (3, [.null, .null, .int 0, .int 0, .int 0, .int 0]))] ++ []) H := hP
  have hD : va_D (fun q => s.heap.size ≤ q) ([(aB, .inr (3, [.null, .null, .int 0, .int 0, .int 0, .int 0]))] ++ []) := hD
  refine W.widen (k := 1) (n := 6) (by omega) (by omega) ?_
  refine lv_dup hx hb d_Law_law_3 rfl ?_
  refine lv_aload_n hx hb d_Law_law_4 rfl (lv_at hl 0 rfl) ?_
  refine lv_iconst (v := nI 0) hx hb d_Law_law_5 (by decide) ?_
  refine mk_cell hx hb hml hown hts hX hbl hbA hS hP 0 (by omega) hL hl.1 (Nat.le_of_ble_eq_true rfl) d_Law_law_6 (by omega) (by omega) (fun H locs hP hS => ?_)
  refine mk_top (show _ = x0 from hx0.symm) ?_
  refine lv_aload_n hx hb d_Law_law_9 rfl (lv_at hl 0 rfl) ?_
  refine lv_iconst (v := nI 1) hx hb d_Law_law_10 (by decide) ?_
  refine mk_cell hx hb hml hown hts hX hbl hbA hS hP 1 (by omega) hL hl.1 (Nat.le_of_ble_eq_true rfl) d_Law_law_11 (by omega) (by omega) (fun H locs hP hS => ?_)
  refine mk_top (show _ = x1 from hx1.symm) ?_
  refine mk_ctorL (As := [.int x0, .int x1]) (rest := [.ref aB]) (n := 2) hx hb hml hown hts hN hK hP hD hS (fun _ h => h) (n_Bus l D cI cO aB n wy x0 x1 hn2 hn hcn hcw) rfl rfl ⟨by decide, by decide⟩ (fun U hW => va_AO.moved hW.alike hAO) (fun U g mk a h => h) g_Bus_init (hts _ iw_39) (hts _ ilaw_m_15) (hts _ iw_46) rfl (by decide +kernel) hl.1 rfl rfl (Nat.le_of_ble_eq_true rfl) d_Law_law_14 (by omega) (by omega) (fun u H locs hP hD hS => ?_)
  obtain ⟨aM, aW, aR, ad⟩ := u
  rw [List.append_nil] at hP hD
  have hP : va_P D vwCl ([] ++ WC cI cO aB aM aR aW n wy (fun i => if i < n then some (ad i 0) else none) ad (fun _ => K0) (fun _ => 0) 0 (n - 1) 0 0 0) H := hP
  have hD : va_D (fun q => s.heap.size ≤ q) ([] ++ WC cI cO aB aM aR aW n wy (fun i => if i < n then some (ad i 0) else none) ad (fun _ => K0) (fun _ => 0) 0 (n - 1) 0 0 0) := hD
  refine lv_astore_n hx hb d_Law_law_17 rfl hl (by decide) rfl (fun ls hl => ?_)
  have hl : lv_has ls 4 [(1, .ref aB), (0, .ref b)] := hl
  refine W.widen (k := 32) (n := 324) (by omega) (by omega) ?_
  refine mk_new (X := []) (ci := 4) (fs := [.int 0, .int 0, .null, .null, .null, .null, .null, .int 0, .null, .null, .null, .null, .null, .null, .null, .int 0, .null]) (C := R_Model) (T := T_Model) (N := 17) hx hb hts in_Model ty_Model tyok_Model hown (hts _ ilaw_c_18) (hts _ iw_381) (hts _ iw_43) hK hP hD hS (fun _ h => h) rfl fs_Model (show 32 + 1 ≤ 600000 by omega) (show 324 + 17 ≤ 7302249 by omega) d_Law_law_18 (fun aX H hP hD hS => ?_)
  have hP : va_P D vwCl ([(aX, .inr (4, [.int 0, .int 0, .null, .null, .null, .null, .null, .int 0, .null, .null, .null, .null, .null, .null, .null, .int 0, .null]))] ++ WC cI cO aB aM aR aW n wy (fun i => if i < n then some (ad i 0) else none) ad (fun _ => K0) (fun _ => 0) 0 (n - 1) 0 0 0) H := hP
  have hD : va_D (fun q => s.heap.size ≤ q) ([(aX, .inr (4, [.int 0, .int 0, .null, .null, .null, .null, .null, .int 0, .null, .null, .null, .null, .null, .null, .null, .int 0, .null]))] ++ WC cI cO aB aM aR aW n wy (fun i => if i < n then some (ad i 0) else none) ad (fun _ => K0) (fun _ => 0) 0 (n - 1) 0 0 0) := hD
  refine W.widen (k := 33) (n := 341) (by omega) (by omega) ?_
  refine lv_dup hx hb d_Law_law_21 rfl ?_
  refine lv_aload_n hx hb d_Law_law_22 rfl (lv_at hl 1 rfl) ?_
  refine lv_iconst (v := nI 0) hx hb d_Law_law_23 (by decide) ?_
  refine mk_cell hx hb hml hown hts hX hbl hbA hS hP 0 (by omega) hL hl.1 (Nat.le_of_ble_eq_true rfl) d_Law_law_24 (by omega) (by omega) (fun H locs hP hS => ?_)
  refine mk_top (show _ = x0 from hx0.symm) ?_
  refine lv_aload_n hx hb d_Law_law_27 rfl (lv_at hl 1 rfl) ?_
  refine lv_iconst (v := nI 1) hx hb d_Law_law_28 (by decide) ?_
  refine mk_cell hx hb hml hown hts hX hbl hbA hS hP 1 (by omega) hL hl.1 (Nat.le_of_ble_eq_true rfl) d_Law_law_29 (by omega) (by omega) (fun H locs hP hS => ?_)
  refine mk_top (show _ = x1 from hx1.symm) ?_
  refine mk_ctorL (As := [.int x0, .int x1]) (rest := [.ref aX]) (n := 2) hx hb hml hown hts hN hK hP hD hS (fun _ h => h) (n_Model l D cI cO aX n wy x0 x1 hcn2 hcw2) rfl rfl ⟨by decide, by decide⟩ (fun _ _ => trivial) (fun _ _ _ _ h => h) g_Model_init (hts _ iw_43) (hts _ ilaw_m_20) (hts _ iw_228) rfl (by decide +kernel) hl.1 rfl rfl (Nat.le_of_ble_eq_true rfl) d_Law_law_32 (by omega) (by omega) (fun u H locs hP hD hS => ?_)
  obtain ⟨q_e0, q_e1, q_e2, q_e3, q_e4, q_e5, q_e6, q_e7, q_e8, q_e9, q_e10, q_e11, q_e12⟩ := u
  have hP : va_P D vwCl (WM cI aX (mkad13 q_e0 q_e1 q_e2 q_e3 q_e4 q_e5 q_e6 q_e7 q_e8 q_e9 q_e10 q_e11 q_e12) n wy (fun _ => 0) (fun _ => 0) (fun _ => 0) (fun _ => 0) (fun _ => 0) 0 (fun _ => 0) (fun _ => 0) (fun _ => 0) (fun _ => 0) (fun _ => 0) (fun _ => 0) (fun _ => 0) 0 (fun _ => 0) ++ WC cI cO aB aM aR aW n wy (fun i => if i < n then some (ad i 0) else none) ad (fun _ => K0) (fun _ => 0) 0 (n - 1) 0 0 0) H := hP
  have hD : va_D (fun q => s.heap.size ≤ q) (WM cI aX (mkad13 q_e0 q_e1 q_e2 q_e3 q_e4 q_e5 q_e6 q_e7 q_e8 q_e9 q_e10 q_e11 q_e12) n wy (fun _ => 0) (fun _ => 0) (fun _ => 0) (fun _ => 0) (fun _ => 0) 0 (fun _ => 0) (fun _ => 0) (fun _ => 0) (fun _ => 0) (fun _ => 0) (fun _ => 0) (fun _ => 0) 0 (fun _ => 0) ++ WC cI cO aB aM aR aW n wy (fun i => if i < n then some (ad i 0) else none) ad (fun _ => K0) (fun _ => 0) 0 (n - 1) 0 0 0) := hD
  have hP := mk_Pp List.perm_append_comm hP
  have hD := mk_Dp List.perm_append_comm hD
  refine lv_astore_n hx hb d_Law_law_35 rfl hl (by decide) rfl (fun ls hl => ?_)
  have hl : lv_has ls 4 [(2, .ref aX), (1, .ref aB), (0, .ref b)] := hl
  refine lv_iconst (v := nI 2) hx hb d_Law_law_36 (by decide) ?_
  refine lv_istore_n hx hb d_Law_law_37 rfl hl (by decide) rfl (fun ls hl => ?_)
  have hl : lv_has ls 4 [(3, .int (nI 2)), (2, .ref aX), (1, .ref aB), (0, .ref b)] := hl
  refine W.widen (k := 600000) (n := 7302249) (by omega) (by omega) ?_
  exact law_loop l hL hx hb hr hml hown hts hN hlocks hX hbl D cI cO hK aB aM aR aW n wy (fun i => if i < n then some (ad i 0) else none) ad aX (mkad13 q_e0 q_e1 q_e2 q_e3 q_e4 q_e5 q_e6 q_e7 q_e8 q_e9 q_e10 q_e11 q_e12) hn2 hn hw0 (by omega) (fun i hi => if_pos hi) 600 2 0 ls H locs _ _ _ _ _ _ _ _ _ _ _ _ _ _ _ _ _ _ _ _ _ _ (by omega) (by omega) (by omega) (Rel_0 hn2) (lv_sub hl [3, 2, 1, 0] rfl) hP hD hS
-- ===== YOUR PART ENDS =====
set_option maxHeartbeats 4000000 in
theorem lw_walk (l : Launch) (b : Addr) (xs : List Int32) : MetFree l x (headSpec (Jvm.Cond.code x code maxLocals ret :: tables_1) room_1) (lw_P b xs) (fun _ _ _ _ _ => True) lw_Q := by
  refine MetFree.of_bodyS (code := code) (maxLocals := maxLocals) (ret := ret) (by decide) ?_ ?_
  · intro args s m h hn
    obtain ⟨meth, c, h1, h2, h3, h4, h5, h6, -, -⟩ := Cond.code_spec hn (atoms_spec (ws := Jvm.Cond.code x code maxLocals ret :: tables_1) h _ List.mem_cons_self)
    exact ⟨meth, c, h1, h2, h3, h4, h5, h6⟩
  · intro p e s m args below meth c s₁ B hml0 hP _
    obtain ⟨rfl, hx, hbd, hgv⟩ := hP
    obtain ⟨scr, harrAt, hlist, hof, hsmall⟩ := hx
    obtain ⟨hcb, hkn, -, -⟩ := State.arrayAt?_spec harrAt
    have hown : s.vm.findClass R_law = some m.cls := findClass_of_methodNamed B.named
    have hts0 : ∀ c ∈ (Jvm.Cond.code x code maxLocals ret :: tables_1), c.before #[Value.ref b] s = true := atoms_spec (ws := Jvm.Cond.code x code maxLocals ret :: tables_1) B.pre
    have hts : ∀ w ∈ lw_tbl, w.before #[Value.ref b] s = true := k2_hts_sels lw_privs (fun w hw => hts0 w (List.mem_cons_of_mem _ hw)) lw_privs_ok
    have hml : c.maxLocals = 4 := B.maxLocals_eq (hts0 _ List.mem_cons_self)
    have X₀ : Stand p l e room_1 s m #[Value.ref b] below meth c s₁ [] 0 0 := Stand.of_body B
    have hh0 : s₁.heap = s.heap := by rw [B.state]; rfl
    have hsz : scr.slots.size = xs.length := by rw [← Array.length_toList, hlist, List.length_map]
    have hval : ∀ j : Nat, j < xs.length → scr.slots[j]? = some (.int (xs.getD j 0)) := fun j hj => by
      rw [← Array.getElem?_toList, hlist]
      simp [hj]
    have hbl : b < s.heap.size := (Array.getElem?_eq_some_iff.mp hcb).1
    have hX : va_X b xs.length (fun j => xs.getD j 0) s s.heap := ⟨scr, hcb, hof, hkn, hsz, hval⟩
    have K : W p l e room_1 s m #[Value.ref b] below meth c s₁.heap [] 0 0 (lw_Z below #[Value.ref b] s) (entryFrame m ([Value.ref b] : List Value).toArray 4) := by
      rw [hh0]
      exact whole_start l hbd ⟨B.exec, B.bytes, B.returns, hml, hown, hts, hX, hbl, B.notSynchronized, hgv⟩
    obtain ⟨t, a1, o, b1, b2, b3⟩ := K s₁ rfl X₀
    exact ⟨t, o, a1, b1, b2, b3⟩
theorem lw_pre_spec {args : Array Value} {s : State} (h : (Jvm.Cond.and given_1 narrow_1).before args s = true) (hr : rest_1_c.before args s = true) : ∃ (b : Addr) (xs : List Int32), lw_P b xs args s := by
  have hs := flat_of_before _ h
  have hq := flat_of_before _ hr
  have hc : (Cond.count 1).before args s = true := hs _ (by decide +kernel)
  have harr : (Cond.arrayOf (.arg 0) .int).before args s = true := hs _ (by decide +kernel)
  have hle : (Cond.le (.length (.arg 0)) (.int 2050)).before args s = true := hs _ (by decide +kernel)
  have hlen : (Cond.isInt (.length (.arg 0))).before args s = true := hq _ (by decide +kernel)
  have hall : (Cond.all (.arg 0) (.isInt (.elem (.arg 0) (.index 0)))).before args s = true := hq _ (by decide +kernel)
  obtain ⟨b, xs, hb, hx⟩ := State.ints_of_pre rfl harr hlen hall
  have hsm : xs.length < 2 ^ 31 := hx.choose_spec.2.2.2
  have hev : (Term.length (.arg 0)).eval args s none [] s = some (.int xs.length.toInt32) := hx.length_eval hb
  have hv := Cond.le_ints hev (show (Term.int 2050).eval args s none [] s = some (.int 2050) from rfl)
  have hd : xs.length.toInt32 ≤ 2050 := by
    simpa [Cond.before, Cond.holds, hv] using hle
  have hN : xs.length ≤ 2050 := (Int32.ofNat_le_ofNat hsm (by decide)).mp (show Int32.ofNat xs.length ≤ Int32.ofNat 2050 from hd)
  exact ⟨b, xs, Cond.one_arg hc (show args[0]? = some (.ref b) from hb), hx, hN, h⟩
theorem lw_comes (l : Launch) : Comes l x (Jvm.Cond.code x code maxLocals ret :: tables_1) room_1 (fun tb e args s => Calls_1 tb e args s ∧ rest_1 tb e args s ∧ Pre_1 tb e args s)
    (fun _ _ args s o t => lw_Q args s o t) := by
  intro p e ha hc hk s m args below hf hfit hheap happ hpre
  obtain ⟨b, xs, hP⟩ := lw_pre_spec hpre.2.2 hpre.2.1
  obtain ⟨k, o, h1, h2, h3, hQ⟩ := lw_walk l b xs p e ha hc hk s m args below hf ((Spec.applies_iff_loose hf).mp happ).1 hP trivial
  exact ⟨k, o, h1, h2, h3, hQ⟩
theorem lw_frame {s t : State} {o : Outcome} {args : Array Value} (h : Framed s o t [] 600000 7302249) :
    Framed s o t (fieldLocs frame_1_writes args s ++ arrayLocs frame_1_arrays args s ++ staticLocs frame_1_statics s) 600000 7302249 := h
theorem lw_limb (L : Cond) (hL : ∀ (args : Array Value) (s t : State), L.after args s (.returned (some (.int 1))) t = true) :
    ArmFor flags0 classFile x code maxLocals ret World_1 tables_1 room_1 Calls_1 rest_1 Pre_1
      (fun tb e a s o t => postC L tb e a s o t ∧ Framed s o t (fieldLocs frame_1_writes a s ++ arrayLocs frame_1_arrays a s ++ staticLocs frame_1_statics s) 600000 7302249) := by
  intro l _ _ _ p e ha hc hk s m args below hf hfit hheap happ hpre
  obtain ⟨k, o, h1, h2, h3, rfl, hF⟩ := lw_comes l p e ha hc hk s m args below hf hfit hheap happ hpre
  exact ⟨k, _, h1, h2, h3, hL args s _, lw_frame hF⟩
theorem i_vc : Claimed_1_1 ∧ Claimed_1_2 := ⟨lw_limb limb_1_1 (fun args s t => by simp [limb_1_1, Cond.after, Cond.holds, Cond.value]), lw_limb limb_1_2 (fun args s t => Cond.after_iff.mpr (by
  first | (rw [show limb_1_2 = Cond.eq .result (.int 1) from rfl, Cond.eq_ints (x := 1) (y := 1) rfl rfl]; simp; done) | (simp [limb_1_2, Cond.value, Term.eval]; done)))⟩
