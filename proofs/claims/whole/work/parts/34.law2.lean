theorem gt4 {L t : Nat} (hL : L < 2 ^ 20) (ht : t < 2 ^ 20) : nI L - nI 4 < nI t ↔ L < t + 4 := by
  rw [Int32.lt_iff_toInt_lt, pk_sub_toInt (by omega) (by omega), nI_toInt (by omega)]
  omega
theorem law_exit {p : Program} {e : Env} {s : State} {m : MethodId} {below : List Frame} {meth : Method} {c : Code} (l : Launch) {b L : Nat} {xs : Nat → Int32} (hL : L ≤ 2050) (hx : p.tables.exec = Jvm.exec) (hb : c.code = code) (hr : meth.sig.returnType = ret) (hml : c.maxLocals = 4) (hown : s.vm.findClass R_law = some m.cls) (hts : ∀ w ∈ BG, w.before #[Value.ref b] s = true) (hN : nwK s) (hlocks : meth.locks = false) (hX : va_X b L xs s s.heap) (hbl : b < s.heap.size) {aB aX t : Nat} {ls : Array Slot} {H : Heap} {locs : List Loc} (ht : t ≤ 2054) (hlt : L < t + 4) (hl : lv_has ls 4 [(0, .ref b), (1, .ref aB), (2, .ref aX), (3, .int (nI t))]) (hS : va_S (fun q => s.heap.size ≤ q) s.heap H locs) : W p l e room_1 s m #[Value.ref b] below meth c H locs 600000 7302249 (lw_Z below #[Value.ref b] s) (F0 m 38 ls []) := by
  have hbA : ¬ s.heap.size ≤ b := by omega
  refine lv_iload_n hx hb d_Law_law_38 rfl (lv_at hl 3 rfl) ?_
  refine lv_aload_n hx hb d_Law_law_39 rfl (lv_at hl 0 rfl) ?_
  refine va_slen (A := (fun q => s.heap.size ≤ q)) hx hb hX hbl hbA hS d_Law_law_40 ?_
  refine mk_top (show _ = nI L from rfl) ?_
  refine lv_iconst (v := nI 4) hx hb d_Law_law_41 (by decide) ?_
  refine lv_isub hx hb d_Law_law_42 ?_
  refine lv_icmp_gt (tgt := 606) hx hb d_Law_law_43 rfl (fun _ => ?_) (fun h => absurd ((gt4 (by omega) (by omega)).mpr hlt) h)
  refine lv_iconst (v := 1) hx hb d_Law_law_606 (by decide) ?_
  refine va_forget (fun q hq => hS.2.2 q hq) ?_
  exact lw_ret hx hb hr hlocks d_Law_law_607
set_option maxHeartbeats 4000000 in
set_option maxRecDepth 100000 in
theorem law_load {p : Program} {e : Env} {s : State} {m : MethodId} {below : List Frame} {meth : Method} {c : Code} (l : Launch) {b L : Nat} {xs : Nat → Int32} (hL : L ≤ 2050) (hx : p.tables.exec = Jvm.exec) (hb : c.code = code) (hr : meth.sig.returnType = ret) (hml : c.maxLocals = 4) (hown : s.vm.findClass R_law = some m.cls) (hts : ∀ w ∈ BG, w.before #[Value.ref b] s = true) (hN : nwK s) (hlocks : meth.locks = false) (hX : va_X b L xs s s.heap) (hbl : b < s.heap.size) (D : va_G) (cI cO : ClassId) (hK : va_K D vwCl (tysK cI cO) s) (aB aM aR aW n wy : Nat) (g : Nat → Option Nat) (ad : Nat → Nat → Nat) (aX : Nat) (e9 : Nat → Nat) (hn2 : 2 ≤ n) (hn : n ≤ 4) (hw0 : 1 ≤ wy) (hw : wy < 4) (hg : ∀ i, i < n → g i = some (ad i 0)) (S : Nat → KS) (mw : Nat → Int32) (wb : Int32) (sl : Nat) (sv iv ug : Int32) (wo li sx ux co : Nat → Int32) (ck : Int32) (sn da va la ki wa op : Nat → Int32) (tu : Nat) (ct : Nat → Int32) {t bb : Nat} {ls : Array Slot} {H : Heap} {locs : List Loc} (ht : t + 4 ≤ L) (hbb : bb ≤ t) (ih : ∀ (ls : Array Slot) (H : Heap) (locs : List Loc) (S : Nat → KS) (mw : Nat → Int32) (wb : Int32) (sl : Nat) (sv iv ug : Int32) (wo li sx ux co : Nat → Int32) (ck : Int32) (sn da va la ki wa op : Nat → Int32) (tu : Nat) (ct : Nat → Int32), Rel n wy (bb + 2) S mw wb sl sv iv ug wo li sx ux co ck sn da va la ki wa op tu ct → lv_has ls 4 [(0, .ref b), (1, .ref aB), (2, .ref aX), (3, .int (nI (t + 4)))] → va_P D vwCl (WC cI cO aB aM aR aW n wy g ad S mw wb sl sv iv ug ++ WM cI aX e9 n wy wo li sx ux co ck sn da va la ki wa op tu ct) H → va_D (fun q => s.heap.size ≤ q) (WC cI cO aB aM aR aW n wy g ad S mw wb sl sv iv ug ++ WM cI aX e9 n wy wo li sx ux co ck sn da va la ki wa op tu ct) → va_S (fun q => s.heap.size ≤ q) s.heap H locs → W p l e room_1 s m #[Value.ref b] below meth c H locs 600000 7302249 (lw_Z below #[Value.ref b] s) (F0 m 38 ls [])) (hR : Rel n wy bb S mw wb sl sv iv ug wo li sx ux co ck sn da va la ki wa op tu ct) (hl : lv_has ls 4 [(0, .ref b), (1, .ref aB), (2, .ref aX), (3, .int (nI t))]) (hP : va_P D vwCl (WC cI cO aB aM aR aW n wy g ad S mw wb sl sv iv ug ++ WM cI aX e9 n wy wo li sx ux co ck sn da va la ki wa op tu ct) H) (hD : va_D (fun q => s.heap.size ≤ q) (WC cI cO aB aM aR aW n wy g ad S mw wb sl sv iv ug ++ WM cI aX e9 n wy wo li sx ux co ck sn da va la ki wa op tu ct)) (hS : va_S (fun q => s.heap.size ≤ q) s.heap H locs) : W p l e room_1 s m #[Value.ref b] below meth c H locs 600000 7302249 (lw_Z below #[Value.ref b] s) (F0 m 132 ls []) := by
  obtain ⟨r, S', mw', wb', sl', sv', iv', ug', wo', li', sx', ux', co', ck', sn', da', va', la', ki', wa', op', tu', ct', hO1, hO2, hR'⟩ := s_load l D cI cO aB aM aR aW n wy g ad aX e9 bb S mw wb sl sv iv ug wo li sx ux co ck sn da va la ki wa op tu ct (xs (t + 1)) (xs (t + 2)) hn2 hn hw0 hw (by omega) hg hR
  have hbA : ¬ s.heap.size ≤ b := by omega
  refine lv_aload_n hx hb d_Law_law_132 rfl (lv_at hl 1 rfl) ?_
  refine lv_aload_n hx hb d_Law_law_133 rfl (lv_at hl 0 rfl) ?_
  refine lv_iload_n hx hb d_Law_law_134 rfl (lv_at hl 3 rfl) ?_
  refine lv_iconst (v := nI 1) hx hb d_Law_law_135 (by decide) ?_
  refine lv_iadd hx hb d_Law_law_136 ?_
  refine mk_top (show _ = nI (t + 1) from nI_add t 1) ?_
  refine mk_sld (A := (fun q => s.heap.size ≤ q)) hx hb hX hbl hbA hS (show t + 1 < L by omega) (by omega) d_Law_law_137 ?_
  refine lv_aload_n hx hb d_Law_law_138 rfl (lv_at hl 0 rfl) ?_
  refine lv_iload_n hx hb d_Law_law_139 rfl (lv_at hl 3 rfl) ?_
  refine lv_iconst (v := nI 2) hx hb d_Law_law_140 (by decide) ?_
  refine lv_iadd hx hb d_Law_law_141 ?_
  refine mk_top (show _ = nI (t + 2) from nI_add t 2) ?_
  refine mk_sld (A := (fun q => s.heap.size ≤ q)) hx hb hX hbl hbA hS (show t + 2 < L by omega) (by omega) d_Law_law_142 ?_
  refine mk_run (wc := WC cI cO aB aM aR aW n wy g ad S mw wb sl sv iv ug) (wr := WM cI aX e9 n wy wo li sx ux co ck sn da va la ki wa op tu ct) (w1 := WC cI cO aB aM aR aW n wy g ad S' mw' wb' sl' sv' iv' ug') (b := aB) (As := [.int (xs (t + 1)), .int (xs (t + 2))]) (rest := []) (own := R_law) (n := 2) (index := 21) (C := "SnoopingBus") (ci := 3) hx hb hml hown hts hN hK hP hD hS (fun _ h => h) hO1 g_Bus_load (by decide) (hts _ iw_39) (hts _ ilaw_m_21) (hts _ iw_76) (hts _ iw_77) (by decide +kernel) rfl rfl rfl hl.1 rfl rfl (Nat.le_of_ble_eq_true rfl) d_Law_law_143 (Nat.le_refl _) (Nat.le_refl _) (fun H locs hP hD hS => ?_)
  refine lv_aload_n hx hb d_Law_law_146 rfl (lv_at hl 2 rfl) ?_
  refine lv_aload_n hx hb d_Law_law_147 rfl (lv_at hl 0 rfl) ?_
  refine lv_iload_n hx hb d_Law_law_148 rfl (lv_at hl 3 rfl) ?_
  refine lv_iconst (v := nI 1) hx hb d_Law_law_149 (by decide) ?_
  refine lv_iadd hx hb d_Law_law_150 ?_
  refine mk_top (show _ = nI (t + 1) from nI_add t 1) ?_
  refine mk_sld (A := (fun q => s.heap.size ≤ q)) hx hb hX hbl hbA hS (show t + 1 < L by omega) (by omega) d_Law_law_151 ?_
  refine lv_aload_n hx hb d_Law_law_152 rfl (lv_at hl 0 rfl) ?_
  refine lv_iload_n hx hb d_Law_law_153 rfl (lv_at hl 3 rfl) ?_
  refine lv_iconst (v := nI 2) hx hb d_Law_law_154 (by decide) ?_
  refine lv_iadd hx hb d_Law_law_155 ?_
  refine mk_top (show _ = nI (t + 2) from nI_add t 2) ?_
  refine mk_sld (A := (fun q => s.heap.size ≤ q)) hx hb hX hbl hbA hS (show t + 2 < L by omega) (by omega) d_Law_law_156 ?_
  have hP := mk_Pp List.perm_append_comm hP
  have hD := mk_Dp List.perm_append_comm hD
  refine mk_run (wc := WM cI aX e9 n wy wo li sx ux co ck sn da va la ki wa op tu ct) (wr := WC cI cO aB aM aR aW n wy g ad S' mw' wb' sl' sv' iv' ug') (w1 := WM cI aX e9 n wy wo' li' sx' ux' co' ck' sn' da' va' la' ki' wa' op' tu' ct') (b := aX) (As := [.int (xs (t + 1)), .int (xs (t + 2))]) (rest := [.int (r)]) (own := R_law) (n := 2) (index := 25) (C := "SnoopingBusModel") (ci := 4) hx hb hml hown hts hN hK hP hD hS (fun _ h => h) hO2 g_Model_load (by decide) (hts _ iw_43) (hts _ ilaw_m_25) (hts _ iw_246) (hts _ iw_247) (by decide +kernel) rfl rfl rfl hl.1 rfl rfl (Nat.le_of_ble_eq_true rfl) d_Law_law_157 (Nat.le_refl _) (Nat.le_refl _) (fun H locs hP hD hS => ?_)
  refine lv_icmp_eq (tgt := 600) hx hb d_Law_law_160 rfl (fun _ => ?_) (fun h => absurd rfl h)
  have hP := mk_Pp List.perm_append_comm hP
  have hD := mk_Dp List.perm_append_comm hD
  refine lv_iinc (k := 3) (v := nI (t + 4)) hx hb d_Law_law_600 hl rfl (nI_add t 4) (by decide) rfl (fun ls hl => ?_)
  refine lv_goto (tgt := 38) hx hb d_Law_law_603 rfl ?_
  exact ih ls H locs S' mw' wb' sl' sv' iv' ug' wo' li' sx' ux' co' ck' sn' da' va' la' ki' wa' op' tu' ct' hR' (lv_sub hl [1, 2, 3, 0] rfl) hP hD hS
set_option maxHeartbeats 4000000 in
set_option maxRecDepth 100000 in
theorem law_store {p : Program} {e : Env} {s : State} {m : MethodId} {below : List Frame} {meth : Method} {c : Code} (l : Launch) {b L : Nat} {xs : Nat → Int32} (hL : L ≤ 2050) (hx : p.tables.exec = Jvm.exec) (hb : c.code = code) (hr : meth.sig.returnType = ret) (hml : c.maxLocals = 4) (hown : s.vm.findClass R_law = some m.cls) (hts : ∀ w ∈ BG, w.before #[Value.ref b] s = true) (hN : nwK s) (hlocks : meth.locks = false) (hX : va_X b L xs s s.heap) (hbl : b < s.heap.size) (D : va_G) (cI cO : ClassId) (hK : va_K D vwCl (tysK cI cO) s) (aB aM aR aW n wy : Nat) (g : Nat → Option Nat) (ad : Nat → Nat → Nat) (aX : Nat) (e9 : Nat → Nat) (hn2 : 2 ≤ n) (hn : n ≤ 4) (hw0 : 1 ≤ wy) (hw : wy < 4) (hg : ∀ i, i < n → g i = some (ad i 0)) (S : Nat → KS) (mw : Nat → Int32) (wb : Int32) (sl : Nat) (sv iv ug : Int32) (wo li sx ux co : Nat → Int32) (ck : Int32) (sn da va la ki wa op : Nat → Int32) (tu : Nat) (ct : Nat → Int32) {t bb : Nat} {ls : Array Slot} {H : Heap} {locs : List Loc} (ht : t + 4 ≤ L) (hbb : bb ≤ t) (ih : ∀ (ls : Array Slot) (H : Heap) (locs : List Loc) (S : Nat → KS) (mw : Nat → Int32) (wb : Int32) (sl : Nat) (sv iv ug : Int32) (wo li sx ux co : Nat → Int32) (ck : Int32) (sn da va la ki wa op : Nat → Int32) (tu : Nat) (ct : Nat → Int32), Rel n wy (bb + 2) S mw wb sl sv iv ug wo li sx ux co ck sn da va la ki wa op tu ct → lv_has ls 4 [(0, .ref b), (1, .ref aB), (2, .ref aX), (3, .int (nI (t + 4)))] → va_P D vwCl (WC cI cO aB aM aR aW n wy g ad S mw wb sl sv iv ug ++ WM cI aX e9 n wy wo li sx ux co ck sn da va la ki wa op tu ct) H → va_D (fun q => s.heap.size ≤ q) (WC cI cO aB aM aR aW n wy g ad S mw wb sl sv iv ug ++ WM cI aX e9 n wy wo li sx ux co ck sn da va la ki wa op tu ct) → va_S (fun q => s.heap.size ≤ q) s.heap H locs → W p l e room_1 s m #[Value.ref b] below meth c H locs 600000 7302249 (lw_Z below #[Value.ref b] s) (F0 m 38 ls [])) (hR : Rel n wy bb S mw wb sl sv iv ug wo li sx ux co ck sn da va la ki wa op tu ct) (hl : lv_has ls 4 [(0, .ref b), (1, .ref aB), (2, .ref aX), (3, .int (nI t))]) (hP : va_P D vwCl (WC cI cO aB aM aR aW n wy g ad S mw wb sl sv iv ug ++ WM cI aX e9 n wy wo li sx ux co ck sn da va la ki wa op tu ct) H) (hD : va_D (fun q => s.heap.size ≤ q) (WC cI cO aB aM aR aW n wy g ad S mw wb sl sv iv ug ++ WM cI aX e9 n wy wo li sx ux co ck sn da va la ki wa op tu ct)) (hS : va_S (fun q => s.heap.size ≤ q) s.heap H locs) : W p l e room_1 s m #[Value.ref b] below meth c H locs 600000 7302249 (lw_Z below #[Value.ref b] s) (F0 m 165 ls []) := by
  obtain ⟨r, S', mw', wb', sl', sv', iv', ug', wo', li', sx', ux', co', ck', sn', da', va', la', ki', wa', op', tu', ct', hO1, hO2, hR'⟩ := s_store l D cI cO aB aM aR aW n wy g ad aX e9 bb S mw wb sl sv iv ug wo li sx ux co ck sn da va la ki wa op tu ct (xs (t + 1)) (xs (t + 2)) (xs (t + 3)) hn2 hn hw0 hw (by omega) hg hR
  have hbA : ¬ s.heap.size ≤ b := by omega
  refine lv_aload_n hx hb d_Law_law_165 rfl (lv_at hl 1 rfl) ?_
  refine lv_aload_n hx hb d_Law_law_166 rfl (lv_at hl 0 rfl) ?_
  refine lv_iload_n hx hb d_Law_law_167 rfl (lv_at hl 3 rfl) ?_
  refine lv_iconst (v := nI 1) hx hb d_Law_law_168 (by decide) ?_
  refine lv_iadd hx hb d_Law_law_169 ?_
  refine mk_top (show _ = nI (t + 1) from nI_add t 1) ?_
  refine mk_sld (A := (fun q => s.heap.size ≤ q)) hx hb hX hbl hbA hS (show t + 1 < L by omega) (by omega) d_Law_law_170 ?_
  refine lv_aload_n hx hb d_Law_law_171 rfl (lv_at hl 0 rfl) ?_
  refine lv_iload_n hx hb d_Law_law_172 rfl (lv_at hl 3 rfl) ?_
  refine lv_iconst (v := nI 2) hx hb d_Law_law_173 (by decide) ?_
  refine lv_iadd hx hb d_Law_law_174 ?_
  refine mk_top (show _ = nI (t + 2) from nI_add t 2) ?_
  refine mk_sld (A := (fun q => s.heap.size ≤ q)) hx hb hX hbl hbA hS (show t + 2 < L by omega) (by omega) d_Law_law_175 ?_
  refine lv_aload_n hx hb d_Law_law_176 rfl (lv_at hl 0 rfl) ?_
  refine lv_iload_n hx hb d_Law_law_177 rfl (lv_at hl 3 rfl) ?_
  refine lv_iconst (v := nI 3) hx hb d_Law_law_178 (by decide) ?_
  refine lv_iadd hx hb d_Law_law_179 ?_
  refine mk_top (show _ = nI (t + 3) from nI_add t 3) ?_
  refine mk_sld (A := (fun q => s.heap.size ≤ q)) hx hb hX hbl hbA hS (show t + 3 < L by omega) (by omega) d_Law_law_180 ?_
  refine mk_run (wc := WC cI cO aB aM aR aW n wy g ad S mw wb sl sv iv ug) (wr := WM cI aX e9 n wy wo li sx ux co ck sn da va la ki wa op tu ct) (w1 := WC cI cO aB aM aR aW n wy g ad S' mw' wb' sl' sv' iv' ug') (b := aB) (As := [.int (xs (t + 1)), .int (xs (t + 2)), .int (xs (t + 3))]) (rest := []) (own := R_law) (n := 3) (index := 26) (C := "SnoopingBus") (ci := 3) hx hb hml hown hts hN hK hP hD hS (fun _ h => h) hO1 g_Bus_store (by decide) (hts _ iw_39) (hts _ ilaw_m_26) (hts _ iw_108) (hts _ iw_109) (by decide +kernel) rfl rfl rfl hl.1 rfl rfl (Nat.le_of_ble_eq_true rfl) d_Law_law_181 (Nat.le_refl _) (Nat.le_refl _) (fun H locs hP hD hS => ?_)
  refine lv_aload_n hx hb d_Law_law_184 rfl (lv_at hl 2 rfl) ?_
  refine lv_aload_n hx hb d_Law_law_185 rfl (lv_at hl 0 rfl) ?_
  refine lv_iload_n hx hb d_Law_law_186 rfl (lv_at hl 3 rfl) ?_
  refine lv_iconst (v := nI 1) hx hb d_Law_law_187 (by decide) ?_
  refine lv_iadd hx hb d_Law_law_188 ?_
  refine mk_top (show _ = nI (t + 1) from nI_add t 1) ?_
  refine mk_sld (A := (fun q => s.heap.size ≤ q)) hx hb hX hbl hbA hS (show t + 1 < L by omega) (by omega) d_Law_law_189 ?_
  refine lv_aload_n hx hb d_Law_law_190 rfl (lv_at hl 0 rfl) ?_
  refine lv_iload_n hx hb d_Law_law_191 rfl (lv_at hl 3 rfl) ?_
  refine lv_iconst (v := nI 2) hx hb d_Law_law_192 (by decide) ?_
  refine lv_iadd hx hb d_Law_law_193 ?_
  refine mk_top (show _ = nI (t + 2) from nI_add t 2) ?_
  refine mk_sld (A := (fun q => s.heap.size ≤ q)) hx hb hX hbl hbA hS (show t + 2 < L by omega) (by omega) d_Law_law_194 ?_
  refine lv_aload_n hx hb d_Law_law_195 rfl (lv_at hl 0 rfl) ?_
  refine lv_iload_n hx hb d_Law_law_196 rfl (lv_at hl 3 rfl) ?_
  refine lv_iconst (v := nI 3) hx hb d_Law_law_197 (by decide) ?_
  refine lv_iadd hx hb d_Law_law_198 ?_
  refine mk_top (show _ = nI (t + 3) from nI_add t 3) ?_
  refine mk_sld (A := (fun q => s.heap.size ≤ q)) hx hb hX hbl hbA hS (show t + 3 < L by omega) (by omega) d_Law_law_199 ?_
  have hP := mk_Pp List.perm_append_comm hP
  have hD := mk_Dp List.perm_append_comm hD
  refine mk_run (wc := WM cI aX e9 n wy wo li sx ux co ck sn da va la ki wa op tu ct) (wr := WC cI cO aB aM aR aW n wy g ad S' mw' wb' sl' sv' iv' ug') (w1 := WM cI aX e9 n wy wo' li' sx' ux' co' ck' sn' da' va' la' ki' wa' op' tu' ct') (b := aX) (As := [.int (xs (t + 1)), .int (xs (t + 2)), .int (xs (t + 3))]) (rest := [.int (r)]) (own := R_law) (n := 3) (index := 30) (C := "SnoopingBusModel") (ci := 4) hx hb hml hown hts hN hK hP hD hS (fun _ h => h) hO2 g_Model_store (by decide) (hts _ iw_43) (hts _ ilaw_m_30) (hts _ iw_277) (hts _ iw_278) (by decide +kernel) rfl rfl rfl hl.1 rfl rfl (Nat.le_of_ble_eq_true rfl) d_Law_law_200 (Nat.le_refl _) (Nat.le_refl _) (fun H locs hP hD hS => ?_)
  refine lv_icmp_eq (tgt := 600) hx hb d_Law_law_203 rfl (fun _ => ?_) (fun h => absurd rfl h)
  have hP := mk_Pp List.perm_append_comm hP
  have hD := mk_Dp List.perm_append_comm hD
  refine lv_iinc (k := 3) (v := nI (t + 4)) hx hb d_Law_law_600 hl rfl (nI_add t 4) (by decide) rfl (fun ls hl => ?_)
  refine lv_goto (tgt := 38) hx hb d_Law_law_603 rfl ?_
  exact ih ls H locs S' mw' wb' sl' sv' iv' ug' wo' li' sx' ux' co' ck' sn' da' va' la' ki' wa' op' tu' ct' hR' (lv_sub hl [1, 2, 3, 0] rfl) hP hD hS
set_option maxHeartbeats 4000000 in
set_option maxRecDepth 100000 in
theorem law_drain {p : Program} {e : Env} {s : State} {m : MethodId} {below : List Frame} {meth : Method} {c : Code} (l : Launch) {b L : Nat} {xs : Nat → Int32} (hL : L ≤ 2050) (hx : p.tables.exec = Jvm.exec) (hb : c.code = code) (hr : meth.sig.returnType = ret) (hml : c.maxLocals = 4) (hown : s.vm.findClass R_law = some m.cls) (hts : ∀ w ∈ BG, w.before #[Value.ref b] s = true) (hN : nwK s) (hlocks : meth.locks = false) (hX : va_X b L xs s s.heap) (hbl : b < s.heap.size) (D : va_G) (cI cO : ClassId) (hK : va_K D vwCl (tysK cI cO) s) (aB aM aR aW n wy : Nat) (g : Nat → Option Nat) (ad : Nat → Nat → Nat) (aX : Nat) (e9 : Nat → Nat) (hn2 : 2 ≤ n) (hn : n ≤ 4) (hw0 : 1 ≤ wy) (hw : wy < 4) (hg : ∀ i, i < n → g i = some (ad i 0)) (S : Nat → KS) (mw : Nat → Int32) (wb : Int32) (sl : Nat) (sv iv ug : Int32) (wo li sx ux co : Nat → Int32) (ck : Int32) (sn da va la ki wa op : Nat → Int32) (tu : Nat) (ct : Nat → Int32) {t bb : Nat} {ls : Array Slot} {H : Heap} {locs : List Loc} (ht : t + 4 ≤ L) (hbb : bb ≤ t) (ih : ∀ (ls : Array Slot) (H : Heap) (locs : List Loc) (S : Nat → KS) (mw : Nat → Int32) (wb : Int32) (sl : Nat) (sv iv ug : Int32) (wo li sx ux co : Nat → Int32) (ck : Int32) (sn da va la ki wa op : Nat → Int32) (tu : Nat) (ct : Nat → Int32), Rel n wy (bb + 2) S mw wb sl sv iv ug wo li sx ux co ck sn da va la ki wa op tu ct → lv_has ls 4 [(0, .ref b), (1, .ref aB), (2, .ref aX), (3, .int (nI (t + 4)))] → va_P D vwCl (WC cI cO aB aM aR aW n wy g ad S mw wb sl sv iv ug ++ WM cI aX e9 n wy wo li sx ux co ck sn da va la ki wa op tu ct) H → va_D (fun q => s.heap.size ≤ q) (WC cI cO aB aM aR aW n wy g ad S mw wb sl sv iv ug ++ WM cI aX e9 n wy wo li sx ux co ck sn da va la ki wa op tu ct) → va_S (fun q => s.heap.size ≤ q) s.heap H locs → W p l e room_1 s m #[Value.ref b] below meth c H locs 600000 7302249 (lw_Z below #[Value.ref b] s) (F0 m 38 ls [])) (hR : Rel n wy bb S mw wb sl sv iv ug wo li sx ux co ck sn da va la ki wa op tu ct) (hl : lv_has ls 4 [(0, .ref b), (1, .ref aB), (2, .ref aX), (3, .int (nI t))]) (hP : va_P D vwCl (WC cI cO aB aM aR aW n wy g ad S mw wb sl sv iv ug ++ WM cI aX e9 n wy wo li sx ux co ck sn da va la ki wa op tu ct) H) (hD : va_D (fun q => s.heap.size ≤ q) (WC cI cO aB aM aR aW n wy g ad S mw wb sl sv iv ug ++ WM cI aX e9 n wy wo li sx ux co ck sn da va la ki wa op tu ct)) (hS : va_S (fun q => s.heap.size ≤ q) s.heap H locs) : W p l e room_1 s m #[Value.ref b] below meth c H locs 600000 7302249 (lw_Z below #[Value.ref b] s) (F0 m 208 ls []) := by
  obtain ⟨r, S', mw', wb', sl', sv', iv', ug', wo', li', sx', ux', co', ck', sn', da', va', la', ki', wa', op', tu', ct', hO1, hO2, hR'⟩ := s_drain l D cI cO aB aM aR aW n wy g ad aX e9 bb S mw wb sl sv iv ug wo li sx ux co ck sn da va la ki wa op tu ct (xs (t + 1)) hn2 hn hw0 hw (by omega) hg hR
  have hbA : ¬ s.heap.size ≤ b := by omega
  refine lv_aload_n hx hb d_Law_law_208 rfl (lv_at hl 1 rfl) ?_
  refine lv_aload_n hx hb d_Law_law_209 rfl (lv_at hl 0 rfl) ?_
  refine lv_iload_n hx hb d_Law_law_210 rfl (lv_at hl 3 rfl) ?_
  refine lv_iconst (v := nI 1) hx hb d_Law_law_211 (by decide) ?_
  refine lv_iadd hx hb d_Law_law_212 ?_
  refine mk_top (show _ = nI (t + 1) from nI_add t 1) ?_
  refine mk_sld (A := (fun q => s.heap.size ≤ q)) hx hb hX hbl hbA hS (show t + 1 < L by omega) (by omega) d_Law_law_213 ?_
  refine mk_run (wc := WC cI cO aB aM aR aW n wy g ad S mw wb sl sv iv ug) (wr := WM cI aX e9 n wy wo li sx ux co ck sn da va la ki wa op tu ct) (w1 := WC cI cO aB aM aR aW n wy g ad S' mw' wb' sl' sv' iv' ug') (b := aB) (As := [.int (xs (t + 1))]) (rest := []) (own := R_law) (n := 1) (index := 31) (C := "SnoopingBus") (ci := 3) hx hb hml hown hts hN hK hP hD hS (fun _ h => h) hO1 g_Bus_drain (by decide) (hts _ iw_39) (hts _ ilaw_m_31) (hts _ iw_114) (hts _ iw_115) (by decide +kernel) rfl rfl rfl hl.1 rfl rfl (Nat.le_of_ble_eq_true rfl) d_Law_law_214 (Nat.le_refl _) (Nat.le_refl _) (fun H locs hP hD hS => ?_)
  refine lv_aload_n hx hb d_Law_law_217 rfl (lv_at hl 2 rfl) ?_
  refine lv_aload_n hx hb d_Law_law_218 rfl (lv_at hl 0 rfl) ?_
  refine lv_iload_n hx hb d_Law_law_219 rfl (lv_at hl 3 rfl) ?_
  refine lv_iconst (v := nI 1) hx hb d_Law_law_220 (by decide) ?_
  refine lv_iadd hx hb d_Law_law_221 ?_
  refine mk_top (show _ = nI (t + 1) from nI_add t 1) ?_
  refine mk_sld (A := (fun q => s.heap.size ≤ q)) hx hb hX hbl hbA hS (show t + 1 < L by omega) (by omega) d_Law_law_222 ?_
  have hP := mk_Pp List.perm_append_comm hP
  have hD := mk_Dp List.perm_append_comm hD
  refine mk_run (wc := WM cI aX e9 n wy wo li sx ux co ck sn da va la ki wa op tu ct) (wr := WC cI cO aB aM aR aW n wy g ad S' mw' wb' sl' sv' iv' ug') (w1 := WM cI aX e9 n wy wo' li' sx' ux' co' ck' sn' da' va' la' ki' wa' op' tu' ct') (b := aX) (As := [.int (xs (t + 1))]) (rest := [.int (r)]) (own := R_law) (n := 1) (index := 35) (C := "SnoopingBusModel") (ci := 4) hx hb hml hown hts hN hK hP hD hS (fun _ h => h) hO2 g_Model_drain (by decide) (hts _ iw_43) (hts _ ilaw_m_35) (hts _ iw_280) (hts _ iw_281) (by decide +kernel) rfl rfl rfl hl.1 rfl rfl (Nat.le_of_ble_eq_true rfl) d_Law_law_223 (Nat.le_refl _) (Nat.le_refl _) (fun H locs hP hD hS => ?_)
  refine lv_icmp_eq (tgt := 600) hx hb d_Law_law_226 rfl (fun _ => ?_) (fun h => absurd rfl h)
  have hP := mk_Pp List.perm_append_comm hP
  have hD := mk_Dp List.perm_append_comm hD
  refine lv_iinc (k := 3) (v := nI (t + 4)) hx hb d_Law_law_600 hl rfl (nI_add t 4) (by decide) rfl (fun ls hl => ?_)
  refine lv_goto (tgt := 38) hx hb d_Law_law_603 rfl ?_
  exact ih ls H locs S' mw' wb' sl' sv' iv' ug' wo' li' sx' ux' co' ck' sn' da' va' la' ki' wa' op' tu' ct' hR' (lv_sub hl [1, 2, 3, 0] rfl) hP hD hS
set_option maxHeartbeats 4000000 in
set_option maxRecDepth 100000 in
theorem law_swap {p : Program} {e : Env} {s : State} {m : MethodId} {below : List Frame} {meth : Method} {c : Code} (l : Launch) {b L : Nat} {xs : Nat → Int32} (hL : L ≤ 2050) (hx : p.tables.exec = Jvm.exec) (hb : c.code = code) (hr : meth.sig.returnType = ret) (hml : c.maxLocals = 4) (hown : s.vm.findClass R_law = some m.cls) (hts : ∀ w ∈ BG, w.before #[Value.ref b] s = true) (hN : nwK s) (hlocks : meth.locks = false) (hX : va_X b L xs s s.heap) (hbl : b < s.heap.size) (D : va_G) (cI cO : ClassId) (hK : va_K D vwCl (tysK cI cO) s) (aB aM aR aW n wy : Nat) (g : Nat → Option Nat) (ad : Nat → Nat → Nat) (aX : Nat) (e9 : Nat → Nat) (hn2 : 2 ≤ n) (hn : n ≤ 4) (hw0 : 1 ≤ wy) (hw : wy < 4) (hg : ∀ i, i < n → g i = some (ad i 0)) (S : Nat → KS) (mw : Nat → Int32) (wb : Int32) (sl : Nat) (sv iv ug : Int32) (wo li sx ux co : Nat → Int32) (ck : Int32) (sn da va la ki wa op : Nat → Int32) (tu : Nat) (ct : Nat → Int32) {t bb : Nat} {ls : Array Slot} {H : Heap} {locs : List Loc} (ht : t + 4 ≤ L) (hbb : bb ≤ t) (ih : ∀ (ls : Array Slot) (H : Heap) (locs : List Loc) (S : Nat → KS) (mw : Nat → Int32) (wb : Int32) (sl : Nat) (sv iv ug : Int32) (wo li sx ux co : Nat → Int32) (ck : Int32) (sn da va la ki wa op : Nat → Int32) (tu : Nat) (ct : Nat → Int32), Rel n wy (bb + 2) S mw wb sl sv iv ug wo li sx ux co ck sn da va la ki wa op tu ct → lv_has ls 4 [(0, .ref b), (1, .ref aB), (2, .ref aX), (3, .int (nI (t + 4)))] → va_P D vwCl (WC cI cO aB aM aR aW n wy g ad S mw wb sl sv iv ug ++ WM cI aX e9 n wy wo li sx ux co ck sn da va la ki wa op tu ct) H → va_D (fun q => s.heap.size ≤ q) (WC cI cO aB aM aR aW n wy g ad S mw wb sl sv iv ug ++ WM cI aX e9 n wy wo li sx ux co ck sn da va la ki wa op tu ct) → va_S (fun q => s.heap.size ≤ q) s.heap H locs → W p l e room_1 s m #[Value.ref b] below meth c H locs 600000 7302249 (lw_Z below #[Value.ref b] s) (F0 m 38 ls [])) (hR : Rel n wy bb S mw wb sl sv iv ug wo li sx ux co ck sn da va la ki wa op tu ct) (hl : lv_has ls 4 [(0, .ref b), (1, .ref aB), (2, .ref aX), (3, .int (nI t))]) (hP : va_P D vwCl (WC cI cO aB aM aR aW n wy g ad S mw wb sl sv iv ug ++ WM cI aX e9 n wy wo li sx ux co ck sn da va la ki wa op tu ct) H) (hD : va_D (fun q => s.heap.size ≤ q) (WC cI cO aB aM aR aW n wy g ad S mw wb sl sv iv ug ++ WM cI aX e9 n wy wo li sx ux co ck sn da va la ki wa op tu ct)) (hS : va_S (fun q => s.heap.size ≤ q) s.heap H locs) : W p l e room_1 s m #[Value.ref b] below meth c H locs 600000 7302249 (lw_Z below #[Value.ref b] s) (F0 m 231 ls []) := by
  obtain ⟨r, S', mw', wb', sl', sv', iv', ug', wo', li', sx', ux', co', ck', sn', da', va', la', ki', wa', op', tu', ct', hO1, hO2, hR'⟩ := s_swap l D cI cO aB aM aR aW n wy g ad aX e9 bb S mw wb sl sv iv ug wo li sx ux co ck sn da va la ki wa op tu ct (xs (t + 1)) (xs (t + 2)) (xs (t + 3)) hn2 hn hw0 hw (by omega) hg hR
  have hbA : ¬ s.heap.size ≤ b := by omega
  refine lv_aload_n hx hb d_Law_law_231 rfl (lv_at hl 1 rfl) ?_
  refine lv_aload_n hx hb d_Law_law_232 rfl (lv_at hl 0 rfl) ?_
  refine lv_iload_n hx hb d_Law_law_233 rfl (lv_at hl 3 rfl) ?_
  refine lv_iconst (v := nI 1) hx hb d_Law_law_234 (by decide) ?_
  refine lv_iadd hx hb d_Law_law_235 ?_
  refine mk_top (show _ = nI (t + 1) from nI_add t 1) ?_
  refine mk_sld (A := (fun q => s.heap.size ≤ q)) hx hb hX hbl hbA hS (show t + 1 < L by omega) (by omega) d_Law_law_236 ?_
  refine lv_aload_n hx hb d_Law_law_237 rfl (lv_at hl 0 rfl) ?_
  refine lv_iload_n hx hb d_Law_law_238 rfl (lv_at hl 3 rfl) ?_
  refine lv_iconst (v := nI 2) hx hb d_Law_law_239 (by decide) ?_
  refine lv_iadd hx hb d_Law_law_240 ?_
  refine mk_top (show _ = nI (t + 2) from nI_add t 2) ?_
  refine mk_sld (A := (fun q => s.heap.size ≤ q)) hx hb hX hbl hbA hS (show t + 2 < L by omega) (by omega) d_Law_law_241 ?_
  refine lv_aload_n hx hb d_Law_law_242 rfl (lv_at hl 0 rfl) ?_
  refine lv_iload_n hx hb d_Law_law_243 rfl (lv_at hl 3 rfl) ?_
  refine lv_iconst (v := nI 3) hx hb d_Law_law_244 (by decide) ?_
  refine lv_iadd hx hb d_Law_law_245 ?_
  refine mk_top (show _ = nI (t + 3) from nI_add t 3) ?_
  refine mk_sld (A := (fun q => s.heap.size ≤ q)) hx hb hX hbl hbA hS (show t + 3 < L by omega) (by omega) d_Law_law_246 ?_
  refine mk_run (wc := WC cI cO aB aM aR aW n wy g ad S mw wb sl sv iv ug) (wr := WM cI aX e9 n wy wo li sx ux co ck sn da va la ki wa op tu ct) (w1 := WC cI cO aB aM aR aW n wy g ad S' mw' wb' sl' sv' iv' ug') (b := aB) (As := [.int (xs (t + 1)), .int (xs (t + 2)), .int (xs (t + 3))]) (rest := []) (own := R_law) (n := 3) (index := 36) (C := "SnoopingBus") (ci := 3) hx hb hml hown hts hN hK hP hD hS (fun _ h => h) hO1 g_Bus_swap (by decide) (hts _ iw_39) (hts _ ilaw_m_36) (hts _ iw_137) (hts _ iw_138) (by decide +kernel) rfl rfl rfl hl.1 rfl rfl (Nat.le_of_ble_eq_true rfl) d_Law_law_247 (Nat.le_refl _) (Nat.le_refl _) (fun H locs hP hD hS => ?_)
  refine lv_aload_n hx hb d_Law_law_250 rfl (lv_at hl 2 rfl) ?_
  refine lv_aload_n hx hb d_Law_law_251 rfl (lv_at hl 0 rfl) ?_
  refine lv_iload_n hx hb d_Law_law_252 rfl (lv_at hl 3 rfl) ?_
  refine lv_iconst (v := nI 1) hx hb d_Law_law_253 (by decide) ?_
  refine lv_iadd hx hb d_Law_law_254 ?_
  refine mk_top (show _ = nI (t + 1) from nI_add t 1) ?_
  refine mk_sld (A := (fun q => s.heap.size ≤ q)) hx hb hX hbl hbA hS (show t + 1 < L by omega) (by omega) d_Law_law_255 ?_
  refine lv_aload_n hx hb d_Law_law_256 rfl (lv_at hl 0 rfl) ?_
  refine lv_iload_n hx hb d_Law_law_257 rfl (lv_at hl 3 rfl) ?_
  refine lv_iconst (v := nI 2) hx hb d_Law_law_258 (by decide) ?_
  refine lv_iadd hx hb d_Law_law_259 ?_
  refine mk_top (show _ = nI (t + 2) from nI_add t 2) ?_
  refine mk_sld (A := (fun q => s.heap.size ≤ q)) hx hb hX hbl hbA hS (show t + 2 < L by omega) (by omega) d_Law_law_260 ?_
  refine lv_aload_n hx hb d_Law_law_261 rfl (lv_at hl 0 rfl) ?_
  refine lv_iload_n hx hb d_Law_law_262 rfl (lv_at hl 3 rfl) ?_
  refine lv_iconst (v := nI 3) hx hb d_Law_law_263 (by decide) ?_
  refine lv_iadd hx hb d_Law_law_264 ?_
  refine mk_top (show _ = nI (t + 3) from nI_add t 3) ?_
  refine mk_sld (A := (fun q => s.heap.size ≤ q)) hx hb hX hbl hbA hS (show t + 3 < L by omega) (by omega) d_Law_law_265 ?_
  have hP := mk_Pp List.perm_append_comm hP
  have hD := mk_Dp List.perm_append_comm hD
  refine mk_run (wc := WM cI aX e9 n wy wo li sx ux co ck sn da va la ki wa op tu ct) (wr := WC cI cO aB aM aR aW n wy g ad S' mw' wb' sl' sv' iv' ug') (w1 := WM cI aX e9 n wy wo' li' sx' ux' co' ck' sn' da' va' la' ki' wa' op' tu' ct') (b := aX) (As := [.int (xs (t + 1)), .int (xs (t + 2)), .int (xs (t + 3))]) (rest := [.int (r)]) (own := R_law) (n := 3) (index := 39) (C := "SnoopingBusModel") (ci := 4) hx hb hml hown hts hN hK hP hD hS (fun _ h => h) hO2 g_Model_swap (by decide) (hts _ iw_43) (hts _ ilaw_m_39) (hts _ iw_295) (hts _ iw_296) (by decide +kernel) rfl rfl rfl hl.1 rfl rfl (Nat.le_of_ble_eq_true rfl) d_Law_law_266 (Nat.le_refl _) (Nat.le_refl _) (fun H locs hP hD hS => ?_)
  refine lv_icmp_eq (tgt := 600) hx hb d_Law_law_269 rfl (fun _ => ?_) (fun h => absurd rfl h)
  have hP := mk_Pp List.perm_append_comm hP
  have hD := mk_Dp List.perm_append_comm hD
  refine lv_iinc (k := 3) (v := nI (t + 4)) hx hb d_Law_law_600 hl rfl (nI_add t 4) (by decide) rfl (fun ls hl => ?_)
  refine lv_goto (tgt := 38) hx hb d_Law_law_603 rfl ?_
  exact ih ls H locs S' mw' wb' sl' sv' iv' ug' wo' li' sx' ux' co' ck' sn' da' va' la' ki' wa' op' tu' ct' hR' (lv_sub hl [1, 2, 3, 0] rfl) hP hD hS
set_option maxHeartbeats 4000000 in
set_option maxRecDepth 100000 in
theorem law_add {p : Program} {e : Env} {s : State} {m : MethodId} {below : List Frame} {meth : Method} {c : Code} (l : Launch) {b L : Nat} {xs : Nat → Int32} (hL : L ≤ 2050) (hx : p.tables.exec = Jvm.exec) (hb : c.code = code) (hr : meth.sig.returnType = ret) (hml : c.maxLocals = 4) (hown : s.vm.findClass R_law = some m.cls) (hts : ∀ w ∈ BG, w.before #[Value.ref b] s = true) (hN : nwK s) (hlocks : meth.locks = false) (hX : va_X b L xs s s.heap) (hbl : b < s.heap.size) (D : va_G) (cI cO : ClassId) (hK : va_K D vwCl (tysK cI cO) s) (aB aM aR aW n wy : Nat) (g : Nat → Option Nat) (ad : Nat → Nat → Nat) (aX : Nat) (e9 : Nat → Nat) (hn2 : 2 ≤ n) (hn : n ≤ 4) (hw0 : 1 ≤ wy) (hw : wy < 4) (hg : ∀ i, i < n → g i = some (ad i 0)) (S : Nat → KS) (mw : Nat → Int32) (wb : Int32) (sl : Nat) (sv iv ug : Int32) (wo li sx ux co : Nat → Int32) (ck : Int32) (sn da va la ki wa op : Nat → Int32) (tu : Nat) (ct : Nat → Int32) {t bb : Nat} {ls : Array Slot} {H : Heap} {locs : List Loc} (ht : t + 4 ≤ L) (hbb : bb ≤ t) (ih : ∀ (ls : Array Slot) (H : Heap) (locs : List Loc) (S : Nat → KS) (mw : Nat → Int32) (wb : Int32) (sl : Nat) (sv iv ug : Int32) (wo li sx ux co : Nat → Int32) (ck : Int32) (sn da va la ki wa op : Nat → Int32) (tu : Nat) (ct : Nat → Int32), Rel n wy (bb + 2) S mw wb sl sv iv ug wo li sx ux co ck sn da va la ki wa op tu ct → lv_has ls 4 [(0, .ref b), (1, .ref aB), (2, .ref aX), (3, .int (nI (t + 4)))] → va_P D vwCl (WC cI cO aB aM aR aW n wy g ad S mw wb sl sv iv ug ++ WM cI aX e9 n wy wo li sx ux co ck sn da va la ki wa op tu ct) H → va_D (fun q => s.heap.size ≤ q) (WC cI cO aB aM aR aW n wy g ad S mw wb sl sv iv ug ++ WM cI aX e9 n wy wo li sx ux co ck sn da va la ki wa op tu ct) → va_S (fun q => s.heap.size ≤ q) s.heap H locs → W p l e room_1 s m #[Value.ref b] below meth c H locs 600000 7302249 (lw_Z below #[Value.ref b] s) (F0 m 38 ls [])) (hR : Rel n wy bb S mw wb sl sv iv ug wo li sx ux co ck sn da va la ki wa op tu ct) (hl : lv_has ls 4 [(0, .ref b), (1, .ref aB), (2, .ref aX), (3, .int (nI t))]) (hP : va_P D vwCl (WC cI cO aB aM aR aW n wy g ad S mw wb sl sv iv ug ++ WM cI aX e9 n wy wo li sx ux co ck sn da va la ki wa op tu ct) H) (hD : va_D (fun q => s.heap.size ≤ q) (WC cI cO aB aM aR aW n wy g ad S mw wb sl sv iv ug ++ WM cI aX e9 n wy wo li sx ux co ck sn da va la ki wa op tu ct)) (hS : va_S (fun q => s.heap.size ≤ q) s.heap H locs) : W p l e room_1 s m #[Value.ref b] below meth c H locs 600000 7302249 (lw_Z below #[Value.ref b] s) (F0 m 274 ls []) := by
  obtain ⟨r, S', mw', wb', sl', sv', iv', ug', wo', li', sx', ux', co', ck', sn', da', va', la', ki', wa', op', tu', ct', hO1, hO2, hR'⟩ := s_add l D cI cO aB aM aR aW n wy g ad aX e9 bb S mw wb sl sv iv ug wo li sx ux co ck sn da va la ki wa op tu ct (xs (t + 1)) (xs (t + 2)) (xs (t + 3)) hn2 hn hw0 hw (by omega) hg hR
  have hbA : ¬ s.heap.size ≤ b := by omega
  refine lv_aload_n hx hb d_Law_law_274 rfl (lv_at hl 1 rfl) ?_
  refine lv_aload_n hx hb d_Law_law_275 rfl (lv_at hl 0 rfl) ?_
  refine lv_iload_n hx hb d_Law_law_276 rfl (lv_at hl 3 rfl) ?_
  refine lv_iconst (v := nI 1) hx hb d_Law_law_277 (by decide) ?_
  refine lv_iadd hx hb d_Law_law_278 ?_
  refine mk_top (show _ = nI (t + 1) from nI_add t 1) ?_
  refine mk_sld (A := (fun q => s.heap.size ≤ q)) hx hb hX hbl hbA hS (show t + 1 < L by omega) (by omega) d_Law_law_279 ?_
  refine lv_aload_n hx hb d_Law_law_280 rfl (lv_at hl 0 rfl) ?_
  refine lv_iload_n hx hb d_Law_law_281 rfl (lv_at hl 3 rfl) ?_
  refine lv_iconst (v := nI 2) hx hb d_Law_law_282 (by decide) ?_
  refine lv_iadd hx hb d_Law_law_283 ?_
  refine mk_top (show _ = nI (t + 2) from nI_add t 2) ?_
  refine mk_sld (A := (fun q => s.heap.size ≤ q)) hx hb hX hbl hbA hS (show t + 2 < L by omega) (by omega) d_Law_law_284 ?_
  refine lv_aload_n hx hb d_Law_law_285 rfl (lv_at hl 0 rfl) ?_
  refine lv_iload_n hx hb d_Law_law_286 rfl (lv_at hl 3 rfl) ?_
  refine lv_iconst (v := nI 3) hx hb d_Law_law_287 (by decide) ?_
  refine lv_iadd hx hb d_Law_law_288 ?_
  refine mk_top (show _ = nI (t + 3) from nI_add t 3) ?_
  refine mk_sld (A := (fun q => s.heap.size ≤ q)) hx hb hX hbl hbA hS (show t + 3 < L by omega) (by omega) d_Law_law_289 ?_
  refine mk_run (wc := WC cI cO aB aM aR aW n wy g ad S mw wb sl sv iv ug) (wr := WM cI aX e9 n wy wo li sx ux co ck sn da va la ki wa op tu ct) (w1 := WC cI cO aB aM aR aW n wy g ad S' mw' wb' sl' sv' iv' ug') (b := aB) (As := [.int (xs (t + 1)), .int (xs (t + 2)), .int (xs (t + 3))]) (rest := []) (own := R_law) (n := 3) (index := 40) (C := "SnoopingBus") (ci := 3) hx hb hml hown hts hN hK hP hD hS (fun _ h => h) hO1 g_Bus_add (by decide) (hts _ iw_39) (hts _ ilaw_m_40) (hts _ iw_144) (hts _ iw_145) (by decide +kernel) rfl rfl rfl hl.1 rfl rfl (Nat.le_of_ble_eq_true rfl) d_Law_law_290 (Nat.le_refl _) (Nat.le_refl _) (fun H locs hP hD hS => ?_)
  refine lv_aload_n hx hb d_Law_law_293 rfl (lv_at hl 2 rfl) ?_
  refine lv_aload_n hx hb d_Law_law_294 rfl (lv_at hl 0 rfl) ?_
  refine lv_iload_n hx hb d_Law_law_295 rfl (lv_at hl 3 rfl) ?_
  refine lv_iconst (v := nI 1) hx hb d_Law_law_296 (by decide) ?_
  refine lv_iadd hx hb d_Law_law_297 ?_
  refine mk_top (show _ = nI (t + 1) from nI_add t 1) ?_
  refine mk_sld (A := (fun q => s.heap.size ≤ q)) hx hb hX hbl hbA hS (show t + 1 < L by omega) (by omega) d_Law_law_298 ?_
  refine lv_aload_n hx hb d_Law_law_299 rfl (lv_at hl 0 rfl) ?_
  refine lv_iload_n hx hb d_Law_law_300 rfl (lv_at hl 3 rfl) ?_
  refine lv_iconst (v := nI 2) hx hb d_Law_law_301 (by decide) ?_
  refine lv_iadd hx hb d_Law_law_302 ?_
  refine mk_top (show _ = nI (t + 2) from nI_add t 2) ?_
  refine mk_sld (A := (fun q => s.heap.size ≤ q)) hx hb hX hbl hbA hS (show t + 2 < L by omega) (by omega) d_Law_law_303 ?_
  refine lv_aload_n hx hb d_Law_law_304 rfl (lv_at hl 0 rfl) ?_
  refine lv_iload_n hx hb d_Law_law_305 rfl (lv_at hl 3 rfl) ?_
  refine lv_iconst (v := nI 3) hx hb d_Law_law_306 (by decide) ?_
  refine lv_iadd hx hb d_Law_law_307 ?_
  refine mk_top (show _ = nI (t + 3) from nI_add t 3) ?_
  refine mk_sld (A := (fun q => s.heap.size ≤ q)) hx hb hX hbl hbA hS (show t + 3 < L by omega) (by omega) d_Law_law_308 ?_
  have hP := mk_Pp List.perm_append_comm hP
  have hD := mk_Dp List.perm_append_comm hD
  refine mk_run (wc := WM cI aX e9 n wy wo li sx ux co ck sn da va la ki wa op tu ct) (wr := WC cI cO aB aM aR aW n wy g ad S' mw' wb' sl' sv' iv' ug') (w1 := WM cI aX e9 n wy wo' li' sx' ux' co' ck' sn' da' va' la' ki' wa' op' tu' ct') (b := aX) (As := [.int (xs (t + 1)), .int (xs (t + 2)), .int (xs (t + 3))]) (rest := [.int (r)]) (own := R_law) (n := 3) (index := 43) (C := "SnoopingBusModel") (ci := 4) hx hb hml hown hts hN hK hP hD hS (fun _ h => h) hO2 g_Model_add (by decide) (hts _ iw_43) (hts _ ilaw_m_43) (hts _ iw_306) (hts _ iw_307) (by decide +kernel) rfl rfl rfl hl.1 rfl rfl (Nat.le_of_ble_eq_true rfl) d_Law_law_309 (Nat.le_refl _) (Nat.le_refl _) (fun H locs hP hD hS => ?_)
  refine lv_icmp_eq (tgt := 600) hx hb d_Law_law_312 rfl (fun _ => ?_) (fun h => absurd rfl h)
  have hP := mk_Pp List.perm_append_comm hP
  have hD := mk_Dp List.perm_append_comm hD
  refine lv_iinc (k := 3) (v := nI (t + 4)) hx hb d_Law_law_600 hl rfl (nI_add t 4) (by decide) rfl (fun ls hl => ?_)
  refine lv_goto (tgt := 38) hx hb d_Law_law_603 rfl ?_
  exact ih ls H locs S' mw' wb' sl' sv' iv' ug' wo' li' sx' ux' co' ck' sn' da' va' la' ki' wa' op' tu' ct' hR' (lv_sub hl [1, 2, 3, 0] rfl) hP hD hS
set_option maxHeartbeats 4000000 in
set_option maxRecDepth 100000 in
theorem law_bus {p : Program} {e : Env} {s : State} {m : MethodId} {below : List Frame} {meth : Method} {c : Code} (l : Launch) {b L : Nat} {xs : Nat → Int32} (hL : L ≤ 2050) (hx : p.tables.exec = Jvm.exec) (hb : c.code = code) (hr : meth.sig.returnType = ret) (hml : c.maxLocals = 4) (hown : s.vm.findClass R_law = some m.cls) (hts : ∀ w ∈ BG, w.before #[Value.ref b] s = true) (hN : nwK s) (hlocks : meth.locks = false) (hX : va_X b L xs s s.heap) (hbl : b < s.heap.size) (D : va_G) (cI cO : ClassId) (hK : va_K D vwCl (tysK cI cO) s) (aB aM aR aW n wy : Nat) (g : Nat → Option Nat) (ad : Nat → Nat → Nat) (aX : Nat) (e9 : Nat → Nat) (hn2 : 2 ≤ n) (hn : n ≤ 4) (hw0 : 1 ≤ wy) (hw : wy < 4) (hg : ∀ i, i < n → g i = some (ad i 0)) (S : Nat → KS) (mw : Nat → Int32) (wb : Int32) (sl : Nat) (sv iv ug : Int32) (wo li sx ux co : Nat → Int32) (ck : Int32) (sn da va la ki wa op : Nat → Int32) (tu : Nat) (ct : Nat → Int32) {t bb : Nat} {ls : Array Slot} {H : Heap} {locs : List Loc} (ht : t + 4 ≤ L) (hbb : bb ≤ t) (ih : ∀ (ls : Array Slot) (H : Heap) (locs : List Loc) (S : Nat → KS) (mw : Nat → Int32) (wb : Int32) (sl : Nat) (sv iv ug : Int32) (wo li sx ux co : Nat → Int32) (ck : Int32) (sn da va la ki wa op : Nat → Int32) (tu : Nat) (ct : Nat → Int32), Rel n wy (bb + 2) S mw wb sl sv iv ug wo li sx ux co ck sn da va la ki wa op tu ct → lv_has ls 4 [(0, .ref b), (1, .ref aB), (2, .ref aX), (3, .int (nI (t + 4)))] → va_P D vwCl (WC cI cO aB aM aR aW n wy g ad S mw wb sl sv iv ug ++ WM cI aX e9 n wy wo li sx ux co ck sn da va la ki wa op tu ct) H → va_D (fun q => s.heap.size ≤ q) (WC cI cO aB aM aR aW n wy g ad S mw wb sl sv iv ug ++ WM cI aX e9 n wy wo li sx ux co ck sn da va la ki wa op tu ct) → va_S (fun q => s.heap.size ≤ q) s.heap H locs → W p l e room_1 s m #[Value.ref b] below meth c H locs 600000 7302249 (lw_Z below #[Value.ref b] s) (F0 m 38 ls [])) (hR : Rel n wy bb S mw wb sl sv iv ug wo li sx ux co ck sn da va la ki wa op tu ct) (hl : lv_has ls 4 [(0, .ref b), (1, .ref aB), (2, .ref aX), (3, .int (nI t))]) (hP : va_P D vwCl (WC cI cO aB aM aR aW n wy g ad S mw wb sl sv iv ug ++ WM cI aX e9 n wy wo li sx ux co ck sn da va la ki wa op tu ct) H) (hD : va_D (fun q => s.heap.size ≤ q) (WC cI cO aB aM aR aW n wy g ad S mw wb sl sv iv ug ++ WM cI aX e9 n wy wo li sx ux co ck sn da va la ki wa op tu ct)) (hS : va_S (fun q => s.heap.size ≤ q) s.heap H locs) : W p l e room_1 s m #[Value.ref b] below meth c H locs 600000 7302249 (lw_Z below #[Value.ref b] s) (F0 m 317 ls []) := by
  obtain ⟨r, S', mw', wb', sl', sv', iv', ug', wo', li', sx', ux', co', ck', sn', da', va', la', ki', wa', op', tu', ct', hO1, hO2, hR'⟩ := s_bus l D cI cO aB aM aR aW n wy g ad aX e9 bb S mw wb sl sv iv ug wo li sx ux co ck sn da va la ki wa op tu ct  hn2 hn hw0 hw (by omega) hg hR
  have hbA : ¬ s.heap.size ≤ b := by omega
  refine lv_aload_n hx hb d_Law_law_317 rfl (lv_at hl 1 rfl) ?_
  refine mk_run (wc := WC cI cO aB aM aR aW n wy g ad S mw wb sl sv iv ug) (wr := WM cI aX e9 n wy wo li sx ux co ck sn da va la ki wa op tu ct) (w1 := WC cI cO aB aM aR aW n wy g ad S' mw' wb' sl' sv' iv' ug') (b := aB) (As := []) (rest := []) (own := R_law) (n := 0) (index := 44) (C := "SnoopingBus") (ci := 3) hx hb hml hown hts hN hK hP hD hS (fun _ h => h) hO1 g_Bus_bus (by decide) (hts _ iw_39) (hts _ ilaw_m_44) (hts _ iw_147) (hts _ iw_148) (by decide +kernel) rfl rfl rfl hl.1 rfl rfl (Nat.le_of_ble_eq_true rfl) d_Law_law_318 (Nat.le_refl _) (Nat.le_refl _) (fun H locs hP hD hS => ?_)
  refine lv_aload_n hx hb d_Law_law_321 rfl (lv_at hl 2 rfl) ?_
  have hP := mk_Pp List.perm_append_comm hP
  have hD := mk_Dp List.perm_append_comm hD
  refine mk_run (wc := WM cI aX e9 n wy wo li sx ux co ck sn da va la ki wa op tu ct) (wr := WC cI cO aB aM aR aW n wy g ad S' mw' wb' sl' sv' iv' ug') (w1 := WM cI aX e9 n wy wo' li' sx' ux' co' ck' sn' da' va' la' ki' wa' op' tu' ct') (b := aX) (As := []) (rest := [.int (r)]) (own := R_law) (n := 0) (index := 48) (C := "SnoopingBusModel") (ci := 4) hx hb hml hown hts hN hK hP hD hS (fun _ h => h) hO2 g_Model_bus (by decide) (hts _ iw_43) (hts _ ilaw_m_48) (hts _ iw_309) (hts _ iw_310) (by decide +kernel) rfl rfl rfl hl.1 rfl rfl (Nat.le_of_ble_eq_true rfl) d_Law_law_322 (Nat.le_refl _) (Nat.le_refl _) (fun H locs hP hD hS => ?_)
  refine lv_icmp_eq (tgt := 600) hx hb d_Law_law_325 rfl (fun _ => ?_) (fun h => absurd rfl h)
  have hP := mk_Pp List.perm_append_comm hP
  have hD := mk_Dp List.perm_append_comm hD
  refine lv_iinc (k := 3) (v := nI (t + 4)) hx hb d_Law_law_600 hl rfl (nI_add t 4) (by decide) rfl (fun ls hl => ?_)
  refine lv_goto (tgt := 38) hx hb d_Law_law_603 rfl ?_
  exact ih ls H locs S' mw' wb' sl' sv' iv' ug' wo' li' sx' ux' co' ck' sn' da' va' la' ki' wa' op' tu' ct' hR' (lv_sub hl [1, 2, 3, 0] rfl) hP hD hS
set_option maxHeartbeats 4000000 in
set_option maxRecDepth 100000 in
theorem law_evict {p : Program} {e : Env} {s : State} {m : MethodId} {below : List Frame} {meth : Method} {c : Code} (l : Launch) {b L : Nat} {xs : Nat → Int32} (hL : L ≤ 2050) (hx : p.tables.exec = Jvm.exec) (hb : c.code = code) (hr : meth.sig.returnType = ret) (hml : c.maxLocals = 4) (hown : s.vm.findClass R_law = some m.cls) (hts : ∀ w ∈ BG, w.before #[Value.ref b] s = true) (hN : nwK s) (hlocks : meth.locks = false) (hX : va_X b L xs s s.heap) (hbl : b < s.heap.size) (D : va_G) (cI cO : ClassId) (hK : va_K D vwCl (tysK cI cO) s) (aB aM aR aW n wy : Nat) (g : Nat → Option Nat) (ad : Nat → Nat → Nat) (aX : Nat) (e9 : Nat → Nat) (hn2 : 2 ≤ n) (hn : n ≤ 4) (hw0 : 1 ≤ wy) (hw : wy < 4) (hg : ∀ i, i < n → g i = some (ad i 0)) (S : Nat → KS) (mw : Nat → Int32) (wb : Int32) (sl : Nat) (sv iv ug : Int32) (wo li sx ux co : Nat → Int32) (ck : Int32) (sn da va la ki wa op : Nat → Int32) (tu : Nat) (ct : Nat → Int32) {t bb : Nat} {ls : Array Slot} {H : Heap} {locs : List Loc} (ht : t + 4 ≤ L) (hbb : bb ≤ t) (ih : ∀ (ls : Array Slot) (H : Heap) (locs : List Loc) (S : Nat → KS) (mw : Nat → Int32) (wb : Int32) (sl : Nat) (sv iv ug : Int32) (wo li sx ux co : Nat → Int32) (ck : Int32) (sn da va la ki wa op : Nat → Int32) (tu : Nat) (ct : Nat → Int32), Rel n wy (bb + 2) S mw wb sl sv iv ug wo li sx ux co ck sn da va la ki wa op tu ct → lv_has ls 4 [(0, .ref b), (1, .ref aB), (2, .ref aX), (3, .int (nI (t + 4)))] → va_P D vwCl (WC cI cO aB aM aR aW n wy g ad S mw wb sl sv iv ug ++ WM cI aX e9 n wy wo li sx ux co ck sn da va la ki wa op tu ct) H → va_D (fun q => s.heap.size ≤ q) (WC cI cO aB aM aR aW n wy g ad S mw wb sl sv iv ug ++ WM cI aX e9 n wy wo li sx ux co ck sn da va la ki wa op tu ct) → va_S (fun q => s.heap.size ≤ q) s.heap H locs → W p l e room_1 s m #[Value.ref b] below meth c H locs 600000 7302249 (lw_Z below #[Value.ref b] s) (F0 m 38 ls [])) (hR : Rel n wy bb S mw wb sl sv iv ug wo li sx ux co ck sn da va la ki wa op tu ct) (hl : lv_has ls 4 [(0, .ref b), (1, .ref aB), (2, .ref aX), (3, .int (nI t))]) (hP : va_P D vwCl (WC cI cO aB aM aR aW n wy g ad S mw wb sl sv iv ug ++ WM cI aX e9 n wy wo li sx ux co ck sn da va la ki wa op tu ct) H) (hD : va_D (fun q => s.heap.size ≤ q) (WC cI cO aB aM aR aW n wy g ad S mw wb sl sv iv ug ++ WM cI aX e9 n wy wo li sx ux co ck sn da va la ki wa op tu ct)) (hS : va_S (fun q => s.heap.size ≤ q) s.heap H locs) : W p l e room_1 s m #[Value.ref b] below meth c H locs 600000 7302249 (lw_Z below #[Value.ref b] s) (F0 m 330 ls []) := by
  obtain ⟨r, S', mw', wb', sl', sv', iv', ug', wo', li', sx', ux', co', ck', sn', da', va', la', ki', wa', op', tu', ct', hO1, hO2, hR'⟩ := s_evict l D cI cO aB aM aR aW n wy g ad aX e9 bb S mw wb sl sv iv ug wo li sx ux co ck sn da va la ki wa op tu ct (xs (t + 1)) (xs (t + 2)) hn2 hn hw0 hw (by omega) hg hR
  have hbA : ¬ s.heap.size ≤ b := by omega
  refine lv_aload_n hx hb d_Law_law_330 rfl (lv_at hl 1 rfl) ?_
  refine lv_aload_n hx hb d_Law_law_331 rfl (lv_at hl 0 rfl) ?_
  refine lv_iload_n hx hb d_Law_law_332 rfl (lv_at hl 3 rfl) ?_
  refine lv_iconst (v := nI 1) hx hb d_Law_law_333 (by decide) ?_
  refine lv_iadd hx hb d_Law_law_334 ?_
  refine mk_top (show _ = nI (t + 1) from nI_add t 1) ?_
  refine mk_sld (A := (fun q => s.heap.size ≤ q)) hx hb hX hbl hbA hS (show t + 1 < L by omega) (by omega) d_Law_law_335 ?_
  refine lv_aload_n hx hb d_Law_law_336 rfl (lv_at hl 0 rfl) ?_
  refine lv_iload_n hx hb d_Law_law_337 rfl (lv_at hl 3 rfl) ?_
  refine lv_iconst (v := nI 2) hx hb d_Law_law_338 (by decide) ?_
  refine lv_iadd hx hb d_Law_law_339 ?_
  refine mk_top (show _ = nI (t + 2) from nI_add t 2) ?_
  refine mk_sld (A := (fun q => s.heap.size ≤ q)) hx hb hX hbl hbA hS (show t + 2 < L by omega) (by omega) d_Law_law_340 ?_
  refine mk_run (wc := WC cI cO aB aM aR aW n wy g ad S mw wb sl sv iv ug) (wr := WM cI aX e9 n wy wo li sx ux co ck sn da va la ki wa op tu ct) (w1 := WC cI cO aB aM aR aW n wy g ad S' mw' wb' sl' sv' iv' ug') (b := aB) (As := [.int (xs (t + 1)), .int (xs (t + 2))]) (rest := []) (own := R_law) (n := 2) (index := 49) (C := "SnoopingBus") (ci := 3) hx hb hml hown hts hN hK hP hD hS (fun _ h => h) hO1 g_Bus_evict (by decide) (hts _ iw_39) (hts _ ilaw_m_49) (hts _ iw_193) (hts _ iw_194) (by decide +kernel) rfl rfl rfl hl.1 rfl rfl (Nat.le_of_ble_eq_true rfl) d_Law_law_341 (Nat.le_refl _) (Nat.le_refl _) (fun H locs hP hD hS => ?_)
  refine lv_aload_n hx hb d_Law_law_344 rfl (lv_at hl 2 rfl) ?_
  refine lv_aload_n hx hb d_Law_law_345 rfl (lv_at hl 0 rfl) ?_
  refine lv_iload_n hx hb d_Law_law_346 rfl (lv_at hl 3 rfl) ?_
  refine lv_iconst (v := nI 1) hx hb d_Law_law_347 (by decide) ?_
  refine lv_iadd hx hb d_Law_law_348 ?_
  refine mk_top (show _ = nI (t + 1) from nI_add t 1) ?_
  refine mk_sld (A := (fun q => s.heap.size ≤ q)) hx hb hX hbl hbA hS (show t + 1 < L by omega) (by omega) d_Law_law_349 ?_
  refine lv_aload_n hx hb d_Law_law_350 rfl (lv_at hl 0 rfl) ?_
  refine lv_iload_n hx hb d_Law_law_351 rfl (lv_at hl 3 rfl) ?_
  refine lv_iconst (v := nI 2) hx hb d_Law_law_352 (by decide) ?_
  refine lv_iadd hx hb d_Law_law_353 ?_
  refine mk_top (show _ = nI (t + 2) from nI_add t 2) ?_
  refine mk_sld (A := (fun q => s.heap.size ≤ q)) hx hb hX hbl hbA hS (show t + 2 < L by omega) (by omega) d_Law_law_354 ?_
  have hP := mk_Pp List.perm_append_comm hP
  have hD := mk_Dp List.perm_append_comm hD
  refine mk_run (wc := WM cI aX e9 n wy wo li sx ux co ck sn da va la ki wa op tu ct) (wr := WC cI cO aB aM aR aW n wy g ad S' mw' wb' sl' sv' iv' ug') (w1 := WM cI aX e9 n wy wo' li' sx' ux' co' ck' sn' da' va' la' ki' wa' op' tu' ct') (b := aX) (As := [.int (xs (t + 1)), .int (xs (t + 2))]) (rest := [.int (r)]) (own := R_law) (n := 2) (index := 52) (C := "SnoopingBusModel") (ci := 4) hx hb hml hown hts hN hK hP hD hS (fun _ h => h) hO2 g_Model_evict (by decide) (hts _ iw_43) (hts _ ilaw_m_52) (hts _ iw_337) (hts _ iw_338) (by decide +kernel) rfl rfl rfl hl.1 rfl rfl (Nat.le_of_ble_eq_true rfl) d_Law_law_355 (Nat.le_refl _) (Nat.le_refl _) (fun H locs hP hD hS => ?_)
  refine lv_icmp_eq (tgt := 600) hx hb d_Law_law_358 rfl (fun _ => ?_) (fun h => absurd rfl h)
  have hP := mk_Pp List.perm_append_comm hP
  have hD := mk_Dp List.perm_append_comm hD
  refine lv_iinc (k := 3) (v := nI (t + 4)) hx hb d_Law_law_600 hl rfl (nI_add t 4) (by decide) rfl (fun ls hl => ?_)
  refine lv_goto (tgt := 38) hx hb d_Law_law_603 rfl ?_
  exact ih ls H locs S' mw' wb' sl' sv' iv' ug' wo' li' sx' ux' co' ck' sn' da' va' la' ki' wa' op' tu' ct' hR' (lv_sub hl [1, 2, 3, 0] rfl) hP hD hS
set_option maxHeartbeats 4000000 in
set_option maxRecDepth 100000 in
theorem law_last {p : Program} {e : Env} {s : State} {m : MethodId} {below : List Frame} {meth : Method} {c : Code} (l : Launch) {b L : Nat} {xs : Nat → Int32} (hL : L ≤ 2050) (hx : p.tables.exec = Jvm.exec) (hb : c.code = code) (hr : meth.sig.returnType = ret) (hml : c.maxLocals = 4) (hown : s.vm.findClass R_law = some m.cls) (hts : ∀ w ∈ BG, w.before #[Value.ref b] s = true) (hN : nwK s) (hlocks : meth.locks = false) (hX : va_X b L xs s s.heap) (hbl : b < s.heap.size) (D : va_G) (cI cO : ClassId) (hK : va_K D vwCl (tysK cI cO) s) (aB aM aR aW n wy : Nat) (g : Nat → Option Nat) (ad : Nat → Nat → Nat) (aX : Nat) (e9 : Nat → Nat) (hn2 : 2 ≤ n) (hn : n ≤ 4) (hw0 : 1 ≤ wy) (hw : wy < 4) (hg : ∀ i, i < n → g i = some (ad i 0)) (S : Nat → KS) (mw : Nat → Int32) (wb : Int32) (sl : Nat) (sv iv ug : Int32) (wo li sx ux co : Nat → Int32) (ck : Int32) (sn da va la ki wa op : Nat → Int32) (tu : Nat) (ct : Nat → Int32) {t bb : Nat} {ls : Array Slot} {H : Heap} {locs : List Loc} (ht : t + 4 ≤ L) (hbb : bb ≤ t) (ih : ∀ (ls : Array Slot) (H : Heap) (locs : List Loc) (S : Nat → KS) (mw : Nat → Int32) (wb : Int32) (sl : Nat) (sv iv ug : Int32) (wo li sx ux co : Nat → Int32) (ck : Int32) (sn da va la ki wa op : Nat → Int32) (tu : Nat) (ct : Nat → Int32), Rel n wy (bb + 2) S mw wb sl sv iv ug wo li sx ux co ck sn da va la ki wa op tu ct → lv_has ls 4 [(0, .ref b), (1, .ref aB), (2, .ref aX), (3, .int (nI (t + 4)))] → va_P D vwCl (WC cI cO aB aM aR aW n wy g ad S mw wb sl sv iv ug ++ WM cI aX e9 n wy wo li sx ux co ck sn da va la ki wa op tu ct) H → va_D (fun q => s.heap.size ≤ q) (WC cI cO aB aM aR aW n wy g ad S mw wb sl sv iv ug ++ WM cI aX e9 n wy wo li sx ux co ck sn da va la ki wa op tu ct) → va_S (fun q => s.heap.size ≤ q) s.heap H locs → W p l e room_1 s m #[Value.ref b] below meth c H locs 600000 7302249 (lw_Z below #[Value.ref b] s) (F0 m 38 ls [])) (hR : Rel n wy bb S mw wb sl sv iv ug wo li sx ux co ck sn da va la ki wa op tu ct) (hl : lv_has ls 4 [(0, .ref b), (1, .ref aB), (2, .ref aX), (3, .int (nI t))]) (hP : va_P D vwCl (WC cI cO aB aM aR aW n wy g ad S mw wb sl sv iv ug ++ WM cI aX e9 n wy wo li sx ux co ck sn da va la ki wa op tu ct) H) (hD : va_D (fun q => s.heap.size ≤ q) (WC cI cO aB aM aR aW n wy g ad S mw wb sl sv iv ug ++ WM cI aX e9 n wy wo li sx ux co ck sn da va la ki wa op tu ct)) (hS : va_S (fun q => s.heap.size ≤ q) s.heap H locs) : W p l e room_1 s m #[Value.ref b] below meth c H locs 600000 7302249 (lw_Z below #[Value.ref b] s) (F0 m 363 ls []) := by
  obtain ⟨r, S', mw', wb', sl', sv', iv', ug', wo', li', sx', ux', co', ck', sn', da', va', la', ki', wa', op', tu', ct', hO1, hO2, hR'⟩ := s_last l D cI cO aB aM aR aW n wy g ad aX e9 bb S mw wb sl sv iv ug wo li sx ux co ck sn da va la ki wa op tu ct (xs (t + 1)) hn2 hn hw0 hw (by omega) hg hR
  have hbA : ¬ s.heap.size ≤ b := by omega
  refine lv_aload_n hx hb d_Law_law_363 rfl (lv_at hl 1 rfl) ?_
  refine lv_aload_n hx hb d_Law_law_364 rfl (lv_at hl 0 rfl) ?_
  refine lv_iload_n hx hb d_Law_law_365 rfl (lv_at hl 3 rfl) ?_
  refine lv_iconst (v := nI 1) hx hb d_Law_law_366 (by decide) ?_
  refine lv_iadd hx hb d_Law_law_367 ?_
  refine mk_top (show _ = nI (t + 1) from nI_add t 1) ?_
  refine mk_sld (A := (fun q => s.heap.size ≤ q)) hx hb hX hbl hbA hS (show t + 1 < L by omega) (by omega) d_Law_law_368 ?_
  refine mk_run (wc := WC cI cO aB aM aR aW n wy g ad S mw wb sl sv iv ug) (wr := WM cI aX e9 n wy wo li sx ux co ck sn da va la ki wa op tu ct) (w1 := WC cI cO aB aM aR aW n wy g ad S' mw' wb' sl' sv' iv' ug') (b := aB) (As := [.int (xs (t + 1))]) (rest := []) (own := R_law) (n := 1) (index := 53) (C := "SnoopingBus") (ci := 3) hx hb hml hown hts hN hK hP hD hS (fun _ h => h) hO1 g_Bus_last (by decide) (hts _ iw_39) (hts _ ilaw_m_53) (hts _ iw_199) (hts _ iw_200) (by decide +kernel) rfl rfl rfl hl.1 rfl rfl (Nat.le_of_ble_eq_true rfl) d_Law_law_369 (Nat.le_refl _) (Nat.le_refl _) (fun H locs hP hD hS => ?_)
  refine lv_aload_n hx hb d_Law_law_372 rfl (lv_at hl 2 rfl) ?_
  refine lv_aload_n hx hb d_Law_law_373 rfl (lv_at hl 0 rfl) ?_
  refine lv_iload_n hx hb d_Law_law_374 rfl (lv_at hl 3 rfl) ?_
  refine lv_iconst (v := nI 1) hx hb d_Law_law_375 (by decide) ?_
  refine lv_iadd hx hb d_Law_law_376 ?_
  refine mk_top (show _ = nI (t + 1) from nI_add t 1) ?_
  refine mk_sld (A := (fun q => s.heap.size ≤ q)) hx hb hX hbl hbA hS (show t + 1 < L by omega) (by omega) d_Law_law_377 ?_
  have hP := mk_Pp List.perm_append_comm hP
  have hD := mk_Dp List.perm_append_comm hD
  refine mk_run (wc := WM cI aX e9 n wy wo li sx ux co ck sn da va la ki wa op tu ct) (wr := WC cI cO aB aM aR aW n wy g ad S' mw' wb' sl' sv' iv' ug') (w1 := WM cI aX e9 n wy wo' li' sx' ux' co' ck' sn' da' va' la' ki' wa' op' tu' ct') (b := aX) (As := [.int (xs (t + 1))]) (rest := [.int (r)]) (own := R_law) (n := 1) (index := 56) (C := "SnoopingBusModel") (ci := 4) hx hb hml hown hts hN hK hP hD hS (fun _ h => h) hO2 g_Model_last (by decide) (hts _ iw_43) (hts _ ilaw_m_56) (hts _ iw_340) (hts _ iw_341) (by decide +kernel) rfl rfl rfl hl.1 rfl rfl (Nat.le_of_ble_eq_true rfl) d_Law_law_378 (Nat.le_refl _) (Nat.le_refl _) (fun H locs hP hD hS => ?_)
  refine lv_icmp_eq (tgt := 600) hx hb d_Law_law_381 rfl (fun _ => ?_) (fun h => absurd rfl h)
  have hP := mk_Pp List.perm_append_comm hP
  have hD := mk_Dp List.perm_append_comm hD
  refine lv_iinc (k := 3) (v := nI (t + 4)) hx hb d_Law_law_600 hl rfl (nI_add t 4) (by decide) rfl (fun ls hl => ?_)
  refine lv_goto (tgt := 38) hx hb d_Law_law_603 rfl ?_
  exact ih ls H locs S' mw' wb' sl' sv' iv' ug' wo' li' sx' ux' co' ck' sn' da' va' la' ki' wa' op' tu' ct' hR' (lv_sub hl [1, 2, 3, 0] rfl) hP hD hS
set_option maxHeartbeats 4000000 in
set_option maxRecDepth 100000 in
theorem law_request {p : Program} {e : Env} {s : State} {m : MethodId} {below : List Frame} {meth : Method} {c : Code} (l : Launch) {b L : Nat} {xs : Nat → Int32} (hL : L ≤ 2050) (hx : p.tables.exec = Jvm.exec) (hb : c.code = code) (hr : meth.sig.returnType = ret) (hml : c.maxLocals = 4) (hown : s.vm.findClass R_law = some m.cls) (hts : ∀ w ∈ BG, w.before #[Value.ref b] s = true) (hN : nwK s) (hlocks : meth.locks = false) (hX : va_X b L xs s s.heap) (hbl : b < s.heap.size) (D : va_G) (cI cO : ClassId) (hK : va_K D vwCl (tysK cI cO) s) (aB aM aR aW n wy : Nat) (g : Nat → Option Nat) (ad : Nat → Nat → Nat) (aX : Nat) (e9 : Nat → Nat) (hn2 : 2 ≤ n) (hn : n ≤ 4) (hw0 : 1 ≤ wy) (hw : wy < 4) (hg : ∀ i, i < n → g i = some (ad i 0)) (S : Nat → KS) (mw : Nat → Int32) (wb : Int32) (sl : Nat) (sv iv ug : Int32) (wo li sx ux co : Nat → Int32) (ck : Int32) (sn da va la ki wa op : Nat → Int32) (tu : Nat) (ct : Nat → Int32) {t bb : Nat} {ls : Array Slot} {H : Heap} {locs : List Loc} (ht : t + 4 ≤ L) (hbb : bb ≤ t) (ih : ∀ (ls : Array Slot) (H : Heap) (locs : List Loc) (S : Nat → KS) (mw : Nat → Int32) (wb : Int32) (sl : Nat) (sv iv ug : Int32) (wo li sx ux co : Nat → Int32) (ck : Int32) (sn da va la ki wa op : Nat → Int32) (tu : Nat) (ct : Nat → Int32), Rel n wy (bb + 2) S mw wb sl sv iv ug wo li sx ux co ck sn da va la ki wa op tu ct → lv_has ls 4 [(0, .ref b), (1, .ref aB), (2, .ref aX), (3, .int (nI (t + 4)))] → va_P D vwCl (WC cI cO aB aM aR aW n wy g ad S mw wb sl sv iv ug ++ WM cI aX e9 n wy wo li sx ux co ck sn da va la ki wa op tu ct) H → va_D (fun q => s.heap.size ≤ q) (WC cI cO aB aM aR aW n wy g ad S mw wb sl sv iv ug ++ WM cI aX e9 n wy wo li sx ux co ck sn da va la ki wa op tu ct) → va_S (fun q => s.heap.size ≤ q) s.heap H locs → W p l e room_1 s m #[Value.ref b] below meth c H locs 600000 7302249 (lw_Z below #[Value.ref b] s) (F0 m 38 ls [])) (hR : Rel n wy bb S mw wb sl sv iv ug wo li sx ux co ck sn da va la ki wa op tu ct) (hl : lv_has ls 4 [(0, .ref b), (1, .ref aB), (2, .ref aX), (3, .int (nI t))]) (hP : va_P D vwCl (WC cI cO aB aM aR aW n wy g ad S mw wb sl sv iv ug ++ WM cI aX e9 n wy wo li sx ux co ck sn da va la ki wa op tu ct) H) (hD : va_D (fun q => s.heap.size ≤ q) (WC cI cO aB aM aR aW n wy g ad S mw wb sl sv iv ug ++ WM cI aX e9 n wy wo li sx ux co ck sn da va la ki wa op tu ct)) (hS : va_S (fun q => s.heap.size ≤ q) s.heap H locs) : W p l e room_1 s m #[Value.ref b] below meth c H locs 600000 7302249 (lw_Z below #[Value.ref b] s) (F0 m 386 ls []) := by
  obtain ⟨r, S', mw', wb', sl', sv', iv', ug', wo', li', sx', ux', co', ck', sn', da', va', la', ki', wa', op', tu', ct', hO1, hO2, hR'⟩ := s_request l D cI cO aB aM aR aW n wy g ad aX e9 bb S mw wb sl sv iv ug wo li sx ux co ck sn da va la ki wa op tu ct (xs (t + 1)) hn2 hn hw0 hw (by omega) hg hR
  have hbA : ¬ s.heap.size ≤ b := by omega
  refine lv_aload_n hx hb d_Law_law_386 rfl (lv_at hl 1 rfl) ?_
  refine lv_aload_n hx hb d_Law_law_387 rfl (lv_at hl 0 rfl) ?_
  refine lv_iload_n hx hb d_Law_law_388 rfl (lv_at hl 3 rfl) ?_
  refine lv_iconst (v := nI 1) hx hb d_Law_law_389 (by decide) ?_
  refine lv_iadd hx hb d_Law_law_390 ?_
  refine mk_top (show _ = nI (t + 1) from nI_add t 1) ?_
  refine mk_sld (A := (fun q => s.heap.size ≤ q)) hx hb hX hbl hbA hS (show t + 1 < L by omega) (by omega) d_Law_law_391 ?_
  refine mk_run (wc := WC cI cO aB aM aR aW n wy g ad S mw wb sl sv iv ug) (wr := WM cI aX e9 n wy wo li sx ux co ck sn da va la ki wa op tu ct) (w1 := WC cI cO aB aM aR aW n wy g ad S' mw' wb' sl' sv' iv' ug') (b := aB) (As := [.int (xs (t + 1))]) (rest := []) (own := R_law) (n := 1) (index := 57) (C := "SnoopingBus") (ci := 3) hx hb hml hown hts hN hK hP hD hS (fun _ h => h) hO1 g_Bus_request (by decide) (hts _ iw_39) (hts _ ilaw_m_57) (hts _ iw_202) (hts _ iw_203) (by decide +kernel) rfl rfl rfl hl.1 rfl rfl (Nat.le_of_ble_eq_true rfl) d_Law_law_392 (Nat.le_refl _) (Nat.le_refl _) (fun H locs hP hD hS => ?_)
  refine lv_aload_n hx hb d_Law_law_395 rfl (lv_at hl 2 rfl) ?_
  refine lv_aload_n hx hb d_Law_law_396 rfl (lv_at hl 0 rfl) ?_
  refine lv_iload_n hx hb d_Law_law_397 rfl (lv_at hl 3 rfl) ?_
  refine lv_iconst (v := nI 1) hx hb d_Law_law_398 (by decide) ?_
  refine lv_iadd hx hb d_Law_law_399 ?_
  refine mk_top (show _ = nI (t + 1) from nI_add t 1) ?_
  refine mk_sld (A := (fun q => s.heap.size ≤ q)) hx hb hX hbl hbA hS (show t + 1 < L by omega) (by omega) d_Law_law_400 ?_
  have hP := mk_Pp List.perm_append_comm hP
  have hD := mk_Dp List.perm_append_comm hD
  refine mk_run (wc := WM cI aX e9 n wy wo li sx ux co ck sn da va la ki wa op tu ct) (wr := WC cI cO aB aM aR aW n wy g ad S' mw' wb' sl' sv' iv' ug') (w1 := WM cI aX e9 n wy wo' li' sx' ux' co' ck' sn' da' va' la' ki' wa' op' tu' ct') (b := aX) (As := [.int (xs (t + 1))]) (rest := [.int (r)]) (own := R_law) (n := 1) (index := 60) (C := "SnoopingBusModel") (ci := 4) hx hb hml hown hts hN hK hP hD hS (fun _ h => h) hO2 g_Model_request (by decide) (hts _ iw_43) (hts _ ilaw_m_60) (hts _ iw_343) (hts _ iw_344) (by decide +kernel) rfl rfl rfl hl.1 rfl rfl (Nat.le_of_ble_eq_true rfl) d_Law_law_401 (Nat.le_refl _) (Nat.le_refl _) (fun H locs hP hD hS => ?_)
  refine lv_icmp_eq (tgt := 600) hx hb d_Law_law_404 rfl (fun _ => ?_) (fun h => absurd rfl h)
  have hP := mk_Pp List.perm_append_comm hP
  have hD := mk_Dp List.perm_append_comm hD
  refine lv_iinc (k := 3) (v := nI (t + 4)) hx hb d_Law_law_600 hl rfl (nI_add t 4) (by decide) rfl (fun ls hl => ?_)
  refine lv_goto (tgt := 38) hx hb d_Law_law_603 rfl ?_
  exact ih ls H locs S' mw' wb' sl' sv' iv' ug' wo' li' sx' ux' co' ck' sn' da' va' la' ki' wa' op' tu' ct' hR' (lv_sub hl [1, 2, 3, 0] rfl) hP hD hS
set_option maxHeartbeats 4000000 in
set_option maxRecDepth 100000 in
theorem law_buffered {p : Program} {e : Env} {s : State} {m : MethodId} {below : List Frame} {meth : Method} {c : Code} (l : Launch) {b L : Nat} {xs : Nat → Int32} (hL : L ≤ 2050) (hx : p.tables.exec = Jvm.exec) (hb : c.code = code) (hr : meth.sig.returnType = ret) (hml : c.maxLocals = 4) (hown : s.vm.findClass R_law = some m.cls) (hts : ∀ w ∈ BG, w.before #[Value.ref b] s = true) (hN : nwK s) (hlocks : meth.locks = false) (hX : va_X b L xs s s.heap) (hbl : b < s.heap.size) (D : va_G) (cI cO : ClassId) (hK : va_K D vwCl (tysK cI cO) s) (aB aM aR aW n wy : Nat) (g : Nat → Option Nat) (ad : Nat → Nat → Nat) (aX : Nat) (e9 : Nat → Nat) (hn2 : 2 ≤ n) (hn : n ≤ 4) (hw0 : 1 ≤ wy) (hw : wy < 4) (hg : ∀ i, i < n → g i = some (ad i 0)) (S : Nat → KS) (mw : Nat → Int32) (wb : Int32) (sl : Nat) (sv iv ug : Int32) (wo li sx ux co : Nat → Int32) (ck : Int32) (sn da va la ki wa op : Nat → Int32) (tu : Nat) (ct : Nat → Int32) {t bb : Nat} {ls : Array Slot} {H : Heap} {locs : List Loc} (ht : t + 4 ≤ L) (hbb : bb ≤ t) (ih : ∀ (ls : Array Slot) (H : Heap) (locs : List Loc) (S : Nat → KS) (mw : Nat → Int32) (wb : Int32) (sl : Nat) (sv iv ug : Int32) (wo li sx ux co : Nat → Int32) (ck : Int32) (sn da va la ki wa op : Nat → Int32) (tu : Nat) (ct : Nat → Int32), Rel n wy (bb + 2) S mw wb sl sv iv ug wo li sx ux co ck sn da va la ki wa op tu ct → lv_has ls 4 [(0, .ref b), (1, .ref aB), (2, .ref aX), (3, .int (nI (t + 4)))] → va_P D vwCl (WC cI cO aB aM aR aW n wy g ad S mw wb sl sv iv ug ++ WM cI aX e9 n wy wo li sx ux co ck sn da va la ki wa op tu ct) H → va_D (fun q => s.heap.size ≤ q) (WC cI cO aB aM aR aW n wy g ad S mw wb sl sv iv ug ++ WM cI aX e9 n wy wo li sx ux co ck sn da va la ki wa op tu ct) → va_S (fun q => s.heap.size ≤ q) s.heap H locs → W p l e room_1 s m #[Value.ref b] below meth c H locs 600000 7302249 (lw_Z below #[Value.ref b] s) (F0 m 38 ls [])) (hR : Rel n wy bb S mw wb sl sv iv ug wo li sx ux co ck sn da va la ki wa op tu ct) (hl : lv_has ls 4 [(0, .ref b), (1, .ref aB), (2, .ref aX), (3, .int (nI t))]) (hP : va_P D vwCl (WC cI cO aB aM aR aW n wy g ad S mw wb sl sv iv ug ++ WM cI aX e9 n wy wo li sx ux co ck sn da va la ki wa op tu ct) H) (hD : va_D (fun q => s.heap.size ≤ q) (WC cI cO aB aM aR aW n wy g ad S mw wb sl sv iv ug ++ WM cI aX e9 n wy wo li sx ux co ck sn da va la ki wa op tu ct)) (hS : va_S (fun q => s.heap.size ≤ q) s.heap H locs) : W p l e room_1 s m #[Value.ref b] below meth c H locs 600000 7302249 (lw_Z below #[Value.ref b] s) (F0 m 409 ls []) := by
  obtain ⟨r, S', mw', wb', sl', sv', iv', ug', wo', li', sx', ux', co', ck', sn', da', va', la', ki', wa', op', tu', ct', hO1, hO2, hR'⟩ := s_buffered l D cI cO aB aM aR aW n wy g ad aX e9 bb S mw wb sl sv iv ug wo li sx ux co ck sn da va la ki wa op tu ct (xs (t + 1)) hn2 hn hw0 hw (by omega) hg hR
  have hbA : ¬ s.heap.size ≤ b := by omega
  refine lv_aload_n hx hb d_Law_law_409 rfl (lv_at hl 1 rfl) ?_
  refine lv_aload_n hx hb d_Law_law_410 rfl (lv_at hl 0 rfl) ?_
  refine lv_iload_n hx hb d_Law_law_411 rfl (lv_at hl 3 rfl) ?_
  refine lv_iconst (v := nI 1) hx hb d_Law_law_412 (by decide) ?_
  refine lv_iadd hx hb d_Law_law_413 ?_
  refine mk_top (show _ = nI (t + 1) from nI_add t 1) ?_
  refine mk_sld (A := (fun q => s.heap.size ≤ q)) hx hb hX hbl hbA hS (show t + 1 < L by omega) (by omega) d_Law_law_414 ?_
  refine mk_run (wc := WC cI cO aB aM aR aW n wy g ad S mw wb sl sv iv ug) (wr := WM cI aX e9 n wy wo li sx ux co ck sn da va la ki wa op tu ct) (w1 := WC cI cO aB aM aR aW n wy g ad S' mw' wb' sl' sv' iv' ug') (b := aB) (As := [.int (xs (t + 1))]) (rest := []) (own := R_law) (n := 1) (index := 61) (C := "SnoopingBus") (ci := 3) hx hb hml hown hts hN hK hP hD hS (fun _ h => h) hO1 g_Bus_buffered (by decide) (hts _ iw_39) (hts _ ilaw_m_61) (hts _ iw_205) (hts _ iw_206) (by decide +kernel) rfl rfl rfl hl.1 rfl rfl (Nat.le_of_ble_eq_true rfl) d_Law_law_415 (Nat.le_refl _) (Nat.le_refl _) (fun H locs hP hD hS => ?_)
  refine lv_aload_n hx hb d_Law_law_418 rfl (lv_at hl 2 rfl) ?_
  refine lv_aload_n hx hb d_Law_law_419 rfl (lv_at hl 0 rfl) ?_
  refine lv_iload_n hx hb d_Law_law_420 rfl (lv_at hl 3 rfl) ?_
  refine lv_iconst (v := nI 1) hx hb d_Law_law_421 (by decide) ?_
  refine lv_iadd hx hb d_Law_law_422 ?_
  refine mk_top (show _ = nI (t + 1) from nI_add t 1) ?_
  refine mk_sld (A := (fun q => s.heap.size ≤ q)) hx hb hX hbl hbA hS (show t + 1 < L by omega) (by omega) d_Law_law_423 ?_
  have hP := mk_Pp List.perm_append_comm hP
  have hD := mk_Dp List.perm_append_comm hD
  refine mk_run (wc := WM cI aX e9 n wy wo li sx ux co ck sn da va la ki wa op tu ct) (wr := WC cI cO aB aM aR aW n wy g ad S' mw' wb' sl' sv' iv' ug') (w1 := WM cI aX e9 n wy wo' li' sx' ux' co' ck' sn' da' va' la' ki' wa' op' tu' ct') (b := aX) (As := [.int (xs (t + 1))]) (rest := [.int (r)]) (own := R_law) (n := 1) (index := 64) (C := "SnoopingBusModel") (ci := 4) hx hb hml hown hts hN hK hP hD hS (fun _ h => h) hO2 g_Model_buffered (by decide) (hts _ iw_43) (hts _ ilaw_m_64) (hts _ iw_346) (hts _ iw_347) (by decide +kernel) rfl rfl rfl hl.1 rfl rfl (Nat.le_of_ble_eq_true rfl) d_Law_law_424 (Nat.le_refl _) (Nat.le_refl _) (fun H locs hP hD hS => ?_)
  refine lv_icmp_eq (tgt := 600) hx hb d_Law_law_427 rfl (fun _ => ?_) (fun h => absurd rfl h)
  have hP := mk_Pp List.perm_append_comm hP
  have hD := mk_Dp List.perm_append_comm hD
  refine lv_iinc (k := 3) (v := nI (t + 4)) hx hb d_Law_law_600 hl rfl (nI_add t 4) (by decide) rfl (fun ls hl => ?_)
  refine lv_goto (tgt := 38) hx hb d_Law_law_603 rfl ?_
  exact ih ls H locs S' mw' wb' sl' sv' iv' ug' wo' li' sx' ux' co' ck' sn' da' va' la' ki' wa' op' tu' ct' hR' (lv_sub hl [1, 2, 3, 0] rfl) hP hD hS
set_option maxHeartbeats 4000000 in
set_option maxRecDepth 100000 in
theorem law_state {p : Program} {e : Env} {s : State} {m : MethodId} {below : List Frame} {meth : Method} {c : Code} (l : Launch) {b L : Nat} {xs : Nat → Int32} (hL : L ≤ 2050) (hx : p.tables.exec = Jvm.exec) (hb : c.code = code) (hr : meth.sig.returnType = ret) (hml : c.maxLocals = 4) (hown : s.vm.findClass R_law = some m.cls) (hts : ∀ w ∈ BG, w.before #[Value.ref b] s = true) (hN : nwK s) (hlocks : meth.locks = false) (hX : va_X b L xs s s.heap) (hbl : b < s.heap.size) (D : va_G) (cI cO : ClassId) (hK : va_K D vwCl (tysK cI cO) s) (aB aM aR aW n wy : Nat) (g : Nat → Option Nat) (ad : Nat → Nat → Nat) (aX : Nat) (e9 : Nat → Nat) (hn2 : 2 ≤ n) (hn : n ≤ 4) (hw0 : 1 ≤ wy) (hw : wy < 4) (hg : ∀ i, i < n → g i = some (ad i 0)) (S : Nat → KS) (mw : Nat → Int32) (wb : Int32) (sl : Nat) (sv iv ug : Int32) (wo li sx ux co : Nat → Int32) (ck : Int32) (sn da va la ki wa op : Nat → Int32) (tu : Nat) (ct : Nat → Int32) {t bb : Nat} {ls : Array Slot} {H : Heap} {locs : List Loc} (ht : t + 4 ≤ L) (hbb : bb ≤ t) (ih : ∀ (ls : Array Slot) (H : Heap) (locs : List Loc) (S : Nat → KS) (mw : Nat → Int32) (wb : Int32) (sl : Nat) (sv iv ug : Int32) (wo li sx ux co : Nat → Int32) (ck : Int32) (sn da va la ki wa op : Nat → Int32) (tu : Nat) (ct : Nat → Int32), Rel n wy (bb + 2) S mw wb sl sv iv ug wo li sx ux co ck sn da va la ki wa op tu ct → lv_has ls 4 [(0, .ref b), (1, .ref aB), (2, .ref aX), (3, .int (nI (t + 4)))] → va_P D vwCl (WC cI cO aB aM aR aW n wy g ad S mw wb sl sv iv ug ++ WM cI aX e9 n wy wo li sx ux co ck sn da va la ki wa op tu ct) H → va_D (fun q => s.heap.size ≤ q) (WC cI cO aB aM aR aW n wy g ad S mw wb sl sv iv ug ++ WM cI aX e9 n wy wo li sx ux co ck sn da va la ki wa op tu ct) → va_S (fun q => s.heap.size ≤ q) s.heap H locs → W p l e room_1 s m #[Value.ref b] below meth c H locs 600000 7302249 (lw_Z below #[Value.ref b] s) (F0 m 38 ls [])) (hR : Rel n wy bb S mw wb sl sv iv ug wo li sx ux co ck sn da va la ki wa op tu ct) (hl : lv_has ls 4 [(0, .ref b), (1, .ref aB), (2, .ref aX), (3, .int (nI t))]) (hP : va_P D vwCl (WC cI cO aB aM aR aW n wy g ad S mw wb sl sv iv ug ++ WM cI aX e9 n wy wo li sx ux co ck sn da va la ki wa op tu ct) H) (hD : va_D (fun q => s.heap.size ≤ q) (WC cI cO aB aM aR aW n wy g ad S mw wb sl sv iv ug ++ WM cI aX e9 n wy wo li sx ux co ck sn da va la ki wa op tu ct)) (hS : va_S (fun q => s.heap.size ≤ q) s.heap H locs) : W p l e room_1 s m #[Value.ref b] below meth c H locs 600000 7302249 (lw_Z below #[Value.ref b] s) (F0 m 432 ls []) := by
  obtain ⟨r, S', mw', wb', sl', sv', iv', ug', wo', li', sx', ux', co', ck', sn', da', va', la', ki', wa', op', tu', ct', hO1, hO2, hR'⟩ := s_state l D cI cO aB aM aR aW n wy g ad aX e9 bb S mw wb sl sv iv ug wo li sx ux co ck sn da va la ki wa op tu ct (xs (t + 1)) (xs (t + 2)) hn2 hn hw0 hw (by omega) hg hR
  have hbA : ¬ s.heap.size ≤ b := by omega
  refine lv_aload_n hx hb d_Law_law_432 rfl (lv_at hl 1 rfl) ?_
  refine lv_aload_n hx hb d_Law_law_433 rfl (lv_at hl 0 rfl) ?_
  refine lv_iload_n hx hb d_Law_law_434 rfl (lv_at hl 3 rfl) ?_
  refine lv_iconst (v := nI 1) hx hb d_Law_law_435 (by decide) ?_
  refine lv_iadd hx hb d_Law_law_436 ?_
  refine mk_top (show _ = nI (t + 1) from nI_add t 1) ?_
  refine mk_sld (A := (fun q => s.heap.size ≤ q)) hx hb hX hbl hbA hS (show t + 1 < L by omega) (by omega) d_Law_law_437 ?_
  refine lv_aload_n hx hb d_Law_law_438 rfl (lv_at hl 0 rfl) ?_
  refine lv_iload_n hx hb d_Law_law_439 rfl (lv_at hl 3 rfl) ?_
  refine lv_iconst (v := nI 2) hx hb d_Law_law_440 (by decide) ?_
  refine lv_iadd hx hb d_Law_law_441 ?_
  refine mk_top (show _ = nI (t + 2) from nI_add t 2) ?_
  refine mk_sld (A := (fun q => s.heap.size ≤ q)) hx hb hX hbl hbA hS (show t + 2 < L by omega) (by omega) d_Law_law_442 ?_
  refine mk_run (wc := WC cI cO aB aM aR aW n wy g ad S mw wb sl sv iv ug) (wr := WM cI aX e9 n wy wo li sx ux co ck sn da va la ki wa op tu ct) (w1 := WC cI cO aB aM aR aW n wy g ad S' mw' wb' sl' sv' iv' ug') (b := aB) (As := [.int (xs (t + 1)), .int (xs (t + 2))]) (rest := []) (own := R_law) (n := 2) (index := 65) (C := "SnoopingBus") (ci := 3) hx hb hml hown hts hN hK hP hD hS (fun _ h => h) hO1 g_Bus_state (by decide) (hts _ iw_39) (hts _ ilaw_m_65) (hts _ iw_208) (hts _ iw_209) (by decide +kernel) rfl rfl rfl hl.1 rfl rfl (Nat.le_of_ble_eq_true rfl) d_Law_law_443 (Nat.le_refl _) (Nat.le_refl _) (fun H locs hP hD hS => ?_)
  refine lv_aload_n hx hb d_Law_law_446 rfl (lv_at hl 2 rfl) ?_
  refine lv_aload_n hx hb d_Law_law_447 rfl (lv_at hl 0 rfl) ?_
  refine lv_iload_n hx hb d_Law_law_448 rfl (lv_at hl 3 rfl) ?_
  refine lv_iconst (v := nI 1) hx hb d_Law_law_449 (by decide) ?_
  refine lv_iadd hx hb d_Law_law_450 ?_
  refine mk_top (show _ = nI (t + 1) from nI_add t 1) ?_
  refine mk_sld (A := (fun q => s.heap.size ≤ q)) hx hb hX hbl hbA hS (show t + 1 < L by omega) (by omega) d_Law_law_451 ?_
  refine lv_aload_n hx hb d_Law_law_452 rfl (lv_at hl 0 rfl) ?_
  refine lv_iload_n hx hb d_Law_law_453 rfl (lv_at hl 3 rfl) ?_
  refine lv_iconst (v := nI 2) hx hb d_Law_law_454 (by decide) ?_
  refine lv_iadd hx hb d_Law_law_455 ?_
  refine mk_top (show _ = nI (t + 2) from nI_add t 2) ?_
  refine mk_sld (A := (fun q => s.heap.size ≤ q)) hx hb hX hbl hbA hS (show t + 2 < L by omega) (by omega) d_Law_law_456 ?_
  have hP := mk_Pp List.perm_append_comm hP
  have hD := mk_Dp List.perm_append_comm hD
  refine mk_run (wc := WM cI aX e9 n wy wo li sx ux co ck sn da va la ki wa op tu ct) (wr := WC cI cO aB aM aR aW n wy g ad S' mw' wb' sl' sv' iv' ug') (w1 := WM cI aX e9 n wy wo' li' sx' ux' co' ck' sn' da' va' la' ki' wa' op' tu' ct') (b := aX) (As := [.int (xs (t + 1)), .int (xs (t + 2))]) (rest := [.int (r)]) (own := R_law) (n := 2) (index := 68) (C := "SnoopingBusModel") (ci := 4) hx hb hml hown hts hN hK hP hD hS (fun _ h => h) hO2 g_Model_state (by decide) (hts _ iw_43) (hts _ ilaw_m_68) (hts _ iw_349) (hts _ iw_350) (by decide +kernel) rfl rfl rfl hl.1 rfl rfl (Nat.le_of_ble_eq_true rfl) d_Law_law_457 (Nat.le_refl _) (Nat.le_refl _) (fun H locs hP hD hS => ?_)
  refine lv_icmp_eq (tgt := 600) hx hb d_Law_law_460 rfl (fun _ => ?_) (fun h => absurd rfl h)
  have hP := mk_Pp List.perm_append_comm hP
  have hD := mk_Dp List.perm_append_comm hD
  refine lv_iinc (k := 3) (v := nI (t + 4)) hx hb d_Law_law_600 hl rfl (nI_add t 4) (by decide) rfl (fun ls hl => ?_)
  refine lv_goto (tgt := 38) hx hb d_Law_law_603 rfl ?_
  exact ih ls H locs S' mw' wb' sl' sv' iv' ug' wo' li' sx' ux' co' ck' sn' da' va' la' ki' wa' op' tu' ct' hR' (lv_sub hl [1, 2, 3, 0] rfl) hP hD hS
set_option maxHeartbeats 4000000 in
set_option maxRecDepth 100000 in
theorem law_copy {p : Program} {e : Env} {s : State} {m : MethodId} {below : List Frame} {meth : Method} {c : Code} (l : Launch) {b L : Nat} {xs : Nat → Int32} (hL : L ≤ 2050) (hx : p.tables.exec = Jvm.exec) (hb : c.code = code) (hr : meth.sig.returnType = ret) (hml : c.maxLocals = 4) (hown : s.vm.findClass R_law = some m.cls) (hts : ∀ w ∈ BG, w.before #[Value.ref b] s = true) (hN : nwK s) (hlocks : meth.locks = false) (hX : va_X b L xs s s.heap) (hbl : b < s.heap.size) (D : va_G) (cI cO : ClassId) (hK : va_K D vwCl (tysK cI cO) s) (aB aM aR aW n wy : Nat) (g : Nat → Option Nat) (ad : Nat → Nat → Nat) (aX : Nat) (e9 : Nat → Nat) (hn2 : 2 ≤ n) (hn : n ≤ 4) (hw0 : 1 ≤ wy) (hw : wy < 4) (hg : ∀ i, i < n → g i = some (ad i 0)) (S : Nat → KS) (mw : Nat → Int32) (wb : Int32) (sl : Nat) (sv iv ug : Int32) (wo li sx ux co : Nat → Int32) (ck : Int32) (sn da va la ki wa op : Nat → Int32) (tu : Nat) (ct : Nat → Int32) {t bb : Nat} {ls : Array Slot} {H : Heap} {locs : List Loc} (ht : t + 4 ≤ L) (hbb : bb ≤ t) (ih : ∀ (ls : Array Slot) (H : Heap) (locs : List Loc) (S : Nat → KS) (mw : Nat → Int32) (wb : Int32) (sl : Nat) (sv iv ug : Int32) (wo li sx ux co : Nat → Int32) (ck : Int32) (sn da va la ki wa op : Nat → Int32) (tu : Nat) (ct : Nat → Int32), Rel n wy (bb + 2) S mw wb sl sv iv ug wo li sx ux co ck sn da va la ki wa op tu ct → lv_has ls 4 [(0, .ref b), (1, .ref aB), (2, .ref aX), (3, .int (nI (t + 4)))] → va_P D vwCl (WC cI cO aB aM aR aW n wy g ad S mw wb sl sv iv ug ++ WM cI aX e9 n wy wo li sx ux co ck sn da va la ki wa op tu ct) H → va_D (fun q => s.heap.size ≤ q) (WC cI cO aB aM aR aW n wy g ad S mw wb sl sv iv ug ++ WM cI aX e9 n wy wo li sx ux co ck sn da va la ki wa op tu ct) → va_S (fun q => s.heap.size ≤ q) s.heap H locs → W p l e room_1 s m #[Value.ref b] below meth c H locs 600000 7302249 (lw_Z below #[Value.ref b] s) (F0 m 38 ls [])) (hR : Rel n wy bb S mw wb sl sv iv ug wo li sx ux co ck sn da va la ki wa op tu ct) (hl : lv_has ls 4 [(0, .ref b), (1, .ref aB), (2, .ref aX), (3, .int (nI t))]) (hP : va_P D vwCl (WC cI cO aB aM aR aW n wy g ad S mw wb sl sv iv ug ++ WM cI aX e9 n wy wo li sx ux co ck sn da va la ki wa op tu ct) H) (hD : va_D (fun q => s.heap.size ≤ q) (WC cI cO aB aM aR aW n wy g ad S mw wb sl sv iv ug ++ WM cI aX e9 n wy wo li sx ux co ck sn da va la ki wa op tu ct)) (hS : va_S (fun q => s.heap.size ≤ q) s.heap H locs) : W p l e room_1 s m #[Value.ref b] below meth c H locs 600000 7302249 (lw_Z below #[Value.ref b] s) (F0 m 465 ls []) := by
  obtain ⟨r, S', mw', wb', sl', sv', iv', ug', wo', li', sx', ux', co', ck', sn', da', va', la', ki', wa', op', tu', ct', hO1, hO2, hR'⟩ := s_copy l D cI cO aB aM aR aW n wy g ad aX e9 bb S mw wb sl sv iv ug wo li sx ux co ck sn da va la ki wa op tu ct (xs (t + 1)) (xs (t + 2)) hn2 hn hw0 hw (by omega) hg hR
  have hbA : ¬ s.heap.size ≤ b := by omega
  refine lv_aload_n hx hb d_Law_law_465 rfl (lv_at hl 1 rfl) ?_
  refine lv_aload_n hx hb d_Law_law_466 rfl (lv_at hl 0 rfl) ?_
  refine lv_iload_n hx hb d_Law_law_467 rfl (lv_at hl 3 rfl) ?_
  refine lv_iconst (v := nI 1) hx hb d_Law_law_468 (by decide) ?_
  refine lv_iadd hx hb d_Law_law_469 ?_
  refine mk_top (show _ = nI (t + 1) from nI_add t 1) ?_
  refine mk_sld (A := (fun q => s.heap.size ≤ q)) hx hb hX hbl hbA hS (show t + 1 < L by omega) (by omega) d_Law_law_470 ?_
  refine lv_aload_n hx hb d_Law_law_471 rfl (lv_at hl 0 rfl) ?_
  refine lv_iload_n hx hb d_Law_law_472 rfl (lv_at hl 3 rfl) ?_
  refine lv_iconst (v := nI 2) hx hb d_Law_law_473 (by decide) ?_
  refine lv_iadd hx hb d_Law_law_474 ?_
  refine mk_top (show _ = nI (t + 2) from nI_add t 2) ?_
  refine mk_sld (A := (fun q => s.heap.size ≤ q)) hx hb hX hbl hbA hS (show t + 2 < L by omega) (by omega) d_Law_law_475 ?_
  refine mk_run (wc := WC cI cO aB aM aR aW n wy g ad S mw wb sl sv iv ug) (wr := WM cI aX e9 n wy wo li sx ux co ck sn da va la ki wa op tu ct) (w1 := WC cI cO aB aM aR aW n wy g ad S' mw' wb' sl' sv' iv' ug') (b := aB) (As := [.int (xs (t + 1)), .int (xs (t + 2))]) (rest := []) (own := R_law) (n := 2) (index := 69) (C := "SnoopingBus") (ci := 3) hx hb hml hown hts hN hK hP hD hS (fun _ h => h) hO1 g_Bus_copy (by decide) (hts _ iw_39) (hts _ ilaw_m_69) (hts _ iw_211) (hts _ iw_212) (by decide +kernel) rfl rfl rfl hl.1 rfl rfl (Nat.le_of_ble_eq_true rfl) d_Law_law_476 (Nat.le_refl _) (Nat.le_refl _) (fun H locs hP hD hS => ?_)
  refine lv_aload_n hx hb d_Law_law_479 rfl (lv_at hl 2 rfl) ?_
  refine lv_aload_n hx hb d_Law_law_480 rfl (lv_at hl 0 rfl) ?_
  refine lv_iload_n hx hb d_Law_law_481 rfl (lv_at hl 3 rfl) ?_
  refine lv_iconst (v := nI 1) hx hb d_Law_law_482 (by decide) ?_
  refine lv_iadd hx hb d_Law_law_483 ?_
  refine mk_top (show _ = nI (t + 1) from nI_add t 1) ?_
  refine mk_sld (A := (fun q => s.heap.size ≤ q)) hx hb hX hbl hbA hS (show t + 1 < L by omega) (by omega) d_Law_law_484 ?_
  refine lv_aload_n hx hb d_Law_law_485 rfl (lv_at hl 0 rfl) ?_
  refine lv_iload_n hx hb d_Law_law_486 rfl (lv_at hl 3 rfl) ?_
  refine lv_iconst (v := nI 2) hx hb d_Law_law_487 (by decide) ?_
  refine lv_iadd hx hb d_Law_law_488 ?_
  refine mk_top (show _ = nI (t + 2) from nI_add t 2) ?_
  refine mk_sld (A := (fun q => s.heap.size ≤ q)) hx hb hX hbl hbA hS (show t + 2 < L by omega) (by omega) d_Law_law_489 ?_
  have hP := mk_Pp List.perm_append_comm hP
  have hD := mk_Dp List.perm_append_comm hD
  refine mk_run (wc := WM cI aX e9 n wy wo li sx ux co ck sn da va la ki wa op tu ct) (wr := WC cI cO aB aM aR aW n wy g ad S' mw' wb' sl' sv' iv' ug') (w1 := WM cI aX e9 n wy wo' li' sx' ux' co' ck' sn' da' va' la' ki' wa' op' tu' ct') (b := aX) (As := [.int (xs (t + 1)), .int (xs (t + 2))]) (rest := [.int (r)]) (own := R_law) (n := 2) (index := 72) (C := "SnoopingBusModel") (ci := 4) hx hb hml hown hts hN hK hP hD hS (fun _ h => h) hO2 g_Model_copy (by decide) (hts _ iw_43) (hts _ ilaw_m_72) (hts _ iw_352) (hts _ iw_353) (by decide +kernel) rfl rfl rfl hl.1 rfl rfl (Nat.le_of_ble_eq_true rfl) d_Law_law_490 (Nat.le_refl _) (Nat.le_refl _) (fun H locs hP hD hS => ?_)
  refine lv_icmp_eq (tgt := 600) hx hb d_Law_law_493 rfl (fun _ => ?_) (fun h => absurd rfl h)
  have hP := mk_Pp List.perm_append_comm hP
  have hD := mk_Dp List.perm_append_comm hD
  refine lv_iinc (k := 3) (v := nI (t + 4)) hx hb d_Law_law_600 hl rfl (nI_add t 4) (by decide) rfl (fun ls hl => ?_)
  refine lv_goto (tgt := 38) hx hb d_Law_law_603 rfl ?_
  exact ih ls H locs S' mw' wb' sl' sv' iv' ug' wo' li' sx' ux' co' ck' sn' da' va' la' ki' wa' op' tu' ct' hR' (lv_sub hl [1, 2, 3, 0] rfl) hP hD hS
set_option maxHeartbeats 4000000 in
set_option maxRecDepth 100000 in
theorem law_memory {p : Program} {e : Env} {s : State} {m : MethodId} {below : List Frame} {meth : Method} {c : Code} (l : Launch) {b L : Nat} {xs : Nat → Int32} (hL : L ≤ 2050) (hx : p.tables.exec = Jvm.exec) (hb : c.code = code) (hr : meth.sig.returnType = ret) (hml : c.maxLocals = 4) (hown : s.vm.findClass R_law = some m.cls) (hts : ∀ w ∈ BG, w.before #[Value.ref b] s = true) (hN : nwK s) (hlocks : meth.locks = false) (hX : va_X b L xs s s.heap) (hbl : b < s.heap.size) (D : va_G) (cI cO : ClassId) (hK : va_K D vwCl (tysK cI cO) s) (aB aM aR aW n wy : Nat) (g : Nat → Option Nat) (ad : Nat → Nat → Nat) (aX : Nat) (e9 : Nat → Nat) (hn2 : 2 ≤ n) (hn : n ≤ 4) (hw0 : 1 ≤ wy) (hw : wy < 4) (hg : ∀ i, i < n → g i = some (ad i 0)) (S : Nat → KS) (mw : Nat → Int32) (wb : Int32) (sl : Nat) (sv iv ug : Int32) (wo li sx ux co : Nat → Int32) (ck : Int32) (sn da va la ki wa op : Nat → Int32) (tu : Nat) (ct : Nat → Int32) {t bb : Nat} {ls : Array Slot} {H : Heap} {locs : List Loc} (ht : t + 4 ≤ L) (hbb : bb ≤ t) (ih : ∀ (ls : Array Slot) (H : Heap) (locs : List Loc) (S : Nat → KS) (mw : Nat → Int32) (wb : Int32) (sl : Nat) (sv iv ug : Int32) (wo li sx ux co : Nat → Int32) (ck : Int32) (sn da va la ki wa op : Nat → Int32) (tu : Nat) (ct : Nat → Int32), Rel n wy (bb + 2) S mw wb sl sv iv ug wo li sx ux co ck sn da va la ki wa op tu ct → lv_has ls 4 [(0, .ref b), (1, .ref aB), (2, .ref aX), (3, .int (nI (t + 4)))] → va_P D vwCl (WC cI cO aB aM aR aW n wy g ad S mw wb sl sv iv ug ++ WM cI aX e9 n wy wo li sx ux co ck sn da va la ki wa op tu ct) H → va_D (fun q => s.heap.size ≤ q) (WC cI cO aB aM aR aW n wy g ad S mw wb sl sv iv ug ++ WM cI aX e9 n wy wo li sx ux co ck sn da va la ki wa op tu ct) → va_S (fun q => s.heap.size ≤ q) s.heap H locs → W p l e room_1 s m #[Value.ref b] below meth c H locs 600000 7302249 (lw_Z below #[Value.ref b] s) (F0 m 38 ls [])) (hR : Rel n wy bb S mw wb sl sv iv ug wo li sx ux co ck sn da va la ki wa op tu ct) (hl : lv_has ls 4 [(0, .ref b), (1, .ref aB), (2, .ref aX), (3, .int (nI t))]) (hP : va_P D vwCl (WC cI cO aB aM aR aW n wy g ad S mw wb sl sv iv ug ++ WM cI aX e9 n wy wo li sx ux co ck sn da va la ki wa op tu ct) H) (hD : va_D (fun q => s.heap.size ≤ q) (WC cI cO aB aM aR aW n wy g ad S mw wb sl sv iv ug ++ WM cI aX e9 n wy wo li sx ux co ck sn da va la ki wa op tu ct)) (hS : va_S (fun q => s.heap.size ≤ q) s.heap H locs) : W p l e room_1 s m #[Value.ref b] below meth c H locs 600000 7302249 (lw_Z below #[Value.ref b] s) (F0 m 498 ls []) := by
  obtain ⟨r, S', mw', wb', sl', sv', iv', ug', wo', li', sx', ux', co', ck', sn', da', va', la', ki', wa', op', tu', ct', hO1, hO2, hR'⟩ := s_memory l D cI cO aB aM aR aW n wy g ad aX e9 bb S mw wb sl sv iv ug wo li sx ux co ck sn da va la ki wa op tu ct (xs (t + 1)) hn2 hn hw0 hw (by omega) hg hR
  have hbA : ¬ s.heap.size ≤ b := by omega
  refine lv_aload_n hx hb d_Law_law_498 rfl (lv_at hl 1 rfl) ?_
  refine lv_aload_n hx hb d_Law_law_499 rfl (lv_at hl 0 rfl) ?_
  refine lv_iload_n hx hb d_Law_law_500 rfl (lv_at hl 3 rfl) ?_
  refine lv_iconst (v := nI 1) hx hb d_Law_law_501 (by decide) ?_
  refine lv_iadd hx hb d_Law_law_502 ?_
  refine mk_top (show _ = nI (t + 1) from nI_add t 1) ?_
  refine mk_sld (A := (fun q => s.heap.size ≤ q)) hx hb hX hbl hbA hS (show t + 1 < L by omega) (by omega) d_Law_law_503 ?_
  refine mk_run (wc := WC cI cO aB aM aR aW n wy g ad S mw wb sl sv iv ug) (wr := WM cI aX e9 n wy wo li sx ux co ck sn da va la ki wa op tu ct) (w1 := WC cI cO aB aM aR aW n wy g ad S' mw' wb' sl' sv' iv' ug') (b := aB) (As := [.int (xs (t + 1))]) (rest := []) (own := R_law) (n := 1) (index := 73) (C := "SnoopingBus") (ci := 3) hx hb hml hown hts hN hK hP hD hS (fun _ h => h) hO1 g_Bus_memory (by decide) (hts _ iw_39) (hts _ ilaw_m_73) (hts _ iw_214) (hts _ iw_215) (by decide +kernel) rfl rfl rfl hl.1 rfl rfl (Nat.le_of_ble_eq_true rfl) d_Law_law_504 (Nat.le_refl _) (Nat.le_refl _) (fun H locs hP hD hS => ?_)
  refine lv_aload_n hx hb d_Law_law_507 rfl (lv_at hl 2 rfl) ?_
  refine lv_aload_n hx hb d_Law_law_508 rfl (lv_at hl 0 rfl) ?_
  refine lv_iload_n hx hb d_Law_law_509 rfl (lv_at hl 3 rfl) ?_
  refine lv_iconst (v := nI 1) hx hb d_Law_law_510 (by decide) ?_
  refine lv_iadd hx hb d_Law_law_511 ?_
  refine mk_top (show _ = nI (t + 1) from nI_add t 1) ?_
  refine mk_sld (A := (fun q => s.heap.size ≤ q)) hx hb hX hbl hbA hS (show t + 1 < L by omega) (by omega) d_Law_law_512 ?_
  have hP := mk_Pp List.perm_append_comm hP
  have hD := mk_Dp List.perm_append_comm hD
  refine mk_run (wc := WM cI aX e9 n wy wo li sx ux co ck sn da va la ki wa op tu ct) (wr := WC cI cO aB aM aR aW n wy g ad S' mw' wb' sl' sv' iv' ug') (w1 := WM cI aX e9 n wy wo' li' sx' ux' co' ck' sn' da' va' la' ki' wa' op' tu' ct') (b := aX) (As := [.int (xs (t + 1))]) (rest := [.int (r)]) (own := R_law) (n := 1) (index := 76) (C := "SnoopingBusModel") (ci := 4) hx hb hml hown hts hN hK hP hD hS (fun _ h => h) hO2 g_Model_memory (by decide) (hts _ iw_43) (hts _ ilaw_m_76) (hts _ iw_355) (hts _ iw_356) (by decide +kernel) rfl rfl rfl hl.1 rfl rfl (Nat.le_of_ble_eq_true rfl) d_Law_law_513 (Nat.le_refl _) (Nat.le_refl _) (fun H locs hP hD hS => ?_)
  refine lv_icmp_eq (tgt := 600) hx hb d_Law_law_516 rfl (fun _ => ?_) (fun h => absurd rfl h)
  have hP := mk_Pp List.perm_append_comm hP
  have hD := mk_Dp List.perm_append_comm hD
  refine lv_iinc (k := 3) (v := nI (t + 4)) hx hb d_Law_law_600 hl rfl (nI_add t 4) (by decide) rfl (fun ls hl => ?_)
  refine lv_goto (tgt := 38) hx hb d_Law_law_603 rfl ?_
  exact ih ls H locs S' mw' wb' sl' sv' iv' ug' wo' li' sx' ux' co' ck' sn' da' va' la' ki' wa' op' tu' ct' hR' (lv_sub hl [1, 2, 3, 0] rfl) hP hD hS
set_option maxHeartbeats 4000000 in
set_option maxRecDepth 100000 in
theorem law_seen {p : Program} {e : Env} {s : State} {m : MethodId} {below : List Frame} {meth : Method} {c : Code} (l : Launch) {b L : Nat} {xs : Nat → Int32} (hL : L ≤ 2050) (hx : p.tables.exec = Jvm.exec) (hb : c.code = code) (hr : meth.sig.returnType = ret) (hml : c.maxLocals = 4) (hown : s.vm.findClass R_law = some m.cls) (hts : ∀ w ∈ BG, w.before #[Value.ref b] s = true) (hN : nwK s) (hlocks : meth.locks = false) (hX : va_X b L xs s s.heap) (hbl : b < s.heap.size) (D : va_G) (cI cO : ClassId) (hK : va_K D vwCl (tysK cI cO) s) (aB aM aR aW n wy : Nat) (g : Nat → Option Nat) (ad : Nat → Nat → Nat) (aX : Nat) (e9 : Nat → Nat) (hn2 : 2 ≤ n) (hn : n ≤ 4) (hw0 : 1 ≤ wy) (hw : wy < 4) (hg : ∀ i, i < n → g i = some (ad i 0)) (S : Nat → KS) (mw : Nat → Int32) (wb : Int32) (sl : Nat) (sv iv ug : Int32) (wo li sx ux co : Nat → Int32) (ck : Int32) (sn da va la ki wa op : Nat → Int32) (tu : Nat) (ct : Nat → Int32) {t bb : Nat} {ls : Array Slot} {H : Heap} {locs : List Loc} (ht : t + 4 ≤ L) (hbb : bb ≤ t) (ih : ∀ (ls : Array Slot) (H : Heap) (locs : List Loc) (S : Nat → KS) (mw : Nat → Int32) (wb : Int32) (sl : Nat) (sv iv ug : Int32) (wo li sx ux co : Nat → Int32) (ck : Int32) (sn da va la ki wa op : Nat → Int32) (tu : Nat) (ct : Nat → Int32), Rel n wy (bb + 2) S mw wb sl sv iv ug wo li sx ux co ck sn da va la ki wa op tu ct → lv_has ls 4 [(0, .ref b), (1, .ref aB), (2, .ref aX), (3, .int (nI (t + 4)))] → va_P D vwCl (WC cI cO aB aM aR aW n wy g ad S mw wb sl sv iv ug ++ WM cI aX e9 n wy wo li sx ux co ck sn da va la ki wa op tu ct) H → va_D (fun q => s.heap.size ≤ q) (WC cI cO aB aM aR aW n wy g ad S mw wb sl sv iv ug ++ WM cI aX e9 n wy wo li sx ux co ck sn da va la ki wa op tu ct) → va_S (fun q => s.heap.size ≤ q) s.heap H locs → W p l e room_1 s m #[Value.ref b] below meth c H locs 600000 7302249 (lw_Z below #[Value.ref b] s) (F0 m 38 ls [])) (hR : Rel n wy bb S mw wb sl sv iv ug wo li sx ux co ck sn da va la ki wa op tu ct) (hl : lv_has ls 4 [(0, .ref b), (1, .ref aB), (2, .ref aX), (3, .int (nI t))]) (hP : va_P D vwCl (WC cI cO aB aM aR aW n wy g ad S mw wb sl sv iv ug ++ WM cI aX e9 n wy wo li sx ux co ck sn da va la ki wa op tu ct) H) (hD : va_D (fun q => s.heap.size ≤ q) (WC cI cO aB aM aR aW n wy g ad S mw wb sl sv iv ug ++ WM cI aX e9 n wy wo li sx ux co ck sn da va la ki wa op tu ct)) (hS : va_S (fun q => s.heap.size ≤ q) s.heap H locs) : W p l e room_1 s m #[Value.ref b] below meth c H locs 600000 7302249 (lw_Z below #[Value.ref b] s) (F0 m 521 ls []) := by
  obtain ⟨r, S', mw', wb', sl', sv', iv', ug', wo', li', sx', ux', co', ck', sn', da', va', la', ki', wa', op', tu', ct', hO1, hO2, hR'⟩ := s_seen l D cI cO aB aM aR aW n wy g ad aX e9 bb S mw wb sl sv iv ug wo li sx ux co ck sn da va la ki wa op tu ct (xs (t + 1)) hn2 hn hw0 hw (by omega) hg hR
  have hbA : ¬ s.heap.size ≤ b := by omega
  refine lv_aload_n hx hb d_Law_law_521 rfl (lv_at hl 1 rfl) ?_
  refine lv_aload_n hx hb d_Law_law_522 rfl (lv_at hl 0 rfl) ?_
  refine lv_iload_n hx hb d_Law_law_523 rfl (lv_at hl 3 rfl) ?_
  refine lv_iconst (v := nI 1) hx hb d_Law_law_524 (by decide) ?_
  refine lv_iadd hx hb d_Law_law_525 ?_
  refine mk_top (show _ = nI (t + 1) from nI_add t 1) ?_
  refine mk_sld (A := (fun q => s.heap.size ≤ q)) hx hb hX hbl hbA hS (show t + 1 < L by omega) (by omega) d_Law_law_526 ?_
  refine mk_run (wc := WC cI cO aB aM aR aW n wy g ad S mw wb sl sv iv ug) (wr := WM cI aX e9 n wy wo li sx ux co ck sn da va la ki wa op tu ct) (w1 := WC cI cO aB aM aR aW n wy g ad S' mw' wb' sl' sv' iv' ug') (b := aB) (As := [.int (xs (t + 1))]) (rest := []) (own := R_law) (n := 1) (index := 77) (C := "SnoopingBus") (ci := 3) hx hb hml hown hts hN hK hP hD hS (fun _ h => h) hO1 g_Bus_seen (by decide) (hts _ iw_39) (hts _ ilaw_m_77) (hts _ iw_217) (hts _ iw_218) (by decide +kernel) rfl rfl rfl hl.1 rfl rfl (Nat.le_of_ble_eq_true rfl) d_Law_law_527 (Nat.le_refl _) (Nat.le_refl _) (fun H locs hP hD hS => ?_)
  refine lv_aload_n hx hb d_Law_law_530 rfl (lv_at hl 2 rfl) ?_
  refine lv_aload_n hx hb d_Law_law_531 rfl (lv_at hl 0 rfl) ?_
  refine lv_iload_n hx hb d_Law_law_532 rfl (lv_at hl 3 rfl) ?_
  refine lv_iconst (v := nI 1) hx hb d_Law_law_533 (by decide) ?_
  refine lv_iadd hx hb d_Law_law_534 ?_
  refine mk_top (show _ = nI (t + 1) from nI_add t 1) ?_
  refine mk_sld (A := (fun q => s.heap.size ≤ q)) hx hb hX hbl hbA hS (show t + 1 < L by omega) (by omega) d_Law_law_535 ?_
  have hP := mk_Pp List.perm_append_comm hP
  have hD := mk_Dp List.perm_append_comm hD
  refine mk_run (wc := WM cI aX e9 n wy wo li sx ux co ck sn da va la ki wa op tu ct) (wr := WC cI cO aB aM aR aW n wy g ad S' mw' wb' sl' sv' iv' ug') (w1 := WM cI aX e9 n wy wo' li' sx' ux' co' ck' sn' da' va' la' ki' wa' op' tu' ct') (b := aX) (As := [.int (xs (t + 1))]) (rest := [.int (r)]) (own := R_law) (n := 1) (index := 80) (C := "SnoopingBusModel") (ci := 4) hx hb hml hown hts hN hK hP hD hS (fun _ h => h) hO2 g_Model_seen (by decide) (hts _ iw_43) (hts _ ilaw_m_80) (hts _ iw_358) (hts _ iw_359) (by decide +kernel) rfl rfl rfl hl.1 rfl rfl (Nat.le_of_ble_eq_true rfl) d_Law_law_536 (Nat.le_refl _) (Nat.le_refl _) (fun H locs hP hD hS => ?_)
  refine lv_icmp_eq (tgt := 600) hx hb d_Law_law_539 rfl (fun _ => ?_) (fun h => absurd rfl h)
  have hP := mk_Pp List.perm_append_comm hP
  have hD := mk_Dp List.perm_append_comm hD
  refine lv_iinc (k := 3) (v := nI (t + 4)) hx hb d_Law_law_600 hl rfl (nI_add t 4) (by decide) rfl (fun ls hl => ?_)
  refine lv_goto (tgt := 38) hx hb d_Law_law_603 rfl ?_
  exact ih ls H locs S' mw' wb' sl' sv' iv' ug' wo' li' sx' ux' co' ck' sn' da' va' la' ki' wa' op' tu' ct' hR' (lv_sub hl [1, 2, 3, 0] rfl) hP hD hS
set_option maxHeartbeats 4000000 in
set_option maxRecDepth 100000 in
theorem law_count {p : Program} {e : Env} {s : State} {m : MethodId} {below : List Frame} {meth : Method} {c : Code} (l : Launch) {b L : Nat} {xs : Nat → Int32} (hL : L ≤ 2050) (hx : p.tables.exec = Jvm.exec) (hb : c.code = code) (hr : meth.sig.returnType = ret) (hml : c.maxLocals = 4) (hown : s.vm.findClass R_law = some m.cls) (hts : ∀ w ∈ BG, w.before #[Value.ref b] s = true) (hN : nwK s) (hlocks : meth.locks = false) (hX : va_X b L xs s s.heap) (hbl : b < s.heap.size) (D : va_G) (cI cO : ClassId) (hK : va_K D vwCl (tysK cI cO) s) (aB aM aR aW n wy : Nat) (g : Nat → Option Nat) (ad : Nat → Nat → Nat) (aX : Nat) (e9 : Nat → Nat) (hn2 : 2 ≤ n) (hn : n ≤ 4) (hw0 : 1 ≤ wy) (hw : wy < 4) (hg : ∀ i, i < n → g i = some (ad i 0)) (S : Nat → KS) (mw : Nat → Int32) (wb : Int32) (sl : Nat) (sv iv ug : Int32) (wo li sx ux co : Nat → Int32) (ck : Int32) (sn da va la ki wa op : Nat → Int32) (tu : Nat) (ct : Nat → Int32) {t bb : Nat} {ls : Array Slot} {H : Heap} {locs : List Loc} (ht : t + 4 ≤ L) (hbb : bb ≤ t) (ih : ∀ (ls : Array Slot) (H : Heap) (locs : List Loc) (S : Nat → KS) (mw : Nat → Int32) (wb : Int32) (sl : Nat) (sv iv ug : Int32) (wo li sx ux co : Nat → Int32) (ck : Int32) (sn da va la ki wa op : Nat → Int32) (tu : Nat) (ct : Nat → Int32), Rel n wy (bb + 2) S mw wb sl sv iv ug wo li sx ux co ck sn da va la ki wa op tu ct → lv_has ls 4 [(0, .ref b), (1, .ref aB), (2, .ref aX), (3, .int (nI (t + 4)))] → va_P D vwCl (WC cI cO aB aM aR aW n wy g ad S mw wb sl sv iv ug ++ WM cI aX e9 n wy wo li sx ux co ck sn da va la ki wa op tu ct) H → va_D (fun q => s.heap.size ≤ q) (WC cI cO aB aM aR aW n wy g ad S mw wb sl sv iv ug ++ WM cI aX e9 n wy wo li sx ux co ck sn da va la ki wa op tu ct) → va_S (fun q => s.heap.size ≤ q) s.heap H locs → W p l e room_1 s m #[Value.ref b] below meth c H locs 600000 7302249 (lw_Z below #[Value.ref b] s) (F0 m 38 ls [])) (hR : Rel n wy bb S mw wb sl sv iv ug wo li sx ux co ck sn da va la ki wa op tu ct) (hl : lv_has ls 4 [(0, .ref b), (1, .ref aB), (2, .ref aX), (3, .int (nI t))]) (hP : va_P D vwCl (WC cI cO aB aM aR aW n wy g ad S mw wb sl sv iv ug ++ WM cI aX e9 n wy wo li sx ux co ck sn da va la ki wa op tu ct) H) (hD : va_D (fun q => s.heap.size ≤ q) (WC cI cO aB aM aR aW n wy g ad S mw wb sl sv iv ug ++ WM cI aX e9 n wy wo li sx ux co ck sn da va la ki wa op tu ct)) (hS : va_S (fun q => s.heap.size ≤ q) s.heap H locs) : W p l e room_1 s m #[Value.ref b] below meth c H locs 600000 7302249 (lw_Z below #[Value.ref b] s) (F0 m 544 ls []) := by
  obtain ⟨r, S', mw', wb', sl', sv', iv', ug', wo', li', sx', ux', co', ck', sn', da', va', la', ki', wa', op', tu', ct', hO1, hO2, hR'⟩ := s_count l D cI cO aB aM aR aW n wy g ad aX e9 bb S mw wb sl sv iv ug wo li sx ux co ck sn da va la ki wa op tu ct (xs (t + 1)) hn2 hn hw0 hw (by omega) hg hR
  have hbA : ¬ s.heap.size ≤ b := by omega
  refine lv_aload_n hx hb d_Law_law_544 rfl (lv_at hl 1 rfl) ?_
  refine lv_aload_n hx hb d_Law_law_545 rfl (lv_at hl 0 rfl) ?_
  refine lv_iload_n hx hb d_Law_law_546 rfl (lv_at hl 3 rfl) ?_
  refine lv_iconst (v := nI 1) hx hb d_Law_law_547 (by decide) ?_
  refine lv_iadd hx hb d_Law_law_548 ?_
  refine mk_top (show _ = nI (t + 1) from nI_add t 1) ?_
  refine mk_sld (A := (fun q => s.heap.size ≤ q)) hx hb hX hbl hbA hS (show t + 1 < L by omega) (by omega) d_Law_law_549 ?_
  refine mk_run (wc := WC cI cO aB aM aR aW n wy g ad S mw wb sl sv iv ug) (wr := WM cI aX e9 n wy wo li sx ux co ck sn da va la ki wa op tu ct) (w1 := WC cI cO aB aM aR aW n wy g ad S' mw' wb' sl' sv' iv' ug') (b := aB) (As := [.int (xs (t + 1))]) (rest := []) (own := R_law) (n := 1) (index := 81) (C := "SnoopingBus") (ci := 3) hx hb hml hown hts hN hK hP hD hS (fun _ h => h) hO1 g_Bus_count (by decide) (hts _ iw_39) (hts _ ilaw_m_81) (hts _ iw_220) (hts _ iw_221) (by decide +kernel) rfl rfl rfl hl.1 rfl rfl (Nat.le_of_ble_eq_true rfl) d_Law_law_550 (Nat.le_refl _) (Nat.le_refl _) (fun H locs hP hD hS => ?_)
  refine lv_aload_n hx hb d_Law_law_553 rfl (lv_at hl 2 rfl) ?_
  refine lv_aload_n hx hb d_Law_law_554 rfl (lv_at hl 0 rfl) ?_
  refine lv_iload_n hx hb d_Law_law_555 rfl (lv_at hl 3 rfl) ?_
  refine lv_iconst (v := nI 1) hx hb d_Law_law_556 (by decide) ?_
  refine lv_iadd hx hb d_Law_law_557 ?_
  refine mk_top (show _ = nI (t + 1) from nI_add t 1) ?_
  refine mk_sld (A := (fun q => s.heap.size ≤ q)) hx hb hX hbl hbA hS (show t + 1 < L by omega) (by omega) d_Law_law_558 ?_
  have hP := mk_Pp List.perm_append_comm hP
  have hD := mk_Dp List.perm_append_comm hD
  refine mk_run (wc := WM cI aX e9 n wy wo li sx ux co ck sn da va la ki wa op tu ct) (wr := WC cI cO aB aM aR aW n wy g ad S' mw' wb' sl' sv' iv' ug') (w1 := WM cI aX e9 n wy wo' li' sx' ux' co' ck' sn' da' va' la' ki' wa' op' tu' ct') (b := aX) (As := [.int (xs (t + 1))]) (rest := [.int (r)]) (own := R_law) (n := 1) (index := 84) (C := "SnoopingBusModel") (ci := 4) hx hb hml hown hts hN hK hP hD hS (fun _ h => h) hO2 g_Model_count (by decide) (hts _ iw_43) (hts _ ilaw_m_84) (hts _ iw_361) (hts _ iw_362) (by decide +kernel) rfl rfl rfl hl.1 rfl rfl (Nat.le_of_ble_eq_true rfl) d_Law_law_559 (Nat.le_refl _) (Nat.le_refl _) (fun H locs hP hD hS => ?_)
  refine lv_icmp_eq (tgt := 600) hx hb d_Law_law_562 rfl (fun _ => ?_) (fun h => absurd rfl h)
  have hP := mk_Pp List.perm_append_comm hP
  have hD := mk_Dp List.perm_append_comm hD
  refine lv_iinc (k := 3) (v := nI (t + 4)) hx hb d_Law_law_600 hl rfl (nI_add t 4) (by decide) rfl (fun ls hl => ?_)
  refine lv_goto (tgt := 38) hx hb d_Law_law_603 rfl ?_
  exact ih ls H locs S' mw' wb' sl' sv' iv' ug' wo' li' sx' ux' co' ck' sn' da' va' la' ki' wa' op' tu' ct' hR' (lv_sub hl [1, 2, 3, 0] rfl) hP hD hS
set_option maxHeartbeats 4000000 in
set_option maxRecDepth 100000 in
theorem law_victim {p : Program} {e : Env} {s : State} {m : MethodId} {below : List Frame} {meth : Method} {c : Code} (l : Launch) {b L : Nat} {xs : Nat → Int32} (hL : L ≤ 2050) (hx : p.tables.exec = Jvm.exec) (hb : c.code = code) (hr : meth.sig.returnType = ret) (hml : c.maxLocals = 4) (hown : s.vm.findClass R_law = some m.cls) (hts : ∀ w ∈ BG, w.before #[Value.ref b] s = true) (hN : nwK s) (hlocks : meth.locks = false) (hX : va_X b L xs s s.heap) (hbl : b < s.heap.size) (D : va_G) (cI cO : ClassId) (hK : va_K D vwCl (tysK cI cO) s) (aB aM aR aW n wy : Nat) (g : Nat → Option Nat) (ad : Nat → Nat → Nat) (aX : Nat) (e9 : Nat → Nat) (hn2 : 2 ≤ n) (hn : n ≤ 4) (hw0 : 1 ≤ wy) (hw : wy < 4) (hg : ∀ i, i < n → g i = some (ad i 0)) (S : Nat → KS) (mw : Nat → Int32) (wb : Int32) (sl : Nat) (sv iv ug : Int32) (wo li sx ux co : Nat → Int32) (ck : Int32) (sn da va la ki wa op : Nat → Int32) (tu : Nat) (ct : Nat → Int32) {t bb : Nat} {ls : Array Slot} {H : Heap} {locs : List Loc} (ht : t + 4 ≤ L) (hbb : bb ≤ t) (ih : ∀ (ls : Array Slot) (H : Heap) (locs : List Loc) (S : Nat → KS) (mw : Nat → Int32) (wb : Int32) (sl : Nat) (sv iv ug : Int32) (wo li sx ux co : Nat → Int32) (ck : Int32) (sn da va la ki wa op : Nat → Int32) (tu : Nat) (ct : Nat → Int32), Rel n wy (bb + 2) S mw wb sl sv iv ug wo li sx ux co ck sn da va la ki wa op tu ct → lv_has ls 4 [(0, .ref b), (1, .ref aB), (2, .ref aX), (3, .int (nI (t + 4)))] → va_P D vwCl (WC cI cO aB aM aR aW n wy g ad S mw wb sl sv iv ug ++ WM cI aX e9 n wy wo li sx ux co ck sn da va la ki wa op tu ct) H → va_D (fun q => s.heap.size ≤ q) (WC cI cO aB aM aR aW n wy g ad S mw wb sl sv iv ug ++ WM cI aX e9 n wy wo li sx ux co ck sn da va la ki wa op tu ct) → va_S (fun q => s.heap.size ≤ q) s.heap H locs → W p l e room_1 s m #[Value.ref b] below meth c H locs 600000 7302249 (lw_Z below #[Value.ref b] s) (F0 m 38 ls [])) (hR : Rel n wy bb S mw wb sl sv iv ug wo li sx ux co ck sn da va la ki wa op tu ct) (hl : lv_has ls 4 [(0, .ref b), (1, .ref aB), (2, .ref aX), (3, .int (nI t))]) (hP : va_P D vwCl (WC cI cO aB aM aR aW n wy g ad S mw wb sl sv iv ug ++ WM cI aX e9 n wy wo li sx ux co ck sn da va la ki wa op tu ct) H) (hD : va_D (fun q => s.heap.size ≤ q) (WC cI cO aB aM aR aW n wy g ad S mw wb sl sv iv ug ++ WM cI aX e9 n wy wo li sx ux co ck sn da va la ki wa op tu ct)) (hS : va_S (fun q => s.heap.size ≤ q) s.heap H locs) : W p l e room_1 s m #[Value.ref b] below meth c H locs 600000 7302249 (lw_Z below #[Value.ref b] s) (F0 m 567 ls []) := by
  obtain ⟨r, S', mw', wb', sl', sv', iv', ug', wo', li', sx', ux', co', ck', sn', da', va', la', ki', wa', op', tu', ct', hO1, hO2, hR'⟩ := s_victim l D cI cO aB aM aR aW n wy g ad aX e9 bb S mw wb sl sv iv ug wo li sx ux co ck sn da va la ki wa op tu ct (xs (t + 1)) (xs (t + 2)) hn2 hn hw0 hw (by omega) hg hR
  have hbA : ¬ s.heap.size ≤ b := by omega
  refine lv_aload_n hx hb d_Law_law_567 rfl (lv_at hl 1 rfl) ?_
  refine lv_aload_n hx hb d_Law_law_568 rfl (lv_at hl 0 rfl) ?_
  refine lv_iload_n hx hb d_Law_law_569 rfl (lv_at hl 3 rfl) ?_
  refine lv_iconst (v := nI 1) hx hb d_Law_law_570 (by decide) ?_
  refine lv_iadd hx hb d_Law_law_571 ?_
  refine mk_top (show _ = nI (t + 1) from nI_add t 1) ?_
  refine mk_sld (A := (fun q => s.heap.size ≤ q)) hx hb hX hbl hbA hS (show t + 1 < L by omega) (by omega) d_Law_law_572 ?_
  refine lv_aload_n hx hb d_Law_law_573 rfl (lv_at hl 0 rfl) ?_
  refine lv_iload_n hx hb d_Law_law_574 rfl (lv_at hl 3 rfl) ?_
  refine lv_iconst (v := nI 2) hx hb d_Law_law_575 (by decide) ?_
  refine lv_iadd hx hb d_Law_law_576 ?_
  refine mk_top (show _ = nI (t + 2) from nI_add t 2) ?_
  refine mk_sld (A := (fun q => s.heap.size ≤ q)) hx hb hX hbl hbA hS (show t + 2 < L by omega) (by omega) d_Law_law_577 ?_
  refine mk_run (wc := WC cI cO aB aM aR aW n wy g ad S mw wb sl sv iv ug) (wr := WM cI aX e9 n wy wo li sx ux co ck sn da va la ki wa op tu ct) (w1 := WC cI cO aB aM aR aW n wy g ad S' mw' wb' sl' sv' iv' ug') (b := aB) (As := [.int (xs (t + 1)), .int (xs (t + 2))]) (rest := []) (own := R_law) (n := 2) (index := 85) (C := "SnoopingBus") (ci := 3) hx hb hml hown hts hN hK hP hD hS (fun _ h => h) hO1 g_Bus_victim (by decide) (hts _ iw_39) (hts _ ilaw_m_85) (hts _ iw_223) (hts _ iw_224) (by decide +kernel) rfl rfl rfl hl.1 rfl rfl (Nat.le_of_ble_eq_true rfl) d_Law_law_578 (Nat.le_refl _) (Nat.le_refl _) (fun H locs hP hD hS => ?_)
  refine lv_aload_n hx hb d_Law_law_581 rfl (lv_at hl 2 rfl) ?_
  refine lv_aload_n hx hb d_Law_law_582 rfl (lv_at hl 0 rfl) ?_
  refine lv_iload_n hx hb d_Law_law_583 rfl (lv_at hl 3 rfl) ?_
  refine lv_iconst (v := nI 1) hx hb d_Law_law_584 (by decide) ?_
  refine lv_iadd hx hb d_Law_law_585 ?_
  refine mk_top (show _ = nI (t + 1) from nI_add t 1) ?_
  refine mk_sld (A := (fun q => s.heap.size ≤ q)) hx hb hX hbl hbA hS (show t + 1 < L by omega) (by omega) d_Law_law_586 ?_
  refine lv_aload_n hx hb d_Law_law_587 rfl (lv_at hl 0 rfl) ?_
  refine lv_iload_n hx hb d_Law_law_588 rfl (lv_at hl 3 rfl) ?_
  refine lv_iconst (v := nI 2) hx hb d_Law_law_589 (by decide) ?_
  refine lv_iadd hx hb d_Law_law_590 ?_
  refine mk_top (show _ = nI (t + 2) from nI_add t 2) ?_
  refine mk_sld (A := (fun q => s.heap.size ≤ q)) hx hb hX hbl hbA hS (show t + 2 < L by omega) (by omega) d_Law_law_591 ?_
  have hP := mk_Pp List.perm_append_comm hP
  have hD := mk_Dp List.perm_append_comm hD
  refine mk_run (wc := WM cI aX e9 n wy wo li sx ux co ck sn da va la ki wa op tu ct) (wr := WC cI cO aB aM aR aW n wy g ad S' mw' wb' sl' sv' iv' ug') (w1 := WM cI aX e9 n wy wo' li' sx' ux' co' ck' sn' da' va' la' ki' wa' op' tu' ct') (b := aX) (As := [.int (xs (t + 1)), .int (xs (t + 2))]) (rest := [.int (r)]) (own := R_law) (n := 2) (index := 88) (C := "SnoopingBusModel") (ci := 4) hx hb hml hown hts hN hK hP hD hS (fun _ h => h) hO2 g_Model_victim (by decide) (hts _ iw_43) (hts _ ilaw_m_88) (hts _ iw_364) (hts _ iw_365) (by decide +kernel) rfl rfl rfl hl.1 rfl rfl (Nat.le_of_ble_eq_true rfl) d_Law_law_592 (Nat.le_refl _) (Nat.le_refl _) (fun H locs hP hD hS => ?_)
  refine lv_icmp_eq (tgt := 600) hx hb d_Law_law_595 rfl (fun _ => ?_) (fun h => absurd rfl h)
  have hP := mk_Pp List.perm_append_comm hP
  have hD := mk_Dp List.perm_append_comm hD
  refine lv_iinc (k := 3) (v := nI (t + 4)) hx hb d_Law_law_600 hl rfl (nI_add t 4) (by decide) rfl (fun ls hl => ?_)
  refine lv_goto (tgt := 38) hx hb d_Law_law_603 rfl ?_
  exact ih ls H locs S' mw' wb' sl' sv' iv' ug' wo' li' sx' ux' co' ck' sn' da' va' la' ki' wa' op' tu' ct' hR' (lv_sub hl [1, 2, 3, 0] rfl) hP hD hS
set_option maxHeartbeats 4000000 in
set_option maxRecDepth 100000 in
theorem law_loop {p : Program} {e : Env} {s : State} {m : MethodId} {below : List Frame} {meth : Method} {c : Code} (l : Launch) {b L : Nat} {xs : Nat → Int32} (hL : L ≤ 2050) (hx : p.tables.exec = Jvm.exec) (hb : c.code = code) (hr : meth.sig.returnType = ret) (hml : c.maxLocals = 4) (hown : s.vm.findClass R_law = some m.cls) (hts : ∀ w ∈ BG, w.before #[Value.ref b] s = true) (hN : nwK s) (hlocks : meth.locks = false) (hX : va_X b L xs s s.heap) (hbl : b < s.heap.size) (D : va_G) (cI cO : ClassId) (hK : va_K D vwCl (tysK cI cO) s) (aB aM aR aW n wy : Nat) (g : Nat → Option Nat) (ad : Nat → Nat → Nat) (aX : Nat) (e9 : Nat → Nat) (hn2 : 2 ≤ n) (hn : n ≤ 4) (hw0 : 1 ≤ wy) (hw : wy < 4) (hg : ∀ i, i < n → g i = some (ad i 0)) : ∀ (fu t bb : Nat) (ls : Array Slot) (H : Heap) (locs : List Loc) (S : Nat → KS) (mw : Nat → Int32) (wb : Int32) (sl : Nat) (sv iv ug : Int32) (wo li sx ux co : Nat → Int32) (ck : Int32) (sn da va la ki wa op : Nat → Int32) (tu : Nat) (ct : Nat → Int32), L ≤ t + 4 * fu → t ≤ 2054 → bb ≤ t → Rel n wy bb S mw wb sl sv iv ug wo li sx ux co ck sn da va la ki wa op tu ct → lv_has ls 4 [(0, .ref b), (1, .ref aB), (2, .ref aX), (3, .int (nI t))] → va_P D vwCl (WC cI cO aB aM aR aW n wy g ad S mw wb sl sv iv ug ++ WM cI aX e9 n wy wo li sx ux co ck sn da va la ki wa op tu ct) H → va_D (fun q => s.heap.size ≤ q) (WC cI cO aB aM aR aW n wy g ad S mw wb sl sv iv ug ++ WM cI aX e9 n wy wo li sx ux co ck sn da va la ki wa op tu ct) → va_S (fun q => s.heap.size ≤ q) s.heap H locs → W p l e room_1 s m #[Value.ref b] below meth c H locs 600000 7302249 (lw_Z below #[Value.ref b] s) (F0 m 38 ls []) := by
  intro fu
  induction fu with
  | zero =>
    intro t bb ls H locs S mw wb sl sv iv ug wo li sx ux co ck sn da va la ki wa op tu ct hf ht hbb hR hl hP hD hS
    exact law_exit l hL hx hb hr hml hown hts hN hlocks hX hbl ht (by omega) hl hS
  | succ fu ih =>
    intro t bb ls H locs S mw wb sl sv iv ug wo li sx ux co ck sn da va la ki wa op tu ct hf ht hbb hR hl hP hD hS
    by_cases hlt : L < t + 4
    · exact law_exit l hL hx hb hr hml hown hts hN hlocks hX hbl ht hlt hl hS
    · have hbA : ¬ s.heap.size ≤ b := by omega
      have ih2 : ∀ (ls : Array Slot) (H : Heap) (locs : List Loc) (S : Nat → KS) (mw : Nat → Int32) (wb : Int32) (sl : Nat) (sv iv ug : Int32) (wo li sx ux co : Nat → Int32) (ck : Int32) (sn da va la ki wa op : Nat → Int32) (tu : Nat) (ct : Nat → Int32), Rel n wy (bb + 2) S mw wb sl sv iv ug wo li sx ux co ck sn da va la ki wa op tu ct → lv_has ls 4 [(0, .ref b), (1, .ref aB), (2, .ref aX), (3, .int (nI (t + 4)))] → va_P D vwCl (WC cI cO aB aM aR aW n wy g ad S mw wb sl sv iv ug ++ WM cI aX e9 n wy wo li sx ux co ck sn da va la ki wa op tu ct) H → va_D (fun q => s.heap.size ≤ q) (WC cI cO aB aM aR aW n wy g ad S mw wb sl sv iv ug ++ WM cI aX e9 n wy wo li sx ux co ck sn da va la ki wa op tu ct) → va_S (fun q => s.heap.size ≤ q) s.heap H locs → W p l e room_1 s m #[Value.ref b] below meth c H locs 600000 7302249 (lw_Z below #[Value.ref b] s) (F0 m 38 ls []) := fun ls H locs S mw wb sl sv iv ug wo li sx ux co ck sn da va la ki wa op tu ct hR hl hP hD hS => ih (t + 4) (bb + 2) ls H locs S mw wb sl sv iv ug wo li sx ux co ck sn da va la ki wa op tu ct (by omega) (by omega) (by omega) hR hl hP hD hS
      refine lv_iload_n hx hb d_Law_law_38 rfl (lv_at hl 3 rfl) ?_
      refine lv_aload_n hx hb d_Law_law_39 rfl (lv_at hl 0 rfl) ?_
      refine va_slen (A := (fun q => s.heap.size ≤ q)) hx hb hX hbl hbA hS d_Law_law_40 ?_
      refine mk_top (show _ = nI L from rfl) ?_
      refine lv_iconst (v := nI 4) hx hb d_Law_law_41 (by decide) ?_
      refine lv_isub hx hb d_Law_law_42 ?_
      refine lv_icmp_gt (tgt := 606) hx hb d_Law_law_43 rfl (fun h => absurd ((gt4 (by omega) (by omega)).mp h) hlt) (fun _ => ?_)
      refine lv_aload_n hx hb d_Law_law_46 rfl (lv_at hl 0 rfl) ?_
      refine lv_iload_n hx hb d_Law_law_47 rfl (lv_at hl 3 rfl) ?_
      refine mk_sld (A := (fun q => s.heap.size ≤ q)) hx hb hX hbl hbA hS (show t < L by omega) (by omega) d_Law_law_48 ?_
      refine lv_bipush (v := nI 15) hx hb d_Law_law_49 (by decide) ?_
      refine lv_iand hx hb d_Law_law_51 ?_
      obtain ⟨k, hk, hk2⟩ := pk_andE (xs t) (m := nI 15) 4 (by decide)
      refine mk_top hk2 ?_
      rcases (show k = 0 ∨ k = 1 ∨ k = 2 ∨ k = 3 ∨ k = 4 ∨ k = 5 ∨ k = 6 ∨ k = 7 ∨ k = 8 ∨ k = 9 ∨ k = 10 ∨ k = 11 ∨ k = 12 ∨ k = 13 ∨ k = 14 ∨ k = 15 by omega) with rfl | rfl | rfl | rfl | rfl | rfl | rfl | rfl | rfl | rfl | rfl | rfl | rfl | rfl | rfl | rfl
      · refine lv_tableIn (tgt := 132) hx hb d_Law_law_52 (by decide) (by decide) rfl rfl ?_
        exact law_load l hL hx hb hr hml hown hts hN hlocks hX hbl D cI cO hK aB aM aR aW n wy g ad aX e9 hn2 hn hw0 hw hg S mw wb sl sv iv ug wo li sx ux co ck sn da va la ki wa op tu ct (by omega) hbb ih2 hR hl hP hD hS
      · refine lv_tableIn (tgt := 165) hx hb d_Law_law_52 (by decide) (by decide) rfl rfl ?_
        exact law_store l hL hx hb hr hml hown hts hN hlocks hX hbl D cI cO hK aB aM aR aW n wy g ad aX e9 hn2 hn hw0 hw hg S mw wb sl sv iv ug wo li sx ux co ck sn da va la ki wa op tu ct (by omega) hbb ih2 hR hl hP hD hS
      · refine lv_tableIn (tgt := 208) hx hb d_Law_law_52 (by decide) (by decide) rfl rfl ?_
        exact law_drain l hL hx hb hr hml hown hts hN hlocks hX hbl D cI cO hK aB aM aR aW n wy g ad aX e9 hn2 hn hw0 hw hg S mw wb sl sv iv ug wo li sx ux co ck sn da va la ki wa op tu ct (by omega) hbb ih2 hR hl hP hD hS
      · refine lv_tableIn (tgt := 231) hx hb d_Law_law_52 (by decide) (by decide) rfl rfl ?_
        exact law_swap l hL hx hb hr hml hown hts hN hlocks hX hbl D cI cO hK aB aM aR aW n wy g ad aX e9 hn2 hn hw0 hw hg S mw wb sl sv iv ug wo li sx ux co ck sn da va la ki wa op tu ct (by omega) hbb ih2 hR hl hP hD hS
      · refine lv_tableIn (tgt := 274) hx hb d_Law_law_52 (by decide) (by decide) rfl rfl ?_
        exact law_add l hL hx hb hr hml hown hts hN hlocks hX hbl D cI cO hK aB aM aR aW n wy g ad aX e9 hn2 hn hw0 hw hg S mw wb sl sv iv ug wo li sx ux co ck sn da va la ki wa op tu ct (by omega) hbb ih2 hR hl hP hD hS
      · refine lv_tableIn (tgt := 317) hx hb d_Law_law_52 (by decide) (by decide) rfl rfl ?_
        exact law_bus l hL hx hb hr hml hown hts hN hlocks hX hbl D cI cO hK aB aM aR aW n wy g ad aX e9 hn2 hn hw0 hw hg S mw wb sl sv iv ug wo li sx ux co ck sn da va la ki wa op tu ct (by omega) hbb ih2 hR hl hP hD hS
      · refine lv_tableIn (tgt := 330) hx hb d_Law_law_52 (by decide) (by decide) rfl rfl ?_
        exact law_evict l hL hx hb hr hml hown hts hN hlocks hX hbl D cI cO hK aB aM aR aW n wy g ad aX e9 hn2 hn hw0 hw hg S mw wb sl sv iv ug wo li sx ux co ck sn da va la ki wa op tu ct (by omega) hbb ih2 hR hl hP hD hS
      · refine lv_tableIn (tgt := 363) hx hb d_Law_law_52 (by decide) (by decide) rfl rfl ?_
        exact law_last l hL hx hb hr hml hown hts hN hlocks hX hbl D cI cO hK aB aM aR aW n wy g ad aX e9 hn2 hn hw0 hw hg S mw wb sl sv iv ug wo li sx ux co ck sn da va la ki wa op tu ct (by omega) hbb ih2 hR hl hP hD hS
      · refine lv_tableIn (tgt := 386) hx hb d_Law_law_52 (by decide) (by decide) rfl rfl ?_
        exact law_request l hL hx hb hr hml hown hts hN hlocks hX hbl D cI cO hK aB aM aR aW n wy g ad aX e9 hn2 hn hw0 hw hg S mw wb sl sv iv ug wo li sx ux co ck sn da va la ki wa op tu ct (by omega) hbb ih2 hR hl hP hD hS
      · refine lv_tableIn (tgt := 409) hx hb d_Law_law_52 (by decide) (by decide) rfl rfl ?_
        exact law_buffered l hL hx hb hr hml hown hts hN hlocks hX hbl D cI cO hK aB aM aR aW n wy g ad aX e9 hn2 hn hw0 hw hg S mw wb sl sv iv ug wo li sx ux co ck sn da va la ki wa op tu ct (by omega) hbb ih2 hR hl hP hD hS
      · refine lv_tableIn (tgt := 432) hx hb d_Law_law_52 (by decide) (by decide) rfl rfl ?_
        exact law_state l hL hx hb hr hml hown hts hN hlocks hX hbl D cI cO hK aB aM aR aW n wy g ad aX e9 hn2 hn hw0 hw hg S mw wb sl sv iv ug wo li sx ux co ck sn da va la ki wa op tu ct (by omega) hbb ih2 hR hl hP hD hS
      · refine lv_tableIn (tgt := 465) hx hb d_Law_law_52 (by decide) (by decide) rfl rfl ?_
        exact law_copy l hL hx hb hr hml hown hts hN hlocks hX hbl D cI cO hK aB aM aR aW n wy g ad aX e9 hn2 hn hw0 hw hg S mw wb sl sv iv ug wo li sx ux co ck sn da va la ki wa op tu ct (by omega) hbb ih2 hR hl hP hD hS
      · refine lv_tableIn (tgt := 498) hx hb d_Law_law_52 (by decide) (by decide) rfl rfl ?_
        exact law_memory l hL hx hb hr hml hown hts hN hlocks hX hbl D cI cO hK aB aM aR aW n wy g ad aX e9 hn2 hn hw0 hw hg S mw wb sl sv iv ug wo li sx ux co ck sn da va la ki wa op tu ct (by omega) hbb ih2 hR hl hP hD hS
      · refine lv_tableIn (tgt := 521) hx hb d_Law_law_52 (by decide) (by decide) rfl rfl ?_
        exact law_seen l hL hx hb hr hml hown hts hN hlocks hX hbl D cI cO hK aB aM aR aW n wy g ad aX e9 hn2 hn hw0 hw hg S mw wb sl sv iv ug wo li sx ux co ck sn da va la ki wa op tu ct (by omega) hbb ih2 hR hl hP hD hS
      · refine lv_tableIn (tgt := 544) hx hb d_Law_law_52 (by decide) (by decide) rfl rfl ?_
        exact law_count l hL hx hb hr hml hown hts hN hlocks hX hbl D cI cO hK aB aM aR aW n wy g ad aX e9 hn2 hn hw0 hw hg S mw wb sl sv iv ug wo li sx ux co ck sn da va la ki wa op tu ct (by omega) hbb ih2 hR hl hP hD hS
      · refine lv_tableIn (tgt := 567) hx hb d_Law_law_52 (by decide) (by decide) rfl rfl ?_
        exact law_victim l hL hx hb hr hml hown hts hN hlocks hX hbl D cI cO hK aB aM aR aW n wy g ad aX e9 hn2 hn hw0 hw hg S mw wb sl sv iv ug wo li sx ux co ck sn da va la ki wa op tu ct (by omega) hbb ih2 hR hl hP hD hS
