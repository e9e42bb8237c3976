set_option maxRecDepth 100000 in
set_option maxHeartbeats 4000000 in
theorem m_isAddress_1 (l : Launch) (D : va_G) (cI cO : ClassId) (j : Nat) (hj : j < 32) : mk_M l y_Model_isAddress w_Model_isAddress ({ frames := 0, cells := 0, slots := 0, locals := 0 } : Room) D (tysK cI cO) [.int (nI j)] [] (mk_Qi D (tysK cI cO) (nI 1) []) := by
  refine mk_start (cc := b_Model_isAddress) (maxL := 1) (ret := (some FieldType.boolean)) (by decide) (Nat.le_of_ble_eq_true rfl) (fun pG eG s mG below meth cG A ls H locs hx hb hml hr hlocks hnm hts hN hown hK hP hD hA hl hS => ?_)
  have hl : lv_has ls 1 [(0, .int (nI j))] := hl
  refine lv_iload_n hx hb d_Model_isAddress_0 rfl (lv_at hl 0 rfl) ?_
  refine lv_if_lt (tgt := 14) hx hb d_Model_isAddress_1 rfl (fun h => absurd h (nI_pos (by omega))) (fun _ => ?_)
  refine lv_iload_n hx hb d_Model_isAddress_4 rfl (lv_at hl 0 rfl) ?_
  refine lv_bipush (v := nI 32) hx hb d_Model_isAddress_5 (by decide) ?_
  refine lv_icmp_ge (tgt := 14) hx hb d_Model_isAddress_7 rfl (fun h => absurd h (fun q => absurd ((nI_leI (by omega) (by omega)).mp q) (by omega))) (fun _ => ?_)
  refine lv_iconst (v := nI 1) hx hb d_Model_isAddress_10 (by decide) ?_
  refine lv_goto (tgt := 15) hx hb d_Model_isAddress_11 rfl ?_
  exact mk_zret hx hb hr hlocks hK hP hD hS d_Model_isAddress_15 (by decide) rfl rfl
set_option maxRecDepth 100000 in
set_option maxHeartbeats 4000000 in
theorem m_isAddress_0 (l : Launch) (D : va_G) (cI cO : ClassId) (x : Int32) (hx0 : ¬ vp_in x 32) : mk_M l y_Model_isAddress w_Model_isAddress ({ frames := 0, cells := 0, slots := 0, locals := 0 } : Room) D (tysK cI cO) [.int x] [] (mk_Qi D (tysK cI cO) (nI 0) []) := by
  refine mk_start (cc := b_Model_isAddress) (maxL := 1) (ret := (some FieldType.boolean)) (by decide) (Nat.le_of_ble_eq_true rfl) (fun pG eG s mG below meth cG A ls H locs hx hb hml hr hlocks hnm hts hN hown hK hP hD hA hl hS => ?_)
  have hl : lv_has ls 1 [(0, .int x)] := hl
  refine lv_iload_n hx hb d_Model_isAddress_0 rfl (lv_at hl 0 rfl) ?_
  refine lv_if_lt (tgt := 14) hx hb d_Model_isAddress_1 rfl (fun h1 => ?_) (fun h1 => ?_)
  · refine lv_iconst (v := nI 0) hx hb d_Model_isAddress_14 (by decide) ?_
    exact mk_zret hx hb hr hlocks hK hP hD hS d_Model_isAddress_15 (by decide) rfl rfl
  · refine lv_iload_n hx hb d_Model_isAddress_4 rfl (lv_at hl 0 rfl) ?_
    refine lv_bipush (v := nI 32) hx hb d_Model_isAddress_5 (by decide) ?_
    refine lv_icmp_ge (tgt := 14) hx hb d_Model_isAddress_7 rfl (fun _ => ?_) (fun h => absurd (vp_hi (by decide) hx0 h1) h)
    refine lv_iconst (v := nI 0) hx hb d_Model_isAddress_14 (by decide) ?_
    exact mk_zret hx hb hr hlocks hK hP hD hS d_Model_isAddress_15 (by decide) rfl rfl
set_option maxRecDepth 100000 in
set_option maxHeartbeats 4000000 in
theorem m_isCore_1 (l : Launch) (D : va_G) (cI cO : ClassId) (aX e0 e1 e2 e3 e4 e5 e6 e7 e8 e9 e10 e11 e12 n wy tu : Nat) (ck : Int32) (i : Nat) (hn : n ≤ 4) (hi : i < n) : mk_M l y_Model_isCore w_Model_isCore ({ frames := 0, cells := 0, slots := 0, locals := 0 } : Room) D (tysK cI cO) [.ref aX, .int (nI i)] [(aX, .inr (4, [.int (nI n), .int (nI wy), .ref e0, .ref e1, .ref e2, .ref e3, .ref e4, .int ck, .ref e5, .ref e6, .ref e7, .ref e8, .ref e9, .ref e10, .ref e11, .int (nI tu), .ref e12]))] (mk_Qi D (tysK cI cO) (nI 1) [(aX, .inr (4, [.int (nI n), .int (nI wy), .ref e0, .ref e1, .ref e2, .ref e3, .ref e4, .int ck, .ref e5, .ref e6, .ref e7, .ref e8, .ref e9, .ref e10, .ref e11, .int (nI tu), .ref e12]))]) := by
  refine mk_start (cc := b_Model_isCore) (maxL := 2) (ret := (some FieldType.boolean)) (by decide) (Nat.le_of_ble_eq_true rfl) (fun pG eG s mG below meth cG A ls H locs hx hb hml hr hlocks hnm hts hN hown hK hP hD hA hl hS => ?_)
  have hl : lv_has ls 2 [(0, .ref aX), (1, .int (nI i))] := hl
  refine lv_iload_n hx hb d_Model_isCore_0 rfl (lv_at hl 1 rfl) ?_
  refine lv_if_lt (tgt := 16) hx hb d_Model_isCore_1 rfl (fun h => absurd h (nI_pos (by omega))) (fun _ => ?_)
  refine lv_iload_n hx hb d_Model_isCore_4 rfl (lv_at hl 1 rfl) ?_
  refine lv_aload_n hx hb d_Model_isCore_5 rfl (lv_at hl 0 rfl) ?_
  refine va_get (D := D) (ci := 4) (v := .int (nI n)) (C := R_Model) (T := T_Model) (N := 17) hx hb hts in_Model hown hK hP 0 rfl rfl 0 (by decide) (hts _ iw_243) (fun _ h9 => h9) rfl d_Model_isCore_6 ?_
  refine lv_icmp_ge (tgt := 16) hx hb d_Model_isCore_9 rfl (fun h => absurd h (fun q => absurd ((nI_leI (by omega) (by omega)).mp q) (by omega))) (fun _ => ?_)
  refine lv_iconst (v := nI 1) hx hb d_Model_isCore_12 (by decide) ?_
  refine lv_goto (tgt := 17) hx hb d_Model_isCore_13 rfl ?_
  exact mk_zret hx hb hr hlocks hK hP hD hS d_Model_isCore_17 (by decide) rfl rfl
set_option maxRecDepth 100000 in
set_option maxHeartbeats 4000000 in
theorem m_isCore_0 (l : Launch) (D : va_G) (cI cO : ClassId) (aX e0 e1 e2 e3 e4 e5 e6 e7 e8 e9 e10 e11 e12 n wy tu : Nat) (ck : Int32) (x : Int32) (hn : n ≤ 4) (hx0 : ¬ vp_in x n) : mk_M l y_Model_isCore w_Model_isCore ({ frames := 0, cells := 0, slots := 0, locals := 0 } : Room) D (tysK cI cO) [.ref aX, .int x] [(aX, .inr (4, [.int (nI n), .int (nI wy), .ref e0, .ref e1, .ref e2, .ref e3, .ref e4, .int ck, .ref e5, .ref e6, .ref e7, .ref e8, .ref e9, .ref e10, .ref e11, .int (nI tu), .ref e12]))] (mk_Qi D (tysK cI cO) (nI 0) [(aX, .inr (4, [.int (nI n), .int (nI wy), .ref e0, .ref e1, .ref e2, .ref e3, .ref e4, .int ck, .ref e5, .ref e6, .ref e7, .ref e8, .ref e9, .ref e10, .ref e11, .int (nI tu), .ref e12]))]) := by
  refine mk_start (cc := b_Model_isCore) (maxL := 2) (ret := (some FieldType.boolean)) (by decide) (Nat.le_of_ble_eq_true rfl) (fun pG eG s mG below meth cG A ls H locs hx hb hml hr hlocks hnm hts hN hown hK hP hD hA hl hS => ?_)
  have hl : lv_has ls 2 [(0, .ref aX), (1, .int x)] := hl
  refine lv_iload_n hx hb d_Model_isCore_0 rfl (lv_at hl 1 rfl) ?_
  refine lv_if_lt (tgt := 16) hx hb d_Model_isCore_1 rfl (fun h1 => ?_) (fun h1 => ?_)
  · refine lv_iconst (v := nI 0) hx hb d_Model_isCore_16 (by decide) ?_
    exact mk_zret hx hb hr hlocks hK hP hD hS d_Model_isCore_17 (by decide) rfl rfl
  · refine lv_iload_n hx hb d_Model_isCore_4 rfl (lv_at hl 1 rfl) ?_
    refine lv_aload_n hx hb d_Model_isCore_5 rfl (lv_at hl 0 rfl) ?_
    refine va_get (D := D) (ci := 4) (v := .int (nI n)) (C := R_Model) (T := T_Model) (N := 17) hx hb hts in_Model hown hK hP 0 rfl rfl 0 (by decide) (hts _ iw_243) (fun _ h9 => h9) rfl d_Model_isCore_6 ?_
    refine lv_icmp_ge (tgt := 16) hx hb d_Model_isCore_9 rfl (fun _ => ?_) (fun h => absurd (vp_hi (by omega) hx0 h1) h)
    refine lv_iconst (v := nI 0) hx hb d_Model_isCore_16 (by decide) ?_
    exact mk_zret hx hb hr hlocks hK hP hD hS d_Model_isCore_17 (by decide) rfl rfl
set_option maxRecDepth 100000 in
set_option maxHeartbeats 4000000 in
theorem m_bars_bc (l : Launch) (D : va_G) (cI cO : ClassId) (aX e0 e1 e2 e3 e4 e5 e6 e7 e8 e9 e10 e11 e12 n wy tu : Nat) (ck : Int32) (x y0 : Int32) (hn : n ≤ 4) (hx0 : ¬ vp_in x n) : mk_M l y_Model_bars w_Model_bars ({ frames := 1, cells := 0, slots := 0, locals := 21 } : Room) D (tysK cI cO) [.ref aX, .int x, .int y0] [(aX, .inr (4, [.int (nI n), .int (nI wy), .ref e0, .ref e1, .ref e2, .ref e3, .ref e4, .int ck, .ref e5, .ref e6, .ref e7, .ref e8, .ref e9, .ref e10, .ref e11, .int (nI tu), .ref e12]))] (mk_Qi D (tysK cI cO) (-1) [(aX, .inr (4, [.int (nI n), .int (nI wy), .ref e0, .ref e1, .ref e2, .ref e3, .ref e4, .int ck, .ref e5, .ref e6, .ref e7, .ref e8, .ref e9, .ref e10, .ref e11, .int (nI tu), .ref e12]))]) := by
  refine mk_start (cc := b_Model_bars) (maxL := 3) (ret := (some FieldType.int)) (by decide) (Nat.le_of_ble_eq_true rfl) (fun pG eG s mG below meth cG A ls H locs hx hb hml hr hlocks hnm hts hN hown hK hP hD hA hl hS => ?_)
  have hl : lv_has ls 3 [(0, .ref aX), (1, .int x), (2, .int y0)] := hl
  refine lv_aload_n hx hb d_Model_bars_0 rfl (lv_at hl 0 rfl) ?_
  refine lv_iload_n hx hb d_Model_bars_1 rfl (lv_at hl 1 rfl) ?_
  refine mk_calli (X := [(aX, .inr (4, [.int (nI n), .int (nI wy), .ref e0, .ref e1, .ref e2, .ref e3, .ref e4, .int ck, .ref e5, .ref e6, .ref e7, .ref e8, .ref e9, .ref e10, .ref e11, .int (nI tu), .ref e12]))]) (pl := []) (wc := [(aX, .inr (4, [.int (nI n), .int (nI wy), .ref e0, .ref e1, .ref e2, .ref e3, .ref e4, .int ck, .ref e5, .ref e6, .ref e7, .ref e8, .ref e9, .ref e10, .ref e11, .int (nI tu), .ref e12]))]) (wr := []) (w1 := [(aX, .inr (4, [.int (nI n), .int (nI wy), .ref e0, .ref e1, .ref e2, .ref e3, .ref e4, .int ck, .ref e5, .ref e6, .ref e7, .ref e8, .ref e9, .ref e10, .ref e11, .int (nI tu), .ref e12]))]) (X1 := [(aX, .inr (4, [.int (nI n), .int (nI wy), .ref e0, .ref e1, .ref e2, .ref e3, .ref e4, .int ck, .ref e5, .ref e6, .ref e7, .ref e8, .ref e9, .ref e10, .ref e11, .int (nI tu), .ref e12]))]) hP hD hS hA [0] [] [0] rfl rfl rfl (by decide) (by decide) (by decide)
    (va_runV (b := aX) (As := [.int x]) (rest := []) ⟨hx, hb, hml, hown, hts⟩ (m_isCore_0 l D cI cO aX e0 e1 e2 e3 e4 e5 e6 e7 e8 e9 e10 e11 e12 n wy tu ck x (by first | assumption | omega) (by first | assumption | omega) H.size) ⟨callB_of 1 hts g_Model_isCore rfl rfl rfl (hts _ iw_43) (hts _ iw_256) (by decide +kernel) ⟨by decide, by decide⟩, hts _ iw_259, hts _ iw_260⟩ (mk_preV (X := [(aX, .inr (4, [.int (nI n), .int (nI wy), .ref e0, .ref e1, .ref e2, .ref e3, .ref e4, .int ck, .ref e5, .ref e6, .ref e7, .ref e8, .ref e9, .ref e10, .ref e11, .int (nI tu), .ref e12]))]) (pl := []) hN hK hP hD [0] (by decide) rfl 0 rfl rfl rfl) rfl rfl hl.1 rfl (lv_room (Nat.le_of_ble_eq_true rfl)) d_Model_bars_2 ⟨Nat.le_refl _, Nat.le_refl _⟩) (fun H locs hP hD hS => ?_)
  have hP : va_P D vwCl [(aX, .inr (4, [.int (nI n), .int (nI wy), .ref e0, .ref e1, .ref e2, .ref e3, .ref e4, .int ck, .ref e5, .ref e6, .ref e7, .ref e8, .ref e9, .ref e10, .ref e11, .int (nI tu), .ref e12]))] H := hP
  have hD : va_D A [(aX, .inr (4, [.int (nI n), .int (nI wy), .ref e0, .ref e1, .ref e2, .ref e3, .ref e4, .int ck, .ref e5, .ref e6, .ref e7, .ref e8, .ref e9, .ref e10, .ref e11, .int (nI tu), .ref e12]))] := hD
  refine lv_if_eq (tgt := 15) hx hb d_Model_bars_5 rfl (fun _ => ?_) (fun h => absurd (by decide) h)
  refine lv_iconst (v := (-1)) hx hb d_Model_bars_15 (by decide) ?_
  refine lv_goto (tgt := 34) hx hb d_Model_bars_16 rfl ?_
  exact mk_iret hx hb hr hlocks hK hP hD hS d_Model_bars_34 rfl rfl
set_option maxRecDepth 100000 in
set_option maxHeartbeats 4000000 in
theorem m_bars_ba (l : Launch) (D : va_G) (cI cO : ClassId) (aX e0 e1 e2 e3 e4 e5 e6 e7 e8 e9 e10 e11 e12 n wy tu : Nat) (ck : Int32) (i : Nat) (y0 : Int32) (hn : n ≤ 4) (hi : i < n) (hy0 : ¬ vp_in y0 32) : mk_M l y_Model_bars w_Model_bars ({ frames := 1, cells := 0, slots := 0, locals := 21 } : Room) D (tysK cI cO) [.ref aX, .int (nI i), .int y0] [(aX, .inr (4, [.int (nI n), .int (nI wy), .ref e0, .ref e1, .ref e2, .ref e3, .ref e4, .int ck, .ref e5, .ref e6, .ref e7, .ref e8, .ref e9, .ref e10, .ref e11, .int (nI tu), .ref e12]))] (mk_Qi D (tysK cI cO) (-1) [(aX, .inr (4, [.int (nI n), .int (nI wy), .ref e0, .ref e1, .ref e2, .ref e3, .ref e4, .int ck, .ref e5, .ref e6, .ref e7, .ref e8, .ref e9, .ref e10, .ref e11, .int (nI tu), .ref e12]))]) := by
  refine mk_start (cc := b_Model_bars) (maxL := 3) (ret := (some FieldType.int)) (by decide) (Nat.le_of_ble_eq_true rfl) (fun pG eG s mG below meth cG A ls H locs hx hb hml hr hlocks hnm hts hN hown hK hP hD hA hl hS => ?_)
  have hl : lv_has ls 3 [(0, .ref aX), (1, .int (nI i)), (2, .int y0)] := hl
  refine lv_aload_n hx hb d_Model_bars_0 rfl (lv_at hl 0 rfl) ?_
  refine lv_iload_n hx hb d_Model_bars_1 rfl (lv_at hl 1 rfl) ?_
  refine mk_calli (X := [(aX, .inr (4, [.int (nI n), .int (nI wy), .ref e0, .ref e1, .ref e2, .ref e3, .ref e4, .int ck, .ref e5, .ref e6, .ref e7, .ref e8, .ref e9, .ref e10, .ref e11, .int (nI tu), .ref e12]))]) (pl := []) (wc := [(aX, .inr (4, [.int (nI n), .int (nI wy), .ref e0, .ref e1, .ref e2, .ref e3, .ref e4, .int ck, .ref e5, .ref e6, .ref e7, .ref e8, .ref e9, .ref e10, .ref e11, .int (nI tu), .ref e12]))]) (wr := []) (w1 := [(aX, .inr (4, [.int (nI n), .int (nI wy), .ref e0, .ref e1, .ref e2, .ref e3, .ref e4, .int ck, .ref e5, .ref e6, .ref e7, .ref e8, .ref e9, .ref e10, .ref e11, .int (nI tu), .ref e12]))]) (X1 := [(aX, .inr (4, [.int (nI n), .int (nI wy), .ref e0, .ref e1, .ref e2, .ref e3, .ref e4, .int ck, .ref e5, .ref e6, .ref e7, .ref e8, .ref e9, .ref e10, .ref e11, .int (nI tu), .ref e12]))]) hP hD hS hA [0] [] [0] rfl rfl rfl (by decide) (by decide) (by decide)
    (va_runV (b := aX) (As := [.int (nI i)]) (rest := []) ⟨hx, hb, hml, hown, hts⟩ (m_isCore_1 l D cI cO aX e0 e1 e2 e3 e4 e5 e6 e7 e8 e9 e10 e11 e12 n wy tu ck i (by first | assumption | omega) (by first | assumption | omega) H.size) ⟨callB_of 1 hts g_Model_isCore rfl rfl rfl (hts _ iw_43) (hts _ iw_256) (by decide +kernel) ⟨by decide, by decide⟩, hts _ iw_259, hts _ iw_260⟩ (mk_preV (X := [(aX, .inr (4, [.int (nI n), .int (nI wy), .ref e0, .ref e1, .ref e2, .ref e3, .ref e4, .int ck, .ref e5, .ref e6, .ref e7, .ref e8, .ref e9, .ref e10, .ref e11, .int (nI tu), .ref e12]))]) (pl := []) hN hK hP hD [0] (by decide) rfl 0 rfl rfl rfl) rfl rfl hl.1 rfl (lv_room (Nat.le_of_ble_eq_true rfl)) d_Model_bars_2 ⟨Nat.le_refl _, Nat.le_refl _⟩) (fun H locs hP hD hS => ?_)
  have hP : va_P D vwCl [(aX, .inr (4, [.int (nI n), .int (nI wy), .ref e0, .ref e1, .ref e2, .ref e3, .ref e4, .int ck, .ref e5, .ref e6, .ref e7, .ref e8, .ref e9, .ref e10, .ref e11, .int (nI tu), .ref e12]))] H := hP
  have hD : va_D A [(aX, .inr (4, [.int (nI n), .int (nI wy), .ref e0, .ref e1, .ref e2, .ref e3, .ref e4, .int ck, .ref e5, .ref e6, .ref e7, .ref e8, .ref e9, .ref e10, .ref e11, .int (nI tu), .ref e12]))] := hD
  refine lv_if_eq (tgt := 15) hx hb d_Model_bars_5 rfl (fun h => absurd h (by decide)) (fun _ => ?_)
  refine lv_iload_n hx hb d_Model_bars_8 rfl (lv_at hl 2 rfl) ?_
  refine mk_calli (X := [(aX, .inr (4, [.int (nI n), .int (nI wy), .ref e0, .ref e1, .ref e2, .ref e3, .ref e4, .int ck, .ref e5, .ref e6, .ref e7, .ref e8, .ref e9, .ref e10, .ref e11, .int (nI tu), .ref e12]))]) (pl := []) (wc := []) (wr := [(aX, .inr (4, [.int (nI n), .int (nI wy), .ref e0, .ref e1, .ref e2, .ref e3, .ref e4, .int ck, .ref e5, .ref e6, .ref e7, .ref e8, .ref e9, .ref e10, .ref e11, .int (nI tu), .ref e12]))]) (w1 := []) (X1 := [(aX, .inr (4, [.int (nI n), .int (nI wy), .ref e0, .ref e1, .ref e2, .ref e3, .ref e4, .int ck, .ref e5, .ref e6, .ref e7, .ref e8, .ref e9, .ref e10, .ref e11, .int (nI tu), .ref e12]))]) hP hD hS hA [] [0] [0] rfl rfl rfl (by decide) (by decide) (by decide)
    (va_runS (As := [.int y0]) (rest := []) ⟨hx, hb, hml, hown, hts⟩ (m_isAddress_0 l D cI cO y0 (by first | assumption | omega) H.size) ⟨callB_of 1 hts g_Model_isAddress rfl rfl rfl (hts _ iw_43) (hts _ iw_257) (by decide +kernel) ⟨by decide, by decide⟩, hts _ iw_262⟩ (mk_preS (X := [(aX, .inr (4, [.int (nI n), .int (nI wy), .ref e0, .ref e1, .ref e2, .ref e3, .ref e4, .int ck, .ref e5, .ref e6, .ref e7, .ref e8, .ref e9, .ref e10, .ref e11, .int (nI tu), .ref e12]))]) (pl := []) hN hK hP hD [] (by decide) rfl) rfl rfl hl.1 rfl (lv_room (Nat.le_of_ble_eq_true rfl)) d_Model_bars_9 ⟨Nat.le_refl _, Nat.le_refl _⟩) (fun H locs hP hD hS => ?_)
  have hP : va_P D vwCl [(aX, .inr (4, [.int (nI n), .int (nI wy), .ref e0, .ref e1, .ref e2, .ref e3, .ref e4, .int ck, .ref e5, .ref e6, .ref e7, .ref e8, .ref e9, .ref e10, .ref e11, .int (nI tu), .ref e12]))] H := hP
  have hD : va_D A [(aX, .inr (4, [.int (nI n), .int (nI wy), .ref e0, .ref e1, .ref e2, .ref e3, .ref e4, .int ck, .ref e5, .ref e6, .ref e7, .ref e8, .ref e9, .ref e10, .ref e11, .int (nI tu), .ref e12]))] := hD
  refine lv_if_ne (tgt := 19) hx hb d_Model_bars_12 rfl (fun h => absurd (by decide) h) (fun _ => ?_)
  refine lv_iconst (v := (-1)) hx hb d_Model_bars_15 (by decide) ?_
  refine lv_goto (tgt := 34) hx hb d_Model_bars_16 rfl ?_
  exact mk_iret hx hb hr hlocks hK hP hD hS d_Model_bars_34 rfl rfl
set_option maxRecDepth 100000 in
set_option maxHeartbeats 4000000 in
theorem m_bars_busy (l : Launch) (D : va_G) (cI cO : ClassId) (aX e0 e1 e2 e3 e4 e5 e6 e7 e8 e9 e10 e11 e12 n wy tu : Nat) (ck : Int32) (i j : Nat) (ki : Nat → Int32) (hn : n ≤ 4) (hi : i < n) (hj : j < 32) (hb1 : ¬ ki i ≤ 0) : mk_M l y_Model_bars w_Model_bars ({ frames := 1, cells := 0, slots := 0, locals := 21 } : Room) D (tysK cI cO) [.ref aX, .int (nI i), .int (nI j)] [(aX, .inr (4, [.int (nI n), .int (nI wy), .ref e0, .ref e1, .ref e2, .ref e3, .ref e4, .int ck, .ref e5, .ref e6, .ref e7, .ref e8, .ref e9, .ref e10, .ref e11, .int (nI tu), .ref e12])), (e9, .inl (cI, 4, .inl ki))] (mk_Qi D (tysK cI cO) (-2) [(aX, .inr (4, [.int (nI n), .int (nI wy), .ref e0, .ref e1, .ref e2, .ref e3, .ref e4, .int ck, .ref e5, .ref e6, .ref e7, .ref e8, .ref e9, .ref e10, .ref e11, .int (nI tu), .ref e12])), (e9, .inl (cI, 4, .inl ki))]) := by
  refine mk_start (cc := b_Model_bars) (maxL := 3) (ret := (some FieldType.int)) (by decide) (Nat.le_of_ble_eq_true rfl) (fun pG eG s mG below meth cG A ls H locs hx hb hml hr hlocks hnm hts hN hown hK hP hD hA hl hS => ?_)
  have hl : lv_has ls 3 [(0, .ref aX), (1, .int (nI i)), (2, .int (nI j))] := hl
  refine lv_aload_n hx hb d_Model_bars_0 rfl (lv_at hl 0 rfl) ?_
  refine lv_iload_n hx hb d_Model_bars_1 rfl (lv_at hl 1 rfl) ?_
  refine mk_calli (X := [(aX, .inr (4, [.int (nI n), .int (nI wy), .ref e0, .ref e1, .ref e2, .ref e3, .ref e4, .int ck, .ref e5, .ref e6, .ref e7, .ref e8, .ref e9, .ref e10, .ref e11, .int (nI tu), .ref e12])), (e9, .inl (cI, 4, .inl ki))]) (pl := []) (wc := [(aX, .inr (4, [.int (nI n), .int (nI wy), .ref e0, .ref e1, .ref e2, .ref e3, .ref e4, .int ck, .ref e5, .ref e6, .ref e7, .ref e8, .ref e9, .ref e10, .ref e11, .int (nI tu), .ref e12]))]) (wr := [(e9, .inl (cI, 4, .inl ki))]) (w1 := [(aX, .inr (4, [.int (nI n), .int (nI wy), .ref e0, .ref e1, .ref e2, .ref e3, .ref e4, .int ck, .ref e5, .ref e6, .ref e7, .ref e8, .ref e9, .ref e10, .ref e11, .int (nI tu), .ref e12]))]) (X1 := [(aX, .inr (4, [.int (nI n), .int (nI wy), .ref e0, .ref e1, .ref e2, .ref e3, .ref e4, .int ck, .ref e5, .ref e6, .ref e7, .ref e8, .ref e9, .ref e10, .ref e11, .int (nI tu), .ref e12])), (e9, .inl (cI, 4, .inl ki))]) hP hD hS hA [0] [1] [1, 0] rfl rfl rfl (by decide) (by decide) (by decide)
    (va_runV (b := aX) (As := [.int (nI i)]) (rest := []) ⟨hx, hb, hml, hown, hts⟩ (m_isCore_1 l D cI cO aX e0 e1 e2 e3 e4 e5 e6 e7 e8 e9 e10 e11 e12 n wy tu ck i (by first | assumption | omega) (by first | assumption | omega) H.size) ⟨callB_of 1 hts g_Model_isCore rfl rfl rfl (hts _ iw_43) (hts _ iw_256) (by decide +kernel) ⟨by decide, by decide⟩, hts _ iw_259, hts _ iw_260⟩ (mk_preV (X := [(aX, .inr (4, [.int (nI n), .int (nI wy), .ref e0, .ref e1, .ref e2, .ref e3, .ref e4, .int ck, .ref e5, .ref e6, .ref e7, .ref e8, .ref e9, .ref e10, .ref e11, .int (nI tu), .ref e12])), (e9, .inl (cI, 4, .inl ki))]) (pl := []) hN hK hP hD [0] (by decide) rfl 0 rfl rfl rfl) rfl rfl hl.1 rfl (lv_room (Nat.le_of_ble_eq_true rfl)) d_Model_bars_2 ⟨Nat.le_refl _, Nat.le_refl _⟩) (fun H locs hP hD hS => ?_)
  have hP : va_P D vwCl [(aX, .inr (4, [.int (nI n), .int (nI wy), .ref e0, .ref e1, .ref e2, .ref e3, .ref e4, .int ck, .ref e5, .ref e6, .ref e7, .ref e8, .ref e9, .ref e10, .ref e11, .int (nI tu), .ref e12])), (e9, .inl (cI, 4, .inl ki))] H := hP
  have hD : va_D A [(aX, .inr (4, [.int (nI n), .int (nI wy), .ref e0, .ref e1, .ref e2, .ref e3, .ref e4, .int ck, .ref e5, .ref e6, .ref e7, .ref e8, .ref e9, .ref e10, .ref e11, .int (nI tu), .ref e12])), (e9, .inl (cI, 4, .inl ki))] := hD
  refine lv_if_eq (tgt := 15) hx hb d_Model_bars_5 rfl (fun h => absurd h (by decide)) (fun _ => ?_)
  refine lv_iload_n hx hb d_Model_bars_8 rfl (lv_at hl 2 rfl) ?_
  refine mk_calli (X := [(aX, .inr (4, [.int (nI n), .int (nI wy), .ref e0, .ref e1, .ref e2, .ref e3, .ref e4, .int ck, .ref e5, .ref e6, .ref e7, .ref e8, .ref e9, .ref e10, .ref e11, .int (nI tu), .ref e12])), (e9, .inl (cI, 4, .inl ki))]) (pl := []) (wc := []) (wr := [(aX, .inr (4, [.int (nI n), .int (nI wy), .ref e0, .ref e1, .ref e2, .ref e3, .ref e4, .int ck, .ref e5, .ref e6, .ref e7, .ref e8, .ref e9, .ref e10, .ref e11, .int (nI tu), .ref e12])), (e9, .inl (cI, 4, .inl ki))]) (w1 := []) (X1 := [(aX, .inr (4, [.int (nI n), .int (nI wy), .ref e0, .ref e1, .ref e2, .ref e3, .ref e4, .int ck, .ref e5, .ref e6, .ref e7, .ref e8, .ref e9, .ref e10, .ref e11, .int (nI tu), .ref e12])), (e9, .inl (cI, 4, .inl ki))]) hP hD hS hA [] [0, 1] [0, 1] rfl rfl rfl (by decide) (by decide) (by decide)
    (va_runS (As := [.int (nI j)]) (rest := []) ⟨hx, hb, hml, hown, hts⟩ (m_isAddress_1 l D cI cO j (by first | assumption | omega) H.size) ⟨callB_of 1 hts g_Model_isAddress rfl rfl rfl (hts _ iw_43) (hts _ iw_257) (by decide +kernel) ⟨by decide, by decide⟩, hts _ iw_262⟩ (mk_preS (X := [(aX, .inr (4, [.int (nI n), .int (nI wy), .ref e0, .ref e1, .ref e2, .ref e3, .ref e4, .int ck, .ref e5, .ref e6, .ref e7, .ref e8, .ref e9, .ref e10, .ref e11, .int (nI tu), .ref e12])), (e9, .inl (cI, 4, .inl ki))]) (pl := []) hN hK hP hD [] (by decide) rfl) rfl rfl hl.1 rfl (lv_room (Nat.le_of_ble_eq_true rfl)) d_Model_bars_9 ⟨Nat.le_refl _, Nat.le_refl _⟩) (fun H locs hP hD hS => ?_)
  have hP : va_P D vwCl [(aX, .inr (4, [.int (nI n), .int (nI wy), .ref e0, .ref e1, .ref e2, .ref e3, .ref e4, .int ck, .ref e5, .ref e6, .ref e7, .ref e8, .ref e9, .ref e10, .ref e11, .int (nI tu), .ref e12])), (e9, .inl (cI, 4, .inl ki))] H := hP
  have hD : va_D A [(aX, .inr (4, [.int (nI n), .int (nI wy), .ref e0, .ref e1, .ref e2, .ref e3, .ref e4, .int ck, .ref e5, .ref e6, .ref e7, .ref e8, .ref e9, .ref e10, .ref e11, .int (nI tu), .ref e12])), (e9, .inl (cI, 4, .inl ki))] := hD
  refine lv_if_ne (tgt := 19) hx hb d_Model_bars_12 rfl (fun _ => ?_) (fun h => absurd h (by decide))
  refine lv_aload_n hx hb d_Model_bars_19 rfl (lv_at hl 0 rfl) ?_
  refine va_get (D := D) (ci := 4) (v := .ref e9) (C := R_Model) (T := T_Model) (N := 17) hx hb hts in_Model hown hK hP 0 rfl rfl 12 (by decide) (hts _ iw_239) (fun _ h9 => h9) rfl d_Model_bars_20 ?_
  refine lv_iload_n hx hb d_Model_bars_23 rfl (lv_at hl 1 rfl) ?_
  refine mk_iald hx hb hK hP 1 0 rfl rfl (j := i) (by omega) (by decide) d_Model_bars_24 ?_
  refine lv_if_le (tgt := 33) hx hb d_Model_bars_25 rfl (fun h => absurd h hb1) (fun _ => ?_)
  refine lv_bipush (v := (-2)) hx hb d_Model_bars_28 (by decide) ?_
  refine lv_goto (tgt := 34) hx hb d_Model_bars_30 rfl ?_
  exact mk_iret hx hb hr hlocks hK hP hD hS d_Model_bars_34 rfl rfl
set_option maxRecDepth 100000 in
set_option maxHeartbeats 4000000 in
theorem m_bars_free (l : Launch) (D : va_G) (cI cO : ClassId) (aX e0 e1 e2 e3 e4 e5 e6 e7 e8 e9 e10 e11 e12 n wy tu : Nat) (ck : Int32) (i j : Nat) (ki : Nat → Int32) (hn : n ≤ 4) (hi : i < n) (hj : j < 32) (hb1 : ki i = 0) : mk_M l y_Model_bars w_Model_bars ({ frames := 1, cells := 0, slots := 0, locals := 21 } : Room) D (tysK cI cO) [.ref aX, .int (nI i), .int (nI j)] [(aX, .inr (4, [.int (nI n), .int (nI wy), .ref e0, .ref e1, .ref e2, .ref e3, .ref e4, .int ck, .ref e5, .ref e6, .ref e7, .ref e8, .ref e9, .ref e10, .ref e11, .int (nI tu), .ref e12])), (e9, .inl (cI, 4, .inl ki))] (mk_Qi D (tysK cI cO) (nI 0) [(aX, .inr (4, [.int (nI n), .int (nI wy), .ref e0, .ref e1, .ref e2, .ref e3, .ref e4, .int ck, .ref e5, .ref e6, .ref e7, .ref e8, .ref e9, .ref e10, .ref e11, .int (nI tu), .ref e12])), (e9, .inl (cI, 4, .inl ki))]) := by
  refine mk_start (cc := b_Model_bars) (maxL := 3) (ret := (some FieldType.int)) (by decide) (Nat.le_of_ble_eq_true rfl) (fun pG eG s mG below meth cG A ls H locs hx hb hml hr hlocks hnm hts hN hown hK hP hD hA hl hS => ?_)
  have hl : lv_has ls 3 [(0, .ref aX), (1, .int (nI i)), (2, .int (nI j))] := hl
  refine lv_aload_n hx hb d_Model_bars_0 rfl (lv_at hl 0 rfl) ?_
  refine lv_iload_n hx hb d_Model_bars_1 rfl (lv_at hl 1 rfl) ?_
  refine mk_calli (X := [(aX, .inr (4, [.int (nI n), .int (nI wy), .ref e0, .ref e1, .ref e2, .ref e3, .ref e4, .int ck, .ref e5, .ref e6, .ref e7, .ref e8, .ref e9, .ref e10, .ref e11, .int (nI tu), .ref e12])), (e9, .inl (cI, 4, .inl ki))]) (pl := []) (wc := [(aX, .inr (4, [.int (nI n), .int (nI wy), .ref e0, .ref e1, .ref e2, .ref e3, .ref e4, .int ck, .ref e5, .ref e6, .ref e7, .ref e8, .ref e9, .ref e10, .ref e11, .int (nI tu), .ref e12]))]) (wr := [(e9, .inl (cI, 4, .inl ki))]) (w1 := [(aX, .inr (4, [.int (nI n), .int (nI wy), .ref e0, .ref e1, .ref e2, .ref e3, .ref e4, .int ck, .ref e5, .ref e6, .ref e7, .ref e8, .ref e9, .ref e10, .ref e11, .int (nI tu), .ref e12]))]) (X1 := [(aX, .inr (4, [.int (nI n), .int (nI wy), .ref e0, .ref e1, .ref e2, .ref e3, .ref e4, .int ck, .ref e5, .ref e6, .ref e7, .ref e8, .ref e9, .ref e10, .ref e11, .int (nI tu), .ref e12])), (e9, .inl (cI, 4, .inl ki))]) hP hD hS hA [0] [1] [1, 0] rfl rfl rfl (by decide) (by decide) (by decide)
    (va_runV (b := aX) (As := [.int (nI i)]) (rest := []) ⟨hx, hb, hml, hown, hts⟩ (m_isCore_1 l D cI cO aX e0 e1 e2 e3 e4 e5 e6 e7 e8 e9 e10 e11 e12 n wy tu ck i (by first | assumption | omega) (by first | assumption | omega) H.size) ⟨callB_of 1 hts g_Model_isCore rfl rfl rfl (hts _ iw_43) (hts _ iw_256) (by decide +kernel) ⟨by decide, by decide⟩, hts _ iw_259, hts _ iw_260⟩ (mk_preV (X := [(aX, .inr (4, [.int (nI n), .int (nI wy), .ref e0, .ref e1, .ref e2, .ref e3, .ref e4, .int ck, .ref e5, .ref e6, .ref e7, .ref e8, .ref e9, .ref e10, .ref e11, .int (nI tu), .ref e12])), (e9, .inl (cI, 4, .inl ki))]) (pl := []) hN hK hP hD [0] (by decide) rfl 0 rfl rfl rfl) rfl rfl hl.1 rfl (lv_room (Nat.le_of_ble_eq_true rfl)) d_Model_bars_2 ⟨Nat.le_refl _, Nat.le_refl _⟩) (fun H locs hP hD hS => ?_)
  have hP : va_P D vwCl [(aX, .inr (4, [.int (nI n), .int (nI wy), .ref e0, .ref e1, .ref e2, .ref e3, .ref e4, .int ck, .ref e5, .ref e6, .ref e7, .ref e8, .ref e9, .ref e10, .ref e11, .int (nI tu), .ref e12])), (e9, .inl (cI, 4, .inl ki))] H := hP
  have hD : va_D A [(aX, .inr (4, [.int (nI n), .int (nI wy), .ref e0, .ref e1, .ref e2, .ref e3, .ref e4, .int ck, .ref e5, .ref e6, .ref e7, .ref e8, .ref e9, .ref e10, .ref e11, .int (nI tu), .ref e12])), (e9, .inl (cI, 4, .inl ki))] := hD
  refine lv_if_eq (tgt := 15) hx hb d_Model_bars_5 rfl (fun h => absurd h (by decide)) (fun _ => ?_)
  refine lv_iload_n hx hb d_Model_bars_8 rfl (lv_at hl 2 rfl) ?_
  refine mk_calli (X := [(aX, .inr (4, [.int (nI n), .int (nI wy), .ref e0, .ref e1, .ref e2, .ref e3, .ref e4, .int ck, .ref e5, .ref e6, .ref e7, .ref e8, .ref e9, .ref e10, .ref e11, .int (nI tu), .ref e12])), (e9, .inl (cI, 4, .inl ki))]) (pl := []) (wc := []) (wr := [(aX, .inr (4, [.int (nI n), .int (nI wy), .ref e0, .ref e1, .ref e2, .ref e3, .ref e4, .int ck, .ref e5, .ref e6, .ref e7, .ref e8, .ref e9, .ref e10, .ref e11, .int (nI tu), .ref e12])), (e9, .inl (cI, 4, .inl ki))]) (w1 := []) (X1 := [(aX, .inr (4, [.int (nI n), .int (nI wy), .ref e0, .ref e1, .ref e2, .ref e3, .ref e4, .int ck, .ref e5, .ref e6, .ref e7, .ref e8, .ref e9, .ref e10, .ref e11, .int (nI tu), .ref e12])), (e9, .inl (cI, 4, .inl ki))]) hP hD hS hA [] [0, 1] [0, 1] rfl rfl rfl (by decide) (by decide) (by decide)
    (va_runS (As := [.int (nI j)]) (rest := []) ⟨hx, hb, hml, hown, hts⟩ (m_isAddress_1 l D cI cO j (by first | assumption | omega) H.size) ⟨callB_of 1 hts g_Model_isAddress rfl rfl rfl (hts _ iw_43) (hts _ iw_257) (by decide +kernel) ⟨by decide, by decide⟩, hts _ iw_262⟩ (mk_preS (X := [(aX, .inr (4, [.int (nI n), .int (nI wy), .ref e0, .ref e1, .ref e2, .ref e3, .ref e4, .int ck, .ref e5, .ref e6, .ref e7, .ref e8, .ref e9, .ref e10, .ref e11, .int (nI tu), .ref e12])), (e9, .inl (cI, 4, .inl ki))]) (pl := []) hN hK hP hD [] (by decide) rfl) rfl rfl hl.1 rfl (lv_room (Nat.le_of_ble_eq_true rfl)) d_Model_bars_9 ⟨Nat.le_refl _, Nat.le_refl _⟩) (fun H locs hP hD hS => ?_)
  have hP : va_P D vwCl [(aX, .inr (4, [.int (nI n), .int (nI wy), .ref e0, .ref e1, .ref e2, .ref e3, .ref e4, .int ck, .ref e5, .ref e6, .ref e7, .ref e8, .ref e9, .ref e10, .ref e11, .int (nI tu), .ref e12])), (e9, .inl (cI, 4, .inl ki))] H := hP
  have hD : va_D A [(aX, .inr (4, [.int (nI n), .int (nI wy), .ref e0, .ref e1, .ref e2, .ref e3, .ref e4, .int ck, .ref e5, .ref e6, .ref e7, .ref e8, .ref e9, .ref e10, .ref e11, .int (nI tu), .ref e12])), (e9, .inl (cI, 4, .inl ki))] := hD
  refine lv_if_ne (tgt := 19) hx hb d_Model_bars_12 rfl (fun _ => ?_) (fun h => absurd h (by decide))
  refine lv_aload_n hx hb d_Model_bars_19 rfl (lv_at hl 0 rfl) ?_
  refine va_get (D := D) (ci := 4) (v := .ref e9) (C := R_Model) (T := T_Model) (N := 17) hx hb hts in_Model hown hK hP 0 rfl rfl 12 (by decide) (hts _ iw_239) (fun _ h9 => h9) rfl d_Model_bars_20 ?_
  refine lv_iload_n hx hb d_Model_bars_23 rfl (lv_at hl 1 rfl) ?_
  refine mk_iald hx hb hK hP 1 0 rfl rfl (j := i) (by omega) (by decide) d_Model_bars_24 ?_
  refine lv_if_le (tgt := 33) hx hb d_Model_bars_25 rfl (fun _ => ?_) (fun h => absurd (by rw [hb1]; decide) h)
  refine lv_iconst (v := nI 0) hx hb d_Model_bars_33 (by decide) ?_
  exact mk_iret hx hb hr hlocks hK hP hD hS d_Model_bars_34 rfl rfl
set_option maxRecDepth 100000 in
set_option maxHeartbeats 4000000 in
theorem m_find (l : Launch) (D : va_G) (cI cO : ClassId) (aX e0 e1 e2 e3 e4 e5 e6 e7 e8 e9 e10 e11 e12 n wy tu : Nat) (ck : Int32) (i : Nat) (x : Int32) (sx li : Nat → Int32) (hi4 : i < 4) : mk_M l y_Model_find w_Model_find ({ frames := 0, cells := 0, slots := 0, locals := 0 } : Room) D (tysK cI cO) [.ref aX, .int (nI i), .int x] [(aX, .inr (4, [.int (nI n), .int (nI wy), .ref e0, .ref e1, .ref e2, .ref e3, .ref e4, .int ck, .ref e5, .ref e6, .ref e7, .ref e8, .ref e9, .ref e10, .ref e11, .int (nI tu), .ref e12])), (e2, .inl (cI, 24, .inl sx)), (e1, .inl (cI, 24, .inl li))] (mk_Qi D (tysK cI cO) (cl_on (mf sx li i x 6)) [(aX, .inr (4, [.int (nI n), .int (nI wy), .ref e0, .ref e1, .ref e2, .ref e3, .ref e4, .int ck, .ref e5, .ref e6, .ref e7, .ref e8, .ref e9, .ref e10, .ref e11, .int (nI tu), .ref e12])), (e2, .inl (cI, 24, .inl sx)), (e1, .inl (cI, 24, .inl li))]) := by
  refine mk_start (cc := b_Model_find) (maxL := 5) (ret := (some FieldType.int)) (by decide) (Nat.le_of_ble_eq_true rfl) (fun pG eG s mG below meth cG A ls H locs hx hb hml hr hlocks hnm hts hN hown hK hP hD hA hl hS => ?_)
  have hl : lv_has ls 5 [(0, .ref aX), (1, .int (nI i)), (2, .int x)] := hl
  refine lv_iconst (v := (-1)) hx hb d_Model_find_0 (by decide) ?_
  refine lv_istore_n hx hb d_Model_find_1 rfl hl (by decide) rfl (fun ls hl => ?_)
  have hl : lv_has ls 5 [(3, .int (-1)), (0, .ref aX), (1, .int (nI i)), (2, .int x)] := hl
  refine lv_bipush (v := nI 6) hx hb d_Model_find_2 (by decide) ?_
  refine lv_iload_n hx hb d_Model_find_4 rfl (lv_at hl 2 rfl) ?_
  refine lv_imul hx hb d_Model_find_5 ?_
  refine mk_top (show _ = nI (6 * i) from pk_mul _ _) ?_
  refine lv_istore hx hb d_Model_find_6 hl (by decide) rfl (fun ls hl => ?_)
  have hl : lv_has ls 5 [(4, .int (nI (6 * i))), (3, .int (-1)), (0, .ref aX), (1, .int (nI i)), (2, .int x)] := hl
  have loop : ∀ (fu t : Nat) (ls : Array Slot) (H : Heap) (locs : List Loc), t + fu = 6 → lv_has ls 5 [(0, .ref aX), (1, .int (nI i)), (2, .int x), (3, .int (cl_on (mf sx li i x t))), (4, .int (nI (6 * i + t)))] → va_P D vwCl [(aX, .inr (4, [.int (nI n), .int (nI wy), .ref e0, .ref e1, .ref e2, .ref e3, .ref e4, .int ck, .ref e5, .ref e6, .ref e7, .ref e8, .ref e9, .ref e10, .ref e11, .int (nI tu), .ref e12])), (e2, .inl (cI, 24, .inl sx)), (e1, .inl (cI, 24, .inl li))] H → va_D A [(aX, .inr (4, [.int (nI n), .int (nI wy), .ref e0, .ref e1, .ref e2, .ref e3, .ref e4, .int ck, .ref e5, .ref e6, .ref e7, .ref e8, .ref e9, .ref e10, .ref e11, .int (nI tu), .ref e12])), (e2, .inl (cI, 24, .inl sx)), (e1, .inl (cI, 24, .inl li))] → va_S A s.heap H locs → W pG l eG ({ frames := 0, cells := 0, slots := 0, locals := 0 } : Room) s mG [.ref aX, .int (nI i), .int x].toArray below meth cG H locs 0 0 (MQ below (mk_Qi D (tysK cI cO) (cl_on (mf sx li i x 6)) [(aX, .inr (4, [.int (nI n), .int (nI wy), .ref e0, .ref e1, .ref e2, .ref e3, .ref e4, .int ck, .ref e5, .ref e6, .ref e7, .ref e8, .ref e9, .ref e10, .ref e11, .int (nI tu), .ref e12])), (e2, .inl (cI, 24, .inl sx)), (e1, .inl (cI, 24, .inl li))] A) [.ref aX, .int (nI i), .int x].toArray s 0 0 A) (F0 mG 8 ls []) := by
    intro fu
    induction fu with
    | zero =>
      intro t ls H locs  ht  hl hP hD hS
      have ht1 : 6 = t := by omega
      subst ht1
      refine lv_iload hx hb d_Model_find_8 (lv_at hl 4 rfl) ?_
      refine lv_bipush (v := nI 6) hx hb d_Model_find_10 (by decide) ?_
      refine lv_iload_n hx hb d_Model_find_12 rfl (lv_at hl 1 rfl) ?_
      refine lv_imul hx hb d_Model_find_13 ?_
      refine mk_top (show _ = nI (6 * i) from pk_mul _ _) ?_
      refine lv_bipush (v := nI 6) hx hb d_Model_find_14 (by decide) ?_
      refine lv_iadd hx hb d_Model_find_16 ?_
      refine mk_top (show _ = nI ((6 * i) + 6) from nI_add _ _) ?_
      refine lv_icmp_ge (tgt := 54) hx hb d_Model_find_17 rfl (fun _ => ?_) (fun h => absurd ((nI_leI (by omega) (by omega)).mpr (by omega)) h)
      refine lv_iload_n hx hb d_Model_find_54 rfl (lv_at hl 3 rfl) ?_
      exact mk_iret hx hb hr hlocks hK hP hD hS d_Model_find_55 rfl rfl
    | succ fu ih =>
      intro t ls H locs  ht  hl hP hD hS
      have ht0 : t < 6 := by omega
      refine lv_iload hx hb d_Model_find_8 (lv_at hl 4 rfl) ?_
      refine lv_bipush (v := nI 6) hx hb d_Model_find_10 (by decide) ?_
      refine lv_iload_n hx hb d_Model_find_12 rfl (lv_at hl 1 rfl) ?_
      refine lv_imul hx hb d_Model_find_13 ?_
      refine mk_top (show _ = nI (6 * i) from pk_mul _ _) ?_
      refine lv_bipush (v := nI 6) hx hb d_Model_find_14 (by decide) ?_
      refine lv_iadd hx hb d_Model_find_16 ?_
      refine mk_top (show _ = nI ((6 * i) + 6) from nI_add _ _) ?_
      refine lv_icmp_ge (tgt := 54) hx hb d_Model_find_17 rfl (fun h => absurd h (fun q => absurd ((nI_leI (by omega) (by omega)).mp q) (by omega))) (fun _ => ?_)
      refine lv_aload_n hx hb d_Model_find_20 rfl (lv_at hl 0 rfl) ?_
      refine va_get (D := D) (ci := 4) (v := .ref e2) (C := R_Model) (T := T_Model) (N := 17) hx hb hts in_Model hown hK hP 0 rfl rfl 4 (by decide) (hts _ iw_232) (fun _ h9 => h9) rfl d_Model_find_21 ?_
      refine lv_iload hx hb d_Model_find_24 (lv_at hl 4 rfl) ?_
      refine mk_iald hx hb hK hP 1 0 rfl rfl (j := 6 * i + t) (by omega) (by decide) d_Model_find_26 ?_
      refine lv_if_eq (tgt := 46) hx hb d_Model_find_27 rfl (fun h27 => ?_) (fun h27 => ?_)
      · refine lv_iload_n hx hb d_Model_find_46 rfl (lv_at hl 3 rfl) ?_
        refine lv_istore_n hx hb d_Model_find_47 rfl hl (by decide) rfl (fun ls hl => ?_)
        have hl : lv_has ls 5 [(3, .int (cl_on (mf sx li i x t))), (0, .ref aX), (1, .int (nI i)), (2, .int x), (4, .int (nI (6 * i + t)))] := hl
        refine lv_iinc (k := 4) (v := nI ((6 * i + t) + 1)) hx hb d_Model_find_48 hl rfl (nI_1 _) (by decide) rfl (fun ls hl => ?_)
        have hl : lv_has ls 5 [(4, .int (nI ((6 * i + t) + 1))), (3, .int (cl_on (mf sx li i x t))), (0, .ref aX), (1, .int (nI i)), (2, .int x)] := hl
        refine lv_goto (tgt := 8) hx hb d_Model_find_51 rfl ?_
        refine ih (t + 1) ls H locs (by omega) ?_ ?_ ?_ hS
        · rw [mf, if_pos h27, show 6 * i + (t + 1) = 6 * i + t + 1 by omega]; exact lv_sub hl [2, 3, 4, 1, 0] rfl
        · exact hP
        · exact hD
      · refine lv_aload_n hx hb d_Model_find_30 rfl (lv_at hl 0 rfl) ?_
        refine va_get (D := D) (ci := 4) (v := .ref e1) (C := R_Model) (T := T_Model) (N := 17) hx hb hts in_Model hown hK hP 0 rfl rfl 3 (by decide) (hts _ iw_231) (fun _ h9 => h9) rfl d_Model_find_31 ?_
        refine lv_iload hx hb d_Model_find_34 (lv_at hl 4 rfl) ?_
        refine mk_iald hx hb hK hP 2 0 rfl rfl (j := 6 * i + t) (by omega) (by decide) d_Model_find_36 ?_
        refine lv_iload_n hx hb d_Model_find_37 rfl (lv_at hl 2 rfl) ?_
        refine lv_icmp_ne (tgt := 46) hx hb d_Model_find_38 rfl (fun h38 => ?_) (fun h38 => ?_)
        · refine lv_iload_n hx hb d_Model_find_46 rfl (lv_at hl 3 rfl) ?_
          refine lv_istore_n hx hb d_Model_find_47 rfl hl (by decide) rfl (fun ls hl => ?_)
          have hl : lv_has ls 5 [(3, .int (cl_on (mf sx li i x t))), (0, .ref aX), (1, .int (nI i)), (2, .int x), (4, .int (nI (6 * i + t)))] := hl
          refine lv_iinc (k := 4) (v := nI ((6 * i + t) + 1)) hx hb d_Model_find_48 hl rfl (nI_1 _) (by decide) rfl (fun ls hl => ?_)
          have hl : lv_has ls 5 [(4, .int (nI ((6 * i + t) + 1))), (3, .int (cl_on (mf sx li i x t))), (0, .ref aX), (1, .int (nI i)), (2, .int x)] := hl
          refine lv_goto (tgt := 8) hx hb d_Model_find_51 rfl ?_
          refine ih (t + 1) ls H locs (by omega) ?_ ?_ ?_ hS
          · rw [mf, if_neg h27, if_neg h38, show 6 * i + (t + 1) = 6 * i + t + 1 by omega]; exact lv_sub hl [2, 3, 4, 1, 0] rfl
          · exact hP
          · exact hD
        · refine lv_iload hx hb d_Model_find_41 (lv_at hl 4 rfl) ?_
          refine lv_goto (tgt := 47) hx hb d_Model_find_43 rfl ?_
          refine lv_istore_n hx hb d_Model_find_47 rfl hl (by decide) rfl (fun ls hl => ?_)
          have hl : lv_has ls 5 [(3, .int (nI (6 * i + t))), (0, .ref aX), (1, .int (nI i)), (2, .int x), (4, .int (nI (6 * i + t)))] := hl
          refine lv_iinc (k := 4) (v := nI ((6 * i + t) + 1)) hx hb d_Model_find_48 hl rfl (nI_1 _) (by decide) rfl (fun ls hl => ?_)
          have hl : lv_has ls 5 [(4, .int (nI ((6 * i + t) + 1))), (3, .int (nI (6 * i + t))), (0, .ref aX), (1, .int (nI i)), (2, .int x)] := hl
          refine lv_goto (tgt := 8) hx hb d_Model_find_51 rfl ?_
          refine ih (t + 1) ls H locs (by omega) ?_ ?_ ?_ hS
          · rw [mf, if_neg h27, if_pos h38, show 6 * i + (t + 1) = 6 * i + t + 1 by omega]; exact lv_sub hl [2, 3, 4, 1, 0] rfl
          · exact hP
          · exact hD
  exact loop 6 0 ls H locs (by omega) (lv_sub hl [2, 3, 4, 1, 0] rfl) hP hD hS
set_option maxRecDepth 100000 in
set_option maxHeartbeats 4000000 in
theorem m_use (l : Launch) (D : va_G) (cI cO : ClassId) (aX e0 e1 e2 e3 e4 e5 e6 e7 e8 e9 e10 e11 e12 n wy tu : Nat) (ck : Int32) (p : Nat) (ux : Nat → Int32) (hp : p < 24) : mk_M l y_Model_use w_Model_use ({ frames := 0, cells := 0, slots := 0, locals := 0 } : Room) D (tysK cI cO) [.ref aX, .int (nI p)] [(aX, .inr (4, [.int (nI n), .int (nI wy), .ref e0, .ref e1, .ref e2, .ref e3, .ref e4, .int ck, .ref e5, .ref e6, .ref e7, .ref e8, .ref e9, .ref e10, .ref e11, .int (nI tu), .ref e12])), (e3, .inl (cI, 24, .inl ux))] (mk_Qv D (tysK cI cO) [(aX, .inr (4, [.int (nI n), .int (nI wy), .ref e0, .ref e1, .ref e2, .ref e3, .ref e4, .int (ck + nI 1), .ref e5, .ref e6, .ref e7, .ref e8, .ref e9, .ref e10, .ref e11, .int (nI tu), .ref e12])), (e3, .inl (cI, 24, .inl (upd ux p (ck + nI 1))))]) := by
  refine mk_start (cc := b_Model_use) (maxL := 2) (ret := none) (by decide) (Nat.le_of_ble_eq_true rfl) (fun pG eG s mG below meth cG A ls H locs hx hb hml hr hlocks hnm hts hN hown hK hP hD hA hl hS => ?_)
  have hl : lv_has ls 2 [(0, .ref aX), (1, .int (nI p))] := hl
  refine lv_aload_n hx hb d_Model_use_0 rfl (lv_at hl 0 rfl) ?_
  refine lv_dup hx hb d_Model_use_1 rfl ?_
  refine va_get (D := D) (ci := 4) (v := .int ck) (C := R_Model) (T := T_Model) (N := 17) hx hb hts in_Model hown hK hP 0 rfl rfl 7 (by decide) (hts _ iw_275) (fun _ h9 => h9) rfl d_Model_use_2 ?_
  refine lv_iconst (v := nI 1) hx hb d_Model_use_5 (by decide) ?_
  refine lv_iadd hx hb d_Model_use_6 ?_
  refine va_put (D := D) (ci := 4) (v := .int (ck + (nI 1))) (ty := .int) (C := R_Model) (T := T_Model) (N := 17) hx hb hts in_Model ty_Model tyok_Model nm_Model hown hK hP hD hS 0 rfl rfl 7 (by decide) (hts _ iw_275) (fun _ h9 => h9) rfl (by decide +kernel) rfl rfl (Nat.le_of_ble_eq_true rfl) d_Model_use_7 (fun H locs hP hD hS => ?_)
  have hP : va_P D vwCl [(aX, .inr (4, [.int (nI n), .int (nI wy), .ref e0, .ref e1, .ref e2, .ref e3, .ref e4, .int (ck + (nI 1)), .ref e5, .ref e6, .ref e7, .ref e8, .ref e9, .ref e10, .ref e11, .int (nI tu), .ref e12])), (e3, .inl (cI, 24, .inl ux))] H := hP
  have hD : va_D A [(aX, .inr (4, [.int (nI n), .int (nI wy), .ref e0, .ref e1, .ref e2, .ref e3, .ref e4, .int (ck + (nI 1)), .ref e5, .ref e6, .ref e7, .ref e8, .ref e9, .ref e10, .ref e11, .int (nI tu), .ref e12])), (e3, .inl (cI, 24, .inl ux))] := hD
  refine lv_aload_n hx hb d_Model_use_10 rfl (lv_at hl 0 rfl) ?_
  refine va_get (D := D) (ci := 4) (v := .ref e3) (C := R_Model) (T := T_Model) (N := 17) hx hb hts in_Model hown hK hP 0 rfl rfl 5 (by decide) (hts _ iw_233) (fun _ h9 => h9) rfl d_Model_use_11 ?_
  refine lv_iload_n hx hb d_Model_use_14 rfl (lv_at hl 1 rfl) ?_
  refine lv_aload_n hx hb d_Model_use_15 rfl (lv_at hl 0 rfl) ?_
  refine va_get (D := D) (ci := 4) (v := .int (ck + (nI 1))) (C := R_Model) (T := T_Model) (N := 17) hx hb hts in_Model hown hK hP 0 rfl rfl 7 (by decide) (hts _ iw_275) (fun _ h9 => h9) rfl d_Model_use_16 ?_
  refine mk_iast hx hb hK hP hD hS 1 0 rfl rfl (j := p) (by omega) (by decide) d_Model_use_19 (fun H locs hP hD hS => ?_)
  have hP : va_P D vwCl [(aX, .inr (4, [.int (nI n), .int (nI wy), .ref e0, .ref e1, .ref e2, .ref e3, .ref e4, .int (ck + (nI 1)), .ref e5, .ref e6, .ref e7, .ref e8, .ref e9, .ref e10, .ref e11, .int (nI tu), .ref e12])), (e3, .inl (cI, 24, .inl (upd ux p (ck + (nI 1)))))] H := hP
  have hD : va_D A [(aX, .inr (4, [.int (nI n), .int (nI wy), .ref e0, .ref e1, .ref e2, .ref e3, .ref e4, .int (ck + (nI 1)), .ref e5, .ref e6, .ref e7, .ref e8, .ref e9, .ref e10, .ref e11, .int (nI tu), .ref e12])), (e3, .inl (cI, 24, .inl (upd ux p (ck + (nI 1)))))] := hD
  exact mk_vret hx hb hr hlocks hK hP hD hS d_Model_use_20 rfl
set_option maxRecDepth 100000 in
set_option maxHeartbeats 4000000 in
theorem m_wb (l : Launch) (D : va_G) (cI cO : ClassId) (aX e0 e1 e2 e3 e4 e5 e6 e7 e8 e9 e10 e11 e12 n wy tu : Nat) (ck : Int32) (p L : Nat) (li co wo ct : Nat → Int32) (hp : p < 24) (hL : L < 8) (hli : li p = nI L) : mk_M l y_Model_writeBack w_Model_writeBack ({ frames := 0, cells := 0, slots := 0, locals := 0 } : Room) D (tysK cI cO) [.ref aX, .int (nI p)] [(aX, .inr (4, [.int (nI n), .int (nI wy), .ref e0, .ref e1, .ref e2, .ref e3, .ref e4, .int ck, .ref e5, .ref e6, .ref e7, .ref e8, .ref e9, .ref e10, .ref e11, .int (nI tu), .ref e12])), (e1, .inl (cI, 24, .inl li)), (e4, .inl (cI, 96, .inl co)), (e0, .inl (cI, 32, .inl wo)), (e12, .inl (cI, 4, .inl ct))] (mk_Qv D (tysK cI cO) [(aX, .inr (4, [.int (nI n), .int (nI wy), .ref e0, .ref e1, .ref e2, .ref e3, .ref e4, .int ck, .ref e5, .ref e6, .ref e7, .ref e8, .ref e9, .ref e10, .ref e11, .int (nI tu), .ref e12])), (e1, .inl (cI, 24, .inl li)), (e4, .inl (cI, 96, .inl co)), (e0, .inl (cI, 32, .inl (va_cpy co wo (4 * p) (4 * L) 4))), (e12, .inl (cI, 4, .inl (upd ct 1 (ct 1 + nI 1))))]) := by
  refine mk_start (cc := b_Model_writeBack) (maxL := 3) (ret := none) (by decide) (Nat.le_of_ble_eq_true rfl) (fun pG eG s mG below meth cG A ls H locs hx hb hml hr hlocks hnm hts hN hown hK hP hD hA hl hS => ?_)
  have hl : lv_has ls 3 [(0, .ref aX), (1, .int (nI p))] := hl
  refine lv_iconst (v := nI 0) hx hb d_Model_writeBack_0 (by decide) ?_
  refine lv_istore_n hx hb d_Model_writeBack_1 rfl hl (by decide) rfl (fun ls hl => ?_)
  have hl : lv_has ls 3 [(2, .int (nI 0)), (0, .ref aX), (1, .int (nI p))] := hl
  have loop : ∀ (fu t : Nat) (ls : Array Slot) (H : Heap) (locs : List Loc), t + fu = 4 → lv_has ls 3 [(0, .ref aX), (1, .int (nI p)), (2, .int (nI t))] → va_P D vwCl [(aX, .inr (4, [.int (nI n), .int (nI wy), .ref e0, .ref e1, .ref e2, .ref e3, .ref e4, .int ck, .ref e5, .ref e6, .ref e7, .ref e8, .ref e9, .ref e10, .ref e11, .int (nI tu), .ref e12])), (e1, .inl (cI, 24, .inl li)), (e4, .inl (cI, 96, .inl co)), (e0, .inl (cI, 32, .inl (va_cpy co wo (4 * p) (4 * L) t))), (e12, .inl (cI, 4, .inl ct))] H → va_D A [(aX, .inr (4, [.int (nI n), .int (nI wy), .ref e0, .ref e1, .ref e2, .ref e3, .ref e4, .int ck, .ref e5, .ref e6, .ref e7, .ref e8, .ref e9, .ref e10, .ref e11, .int (nI tu), .ref e12])), (e1, .inl (cI, 24, .inl li)), (e4, .inl (cI, 96, .inl co)), (e0, .inl (cI, 32, .inl (va_cpy co wo (4 * p) (4 * L) t))), (e12, .inl (cI, 4, .inl ct))] → va_S A s.heap H locs → W pG l eG ({ frames := 0, cells := 0, slots := 0, locals := 0 } : Room) s mG [.ref aX, .int (nI p)].toArray below meth cG H locs 0 0 (MQ below (mk_Qv D (tysK cI cO) [(aX, .inr (4, [.int (nI n), .int (nI wy), .ref e0, .ref e1, .ref e2, .ref e3, .ref e4, .int ck, .ref e5, .ref e6, .ref e7, .ref e8, .ref e9, .ref e10, .ref e11, .int (nI tu), .ref e12])), (e1, .inl (cI, 24, .inl li)), (e4, .inl (cI, 96, .inl co)), (e0, .inl (cI, 32, .inl (va_cpy co wo (4 * p) (4 * L) 4))), (e12, .inl (cI, 4, .inl (upd ct 1 (ct 1 + nI 1))))] A) [.ref aX, .int (nI p)].toArray s 0 0 A) (F0 mG 2 ls []) := by
    intro fu
    induction fu with
    | zero =>
      intro t ls H locs  ht  hl hP hD hS
      have ht1 : 4 = t := by omega
      subst ht1
      refine lv_iload_n hx hb d_Model_writeBack_2 rfl (lv_at hl 2 rfl) ?_
      refine lv_iconst (v := nI 4) hx hb d_Model_writeBack_3 (by decide) ?_
      refine lv_icmp_ge (tgt := 38) hx hb d_Model_writeBack_4 rfl (fun _ => ?_) (fun h => absurd (by decide) h)
      refine lv_aload_n hx hb d_Model_writeBack_38 rfl (lv_at hl 0 rfl) ?_
      refine va_get (D := D) (ci := 4) (v := .ref e12) (C := R_Model) (T := T_Model) (N := 17) hx hb hts in_Model hown hK hP 0 rfl rfl 16 (by decide) (hts _ iw_242) (fun _ h9 => h9) rfl d_Model_writeBack_39 ?_
      refine lv_iconst (v := nI 1) hx hb d_Model_writeBack_42 (by decide) ?_
      refine lv_dup2_11 hx hb d_Model_writeBack_43 rfl rfl ?_
      refine mk_iald hx hb hK hP 4 0 rfl rfl (j := 1) (by omega) (by decide) d_Model_writeBack_44 ?_
      refine lv_iconst (v := nI 1) hx hb d_Model_writeBack_45 (by decide) ?_
      refine lv_iadd hx hb d_Model_writeBack_46 ?_
      refine mk_iast hx hb hK hP hD hS 4 0 rfl rfl (j := 1) (by omega) (by decide) d_Model_writeBack_47 (fun H locs hP hD hS => ?_)
      have hP : va_P D vwCl [(aX, .inr (4, [.int (nI n), .int (nI wy), .ref e0, .ref e1, .ref e2, .ref e3, .ref e4, .int ck, .ref e5, .ref e6, .ref e7, .ref e8, .ref e9, .ref e10, .ref e11, .int (nI tu), .ref e12])), (e1, .inl (cI, 24, .inl li)), (e4, .inl (cI, 96, .inl co)), (e0, .inl (cI, 32, .inl (va_cpy co wo (4 * p) (4 * L) 4))), (e12, .inl (cI, 4, .inl (upd ct 1 ((ct 1) + (nI 1)))))] H := hP
      have hD : va_D A [(aX, .inr (4, [.int (nI n), .int (nI wy), .ref e0, .ref e1, .ref e2, .ref e3, .ref e4, .int ck, .ref e5, .ref e6, .ref e7, .ref e8, .ref e9, .ref e10, .ref e11, .int (nI tu), .ref e12])), (e1, .inl (cI, 24, .inl li)), (e4, .inl (cI, 96, .inl co)), (e0, .inl (cI, 32, .inl (va_cpy co wo (4 * p) (4 * L) 4))), (e12, .inl (cI, 4, .inl (upd ct 1 ((ct 1) + (nI 1)))))] := hD
      exact mk_vret hx hb hr hlocks hK hP hD hS d_Model_writeBack_48 rfl
    | succ fu ih =>
      intro t ls H locs  ht  hl hP hD hS
      have ht0 : t < 4 := by omega
      refine lv_iload_n hx hb d_Model_writeBack_2 rfl (lv_at hl 2 rfl) ?_
      refine lv_iconst (v := nI 4) hx hb d_Model_writeBack_3 (by decide) ?_
      refine lv_icmp_ge (tgt := 38) hx hb d_Model_writeBack_4 rfl (fun h => absurd h (fun q => absurd ((nI_leI (by omega) (by omega)).mp q) (by omega))) (fun _ => ?_)
      refine lv_aload_n hx hb d_Model_writeBack_7 rfl (lv_at hl 0 rfl) ?_
      refine va_get (D := D) (ci := 4) (v := .ref e0) (C := R_Model) (T := T_Model) (N := 17) hx hb hts in_Model hown hK hP 0 rfl rfl 2 (by decide) (hts _ iw_230) (fun _ h9 => h9) rfl d_Model_writeBack_8 ?_
      refine lv_iconst (v := nI 4) hx hb d_Model_writeBack_11 (by decide) ?_
      refine lv_aload_n hx hb d_Model_writeBack_12 rfl (lv_at hl 0 rfl) ?_
      refine va_get (D := D) (ci := 4) (v := .ref e1) (C := R_Model) (T := T_Model) (N := 17) hx hb hts in_Model hown hK hP 0 rfl rfl 3 (by decide) (hts _ iw_231) (fun _ h9 => h9) rfl d_Model_writeBack_13 ?_
      refine lv_iload_n hx hb d_Model_writeBack_16 rfl (lv_at hl 1 rfl) ?_
      refine mk_iald hx hb hK hP 1 0 rfl rfl (j := p) (by omega) (by decide) d_Model_writeBack_17 ?_
      refine mk_top (show _ = nI L from hli) ?_
      refine lv_imul hx hb d_Model_writeBack_18 ?_
      refine mk_top (show _ = nI (4 * L) from pk_mul _ _) ?_
      refine lv_iload_n hx hb d_Model_writeBack_19 rfl (lv_at hl 2 rfl) ?_
      refine lv_iadd hx hb d_Model_writeBack_20 ?_
      refine mk_top (show _ = nI ((4 * L) + t) from nI_add _ _) ?_
      refine lv_aload_n hx hb d_Model_writeBack_21 rfl (lv_at hl 0 rfl) ?_
      refine va_get (D := D) (ci := 4) (v := .ref e4) (C := R_Model) (T := T_Model) (N := 17) hx hb hts in_Model hown hK hP 0 rfl rfl 6 (by decide) (hts _ iw_234) (fun _ h9 => h9) rfl d_Model_writeBack_22 ?_
      refine lv_iconst (v := nI 4) hx hb d_Model_writeBack_25 (by decide) ?_
      refine lv_iload_n hx hb d_Model_writeBack_26 rfl (lv_at hl 1 rfl) ?_
      refine lv_imul hx hb d_Model_writeBack_27 ?_
      refine mk_top (show _ = nI (4 * p) from pk_mul _ _) ?_
      refine lv_iload_n hx hb d_Model_writeBack_28 rfl (lv_at hl 2 rfl) ?_
      refine lv_iadd hx hb d_Model_writeBack_29 ?_
      refine mk_top (show _ = nI ((4 * p) + t) from nI_add _ _) ?_
      refine mk_iald hx hb hK hP 2 0 rfl rfl (j := (4 * p) + t) (by omega) (by decide) d_Model_writeBack_30 ?_
      refine mk_iast hx hb hK hP hD hS 3 0 rfl rfl (j := (4 * L) + t) (by omega) (by decide) d_Model_writeBack_31 (fun H locs hP hD hS => ?_)
      have hP : va_P D vwCl [(aX, .inr (4, [.int (nI n), .int (nI wy), .ref e0, .ref e1, .ref e2, .ref e3, .ref e4, .int ck, .ref e5, .ref e6, .ref e7, .ref e8, .ref e9, .ref e10, .ref e11, .int (nI tu), .ref e12])), (e1, .inl (cI, 24, .inl li)), (e4, .inl (cI, 96, .inl co)), (e0, .inl (cI, 32, .inl (upd (va_cpy co wo (4 * p) (4 * L) t) ((4 * L) + t) (co ((4 * p) + t))))), (e12, .inl (cI, 4, .inl ct))] H := hP
      have hD : va_D A [(aX, .inr (4, [.int (nI n), .int (nI wy), .ref e0, .ref e1, .ref e2, .ref e3, .ref e4, .int ck, .ref e5, .ref e6, .ref e7, .ref e8, .ref e9, .ref e10, .ref e11, .int (nI tu), .ref e12])), (e1, .inl (cI, 24, .inl li)), (e4, .inl (cI, 96, .inl co)), (e0, .inl (cI, 32, .inl (upd (va_cpy co wo (4 * p) (4 * L) t) ((4 * L) + t) (co ((4 * p) + t))))), (e12, .inl (cI, 4, .inl ct))] := hD
      refine lv_iinc (k := 2) (v := nI (t + 1)) hx hb d_Model_writeBack_32 hl rfl (nI_1 _) (by decide) rfl (fun ls hl => ?_)
      have hl : lv_has ls 3 [(2, .int (nI (t + 1))), (0, .ref aX), (1, .int (nI p))] := hl
      refine lv_goto (tgt := 2) hx hb d_Model_writeBack_35 rfl ?_
      refine ih (t + 1) ls H locs (by omega) ?_ ?_ ?_ hS
      · exact lv_sub hl [1, 2, 0] rfl
      · rw [← cpy_s]; exact hP
      · rw [← cpy_s]; exact hD
  exact loop 4 0 ls H locs (by omega) (lv_sub hl [1, 2, 0] rfl) (by rw [cpy_0]; exact hP) (by rw [cpy_0]; exact hD) hS
set_option maxRecDepth 100000 in
set_option maxHeartbeats 4000000 in
theorem m_room (l : Launch) (D : va_G) (cI cO : ClassId) (aX e0 e1 e2 e3 e4 e5 e6 e7 e8 e9 e10 e11 e12 n wy tu : Nat) (ck : Int32) (i z : Nat) (sx ux : Nat → Int32) (hi4 : i < 4) (hz : z < 2) (hw0 : 1 ≤ wy) (hw : wy < 4) : mk_M l y_Model_roomIn w_Model_roomIn ({ frames := 0, cells := 0, slots := 0, locals := 0 } : Room) D (tysK cI cO) [.ref aX, .int (nI i), .int (nI z)] [(aX, .inr (4, [.int (nI n), .int (nI wy), .ref e0, .ref e1, .ref e2, .ref e3, .ref e4, .int ck, .ref e5, .ref e6, .ref e7, .ref e8, .ref e9, .ref e10, .ref e11, .int (nI tu), .ref e12])), (e2, .inl (cI, 24, .inl sx)), (e3, .inl (cI, 24, .inl ux))] (mk_Qi D (tysK cI cO) (nI (mr sx ux (6 * i + 3 * z) (wy - 1))) [(aX, .inr (4, [.int (nI n), .int (nI wy), .ref e0, .ref e1, .ref e2, .ref e3, .ref e4, .int ck, .ref e5, .ref e6, .ref e7, .ref e8, .ref e9, .ref e10, .ref e11, .int (nI tu), .ref e12])), (e2, .inl (cI, 24, .inl sx)), (e3, .inl (cI, 24, .inl ux))]) := by
  refine mk_start (cc := b_Model_roomIn) (maxL := 7) (ret := (some FieldType.int)) (by decide) (Nat.le_of_ble_eq_true rfl) (fun pG eG s mG below meth cG A ls H locs hx hb hml hr hlocks hnm hts hN hown hK hP hD hA hl hS => ?_)
  have hl : lv_has ls 7 [(0, .ref aX), (1, .int (nI i)), (2, .int (nI z))] := hl
  refine lv_bipush (v := nI 6) hx hb d_Model_roomIn_0 (by decide) ?_
  refine lv_iload_n hx hb d_Model_roomIn_2 rfl (lv_at hl 1 rfl) ?_
  refine lv_imul hx hb d_Model_roomIn_3 ?_
  refine mk_top (show _ = nI (6 * i) from pk_mul _ _) ?_
  refine lv_iconst (v := nI 3) hx hb d_Model_roomIn_4 (by decide) ?_
  refine lv_iload_n hx hb d_Model_roomIn_5 rfl (lv_at hl 2 rfl) ?_
  refine lv_imul hx hb d_Model_roomIn_6 ?_
  refine mk_top (show _ = nI (3 * z) from pk_mul _ _) ?_
  refine lv_iadd hx hb d_Model_roomIn_7 ?_
  refine mk_top (show _ = nI ((6 * i) + (3 * z)) from nI_add _ _) ?_
  refine lv_istore_n hx hb d_Model_roomIn_8 rfl hl (by decide) rfl (fun ls hl => ?_)
  have hl : lv_has ls 7 [(3, .int (nI ((6 * i) + (3 * z)))), (0, .ref aX), (1, .int (nI i)), (2, .int (nI z))] := hl
  refine lv_iload_n hx hb d_Model_roomIn_9 rfl (lv_at hl 0 rfl) ?_
  refine lv_istore hx hb d_Model_roomIn_10 hl (by decide) rfl (fun ls hl => ?_)
  have hl : lv_has ls 7 [(4, .int (nI ((6 * i) + (3 * z)))), (3, .int (nI ((6 * i) + (3 * z)))), (0, .ref aX), (1, .int (nI i)), (2, .int (nI z))] := hl
  refine lv_iload_n hx hb d_Model_roomIn_12 rfl (lv_at hl 1 rfl) ?_
  refine lv_iconst (v := nI 1) hx hb d_Model_roomIn_13 (by decide) ?_
  refine lv_iadd hx hb d_Model_roomIn_14 ?_
  refine mk_top (show _ = nI (((6 * i) + (3 * z)) + 1) from nI_add _ _) ?_
  refine lv_istore hx hb d_Model_roomIn_15 hl (by decide) rfl (fun ls hl => ?_)
  have hl : lv_has ls 7 [(5, .int (nI (((6 * i) + (3 * z)) + 1))), (4, .int (nI ((6 * i) + (3 * z)))), (3, .int (nI ((6 * i) + (3 * z)))), (0, .ref aX), (1, .int (nI i)), (2, .int (nI z))] := hl
  have loop : ∀ (fu t : Nat) (ls : Array Slot) (H : Heap) (locs : List Loc), t + fu = wy - 1 → lv_has ls 7 [(0, .ref aX), (1, .int (nI i)), (2, .int (nI z)), (3, .int (nI (6 * i + 3 * z))), (4, .int (nI (mr sx ux (6 * i + 3 * z) t))), (5, .int (nI (6 * i + 3 * z + 1 + t)))] → va_P D vwCl [(aX, .inr (4, [.int (nI n), .int (nI wy), .ref e0, .ref e1, .ref e2, .ref e3, .ref e4, .int ck, .ref e5, .ref e6, .ref e7, .ref e8, .ref e9, .ref e10, .ref e11, .int (nI tu), .ref e12])), (e2, .inl (cI, 24, .inl sx)), (e3, .inl (cI, 24, .inl ux))] H → va_D A [(aX, .inr (4, [.int (nI n), .int (nI wy), .ref e0, .ref e1, .ref e2, .ref e3, .ref e4, .int ck, .ref e5, .ref e6, .ref e7, .ref e8, .ref e9, .ref e10, .ref e11, .int (nI tu), .ref e12])), (e2, .inl (cI, 24, .inl sx)), (e3, .inl (cI, 24, .inl ux))] → va_S A s.heap H locs → W pG l eG ({ frames := 0, cells := 0, slots := 0, locals := 0 } : Room) s mG [.ref aX, .int (nI i), .int (nI z)].toArray below meth cG H locs 0 0 (MQ below (mk_Qi D (tysK cI cO) (nI (mr sx ux (6 * i + 3 * z) (wy - 1))) [(aX, .inr (4, [.int (nI n), .int (nI wy), .ref e0, .ref e1, .ref e2, .ref e3, .ref e4, .int ck, .ref e5, .ref e6, .ref e7, .ref e8, .ref e9, .ref e10, .ref e11, .int (nI tu), .ref e12])), (e2, .inl (cI, 24, .inl sx)), (e3, .inl (cI, 24, .inl ux))] A) [.ref aX, .int (nI i), .int (nI z)].toArray s 0 0 A) (F0 mG 17 ls []) := by
    intro fu
    induction fu with
    | zero =>
      intro t ls H locs  ht  hl hP hD hS
      have ht1 : wy - 1 = t := by omega
      subst ht1
      refine lv_iload hx hb d_Model_roomIn_17 (lv_at hl 5 rfl) ?_
      refine lv_iload_n hx hb d_Model_roomIn_19 rfl (lv_at hl 3 rfl) ?_
      refine lv_aload_n hx hb d_Model_roomIn_20 rfl (lv_at hl 0 rfl) ?_
      refine va_get (D := D) (ci := 4) (v := .int (nI wy)) (C := R_Model) (T := T_Model) (N := 17) hx hb hts in_Model hown hK hP 0 rfl rfl 1 (by decide) (hts _ iw_244) (fun _ h9 => h9) rfl d_Model_roomIn_21 ?_
      refine lv_iadd hx hb d_Model_roomIn_24 ?_
      refine mk_top (show _ = nI ((6 * i + 3 * z) + wy) from nI_add _ _) ?_
      refine lv_icmp_ge (tgt := 92) hx hb d_Model_roomIn_25 rfl (fun _ => ?_) (fun h => absurd ((nI_leI (by omega) (by omega)).mpr (by omega)) h)
      refine lv_iload hx hb d_Model_roomIn_92 (lv_at hl 4 rfl) ?_
      exact mk_iret hx hb hr hlocks hK hP hD hS d_Model_roomIn_94 rfl rfl
    | succ fu ih =>
      intro t ls H locs  ht  hl hP hD hS
      have ht0 : t < wy - 1 := by omega
      have hmr := mr_le sx ux (6 * i + 3 * z) t
      refine lv_iload hx hb d_Model_roomIn_17 (lv_at hl 5 rfl) ?_
      refine lv_iload_n hx hb d_Model_roomIn_19 rfl (lv_at hl 3 rfl) ?_
      refine lv_aload_n hx hb d_Model_roomIn_20 rfl (lv_at hl 0 rfl) ?_
      refine va_get (D := D) (ci := 4) (v := .int (nI wy)) (C := R_Model) (T := T_Model) (N := 17) hx hb hts in_Model hown hK hP 0 rfl rfl 1 (by decide) (hts _ iw_244) (fun _ h9 => h9) rfl d_Model_roomIn_21 ?_
      refine lv_iadd hx hb d_Model_roomIn_24 ?_
      refine mk_top (show _ = nI ((6 * i + 3 * z) + wy) from nI_add _ _) ?_
      refine lv_icmp_ge (tgt := 92) hx hb d_Model_roomIn_25 rfl (fun h => absurd h (fun q => absurd ((nI_leI (by omega) (by omega)).mp q) (by omega))) (fun _ => ?_)
      refine lv_aload_n hx hb d_Model_roomIn_28 rfl (lv_at hl 0 rfl) ?_
      refine va_get (D := D) (ci := 4) (v := .ref e2) (C := R_Model) (T := T_Model) (N := 17) hx hb hts in_Model hown hK hP 0 rfl rfl 4 (by decide) (hts _ iw_232) (fun _ h9 => h9) rfl d_Model_roomIn_29 ?_
      refine lv_iload hx hb d_Model_roomIn_32 (lv_at hl 4 rfl) ?_
      refine mk_iald hx hb hK hP 1 0 rfl rfl (j := mr sx ux (6 * i + 3 * z) t) (by omega) (by decide) d_Model_roomIn_34 ?_
      refine lv_if_eq (tgt := 69) hx hb d_Model_roomIn_35 rfl (fun h35 => ?_) (fun h35 => ?_)
      · refine lv_iconst (v := nI 0) hx hb d_Model_roomIn_69 (by decide) ?_
        refine lv_istore hx hb d_Model_roomIn_70 hl (by decide) rfl (fun ls hl => ?_)
        have hl : lv_has ls 7 [(6, .int (nI 0)), (0, .ref aX), (1, .int (nI i)), (2, .int (nI z)), (3, .int (nI (6 * i + 3 * z))), (4, .int (nI (mr sx ux (6 * i + 3 * z) t))), (5, .int (nI (6 * i + 3 * z + 1 + t)))] := hl
        refine lv_iload hx hb d_Model_roomIn_72 (lv_at hl 0 rfl) ?_
        refine lv_if_eq (tgt := 82) hx hb d_Model_roomIn_74 rfl (fun _ => ?_) (fun h => absurd (by decide) h)
        refine lv_iload hx hb d_Model_roomIn_82 (lv_at hl 5 rfl) ?_
        refine lv_istore hx hb d_Model_roomIn_84 hl (by decide) rfl (fun ls hl => ?_)
        have hl : lv_has ls 7 [(4, .int (nI (mr sx ux (6 * i + 3 * z) t))), (6, .int (nI 0)), (0, .ref aX), (1, .int (nI i)), (2, .int (nI z)), (3, .int (nI (6 * i + 3 * z))), (5, .int (nI (6 * i + 3 * z + 1 + t)))] := hl
        refine lv_iinc (k := 6) (v := nI ((6 * i + 3 * z + 1 + t) + 1)) hx hb d_Model_roomIn_86 hl rfl (nI_1 _) (by decide) rfl (fun ls hl => ?_)
        have hl : lv_has ls 7 [(5, .int (nI ((6 * i + 3 * z + 1 + t) + 1))), (4, .int (nI (mr sx ux (6 * i + 3 * z) t))), (6, .int (nI 0)), (0, .ref aX), (1, .int (nI i)), (2, .int (nI z)), (3, .int (nI (6 * i + 3 * z)))] := hl
        refine lv_goto (tgt := 17) hx hb d_Model_roomIn_89 rfl ?_
        refine ih (t + 1) ls H locs (by omega) ?_ ?_ ?_ hS
        · rw [mr, if_pos h35, show 6 * i + 3 * z + 1 + (t + 1) = 6 * i + 3 * z + 1 + t + 1 by omega]; exact lv_sub hl [3, 4, 5, 6, 1, 0] rfl
        · exact hP
        · exact hD
      · refine lv_aload_n hx hb d_Model_roomIn_38 rfl (lv_at hl 0 rfl) ?_
        refine va_get (D := D) (ci := 4) (v := .ref e2) (C := R_Model) (T := T_Model) (N := 17) hx hb hts in_Model hown hK hP 0 rfl rfl 4 (by decide) (hts _ iw_232) (fun _ h9 => h9) rfl d_Model_roomIn_39 ?_
        refine lv_iload hx hb d_Model_roomIn_42 (lv_at hl 5 rfl) ?_
        refine mk_iald hx hb hK hP 1 0 rfl rfl (j := 6 * i + 3 * z + 1 + t) (by omega) (by decide) d_Model_roomIn_44 ?_
        refine lv_if_eq (tgt := 65) hx hb d_Model_roomIn_45 rfl (fun h45 => ?_) (fun h45 => ?_)
        · refine lv_iconst (v := nI 1) hx hb d_Model_roomIn_65 (by decide) ?_
          refine lv_goto (tgt := 70) hx hb d_Model_roomIn_66 rfl ?_
          refine lv_istore hx hb d_Model_roomIn_70 hl (by decide) rfl (fun ls hl => ?_)
          have hl : lv_has ls 7 [(6, .int (nI 1)), (0, .ref aX), (1, .int (nI i)), (2, .int (nI z)), (3, .int (nI (6 * i + 3 * z))), (4, .int (nI (mr sx ux (6 * i + 3 * z) t))), (5, .int (nI (6 * i + 3 * z + 1 + t)))] := hl
          refine lv_iload hx hb d_Model_roomIn_72 (lv_at hl 0 rfl) ?_
          refine lv_if_eq (tgt := 82) hx hb d_Model_roomIn_74 rfl (fun h => absurd h (by decide)) (fun _ => ?_)
          refine lv_iload hx hb d_Model_roomIn_77 (lv_at hl 6 rfl) ?_
          refine lv_goto (tgt := 84) hx hb d_Model_roomIn_79 rfl ?_
          refine lv_istore hx hb d_Model_roomIn_84 hl (by decide) rfl (fun ls hl => ?_)
          have hl : lv_has ls 7 [(4, .int (nI (6 * i + 3 * z + 1 + t))), (6, .int (nI 1)), (0, .ref aX), (1, .int (nI i)), (2, .int (nI z)), (3, .int (nI (6 * i + 3 * z))), (5, .int (nI (6 * i + 3 * z + 1 + t)))] := hl
          refine lv_iinc (k := 6) (v := nI ((6 * i + 3 * z + 1 + t) + 1)) hx hb d_Model_roomIn_86 hl rfl (nI_1 _) (by decide) rfl (fun ls hl => ?_)
          have hl : lv_has ls 7 [(5, .int (nI ((6 * i + 3 * z + 1 + t) + 1))), (4, .int (nI (6 * i + 3 * z + 1 + t))), (6, .int (nI 1)), (0, .ref aX), (1, .int (nI i)), (2, .int (nI z)), (3, .int (nI (6 * i + 3 * z)))] := hl
          refine lv_goto (tgt := 17) hx hb d_Model_roomIn_89 rfl ?_
          refine ih (t + 1) ls H locs (by omega) ?_ ?_ ?_ hS
          · rw [mr, if_neg h35, if_pos h45, show 6 * i + 3 * z + 1 + (t + 1) = 6 * i + 3 * z + 1 + t + 1 by omega]; exact lv_sub hl [3, 4, 5, 6, 1, 0] rfl
          · exact hP
          · exact hD
        · refine lv_aload_n hx hb d_Model_roomIn_48 rfl (lv_at hl 0 rfl) ?_
          refine va_get (D := D) (ci := 4) (v := .ref e3) (C := R_Model) (T := T_Model) (N := 17) hx hb hts in_Model hown hK hP 0 rfl rfl 5 (by decide) (hts _ iw_233) (fun _ h9 => h9) rfl d_Model_roomIn_49 ?_
          refine lv_iload hx hb d_Model_roomIn_52 (lv_at hl 5 rfl) ?_
          refine mk_iald hx hb hK hP 2 0 rfl rfl (j := 6 * i + 3 * z + 1 + t) (by omega) (by decide) d_Model_roomIn_54 ?_
          refine lv_aload_n hx hb d_Model_roomIn_55 rfl (lv_at hl 0 rfl) ?_
          refine va_get (D := D) (ci := 4) (v := .ref e3) (C := R_Model) (T := T_Model) (N := 17) hx hb hts in_Model hown hK hP 0 rfl rfl 5 (by decide) (hts _ iw_233) (fun _ h9 => h9) rfl d_Model_roomIn_56 ?_
          refine lv_iload hx hb d_Model_roomIn_59 (lv_at hl 4 rfl) ?_
          refine mk_iald hx hb hK hP 2 0 rfl rfl (j := mr sx ux (6 * i + 3 * z) t) (by omega) (by decide) d_Model_roomIn_61 ?_
          refine lv_icmp_ge (tgt := 69) hx hb d_Model_roomIn_62 rfl (fun h62 => ?_) (fun h62 => ?_)
          · refine lv_iconst (v := nI 0) hx hb d_Model_roomIn_69 (by decide) ?_
            refine lv_istore hx hb d_Model_roomIn_70 hl (by decide) rfl (fun ls hl => ?_)
            have hl : lv_has ls 7 [(6, .int (nI 0)), (0, .ref aX), (1, .int (nI i)), (2, .int (nI z)), (3, .int (nI (6 * i + 3 * z))), (4, .int (nI (mr sx ux (6 * i + 3 * z) t))), (5, .int (nI (6 * i + 3 * z + 1 + t)))] := hl
            refine lv_iload hx hb d_Model_roomIn_72 (lv_at hl 0 rfl) ?_
            refine lv_if_eq (tgt := 82) hx hb d_Model_roomIn_74 rfl (fun _ => ?_) (fun h => absurd (by decide) h)
            refine lv_iload hx hb d_Model_roomIn_82 (lv_at hl 5 rfl) ?_
            refine lv_istore hx hb d_Model_roomIn_84 hl (by decide) rfl (fun ls hl => ?_)
            have hl : lv_has ls 7 [(4, .int (nI (mr sx ux (6 * i + 3 * z) t))), (6, .int (nI 0)), (0, .ref aX), (1, .int (nI i)), (2, .int (nI z)), (3, .int (nI (6 * i + 3 * z))), (5, .int (nI (6 * i + 3 * z + 1 + t)))] := hl
            refine lv_iinc (k := 6) (v := nI ((6 * i + 3 * z + 1 + t) + 1)) hx hb d_Model_roomIn_86 hl rfl (nI_1 _) (by decide) rfl (fun ls hl => ?_)
            have hl : lv_has ls 7 [(5, .int (nI ((6 * i + 3 * z + 1 + t) + 1))), (4, .int (nI (mr sx ux (6 * i + 3 * z) t))), (6, .int (nI 0)), (0, .ref aX), (1, .int (nI i)), (2, .int (nI z)), (3, .int (nI (6 * i + 3 * z)))] := hl
            refine lv_goto (tgt := 17) hx hb d_Model_roomIn_89 rfl ?_
            refine ih (t + 1) ls H locs (by omega) ?_ ?_ ?_ hS
            · rw [mr, if_neg h35, if_neg h45, if_neg (Int32.not_lt.mpr h62), show 6 * i + 3 * z + 1 + (t + 1) = 6 * i + 3 * z + 1 + t + 1 by omega]; exact lv_sub hl [3, 4, 5, 6, 1, 0] rfl
            · exact hP
            · exact hD
          · refine lv_iconst (v := nI 1) hx hb d_Model_roomIn_65 (by decide) ?_
            refine lv_goto (tgt := 70) hx hb d_Model_roomIn_66 rfl ?_
            refine lv_istore hx hb d_Model_roomIn_70 hl (by decide) rfl (fun ls hl => ?_)
            have hl : lv_has ls 7 [(6, .int (nI 1)), (0, .ref aX), (1, .int (nI i)), (2, .int (nI z)), (3, .int (nI (6 * i + 3 * z))), (4, .int (nI (mr sx ux (6 * i + 3 * z) t))), (5, .int (nI (6 * i + 3 * z + 1 + t)))] := hl
            refine lv_iload hx hb d_Model_roomIn_72 (lv_at hl 0 rfl) ?_
            refine lv_if_eq (tgt := 82) hx hb d_Model_roomIn_74 rfl (fun h => absurd h (by decide)) (fun _ => ?_)
            refine lv_iload hx hb d_Model_roomIn_77 (lv_at hl 6 rfl) ?_
            refine lv_goto (tgt := 84) hx hb d_Model_roomIn_79 rfl ?_
            refine lv_istore hx hb d_Model_roomIn_84 hl (by decide) rfl (fun ls hl => ?_)
            have hl : lv_has ls 7 [(4, .int (nI (6 * i + 3 * z + 1 + t))), (6, .int (nI 1)), (0, .ref aX), (1, .int (nI i)), (2, .int (nI z)), (3, .int (nI (6 * i + 3 * z))), (5, .int (nI (6 * i + 3 * z + 1 + t)))] := hl
            refine lv_iinc (k := 6) (v := nI ((6 * i + 3 * z + 1 + t) + 1)) hx hb d_Model_roomIn_86 hl rfl (nI_1 _) (by decide) rfl (fun ls hl => ?_)
            have hl : lv_has ls 7 [(5, .int (nI ((6 * i + 3 * z + 1 + t) + 1))), (4, .int (nI (6 * i + 3 * z + 1 + t))), (6, .int (nI 1)), (0, .ref aX), (1, .int (nI i)), (2, .int (nI z)), (3, .int (nI (6 * i + 3 * z)))] := hl
            refine lv_goto (tgt := 17) hx hb d_Model_roomIn_89 rfl ?_
            refine ih (t + 1) ls H locs (by omega) ?_ ?_ ?_ hS
            · rw [mr, if_neg h35, if_neg h45, if_pos (Int32.not_le.mp h62), show 6 * i + 3 * z + 1 + (t + 1) = 6 * i + 3 * z + 1 + t + 1 by omega]; exact lv_sub hl [3, 4, 5, 6, 1, 0] rfl
            · exact hP
            · exact hD
  exact loop (wy - 1) 0 ls H locs (by omega) (lv_sub hl [3, 4, 5, 2, 1, 0] rfl) hP hD hS
set_option maxRecDepth 100000 in
set_option maxHeartbeats 4000000 in
theorem m_word (l : Launch) (D : va_G) (cI cO : ClassId) (aX e0 e1 e2 e3 e4 e5 e6 e7 e8 e9 e10 e11 e12 n wy tu : Nat) (ck : Int32) (p j : Nat) (co : Nat → Int32) (hp : p < 24) (hj : j < 32) : mk_M l y_Model_wordAt w_Model_wordAt ({ frames := 0, cells := 0, slots := 0, locals := 0 } : Room) D (tysK cI cO) [.ref aX, .int (nI p), .int (nI j)] [(aX, .inr (4, [.int (nI n), .int (nI wy), .ref e0, .ref e1, .ref e2, .ref e3, .ref e4, .int ck, .ref e5, .ref e6, .ref e7, .ref e8, .ref e9, .ref e10, .ref e11, .int (nI tu), .ref e12])), (e4, .inl (cI, 96, .inl co))] (mk_Qi D (tysK cI cO) (co (4 * p + j % 4)) [(aX, .inr (4, [.int (nI n), .int (nI wy), .ref e0, .ref e1, .ref e2, .ref e3, .ref e4, .int ck, .ref e5, .ref e6, .ref e7, .ref e8, .ref e9, .ref e10, .ref e11, .int (nI tu), .ref e12])), (e4, .inl (cI, 96, .inl co))]) := by
  refine mk_start (cc := b_Model_wordAt) (maxL := 3) (ret := (some FieldType.int)) (by decide) (Nat.le_of_ble_eq_true rfl) (fun pG eG s mG below meth cG A ls H locs hx hb hml hr hlocks hnm hts hN hown hK hP hD hA hl hS => ?_)
  have hl : lv_has ls 3 [(0, .ref aX), (1, .int (nI p)), (2, .int (nI j))] := hl
  refine lv_aload_n hx hb d_Model_wordAt_0 rfl (lv_at hl 0 rfl) ?_
  refine va_get (D := D) (ci := 4) (v := .ref e4) (C := R_Model) (T := T_Model) (N := 17) hx hb hts in_Model hown hK hP 0 rfl rfl 6 (by decide) (hts _ iw_234) (fun _ h9 => h9) rfl d_Model_wordAt_1 ?_
  refine lv_iconst (v := nI 4) hx hb d_Model_wordAt_4 (by decide) ?_
  refine lv_iload_n hx hb d_Model_wordAt_5 rfl (lv_at hl 1 rfl) ?_
  refine lv_imul hx hb d_Model_wordAt_6 ?_
  refine mk_top (show _ = nI (4 * p) from pk_mul _ _) ?_
  refine lv_iload_n hx hb d_Model_wordAt_7 rfl (lv_at hl 2 rfl) ?_
  refine lv_iconst (v := nI 4) hx hb d_Model_wordAt_8 (by decide) ?_
  refine lv_irem hx hb d_Model_wordAt_9 (nI_ne0 (by omega) (by omega)) ?_
  refine mk_top (show _ = nI (j % 4) from pk_rem (by omega) (by omega) (by omega)) ?_
  refine lv_iadd hx hb d_Model_wordAt_10 ?_
  refine mk_top (show _ = nI ((4 * p) + (j % 4)) from nI_add _ _) ?_
  refine mk_iald hx hb hK hP 1 0 rfl rfl (j := (4 * p) + (j % 4)) (by omega) (by decide) d_Model_wordAt_11 ?_
  exact mk_iret hx hb hr hlocks hK hP hD hS d_Model_wordAt_12 rfl rfl
set_option maxRecDepth 100000 in
set_option maxHeartbeats 4000000 in
theorem m_put (l : Launch) (D : va_G) (cI cO : ClassId) (aX e0 e1 e2 e3 e4 e5 e6 e7 e8 e9 e10 e11 e12 n wy tu : Nat) (ck : Int32) (p j : Nat) (x : Int32) (co sx ux : Nat → Int32) (hp : p < 24) (hj : j < 32) : mk_M l y_Model_put w_Model_put ({ frames := 1, cells := 0, slots := 0, locals := 21 } : Room) D (tysK cI cO) [.ref aX, .int (nI p), .int (nI j), .int x] [(aX, .inr (4, [.int (nI n), .int (nI wy), .ref e0, .ref e1, .ref e2, .ref e3, .ref e4, .int ck, .ref e5, .ref e6, .ref e7, .ref e8, .ref e9, .ref e10, .ref e11, .int (nI tu), .ref e12])), (e4, .inl (cI, 96, .inl co)), (e2, .inl (cI, 24, .inl sx)), (e3, .inl (cI, 24, .inl ux))] (mk_Qv D (tysK cI cO) [(aX, .inr (4, [.int (nI n), .int (nI wy), .ref e0, .ref e1, .ref e2, .ref e3, .ref e4, .int (ck + nI 1), .ref e5, .ref e6, .ref e7, .ref e8, .ref e9, .ref e10, .ref e11, .int (nI tu), .ref e12])), (e4, .inl (cI, 96, .inl (upd co (4 * p + j % 4) x))), (e2, .inl (cI, 24, .inl (upd sx p (nI 3)))), (e3, .inl (cI, 24, .inl (upd ux p (ck + nI 1))))]) := by
  refine mk_start (cc := b_Model_put) (maxL := 4) (ret := none) (by decide) (Nat.le_of_ble_eq_true rfl) (fun pG eG s mG below meth cG A ls H locs hx hb hml hr hlocks hnm hts hN hown hK hP hD hA hl hS => ?_)
  have hl : lv_has ls 4 [(0, .ref aX), (1, .int (nI p)), (2, .int (nI j)), (3, .int x)] := hl
  refine lv_aload_n hx hb d_Model_put_0 rfl (lv_at hl 0 rfl) ?_
  refine va_get (D := D) (ci := 4) (v := .ref e4) (C := R_Model) (T := T_Model) (N := 17) hx hb hts in_Model hown hK hP 0 rfl rfl 6 (by decide) (hts _ iw_234) (fun _ h9 => h9) rfl d_Model_put_1 ?_
  refine lv_iconst (v := nI 4) hx hb d_Model_put_4 (by decide) ?_
  refine lv_iload_n hx hb d_Model_put_5 rfl (lv_at hl 1 rfl) ?_
  refine lv_imul hx hb d_Model_put_6 ?_
  refine mk_top (show _ = nI (4 * p) from pk_mul _ _) ?_
  refine lv_iload_n hx hb d_Model_put_7 rfl (lv_at hl 2 rfl) ?_
  refine lv_iconst (v := nI 4) hx hb d_Model_put_8 (by decide) ?_
  refine lv_irem hx hb d_Model_put_9 (nI_ne0 (by omega) (by omega)) ?_
  refine mk_top (show _ = nI (j % 4) from pk_rem (by omega) (by omega) (by omega)) ?_
  refine lv_iadd hx hb d_Model_put_10 ?_
  refine mk_top (show _ = nI ((4 * p) + (j % 4)) from nI_add _ _) ?_
  refine lv_iload_n hx hb d_Model_put_11 rfl (lv_at hl 3 rfl) ?_
  refine mk_iast hx hb hK hP hD hS 1 0 rfl rfl (j := (4 * p) + (j % 4)) (by omega) (by decide) d_Model_put_12 (fun H locs hP hD hS => ?_)
  have hP : va_P D vwCl [(aX, .inr (4, [.int (nI n), .int (nI wy), .ref e0, .ref e1, .ref e2, .ref e3, .ref e4, .int ck, .ref e5, .ref e6, .ref e7, .ref e8, .ref e9, .ref e10, .ref e11, .int (nI tu), .ref e12])), (e4, .inl (cI, 96, .inl (upd co ((4 * p) + (j % 4)) x))), (e2, .inl (cI, 24, .inl sx)), (e3, .inl (cI, 24, .inl ux))] H := hP
  have hD : va_D A [(aX, .inr (4, [.int (nI n), .int (nI wy), .ref e0, .ref e1, .ref e2, .ref e3, .ref e4, .int ck, .ref e5, .ref e6, .ref e7, .ref e8, .ref e9, .ref e10, .ref e11, .int (nI tu), .ref e12])), (e4, .inl (cI, 96, .inl (upd co ((4 * p) + (j % 4)) x))), (e2, .inl (cI, 24, .inl sx)), (e3, .inl (cI, 24, .inl ux))] := hD
  refine lv_aload_n hx hb d_Model_put_13 rfl (lv_at hl 0 rfl) ?_
  refine va_get (D := D) (ci := 4) (v := .ref e2) (C := R_Model) (T := T_Model) (N := 17) hx hb hts in_Model hown hK hP 0 rfl rfl 4 (by decide) (hts _ iw_232) (fun _ h9 => h9) rfl d_Model_put_14 ?_
  refine lv_iload_n hx hb d_Model_put_17 rfl (lv_at hl 1 rfl) ?_
  refine lv_iconst (v := nI 3) hx hb d_Model_put_18 (by decide) ?_
  refine mk_iast hx hb hK hP hD hS 2 0 rfl rfl (j := p) (by omega) (by decide) d_Model_put_19 (fun H locs hP hD hS => ?_)
  have hP : va_P D vwCl [(aX, .inr (4, [.int (nI n), .int (nI wy), .ref e0, .ref e1, .ref e2, .ref e3, .ref e4, .int ck, .ref e5, .ref e6, .ref e7, .ref e8, .ref e9, .ref e10, .ref e11, .int (nI tu), .ref e12])), (e4, .inl (cI, 96, .inl (upd co ((4 * p) + (j % 4)) x))), (e2, .inl (cI, 24, .inl (upd sx p (nI 3)))), (e3, .inl (cI, 24, .inl ux))] H := hP
  have hD : va_D A [(aX, .inr (4, [.int (nI n), .int (nI wy), .ref e0, .ref e1, .ref e2, .ref e3, .ref e4, .int ck, .ref e5, .ref e6, .ref e7, .ref e8, .ref e9, .ref e10, .ref e11, .int (nI tu), .ref e12])), (e4, .inl (cI, 96, .inl (upd co ((4 * p) + (j % 4)) x))), (e2, .inl (cI, 24, .inl (upd sx p (nI 3)))), (e3, .inl (cI, 24, .inl ux))] := hD
  refine lv_aload_n hx hb d_Model_put_20 rfl (lv_at hl 0 rfl) ?_
  refine lv_iload_n hx hb d_Model_put_21 rfl (lv_at hl 1 rfl) ?_
  refine mk_callv (X := [(aX, .inr (4, [.int (nI n), .int (nI wy), .ref e0, .ref e1, .ref e2, .ref e3, .ref e4, .int ck, .ref e5, .ref e6, .ref e7, .ref e8, .ref e9, .ref e10, .ref e11, .int (nI tu), .ref e12])), (e4, .inl (cI, 96, .inl (upd co ((4 * p) + (j % 4)) x))), (e2, .inl (cI, 24, .inl (upd sx p (nI 3)))), (e3, .inl (cI, 24, .inl ux))]) (pl := []) (wc := [(aX, .inr (4, [.int (nI n), .int (nI wy), .ref e0, .ref e1, .ref e2, .ref e3, .ref e4, .int ck, .ref e5, .ref e6, .ref e7, .ref e8, .ref e9, .ref e10, .ref e11, .int (nI tu), .ref e12])), (e3, .inl (cI, 24, .inl ux))]) (wr := [(e4, .inl (cI, 96, .inl (upd co ((4 * p) + (j % 4)) x))), (e2, .inl (cI, 24, .inl (upd sx p (nI 3))))]) (w1 := [(aX, .inr (4, [.int (nI n), .int (nI wy), .ref e0, .ref e1, .ref e2, .ref e3, .ref e4, .int (ck + nI 1), .ref e5, .ref e6, .ref e7, .ref e8, .ref e9, .ref e10, .ref e11, .int (nI tu), .ref e12])), (e3, .inl (cI, 24, .inl (upd ux p (ck + nI 1))))]) (X1 := [(aX, .inr (4, [.int (nI n), .int (nI wy), .ref e0, .ref e1, .ref e2, .ref e3, .ref e4, .int (ck + nI 1), .ref e5, .ref e6, .ref e7, .ref e8, .ref e9, .ref e10, .ref e11, .int (nI tu), .ref e12])), (e4, .inl (cI, 96, .inl (upd co ((4 * p) + (j % 4)) x))), (e2, .inl (cI, 24, .inl (upd sx p (nI 3)))), (e3, .inl (cI, 24, .inl (upd ux p (ck + nI 1))))]) hP hD hS hA [0, 3] [1, 2] [2, 0, 1, 3] rfl rfl rfl (by decide) (by decide) (by decide)
    (va_runV (b := aX) (As := [.int (nI p)]) (rest := []) ⟨hx, hb, hml, hown, hts⟩ (m_use l D cI cO aX e0 e1 e2 e3 e4 e5 e6 e7 e8 e9 e10 e11 e12 n wy tu ck p ux (by first | assumption | omega) H.size) ⟨callB_of 1 hts g_Model_use rfl rfl rfl (hts _ iw_43) (hts _ iw_252) (by decide +kernel) ⟨by decide, by decide⟩, hts _ iw_273, hts _ iw_274⟩ (mk_preV (X := [(aX, .inr (4, [.int (nI n), .int (nI wy), .ref e0, .ref e1, .ref e2, .ref e3, .ref e4, .int ck, .ref e5, .ref e6, .ref e7, .ref e8, .ref e9, .ref e10, .ref e11, .int (nI tu), .ref e12])), (e4, .inl (cI, 96, .inl (upd co ((4 * p) + (j % 4)) x))), (e2, .inl (cI, 24, .inl (upd sx p (nI 3)))), (e3, .inl (cI, 24, .inl ux))]) (pl := []) hN hK hP hD [0, 3] (by decide) rfl 0 rfl rfl rfl) rfl rfl hl.1 rfl (lv_room (Nat.le_of_ble_eq_true rfl)) d_Model_put_22 ⟨Nat.le_refl _, Nat.le_refl _⟩) (fun H locs hP hD hS => ?_)
  have hP : va_P D vwCl [(aX, .inr (4, [.int (nI n), .int (nI wy), .ref e0, .ref e1, .ref e2, .ref e3, .ref e4, .int (ck + nI 1), .ref e5, .ref e6, .ref e7, .ref e8, .ref e9, .ref e10, .ref e11, .int (nI tu), .ref e12])), (e4, .inl (cI, 96, .inl (upd co ((4 * p) + (j % 4)) x))), (e2, .inl (cI, 24, .inl (upd sx p (nI 3)))), (e3, .inl (cI, 24, .inl (upd ux p (ck + nI 1))))] H := hP
  have hD : va_D A [(aX, .inr (4, [.int (nI n), .int (nI wy), .ref e0, .ref e1, .ref e2, .ref e3, .ref e4, .int (ck + nI 1), .ref e5, .ref e6, .ref e7, .ref e8, .ref e9, .ref e10, .ref e11, .int (nI tu), .ref e12])), (e4, .inl (cI, 96, .inl (upd co ((4 * p) + (j % 4)) x))), (e2, .inl (cI, 24, .inl (upd sx p (nI 3)))), (e3, .inl (cI, 24, .inl (upd ux p (ck + nI 1))))] := hD
  exact mk_vret hx hb hr hlocks hK hP hD hS d_Model_put_25 rfl
set_option maxRecDepth 100000 in
set_option maxHeartbeats 4000000 in
theorem m_owns_n (l : Launch) (D : va_G) (cI cO : ClassId) (aX e0 e1 e2 e3 e4 e5 e6 e7 e8 e9 e10 e11 e12 n wy tu : Nat) (ck : Int32) : mk_M l y_Model_owns w_Model_owns ({ frames := 0, cells := 0, slots := 0, locals := 0 } : Room) D (tysK cI cO) [.ref aX, .int (-1)] [(aX, .inr (4, [.int (nI n), .int (nI wy), .ref e0, .ref e1, .ref e2, .ref e3, .ref e4, .int ck, .ref e5, .ref e6, .ref e7, .ref e8, .ref e9, .ref e10, .ref e11, .int (nI tu), .ref e12]))] (mk_Qi D (tysK cI cO) (nI 0) [(aX, .inr (4, [.int (nI n), .int (nI wy), .ref e0, .ref e1, .ref e2, .ref e3, .ref e4, .int ck, .ref e5, .ref e6, .ref e7, .ref e8, .ref e9, .ref e10, .ref e11, .int (nI tu), .ref e12]))]) := by
  refine mk_start (cc := b_Model_owns) (maxL := 2) (ret := (some FieldType.boolean)) (by decide) (Nat.le_of_ble_eq_true rfl) (fun pG eG s mG below meth cG A ls H locs hx hb hml hr hlocks hnm hts hN hown hK hP hD hA hl hS => ?_)
  have hl : lv_has ls 2 [(0, .ref aX), (1, .int (-1))] := hl
  refine lv_iload_n hx hb d_Model_owns_0 rfl (lv_at hl 1 rfl) ?_
  refine lv_if_lt (tgt := 18) hx hb d_Model_owns_1 rfl (fun _ => ?_) (fun h => absurd (by decide) h)
  refine lv_iconst (v := nI 0) hx hb d_Model_owns_18 (by decide) ?_
  exact mk_zret hx hb hr hlocks hK hP hD hS d_Model_owns_19 (by decide) rfl rfl
set_option maxRecDepth 100000 in
set_option maxHeartbeats 4000000 in
theorem m_owns_0 (l : Launch) (D : va_G) (cI cO : ClassId) (aX e0 e1 e2 e3 e4 e5 e6 e7 e8 e9 e10 e11 e12 n wy tu : Nat) (ck : Int32) (p : Nat) (sx : Nat → Int32) (hp : p < 24) (h1 : sx p = nI 1) : mk_M l y_Model_owns w_Model_owns ({ frames := 0, cells := 0, slots := 0, locals := 0 } : Room) D (tysK cI cO) [.ref aX, .int (nI p)] [(aX, .inr (4, [.int (nI n), .int (nI wy), .ref e0, .ref e1, .ref e2, .ref e3, .ref e4, .int ck, .ref e5, .ref e6, .ref e7, .ref e8, .ref e9, .ref e10, .ref e11, .int (nI tu), .ref e12])), (e2, .inl (cI, 24, .inl sx))] (mk_Qi D (tysK cI cO) (nI 0) [(aX, .inr (4, [.int (nI n), .int (nI wy), .ref e0, .ref e1, .ref e2, .ref e3, .ref e4, .int ck, .ref e5, .ref e6, .ref e7, .ref e8, .ref e9, .ref e10, .ref e11, .int (nI tu), .ref e12])), (e2, .inl (cI, 24, .inl sx))]) := by
  refine mk_start (cc := b_Model_owns) (maxL := 2) (ret := (some FieldType.boolean)) (by decide) (Nat.le_of_ble_eq_true rfl) (fun pG eG s mG below meth cG A ls H locs hx hb hml hr hlocks hnm hts hN hown hK hP hD hA hl hS => ?_)
  have hl : lv_has ls 2 [(0, .ref aX), (1, .int (nI p))] := hl
  refine lv_iload_n hx hb d_Model_owns_0 rfl (lv_at hl 1 rfl) ?_
  refine lv_if_lt (tgt := 18) hx hb d_Model_owns_1 rfl (fun h => absurd h (nI_pos (by omega))) (fun _ => ?_)
  refine lv_aload_n hx hb d_Model_owns_4 rfl (lv_at hl 0 rfl) ?_
  refine va_get (D := D) (ci := 4) (v := .ref e2) (C := R_Model) (T := T_Model) (N := 17) hx hb hts in_Model hown hK hP 0 rfl rfl 4 (by decide) (hts _ iw_232) (fun _ h9 => h9) rfl d_Model_owns_5 ?_
  refine lv_iload_n hx hb d_Model_owns_8 rfl (lv_at hl 1 rfl) ?_
  refine mk_iald hx hb hK hP 1 0 rfl rfl (j := p) (by omega) (by decide) d_Model_owns_9 ?_
  refine lv_iconst (v := nI 1) hx hb d_Model_owns_10 (by decide) ?_
  refine lv_icmp_eq (tgt := 18) hx hb d_Model_owns_11 rfl (fun _ => ?_) (fun h => absurd h1 h)
  refine lv_iconst (v := nI 0) hx hb d_Model_owns_18 (by decide) ?_
  exact mk_zret hx hb hr hlocks hK hP hD hS d_Model_owns_19 (by decide) rfl rfl
set_option maxRecDepth 100000 in
set_option maxHeartbeats 4000000 in
theorem m_owns_1 (l : Launch) (D : va_G) (cI cO : ClassId) (aX e0 e1 e2 e3 e4 e5 e6 e7 e8 e9 e10 e11 e12 n wy tu : Nat) (ck : Int32) (p : Nat) (sx : Nat → Int32) (hp : p < 24) (h1 : ¬ sx p = nI 1) : mk_M l y_Model_owns w_Model_owns ({ frames := 0, cells := 0, slots := 0, locals := 0 } : Room) D (tysK cI cO) [.ref aX, .int (nI p)] [(aX, .inr (4, [.int (nI n), .int (nI wy), .ref e0, .ref e1, .ref e2, .ref e3, .ref e4, .int ck, .ref e5, .ref e6, .ref e7, .ref e8, .ref e9, .ref e10, .ref e11, .int (nI tu), .ref e12])), (e2, .inl (cI, 24, .inl sx))] (mk_Qi D (tysK cI cO) (nI 1) [(aX, .inr (4, [.int (nI n), .int (nI wy), .ref e0, .ref e1, .ref e2, .ref e3, .ref e4, .int ck, .ref e5, .ref e6, .ref e7, .ref e8, .ref e9, .ref e10, .ref e11, .int (nI tu), .ref e12])), (e2, .inl (cI, 24, .inl sx))]) := by
  refine mk_start (cc := b_Model_owns) (maxL := 2) (ret := (some FieldType.boolean)) (by decide) (Nat.le_of_ble_eq_true rfl) (fun pG eG s mG below meth cG A ls H locs hx hb hml hr hlocks hnm hts hN hown hK hP hD hA hl hS => ?_)
  have hl : lv_has ls 2 [(0, .ref aX), (1, .int (nI p))] := hl
  refine lv_iload_n hx hb d_Model_owns_0 rfl (lv_at hl 1 rfl) ?_
  refine lv_if_lt (tgt := 18) hx hb d_Model_owns_1 rfl (fun h => absurd h (nI_pos (by omega))) (fun _ => ?_)
  refine lv_aload_n hx hb d_Model_owns_4 rfl (lv_at hl 0 rfl) ?_
  refine va_get (D := D) (ci := 4) (v := .ref e2) (C := R_Model) (T := T_Model) (N := 17) hx hb hts in_Model hown hK hP 0 rfl rfl 4 (by decide) (hts _ iw_232) (fun _ h9 => h9) rfl d_Model_owns_5 ?_
  refine lv_iload_n hx hb d_Model_owns_8 rfl (lv_at hl 1 rfl) ?_
  refine mk_iald hx hb hK hP 1 0 rfl rfl (j := p) (by omega) (by decide) d_Model_owns_9 ?_
  refine lv_iconst (v := nI 1) hx hb d_Model_owns_10 (by decide) ?_
  refine lv_icmp_eq (tgt := 18) hx hb d_Model_owns_11 rfl (fun h => absurd h h1) (fun _ => ?_)
  refine lv_iconst (v := nI 1) hx hb d_Model_owns_14 (by decide) ?_
  refine lv_goto (tgt := 19) hx hb d_Model_owns_15 rfl ?_
  exact mk_zret hx hb hr hlocks hK hP hD hS d_Model_owns_19 (by decide) rfl rfl
set_option maxRecDepth 100000 in
set_option maxHeartbeats 4000000 in
theorem m_ask (l : Launch) (D : va_G) (cI cO : ClassId) (aX e0 e1 e2 e3 e4 e5 e6 e7 e8 e9 e10 e11 e12 n wy tu : Nat) (ck : Int32) (i : Nat) (kd y x : Int32) (ki wa op : Nat → Int32) (hi4 : i < 4) : mk_M l y_Model_ask w_Model_ask ({ frames := 0, cells := 0, slots := 0, locals := 0 } : Room) D (tysK cI cO) [.ref aX, .int (nI i), .int kd, .int y, .int x] [(aX, .inr (4, [.int (nI n), .int (nI wy), .ref e0, .ref e1, .ref e2, .ref e3, .ref e4, .int ck, .ref e5, .ref e6, .ref e7, .ref e8, .ref e9, .ref e10, .ref e11, .int (nI tu), .ref e12])), (e9, .inl (cI, 4, .inl ki)), (e10, .inl (cI, 4, .inl wa)), (e11, .inl (cI, 4, .inl op))] (mk_Qi D (tysK cI cO) (nI 1) [(aX, .inr (4, [.int (nI n), .int (nI wy), .ref e0, .ref e1, .ref e2, .ref e3, .ref e4, .int ck, .ref e5, .ref e6, .ref e7, .ref e8, .ref e9, .ref e10, .ref e11, .int (nI tu), .ref e12])), (e9, .inl (cI, 4, .inl (upd ki i kd))), (e10, .inl (cI, 4, .inl (upd wa i y))), (e11, .inl (cI, 4, .inl (upd op i x)))]) := by
  refine mk_start (cc := b_Model_ask) (maxL := 5) (ret := (some FieldType.int)) (by decide) (Nat.le_of_ble_eq_true rfl) (fun pG eG s mG below meth cG A ls H locs hx hb hml hr hlocks hnm hts hN hown hK hP hD hA hl hS => ?_)
  have hl : lv_has ls 5 [(0, .ref aX), (1, .int (nI i)), (2, .int kd), (3, .int y), (4, .int x)] := hl
  refine lv_aload_n hx hb d_Model_ask_0 rfl (lv_at hl 0 rfl) ?_
  refine va_get (D := D) (ci := 4) (v := .ref e9) (C := R_Model) (T := T_Model) (N := 17) hx hb hts in_Model hown hK hP 0 rfl rfl 12 (by decide) (hts _ iw_239) (fun _ h9 => h9) rfl d_Model_ask_1 ?_
  refine lv_iload_n hx hb d_Model_ask_4 rfl (lv_at hl 1 rfl) ?_
  refine lv_iload_n hx hb d_Model_ask_5 rfl (lv_at hl 2 rfl) ?_
  refine mk_iast hx hb hK hP hD hS 1 0 rfl rfl (j := i) (by omega) (by decide) d_Model_ask_6 (fun H locs hP hD hS => ?_)
  have hP : va_P D vwCl [(aX, .inr (4, [.int (nI n), .int (nI wy), .ref e0, .ref e1, .ref e2, .ref e3, .ref e4, .int ck, .ref e5, .ref e6, .ref e7, .ref e8, .ref e9, .ref e10, .ref e11, .int (nI tu), .ref e12])), (e9, .inl (cI, 4, .inl (upd ki i kd))), (e10, .inl (cI, 4, .inl wa)), (e11, .inl (cI, 4, .inl op))] H := hP
  have hD : va_D A [(aX, .inr (4, [.int (nI n), .int (nI wy), .ref e0, .ref e1, .ref e2, .ref e3, .ref e4, .int ck, .ref e5, .ref e6, .ref e7, .ref e8, .ref e9, .ref e10, .ref e11, .int (nI tu), .ref e12])), (e9, .inl (cI, 4, .inl (upd ki i kd))), (e10, .inl (cI, 4, .inl wa)), (e11, .inl (cI, 4, .inl op))] := hD
  refine lv_aload_n hx hb d_Model_ask_7 rfl (lv_at hl 0 rfl) ?_
  refine va_get (D := D) (ci := 4) (v := .ref e10) (C := R_Model) (T := T_Model) (N := 17) hx hb hts in_Model hown hK hP 0 rfl rfl 13 (by decide) (hts _ iw_240) (fun _ h9 => h9) rfl d_Model_ask_8 ?_
  refine lv_iload_n hx hb d_Model_ask_11 rfl (lv_at hl 1 rfl) ?_
  refine lv_iload_n hx hb d_Model_ask_12 rfl (lv_at hl 3 rfl) ?_
  refine mk_iast hx hb hK hP hD hS 2 0 rfl rfl (j := i) (by omega) (by decide) d_Model_ask_13 (fun H locs hP hD hS => ?_)
  have hP : va_P D vwCl [(aX, .inr (4, [.int (nI n), .int (nI wy), .ref e0, .ref e1, .ref e2, .ref e3, .ref e4, .int ck, .ref e5, .ref e6, .ref e7, .ref e8, .ref e9, .ref e10, .ref e11, .int (nI tu), .ref e12])), (e9, .inl (cI, 4, .inl (upd ki i kd))), (e10, .inl (cI, 4, .inl (upd wa i y))), (e11, .inl (cI, 4, .inl op))] H := hP
  have hD : va_D A [(aX, .inr (4, [.int (nI n), .int (nI wy), .ref e0, .ref e1, .ref e2, .ref e3, .ref e4, .int ck, .ref e5, .ref e6, .ref e7, .ref e8, .ref e9, .ref e10, .ref e11, .int (nI tu), .ref e12])), (e9, .inl (cI, 4, .inl (upd ki i kd))), (e10, .inl (cI, 4, .inl (upd wa i y))), (e11, .inl (cI, 4, .inl op))] := hD
  refine lv_aload_n hx hb d_Model_ask_14 rfl (lv_at hl 0 rfl) ?_
  refine va_get (D := D) (ci := 4) (v := .ref e11) (C := R_Model) (T := T_Model) (N := 17) hx hb hts in_Model hown hK hP 0 rfl rfl 14 (by decide) (hts _ iw_241) (fun _ h9 => h9) rfl d_Model_ask_15 ?_
  refine lv_iload_n hx hb d_Model_ask_18 rfl (lv_at hl 1 rfl) ?_
  refine lv_iload hx hb d_Model_ask_19 (lv_at hl 4 rfl) ?_
  refine mk_iast hx hb hK hP hD hS 3 0 rfl rfl (j := i) (by omega) (by decide) d_Model_ask_21 (fun H locs hP hD hS => ?_)
  have hP : va_P D vwCl [(aX, .inr (4, [.int (nI n), .int (nI wy), .ref e0, .ref e1, .ref e2, .ref e3, .ref e4, .int ck, .ref e5, .ref e6, .ref e7, .ref e8, .ref e9, .ref e10, .ref e11, .int (nI tu), .ref e12])), (e9, .inl (cI, 4, .inl (upd ki i kd))), (e10, .inl (cI, 4, .inl (upd wa i y))), (e11, .inl (cI, 4, .inl (upd op i x)))] H := hP
  have hD : va_D A [(aX, .inr (4, [.int (nI n), .int (nI wy), .ref e0, .ref e1, .ref e2, .ref e3, .ref e4, .int ck, .ref e5, .ref e6, .ref e7, .ref e8, .ref e9, .ref e10, .ref e11, .int (nI tu), .ref e12])), (e9, .inl (cI, 4, .inl (upd ki i kd))), (e10, .inl (cI, 4, .inl (upd wa i y))), (e11, .inl (cI, 4, .inl (upd op i x)))] := hD
  refine lv_iconst (v := nI 1) hx hb d_Model_ask_22 (by decide) ?_
  exact mk_iret hx hb hr hlocks hK hP hD hS d_Model_ask_23 rfl rfl
