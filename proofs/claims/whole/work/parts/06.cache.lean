set_option maxRecDepth 100000 in
set_option maxHeartbeats 4000000 in
theorem c_lineOf (l : Launch) (D : va_G) (cI cO : ClassId) (j : Nat) (hj : j < 32) : mk_M l y_Bus_lineOf w_Bus_lineOf ({ frames := 0, cells := 0, slots := 0, locals := 0 } : Room) D (tysK cI cO) [.int (nI j)] [] (mk_Qi D (tysK cI cO) (nI (j / 4)) []) := by
  refine mk_start (cc := b_Bus_lineOf) (maxL := 1) (ret := (some FieldType.int)) (by decide) (Nat.le_of_ble_eq_true rfl) (fun p e s m below meth c A ls H locs hx hb hml hr hlocks hnm hts hN hown hK hP hD hA hl hS => ?_)
  have hl : lv_has ls 1 [(0, .int (nI j))] := hl
  refine lv_iload_n hx hb d_Bus_lineOf_0 rfl (lv_at hl 0 rfl) ?_
  refine lv_iconst (v := nI 4) hx hb d_Bus_lineOf_1 (by decide) ?_
  refine lv_idiv hx hb d_Bus_lineOf_2 (nI_ne0 (by omega) (by omega)) ?_
  refine mk_top (show _ = nI (j / 4) from pk_div (by omega) (by omega) (by omega)) ?_
  exact mk_iret hx hb hr hlocks hK hP hD hS d_Bus_lineOf_3 rfl rfl
set_option maxRecDepth 100000 in
set_option maxHeartbeats 4000000 in
theorem c_isAddress_1 (l : Launch) (D : va_G) (cI cO : ClassId) (j : Nat) (hj : j < 32) : mk_M l y_Bus_isAddress w_Bus_isAddress ({ frames := 0, cells := 0, slots := 0, locals := 0 } : Room) D (tysK cI cO) [.int (nI j)] [] (mk_Qi D (tysK cI cO) (nI 1) []) := by
  refine mk_start (cc := b_Bus_isAddress) (maxL := 1) (ret := (some FieldType.boolean)) (by decide) (Nat.le_of_ble_eq_true rfl) (fun p e s m below meth c A ls H locs hx hb hml hr hlocks hnm hts hN hown hK hP hD hA hl hS => ?_)
  have hl : lv_has ls 1 [(0, .int (nI j))] := hl
  refine lv_iload_n hx hb d_Bus_isAddress_0 rfl (lv_at hl 0 rfl) ?_
  refine lv_if_lt (tgt := 14) hx hb d_Bus_isAddress_1 rfl (fun h => absurd h (nI_pos (by omega))) (fun _ => ?_)
  refine lv_iload_n hx hb d_Bus_isAddress_4 rfl (lv_at hl 0 rfl) ?_
  refine lv_bipush (v := nI 32) hx hb d_Bus_isAddress_5 (by decide) ?_
  refine lv_icmp_ge (tgt := 14) hx hb d_Bus_isAddress_7 rfl (fun h => absurd h (fun q => absurd ((nI_leI (by omega) (by omega)).mp q) (by omega))) (fun _ => ?_)
  refine lv_iconst (v := nI 1) hx hb d_Bus_isAddress_10 (by decide) ?_
  refine lv_goto (tgt := 15) hx hb d_Bus_isAddress_11 rfl ?_
  exact mk_zret hx hb hr hlocks hK hP hD hS d_Bus_isAddress_15 (by decide) rfl rfl
set_option maxRecDepth 100000 in
set_option maxHeartbeats 4000000 in
theorem c_isLine_1 (l : Launch) (D : va_G) (cI cO : ClassId) (j : Nat) (hj : j < 8) : mk_M l y_Bus_isLine w_Bus_isLine ({ frames := 0, cells := 0, slots := 0, locals := 0 } : Room) D (tysK cI cO) [.int (nI j)] [] (mk_Qi D (tysK cI cO) (nI 1) []) := by
  refine mk_start (cc := b_Bus_isLine) (maxL := 1) (ret := (some FieldType.boolean)) (by decide) (Nat.le_of_ble_eq_true rfl) (fun p e s m below meth c A ls H locs hx hb hml hr hlocks hnm hts hN hown hK hP hD hA hl hS => ?_)
  have hl : lv_has ls 1 [(0, .int (nI j))] := hl
  refine lv_iload_n hx hb d_Bus_isLine_0 rfl (lv_at hl 0 rfl) ?_
  refine lv_if_lt (tgt := 14) hx hb d_Bus_isLine_1 rfl (fun h => absurd h (nI_pos (by omega))) (fun _ => ?_)
  refine lv_iload_n hx hb d_Bus_isLine_4 rfl (lv_at hl 0 rfl) ?_
  refine lv_bipush (v := nI 8) hx hb d_Bus_isLine_5 (by decide) ?_
  refine lv_icmp_ge (tgt := 14) hx hb d_Bus_isLine_7 rfl (fun h => absurd h (fun q => absurd ((nI_leI (by omega) (by omega)).mp q) (by omega))) (fun _ => ?_)
  refine lv_iconst (v := nI 1) hx hb d_Bus_isLine_10 (by decide) ?_
  refine lv_goto (tgt := 15) hx hb d_Bus_isLine_11 rfl ?_
  exact mk_zret hx hb hr hlocks hK hP hD hS d_Bus_isLine_15 (by decide) rfl rfl
set_option maxRecDepth 100000 in
set_option maxHeartbeats 4000000 in
theorem c_isAddress_0 (l : Launch) (D : va_G) (cI cO : ClassId) (x : Int32) (hx0 : ¬ vp_in x 32) : mk_M l y_Bus_isAddress w_Bus_isAddress ({ frames := 0, cells := 0, slots := 0, locals := 0 } : Room) D (tysK cI cO) [.int x] [] (mk_Qi D (tysK cI cO) (nI 0) []) := by
  refine mk_start (cc := b_Bus_isAddress) (maxL := 1) (ret := (some FieldType.boolean)) (by decide) (Nat.le_of_ble_eq_true rfl) (fun p e s m below meth c A ls H locs hx hb hml hr hlocks hnm hts hN hown hK hP hD hA hl hS => ?_)
  have hl : lv_has ls 1 [(0, .int x)] := hl
  refine lv_iload_n hx hb d_Bus_isAddress_0 rfl (lv_at hl 0 rfl) ?_
  refine lv_if_lt (tgt := 14) hx hb d_Bus_isAddress_1 rfl (fun h1 => ?_) (fun h1 => ?_)
  · refine lv_iconst (v := nI 0) hx hb d_Bus_isAddress_14 (by decide) ?_
    exact mk_zret hx hb hr hlocks hK hP hD hS d_Bus_isAddress_15 (by decide) rfl rfl
  · refine lv_iload_n hx hb d_Bus_isAddress_4 rfl (lv_at hl 0 rfl) ?_
    refine lv_bipush (v := nI 32) hx hb d_Bus_isAddress_5 (by decide) ?_
    refine lv_icmp_ge (tgt := 14) hx hb d_Bus_isAddress_7 rfl (fun _ => ?_) (fun h => absurd (vp_hi (by decide) hx0 h1) h)
    refine lv_iconst (v := nI 0) hx hb d_Bus_isAddress_14 (by decide) ?_
    exact mk_zret hx hb hr hlocks hK hP hD hS d_Bus_isAddress_15 (by decide) rfl rfl
set_option maxRecDepth 100000 in
set_option maxHeartbeats 4000000 in
theorem c_isLine_0 (l : Launch) (D : va_G) (cI cO : ClassId) (x : Int32) (hx0 : ¬ vp_in x 8) : mk_M l y_Bus_isLine w_Bus_isLine ({ frames := 0, cells := 0, slots := 0, locals := 0 } : Room) D (tysK cI cO) [.int x] [] (mk_Qi D (tysK cI cO) (nI 0) []) := by
  refine mk_start (cc := b_Bus_isLine) (maxL := 1) (ret := (some FieldType.boolean)) (by decide) (Nat.le_of_ble_eq_true rfl) (fun p e s m below meth c A ls H locs hx hb hml hr hlocks hnm hts hN hown hK hP hD hA hl hS => ?_)
  have hl : lv_has ls 1 [(0, .int x)] := hl
  refine lv_iload_n hx hb d_Bus_isLine_0 rfl (lv_at hl 0 rfl) ?_
  refine lv_if_lt (tgt := 14) hx hb d_Bus_isLine_1 rfl (fun h1 => ?_) (fun h1 => ?_)
  · refine lv_iconst (v := nI 0) hx hb d_Bus_isLine_14 (by decide) ?_
    exact mk_zret hx hb hr hlocks hK hP hD hS d_Bus_isLine_15 (by decide) rfl rfl
  · refine lv_iload_n hx hb d_Bus_isLine_4 rfl (lv_at hl 0 rfl) ?_
    refine lv_bipush (v := nI 8) hx hb d_Bus_isLine_5 (by decide) ?_
    refine lv_icmp_ge (tgt := 14) hx hb d_Bus_isLine_7 rfl (fun _ => ?_) (fun h => absurd (vp_hi (by decide) hx0 h1) h)
    refine lv_iconst (v := nI 0) hx hb d_Bus_isLine_14 (by decide) ?_
    exact mk_zret hx hb hr hlocks hK hP hD hS d_Bus_isLine_15 (by decide) rfl rfl
set_option maxRecDepth 100000 in
set_option maxHeartbeats 4000000 in
theorem c_holds_1 (l : Launch) (D : va_G) (cI cO : ClassId) (aC aM a1 a2 a3 wy : Nat) (us : Int32) (st : Nat → Int32) (L : Nat) (hL : L < 8) (h1 : ¬ st L = 0) : mk_M l y_Cache_holds w_Cache_holds ({ frames := 0, cells := 0, slots := 0, locals := 0 } : Room) D (tysK cI cO) [.ref aC, .int (nI L)] [(aC, .inr (0, [.ref aM, .int (nI wy), .ref a1, .ref a2, .ref a3, .int us])), (a1, .inl (cI, 8, .inl st))] (mk_Qi D (tysK cI cO) (nI 1) [(aC, .inr (0, [.ref aM, .int (nI wy), .ref a1, .ref a2, .ref a3, .int us])), (a1, .inl (cI, 8, .inl st))]) := by
  refine mk_start (cc := b_Cache_holds) (maxL := 2) (ret := (some FieldType.boolean)) (by decide) (Nat.le_of_ble_eq_true rfl) (fun p e s m below meth c A ls H locs hx hb hml hr hlocks hnm hts hN hown hK hP hD hA hl hS => ?_)
  have hl : lv_has ls 2 [(0, .ref aC), (1, .int (nI L))] := hl
  refine lv_aload_n hx hb d_Cache_holds_0 rfl (lv_at hl 0 rfl) ?_
  refine va_get (D := D) (ci := 0) (v := .ref a1) (C := R_Cache) (T := T_Cache) (N := 6) hx hb hts in_Cache hown hK hP 0 rfl rfl 2 (by decide) (hts _ iw_63) (fun _ h9 => h9) rfl d_Cache_holds_1 ?_
  refine lv_iload_n hx hb d_Cache_holds_4 rfl (lv_at hl 1 rfl) ?_
  refine mk_iald hx hb hK hP 1 0 rfl rfl (j := L) (by omega) (by decide) d_Cache_holds_5 ?_
  refine lv_if_eq (tgt := 13) hx hb d_Cache_holds_6 rfl (fun h => absurd h h1) (fun _ => ?_)
  refine lv_iconst (v := nI 1) hx hb d_Cache_holds_9 (by decide) ?_
  refine lv_goto (tgt := 14) hx hb d_Cache_holds_10 rfl ?_
  exact mk_zret hx hb hr hlocks hK hP hD hS d_Cache_holds_14 (by decide) rfl rfl
set_option maxRecDepth 100000 in
set_option maxHeartbeats 4000000 in
theorem c_holds_0 (l : Launch) (D : va_G) (cI cO : ClassId) (aC aM a1 a2 a3 wy : Nat) (us : Int32) (st : Nat → Int32) (L : Nat) (hL : L < 8) (h1 : st L = 0) : mk_M l y_Cache_holds w_Cache_holds ({ frames := 0, cells := 0, slots := 0, locals := 0 } : Room) D (tysK cI cO) [.ref aC, .int (nI L)] [(aC, .inr (0, [.ref aM, .int (nI wy), .ref a1, .ref a2, .ref a3, .int us])), (a1, .inl (cI, 8, .inl st))] (mk_Qi D (tysK cI cO) (nI 0) [(aC, .inr (0, [.ref aM, .int (nI wy), .ref a1, .ref a2, .ref a3, .int us])), (a1, .inl (cI, 8, .inl st))]) := by
  refine mk_start (cc := b_Cache_holds) (maxL := 2) (ret := (some FieldType.boolean)) (by decide) (Nat.le_of_ble_eq_true rfl) (fun p e s m below meth c A ls H locs hx hb hml hr hlocks hnm hts hN hown hK hP hD hA hl hS => ?_)
  have hl : lv_has ls 2 [(0, .ref aC), (1, .int (nI L))] := hl
  refine lv_aload_n hx hb d_Cache_holds_0 rfl (lv_at hl 0 rfl) ?_
  refine va_get (D := D) (ci := 0) (v := .ref a1) (C := R_Cache) (T := T_Cache) (N := 6) hx hb hts in_Cache hown hK hP 0 rfl rfl 2 (by decide) (hts _ iw_63) (fun _ h9 => h9) rfl d_Cache_holds_1 ?_
  refine lv_iload_n hx hb d_Cache_holds_4 rfl (lv_at hl 1 rfl) ?_
  refine mk_iald hx hb hK hP 1 0 rfl rfl (j := L) (by omega) (by decide) d_Cache_holds_5 ?_
  refine lv_if_eq (tgt := 13) hx hb d_Cache_holds_6 rfl (fun _ => ?_) (fun h => absurd h1 h)
  refine lv_iconst (v := nI 0) hx hb d_Cache_holds_13 (by decide) ?_
  exact mk_zret hx hb hr hlocks hK hP hD hS d_Cache_holds_14 (by decide) rfl rfl
set_option maxRecDepth 100000 in
set_option maxHeartbeats 4000000 in
theorem c_owns_1 (l : Launch) (D : va_G) (cI cO : ClassId) (aC aM a1 a2 a3 wy : Nat) (us : Int32) (st : Nat → Int32) (L : Nat) (hL : L < 8) (h1 : st L = nI 2 ∨ st L = nI 3) : mk_M l y_Cache_owns w_Cache_owns ({ frames := 0, cells := 0, slots := 0, locals := 0 } : Room) D (tysK cI cO) [.ref aC, .int (nI L)] [(aC, .inr (0, [.ref aM, .int (nI wy), .ref a1, .ref a2, .ref a3, .int us])), (a1, .inl (cI, 8, .inl st))] (mk_Qi D (tysK cI cO) (nI 1) [(aC, .inr (0, [.ref aM, .int (nI wy), .ref a1, .ref a2, .ref a3, .int us])), (a1, .inl (cI, 8, .inl st))]) := by
  refine mk_start (cc := b_Cache_owns) (maxL := 2) (ret := (some FieldType.boolean)) (by decide) (Nat.le_of_ble_eq_true rfl) (fun p e s m below meth c A ls H locs hx hb hml hr hlocks hnm hts hN hown hK hP hD hA hl hS => ?_)
  have hl : lv_has ls 2 [(0, .ref aC), (1, .int (nI L))] := hl
  refine lv_aload_n hx hb d_Cache_owns_0 rfl (lv_at hl 0 rfl) ?_
  refine va_get (D := D) (ci := 0) (v := .ref a1) (C := R_Cache) (T := T_Cache) (N := 6) hx hb hts in_Cache hown hK hP 0 rfl rfl 2 (by decide) (hts _ iw_63) (fun _ h9 => h9) rfl d_Cache_owns_1 ?_
  refine lv_iload_n hx hb d_Cache_owns_4 rfl (lv_at hl 1 rfl) ?_
  refine mk_iald hx hb hK hP 1 0 rfl rfl (j := L) (by omega) (by decide) d_Cache_owns_5 ?_
  refine lv_iconst (v := nI 2) hx hb d_Cache_owns_6 (by decide) ?_
  refine lv_icmp_eq (tgt := 20) hx hb d_Cache_owns_7 rfl (fun h7 => ?_) (fun h7 => ?_)
  · refine lv_iconst (v := nI 1) hx hb d_Cache_owns_20 (by decide) ?_
    refine lv_goto (tgt := 25) hx hb d_Cache_owns_21 rfl ?_
    exact mk_zret hx hb hr hlocks hK hP hD hS d_Cache_owns_25 (by decide) rfl rfl
  · refine lv_aload_n hx hb d_Cache_owns_10 rfl (lv_at hl 0 rfl) ?_
    refine va_get (D := D) (ci := 0) (v := .ref a1) (C := R_Cache) (T := T_Cache) (N := 6) hx hb hts in_Cache hown hK hP 0 rfl rfl 2 (by decide) (hts _ iw_63) (fun _ h9 => h9) rfl d_Cache_owns_11 ?_
    refine lv_iload_n hx hb d_Cache_owns_14 rfl (lv_at hl 1 rfl) ?_
    refine mk_iald hx hb hK hP 1 0 rfl rfl (j := L) (by omega) (by decide) d_Cache_owns_15 ?_
    refine lv_iconst (v := nI 3) hx hb d_Cache_owns_16 (by decide) ?_
    refine lv_icmp_ne (tgt := 24) hx hb d_Cache_owns_17 rfl (fun h => absurd (h1.resolve_left h7) h) (fun _ => ?_)
    refine lv_iconst (v := nI 1) hx hb d_Cache_owns_20 (by decide) ?_
    refine lv_goto (tgt := 25) hx hb d_Cache_owns_21 rfl ?_
    exact mk_zret hx hb hr hlocks hK hP hD hS d_Cache_owns_25 (by decide) rfl rfl
set_option maxRecDepth 100000 in
set_option maxHeartbeats 4000000 in
theorem c_owns_0 (l : Launch) (D : va_G) (cI cO : ClassId) (aC aM a1 a2 a3 wy : Nat) (us : Int32) (st : Nat → Int32) (L : Nat) (hL : L < 8) (h1 : ¬ st L = nI 2) (h2 : ¬ st L = nI 3) : mk_M l y_Cache_owns w_Cache_owns ({ frames := 0, cells := 0, slots := 0, locals := 0 } : Room) D (tysK cI cO) [.ref aC, .int (nI L)] [(aC, .inr (0, [.ref aM, .int (nI wy), .ref a1, .ref a2, .ref a3, .int us])), (a1, .inl (cI, 8, .inl st))] (mk_Qi D (tysK cI cO) (nI 0) [(aC, .inr (0, [.ref aM, .int (nI wy), .ref a1, .ref a2, .ref a3, .int us])), (a1, .inl (cI, 8, .inl st))]) := by
  refine mk_start (cc := b_Cache_owns) (maxL := 2) (ret := (some FieldType.boolean)) (by decide) (Nat.le_of_ble_eq_true rfl) (fun p e s m below meth c A ls H locs hx hb hml hr hlocks hnm hts hN hown hK hP hD hA hl hS => ?_)
  have hl : lv_has ls 2 [(0, .ref aC), (1, .int (nI L))] := hl
  refine lv_aload_n hx hb d_Cache_owns_0 rfl (lv_at hl 0 rfl) ?_
  refine va_get (D := D) (ci := 0) (v := .ref a1) (C := R_Cache) (T := T_Cache) (N := 6) hx hb hts in_Cache hown hK hP 0 rfl rfl 2 (by decide) (hts _ iw_63) (fun _ h9 => h9) rfl d_Cache_owns_1 ?_
  refine lv_iload_n hx hb d_Cache_owns_4 rfl (lv_at hl 1 rfl) ?_
  refine mk_iald hx hb hK hP 1 0 rfl rfl (j := L) (by omega) (by decide) d_Cache_owns_5 ?_
  refine lv_iconst (v := nI 2) hx hb d_Cache_owns_6 (by decide) ?_
  refine lv_icmp_eq (tgt := 20) hx hb d_Cache_owns_7 rfl (fun h => absurd h h1) (fun _ => ?_)
  refine lv_aload_n hx hb d_Cache_owns_10 rfl (lv_at hl 0 rfl) ?_
  refine va_get (D := D) (ci := 0) (v := .ref a1) (C := R_Cache) (T := T_Cache) (N := 6) hx hb hts in_Cache hown hK hP 0 rfl rfl 2 (by decide) (hts _ iw_63) (fun _ h9 => h9) rfl d_Cache_owns_11 ?_
  refine lv_iload_n hx hb d_Cache_owns_14 rfl (lv_at hl 1 rfl) ?_
  refine mk_iald hx hb hK hP 1 0 rfl rfl (j := L) (by omega) (by decide) d_Cache_owns_15 ?_
  refine lv_iconst (v := nI 3) hx hb d_Cache_owns_16 (by decide) ?_
  refine lv_icmp_ne (tgt := 24) hx hb d_Cache_owns_17 rfl (fun _ => ?_) (fun h => absurd h h2)
  refine lv_iconst (v := nI 0) hx hb d_Cache_owns_24 (by decide) ?_
  exact mk_zret hx hb hr hlocks hK hP hD hS d_Cache_owns_25 (by decide) rfl rfl
set_option maxRecDepth 100000 in
set_option maxHeartbeats 4000000 in
theorem c_use (l : Launch) (D : va_G) (cI cO : ClassId) (aC aM a1 a2 a3 wy : Nat) (us : Int32) (ua : Nat → Int32) (L : Nat) (hL : L < 8) : mk_M l y_Cache_use w_Cache_use ({ frames := 0, cells := 0, slots := 0, locals := 0 } : Room) D (tysK cI cO) [.ref aC, .int (nI L)] [(aC, .inr (0, [.ref aM, .int (nI wy), .ref a1, .ref a2, .ref a3, .int us])), (a2, .inl (cI, 8, .inl ua))] (mk_Qv D (tysK cI cO) [(aC, .inr (0, [.ref aM, .int (nI wy), .ref a1, .ref a2, .ref a3, .int (us + nI 1)])), (a2, .inl (cI, 8, .inl (upd ua L (us + nI 1))))]) := by
  refine mk_start (cc := b_Cache_use) (maxL := 2) (ret := none) (by decide) (Nat.le_of_ble_eq_true rfl) (fun p e s m below meth c A ls H locs hx hb hml hr hlocks hnm hts hN hown hK hP hD hA hl hS => ?_)
  have hl : lv_has ls 2 [(0, .ref aC), (1, .int (nI L))] := hl
  refine lv_aload_n hx hb d_Cache_use_0 rfl (lv_at hl 0 rfl) ?_
  refine lv_dup hx hb d_Cache_use_1 rfl ?_
  refine va_get (D := D) (ci := 0) (v := .int us) (C := R_Cache) (T := T_Cache) (N := 6) hx hb hts in_Cache hown hK hP 0 rfl rfl 5 (by decide) (hts _ iw_101) (fun _ h9 => h9) rfl d_Cache_use_2 ?_
  refine lv_iconst (v := nI 1) hx hb d_Cache_use_5 (by decide) ?_
  refine lv_iadd hx hb d_Cache_use_6 ?_
  refine va_put (D := D) (ci := 0) (v := .int (us + (nI 1))) (ty := .int) (C := R_Cache) (T := T_Cache) (N := 6) hx hb hts in_Cache ty_Cache tyok_Cache nm_Cache hown hK hP hD hS 0 rfl rfl 5 (by decide) (hts _ iw_101) (fun _ h9 => h9) rfl (by decide +kernel) rfl rfl (Nat.le_of_ble_eq_true rfl) d_Cache_use_7 (fun H locs hP hD hS => ?_)
  have hP : va_P D vwCl [(aC, .inr (0, [.ref aM, .int (nI wy), .ref a1, .ref a2, .ref a3, .int (us + (nI 1))])), (a2, .inl (cI, 8, .inl ua))] H := hP
  have hD : va_D A [(aC, .inr (0, [.ref aM, .int (nI wy), .ref a1, .ref a2, .ref a3, .int (us + (nI 1))])), (a2, .inl (cI, 8, .inl ua))] := hD
  refine lv_aload_n hx hb d_Cache_use_10 rfl (lv_at hl 0 rfl) ?_
  refine va_get (D := D) (ci := 0) (v := .ref a2) (C := R_Cache) (T := T_Cache) (N := 6) hx hb hts in_Cache hown hK hP 0 rfl rfl 3 (by decide) (hts _ iw_64) (fun _ h9 => h9) rfl d_Cache_use_11 ?_
  refine lv_iload_n hx hb d_Cache_use_14 rfl (lv_at hl 1 rfl) ?_
  refine lv_aload_n hx hb d_Cache_use_15 rfl (lv_at hl 0 rfl) ?_
  refine va_get (D := D) (ci := 0) (v := .int (us + (nI 1))) (C := R_Cache) (T := T_Cache) (N := 6) hx hb hts in_Cache hown hK hP 0 rfl rfl 5 (by decide) (hts _ iw_101) (fun _ h9 => h9) rfl d_Cache_use_16 ?_
  refine mk_iast hx hb hK hP hD hS 1 0 rfl rfl (j := L) (by omega) (by decide) d_Cache_use_19 (fun H locs hP hD hS => ?_)
  have hP : va_P D vwCl [(aC, .inr (0, [.ref aM, .int (nI wy), .ref a1, .ref a2, .ref a3, .int (us + (nI 1))])), (a2, .inl (cI, 8, .inl (upd ua L (us + (nI 1)))))] H := hP
  have hD : va_D A [(aC, .inr (0, [.ref aM, .int (nI wy), .ref a1, .ref a2, .ref a3, .int (us + (nI 1))])), (a2, .inl (cI, 8, .inl (upd ua L (us + (nI 1)))))] := hD
  exact mk_vret hx hb hr hlocks hK hP hD hS d_Cache_use_20 rfl
set_option maxRecDepth 100000 in
set_option maxHeartbeats 4000000 in
theorem c_put (l : Launch) (D : va_G) (cI cO : ClassId) (aC aM a1 a2 a3 wy : Nat) (us : Int32) (st ua wd : Nat → Int32) (j : Nat) (x : Int32) (hj : j < 32) : mk_M l y_Cache_put w_Cache_put ({ frames := 1, cells := 0, slots := 0, locals := 21 } : Room) D (tysK cI cO) [.ref aC, .int (nI j), .int x] [(aC, .inr (0, [.ref aM, .int (nI wy), .ref a1, .ref a2, .ref a3, .int us])), (a1, .inl (cI, 8, .inl st)), (a2, .inl (cI, 8, .inl ua)), (a3, .inl (cI, 32, .inl wd))] (mk_Qv D (tysK cI cO) [(aC, .inr (0, [.ref aM, .int (nI wy), .ref a1, .ref a2, .ref a3, .int (us + nI 1)])), (a1, .inl (cI, 8, .inl (upd st (j / 4) (nI 3)))), (a2, .inl (cI, 8, .inl (upd ua (j / 4) (us + nI 1)))), (a3, .inl (cI, 32, .inl (upd wd j x)))]) := by
  refine mk_start (cc := b_Cache_put) (maxL := 4) (ret := none) (by decide) (Nat.le_of_ble_eq_true rfl) (fun p e s m below meth c A ls H locs hx hb hml hr hlocks hnm hts hN hown hK hP hD hA hl hS => ?_)
  have hl : lv_has ls 4 [(0, .ref aC), (1, .int (nI j)), (2, .int x)] := hl
  refine lv_iload_n hx hb d_Cache_put_0 rfl (lv_at hl 1 rfl) ?_
  refine mk_calli (X := [(aC, .inr (0, [.ref aM, .int (nI wy), .ref a1, .ref a2, .ref a3, .int us])), (a1, .inl (cI, 8, .inl st)), (a2, .inl (cI, 8, .inl ua)), (a3, .inl (cI, 32, .inl wd))]) (pl := []) (wc := []) (wr := [(aC, .inr (0, [.ref aM, .int (nI wy), .ref a1, .ref a2, .ref a3, .int us])), (a1, .inl (cI, 8, .inl st)), (a2, .inl (cI, 8, .inl ua)), (a3, .inl (cI, 32, .inl wd))]) (w1 := []) (X1 := [(aC, .inr (0, [.ref aM, .int (nI wy), .ref a1, .ref a2, .ref a3, .int us])), (a1, .inl (cI, 8, .inl st)), (a2, .inl (cI, 8, .inl ua)), (a3, .inl (cI, 32, .inl wd))]) hP hD hS hA [] [0, 1, 2, 3] [0, 1, 2, 3] rfl rfl rfl (by decide) (by decide) (by decide)
    (va_runSN (As := [.int (nI j)]) (rest := []) ⟨hx, hb, hml, hown, hts⟩ (c_lineOf l D cI cO j (by first | assumption | omega) H.size) ⟨va_cnB 1 hts g_Bus_lineOf rfl rfl rfl (hN _ in_w20) (hts _ iw_39) (by decide +kernel) ⟨by decide, by decide⟩, hts _ iw_94, trivial⟩ (mk_preS (X := [(aC, .inr (0, [.ref aM, .int (nI wy), .ref a1, .ref a2, .ref a3, .int us])), (a1, .inl (cI, 8, .inl st)), (a2, .inl (cI, 8, .inl ua)), (a3, .inl (cI, 32, .inl wd))]) (pl := []) hN hK hP hD [] (by decide) rfl) rfl rfl hl.1 rfl (lv_room (Nat.le_of_ble_eq_true rfl)) d_Cache_put_1 ⟨Nat.le_refl _, Nat.le_refl _⟩) (fun H locs hP hD hS => ?_)
  have hP : va_P D vwCl [(aC, .inr (0, [.ref aM, .int (nI wy), .ref a1, .ref a2, .ref a3, .int us])), (a1, .inl (cI, 8, .inl st)), (a2, .inl (cI, 8, .inl ua)), (a3, .inl (cI, 32, .inl wd))] H := hP
  have hD : va_D A [(aC, .inr (0, [.ref aM, .int (nI wy), .ref a1, .ref a2, .ref a3, .int us])), (a1, .inl (cI, 8, .inl st)), (a2, .inl (cI, 8, .inl ua)), (a3, .inl (cI, 32, .inl wd))] := hD
  refine lv_istore_n hx hb d_Cache_put_4 rfl hl (by decide) rfl (fun ls hl => ?_)
  have hl : lv_has ls 4 [(3, .int (nI (j / 4))), (0, .ref aC), (1, .int (nI j)), (2, .int x)] := hl
  refine lv_aload_n hx hb d_Cache_put_5 rfl (lv_at hl 1 rfl) ?_
  refine va_get (D := D) (ci := 0) (v := .ref a3) (C := R_Cache) (T := T_Cache) (N := 6) hx hb hts in_Cache hown hK hP 0 rfl rfl 4 (by decide) (hts _ iw_65) (fun _ h9 => h9) rfl d_Cache_put_6 ?_
  refine lv_iload_n hx hb d_Cache_put_9 rfl (lv_at hl 2 rfl) ?_
  refine lv_iload_n hx hb d_Cache_put_10 rfl (lv_at hl 3 rfl) ?_
  refine mk_iast hx hb hK hP hD hS 3 0 rfl rfl (j := j) (by omega) (by decide) d_Cache_put_11 (fun H locs hP hD hS => ?_)
  have hP : va_P D vwCl [(aC, .inr (0, [.ref aM, .int (nI wy), .ref a1, .ref a2, .ref a3, .int us])), (a1, .inl (cI, 8, .inl st)), (a2, .inl (cI, 8, .inl ua)), (a3, .inl (cI, 32, .inl (upd wd j x)))] H := hP
  have hD : va_D A [(aC, .inr (0, [.ref aM, .int (nI wy), .ref a1, .ref a2, .ref a3, .int us])), (a1, .inl (cI, 8, .inl st)), (a2, .inl (cI, 8, .inl ua)), (a3, .inl (cI, 32, .inl (upd wd j x)))] := hD
  refine lv_aload_n hx hb d_Cache_put_12 rfl (lv_at hl 1 rfl) ?_
  refine va_get (D := D) (ci := 0) (v := .ref a1) (C := R_Cache) (T := T_Cache) (N := 6) hx hb hts in_Cache hown hK hP 0 rfl rfl 2 (by decide) (hts _ iw_63) (fun _ h9 => h9) rfl d_Cache_put_13 ?_
  refine lv_iload_n hx hb d_Cache_put_16 rfl (lv_at hl 0 rfl) ?_
  refine lv_iconst (v := nI 3) hx hb d_Cache_put_17 (by decide) ?_
  refine mk_iast hx hb hK hP hD hS 1 0 rfl rfl (j := j / 4) (by omega) (by decide) d_Cache_put_18 (fun H locs hP hD hS => ?_)
  have hP : va_P D vwCl [(aC, .inr (0, [.ref aM, .int (nI wy), .ref a1, .ref a2, .ref a3, .int us])), (a1, .inl (cI, 8, .inl (upd st (j / 4) (nI 3)))), (a2, .inl (cI, 8, .inl ua)), (a3, .inl (cI, 32, .inl (upd wd j x)))] H := hP
  have hD : va_D A [(aC, .inr (0, [.ref aM, .int (nI wy), .ref a1, .ref a2, .ref a3, .int us])), (a1, .inl (cI, 8, .inl (upd st (j / 4) (nI 3)))), (a2, .inl (cI, 8, .inl ua)), (a3, .inl (cI, 32, .inl (upd wd j x)))] := hD
  refine lv_aload_n hx hb d_Cache_put_19 rfl (lv_at hl 1 rfl) ?_
  refine lv_iload_n hx hb d_Cache_put_20 rfl (lv_at hl 0 rfl) ?_
  refine mk_callv (X := [(aC, .inr (0, [.ref aM, .int (nI wy), .ref a1, .ref a2, .ref a3, .int us])), (a1, .inl (cI, 8, .inl (upd st (j / 4) (nI 3)))), (a2, .inl (cI, 8, .inl ua)), (a3, .inl (cI, 32, .inl (upd wd j x)))]) (pl := []) (wc := [(aC, .inr (0, [.ref aM, .int (nI wy), .ref a1, .ref a2, .ref a3, .int us])), (a2, .inl (cI, 8, .inl ua))]) (wr := [(a1, .inl (cI, 8, .inl (upd st (j / 4) (nI 3)))), (a3, .inl (cI, 32, .inl (upd wd j x)))]) (w1 := [(aC, .inr (0, [.ref aM, .int (nI wy), .ref a1, .ref a2, .ref a3, .int (us + nI 1)])), (a2, .inl (cI, 8, .inl (upd ua (j / 4) (us + nI 1))))]) (X1 := [(aC, .inr (0, [.ref aM, .int (nI wy), .ref a1, .ref a2, .ref a3, .int (us + nI 1)])), (a1, .inl (cI, 8, .inl (upd st (j / 4) (nI 3)))), (a2, .inl (cI, 8, .inl (upd ua (j / 4) (us + nI 1)))), (a3, .inl (cI, 32, .inl (upd wd j x)))]) hP hD hS hA [0, 2] [1, 3] [2, 0, 3, 1] rfl rfl rfl (by decide) (by decide) (by decide)
    (va_runV (b := aC) (As := [.int (nI (j / 4))]) (rest := []) ⟨hx, hb, hml, hown, hts⟩ (c_use l D cI cO aC aM a1 a2 a3 wy us ua (j / 4) (by first | assumption | omega) H.size) ⟨callB_of 1 hts g_Cache_use rfl rfl rfl (hts _ iw_40) (hts _ iw_132) (by decide +kernel) ⟨by decide, by decide⟩, hts _ iw_99, hts _ iw_100⟩ (mk_preV (X := [(aC, .inr (0, [.ref aM, .int (nI wy), .ref a1, .ref a2, .ref a3, .int us])), (a1, .inl (cI, 8, .inl (upd st (j / 4) (nI 3)))), (a2, .inl (cI, 8, .inl ua)), (a3, .inl (cI, 32, .inl (upd wd j x)))]) (pl := []) hN hK hP hD [0, 2] (by decide) rfl 0 rfl rfl rfl) rfl rfl hl.1 rfl (lv_room (Nat.le_of_ble_eq_true rfl)) d_Cache_put_21 ⟨Nat.le_refl _, Nat.le_refl _⟩) (fun H locs hP hD hS => ?_)
  have hP : va_P D vwCl [(aC, .inr (0, [.ref aM, .int (nI wy), .ref a1, .ref a2, .ref a3, .int (us + nI 1)])), (a1, .inl (cI, 8, .inl (upd st (j / 4) (nI 3)))), (a2, .inl (cI, 8, .inl (upd ua (j / 4) (us + nI 1)))), (a3, .inl (cI, 32, .inl (upd wd j x)))] H := hP
  have hD : va_D A [(aC, .inr (0, [.ref aM, .int (nI wy), .ref a1, .ref a2, .ref a3, .int (us + nI 1)])), (a1, .inl (cI, 8, .inl (upd st (j / 4) (nI 3)))), (a2, .inl (cI, 8, .inl (upd ua (j / 4) (us + nI 1)))), (a3, .inl (cI, 32, .inl (upd wd j x)))] := hD
  exact mk_vret hx hb hr hlocks hK hP hD hS d_Cache_put_24 rfl
set_option maxRecDepth 100000 in
set_option maxHeartbeats 4000000 in
theorem c_wbm (l : Launch) (D : va_G) (cI cO : ClassId) (aC aM a1 a2 a3 wy : Nat) (us : Int32) (aW : Nat) (wb : Int32) (st wd mw : Nat → Int32) (L : Nat) (hL : L < 8) : mk_M l y_Cache_writeBackIfModified w_Cache_writeBackIfModified ({ frames := 1, cells := 0, slots := 0, locals := 40 } : Room) D (tysK cI cO) [.ref aC, .int (nI L)] [(aC, .inr (0, [.ref aM, .int (nI wy), .ref a1, .ref a2, .ref a3, .int us])), (a1, .inl (cI, 8, .inl st)), (a3, .inl (cI, 32, .inl wd)), (aM, .inr (2, [.ref aW, .int wb])), (aW, .inl (cI, 32, .inl mw))] (mk_Qv D (tysK cI cO) [(aC, .inr (0, [.ref aM, .int (nI wy), .ref a1, .ref a2, .ref a3, .int us])), (a1, .inl (cI, 8, .inl st)), (a3, .inl (cI, 32, .inl wd)), (aM, .inr (2, [.ref aW, .int (cw_cnt st wb L)])), (aW, .inl (cI, 32, .inl (cw_mem st wd mw L)))]) := by
  refine mk_start (cc := b_Cache_writeBackIfModified) (maxL := 3) (ret := none) (by decide) (Nat.le_of_ble_eq_true rfl) (fun p e s m below meth c A ls H locs hx hb hml hr hlocks hnm hts hN hown hK hP hD hA hl hS => ?_)
  have hl : lv_has ls 3 [(0, .ref aC), (1, .int (nI L))] := hl
  refine lv_aload_n hx hb d_Cache_writeBackIfModified_0 rfl (lv_at hl 0 rfl) ?_
  refine va_get (D := D) (ci := 0) (v := .ref a1) (C := R_Cache) (T := T_Cache) (N := 6) hx hb hts in_Cache hown hK hP 0 rfl rfl 2 (by decide) (hts _ iw_63) (fun _ h9 => h9) rfl d_Cache_writeBackIfModified_1 ?_
  refine lv_iload_n hx hb d_Cache_writeBackIfModified_4 rfl (lv_at hl 1 rfl) ?_
  refine mk_iald hx hb hK hP 1 0 rfl rfl (j := L) (by omega) (by decide) d_Cache_writeBackIfModified_5 ?_
  refine lv_iconst (v := nI 3) hx hb d_Cache_writeBackIfModified_6 (by decide) ?_
  refine lv_icmp_ne (tgt := 44) hx hb d_Cache_writeBackIfModified_7 rfl (fun h7 => ?_) (fun h7 => ?_)
  · exact mk_vret hx hb hr hlocks hK hP hD hS d_Cache_writeBackIfModified_44 (by simp only [cw_cnt, cw_mem, if_neg h7])
  · refine lv_iload_n hx hb d_Cache_writeBackIfModified_10 rfl (lv_at hl 1 rfl) ?_
    refine lv_iconst (v := nI 4) hx hb d_Cache_writeBackIfModified_11 (by decide) ?_
    refine lv_imul hx hb d_Cache_writeBackIfModified_12 ?_
    refine mk_top (show _ = nI (L * 4) from pk_mul _ _) ?_
    refine lv_istore_n hx hb d_Cache_writeBackIfModified_13 rfl hl (by decide) rfl (fun ls hl => ?_)
    have hl : lv_has ls 3 [(2, .int (nI (L * 4))), (0, .ref aC), (1, .int (nI L))] := hl
    refine lv_aload_n hx hb d_Cache_writeBackIfModified_14 rfl (lv_at hl 1 rfl) ?_
    refine va_get (D := D) (ci := 0) (v := .ref a3) (C := R_Cache) (T := T_Cache) (N := 6) hx hb hts in_Cache hown hK hP 0 rfl rfl 4 (by decide) (hts _ iw_65) (fun _ h9 => h9) rfl d_Cache_writeBackIfModified_15 ?_
    refine lv_iload_n hx hb d_Cache_writeBackIfModified_18 rfl (lv_at hl 0 rfl) ?_
    refine lv_aload_n hx hb d_Cache_writeBackIfModified_19 rfl (lv_at hl 1 rfl) ?_
    refine va_get (D := D) (ci := 0) (v := .ref aM) (C := R_Cache) (T := T_Cache) (N := 6) hx hb hts in_Cache hown hK hP 0 rfl rfl 0 (by decide) (hts _ iw_66) (fun _ h9 => h9) rfl d_Cache_writeBackIfModified_20 ?_
    refine va_getN (D := D) (ci := 2) (v := .ref aW) (C := R_Mem) (T := T_Mem) (N := 2) hx hb hts in_Mem hown hK hP 3 rfl rfl 0 (by decide) (va_Nw.use rfl (hN _ in_w27)) (fun _ h9 => h9) rfl d_Cache_writeBackIfModified_23 ?_
    refine lv_iload_n hx hb d_Cache_writeBackIfModified_26 rfl (lv_at hl 0 rfl) ?_
    refine lv_iconst (v := nI 4) hx hb d_Cache_writeBackIfModified_27 (by decide) ?_
    refine mk_copy hx hb (hml.trans hl.1.symm) hown (hts _ iw_170) (hts _ iw_366) (hts _ iw_367) (hts _ iw_368) hK hP hD hS 2 4 0 rfl rfl rfl (sp := L * 4) (dp := L * 4) (n := 4) (by omega) (by omega) (by decide) (by decide) (Nat.le_of_ble_eq_true rfl) (Nat.le_of_ble_eq_true rfl) d_Cache_writeBackIfModified_28 (fun H locs hP hD hS => ?_)
    have hP : va_P D vwCl [(aC, .inr (0, [.ref aM, .int (nI wy), .ref a1, .ref a2, .ref a3, .int us])), (a1, .inl (cI, 8, .inl st)), (a3, .inl (cI, 32, .inl wd)), (aM, .inr (2, [.ref aW, .int wb])), (aW, .inl (cI, 32, .inl (va_cpy wd mw (L * 4) (L * 4) 4)))] H := hP
    have hD : va_D A [(aC, .inr (0, [.ref aM, .int (nI wy), .ref a1, .ref a2, .ref a3, .int us])), (a1, .inl (cI, 8, .inl st)), (a3, .inl (cI, 32, .inl wd)), (aM, .inr (2, [.ref aW, .int wb])), (aW, .inl (cI, 32, .inl (va_cpy wd mw (L * 4) (L * 4) 4)))] := hD
    refine lv_aload_n hx hb d_Cache_writeBackIfModified_31 rfl (lv_at hl 1 rfl) ?_
    refine va_get (D := D) (ci := 0) (v := .ref aM) (C := R_Cache) (T := T_Cache) (N := 6) hx hb hts in_Cache hown hK hP 0 rfl rfl 0 (by decide) (hts _ iw_66) (fun _ h9 => h9) rfl d_Cache_writeBackIfModified_32 ?_
    refine lv_dup hx hb d_Cache_writeBackIfModified_35 rfl ?_
    refine va_getN (D := D) (ci := 2) (v := .int wb) (C := R_Mem) (T := T_Mem) (N := 2) hx hb hts in_Mem hown hK hP 3 rfl rfl 1 (by decide) (va_Nw.use rfl (hN _ in_w28)) (fun _ h9 => h9) rfl d_Cache_writeBackIfModified_36 ?_
    refine lv_iconst (v := nI 1) hx hb d_Cache_writeBackIfModified_39 (by decide) ?_
    refine lv_iadd hx hb d_Cache_writeBackIfModified_40 ?_
    refine va_putN (D := D) (ci := 2) (v := .int (wb + (nI 1))) (ty := .int) (C := R_Mem) (T := T_Mem) (N := 2) hx hb hts in_Mem ty_Mem tyok_Mem nm_Mem hown hK hP hD hS 3 rfl rfl 1 (by decide) (va_Nw.use rfl (hN _ in_w28)) (fun _ h9 => h9) rfl (by decide +kernel) rfl rfl (Nat.le_of_ble_eq_true rfl) d_Cache_writeBackIfModified_41 (fun H locs hP hD hS => ?_)
    have hP : va_P D vwCl [(aC, .inr (0, [.ref aM, .int (nI wy), .ref a1, .ref a2, .ref a3, .int us])), (a1, .inl (cI, 8, .inl st)), (a3, .inl (cI, 32, .inl wd)), (aM, .inr (2, [.ref aW, .int (wb + (nI 1))])), (aW, .inl (cI, 32, .inl (va_cpy wd mw (L * 4) (L * 4) 4)))] H := hP
    have hD : va_D A [(aC, .inr (0, [.ref aM, .int (nI wy), .ref a1, .ref a2, .ref a3, .int us])), (a1, .inl (cI, 8, .inl st)), (a3, .inl (cI, 32, .inl wd)), (aM, .inr (2, [.ref aW, .int (wb + (nI 1))])), (aW, .inl (cI, 32, .inl (va_cpy wd mw (L * 4) (L * 4) 4)))] := hD
    exact mk_vret hx hb hr hlocks hK hP hD hS d_Cache_writeBackIfModified_44 (by simp only [cw_cnt, cw_mem, if_pos h7])
set_option maxRecDepth 100000 in
set_option maxHeartbeats 4000000 in
theorem c_drop (l : Launch) (D : va_G) (cI cO : ClassId) (aC aM a1 a2 a3 wy : Nat) (us : Int32) (aW : Nat) (wb : Int32) (st wd mw : Nat → Int32) (L : Nat) (hL : L < 8) : mk_M l y_Cache_drop w_Cache_drop ({ frames := 2, cells := 0, slots := 0, locals := 62 } : Room) D (tysK cI cO) [.ref aC, .int (nI L)] [(aC, .inr (0, [.ref aM, .int (nI wy), .ref a1, .ref a2, .ref a3, .int us])), (a1, .inl (cI, 8, .inl st)), (a3, .inl (cI, 32, .inl wd)), (aM, .inr (2, [.ref aW, .int wb])), (aW, .inl (cI, 32, .inl mw))] (mk_Qv D (tysK cI cO) [(aC, .inr (0, [.ref aM, .int (nI wy), .ref a1, .ref a2, .ref a3, .int us])), (a1, .inl (cI, 8, .inl (upd st L (nI 0)))), (a3, .inl (cI, 32, .inl wd)), (aM, .inr (2, [.ref aW, .int (cw_cnt st wb L)])), (aW, .inl (cI, 32, .inl (cw_mem st wd mw L)))]) := by
  refine mk_start (cc := b_Cache_drop) (maxL := 2) (ret := none) (by decide) (Nat.le_of_ble_eq_true rfl) (fun p e s m below meth c A ls H locs hx hb hml hr hlocks hnm hts hN hown hK hP hD hA hl hS => ?_)
  have hl : lv_has ls 2 [(0, .ref aC), (1, .int (nI L))] := hl
  refine lv_aload_n hx hb d_Cache_drop_0 rfl (lv_at hl 0 rfl) ?_
  refine lv_iload_n hx hb d_Cache_drop_1 rfl (lv_at hl 1 rfl) ?_
  refine mk_callv (X := [(aC, .inr (0, [.ref aM, .int (nI wy), .ref a1, .ref a2, .ref a3, .int us])), (a1, .inl (cI, 8, .inl st)), (a3, .inl (cI, 32, .inl wd)), (aM, .inr (2, [.ref aW, .int wb])), (aW, .inl (cI, 32, .inl mw))]) (pl := []) (wc := [(aC, .inr (0, [.ref aM, .int (nI wy), .ref a1, .ref a2, .ref a3, .int us])), (a1, .inl (cI, 8, .inl st)), (a3, .inl (cI, 32, .inl wd)), (aM, .inr (2, [.ref aW, .int wb])), (aW, .inl (cI, 32, .inl mw))]) (wr := []) (w1 := [(aC, .inr (0, [.ref aM, .int (nI wy), .ref a1, .ref a2, .ref a3, .int us])), (a1, .inl (cI, 8, .inl st)), (a3, .inl (cI, 32, .inl wd)), (aM, .inr (2, [.ref aW, .int (cw_cnt st wb L)])), (aW, .inl (cI, 32, .inl (cw_mem st wd mw L)))]) (X1 := [(aC, .inr (0, [.ref aM, .int (nI wy), .ref a1, .ref a2, .ref a3, .int us])), (a1, .inl (cI, 8, .inl st)), (a3, .inl (cI, 32, .inl wd)), (aM, .inr (2, [.ref aW, .int (cw_cnt st wb L)])), (aW, .inl (cI, 32, .inl (cw_mem st wd mw L)))]) hP hD hS hA [0, 1, 2, 3, 4] [] [0, 1, 2, 3, 4] rfl rfl rfl (by decide) (by decide) (by decide)
    (va_runV (b := aC) (As := [.int (nI L)]) (rest := []) ⟨hx, hb, hml, hown, hts⟩ (c_wbm l D cI cO aC aM a1 a2 a3 wy us aW wb st wd mw L (by first | assumption | omega) H.size) ⟨callB_of 1 hts g_Cache_writeBackIfModified rfl rfl rfl (hts _ iw_40) (hts _ iw_166) (by decide +kernel) ⟨by decide, by decide⟩, hts _ iw_168, hts _ iw_169⟩ (mk_preV (X := [(aC, .inr (0, [.ref aM, .int (nI wy), .ref a1, .ref a2, .ref a3, .int us])), (a1, .inl (cI, 8, .inl st)), (a3, .inl (cI, 32, .inl wd)), (aM, .inr (2, [.ref aW, .int wb])), (aW, .inl (cI, 32, .inl mw))]) (pl := []) hN hK hP hD [0, 1, 2, 3, 4] (by decide) rfl 0 rfl rfl rfl) rfl rfl hl.1 rfl (lv_room (Nat.le_of_ble_eq_true rfl)) d_Cache_drop_2 ⟨Nat.le_refl _, Nat.le_refl _⟩) (fun H locs hP hD hS => ?_)
  have hP : va_P D vwCl [(aC, .inr (0, [.ref aM, .int (nI wy), .ref a1, .ref a2, .ref a3, .int us])), (a1, .inl (cI, 8, .inl st)), (a3, .inl (cI, 32, .inl wd)), (aM, .inr (2, [.ref aW, .int (cw_cnt st wb L)])), (aW, .inl (cI, 32, .inl (cw_mem st wd mw L)))] H := hP
  have hD : va_D A [(aC, .inr (0, [.ref aM, .int (nI wy), .ref a1, .ref a2, .ref a3, .int us])), (a1, .inl (cI, 8, .inl st)), (a3, .inl (cI, 32, .inl wd)), (aM, .inr (2, [.ref aW, .int (cw_cnt st wb L)])), (aW, .inl (cI, 32, .inl (cw_mem st wd mw L)))] := hD
  refine lv_aload_n hx hb d_Cache_drop_5 rfl (lv_at hl 0 rfl) ?_
  refine va_get (D := D) (ci := 0) (v := .ref a1) (C := R_Cache) (T := T_Cache) (N := 6) hx hb hts in_Cache hown hK hP 0 rfl rfl 2 (by decide) (hts _ iw_63) (fun _ h9 => h9) rfl d_Cache_drop_6 ?_
  refine lv_iload_n hx hb d_Cache_drop_9 rfl (lv_at hl 1 rfl) ?_
  refine lv_iconst (v := nI 0) hx hb d_Cache_drop_10 (by decide) ?_
  refine mk_iast hx hb hK hP hD hS 1 0 rfl rfl (j := L) (by omega) (by decide) d_Cache_drop_11 (fun H locs hP hD hS => ?_)
  have hP : va_P D vwCl [(aC, .inr (0, [.ref aM, .int (nI wy), .ref a1, .ref a2, .ref a3, .int us])), (a1, .inl (cI, 8, .inl (upd st L (nI 0)))), (a3, .inl (cI, 32, .inl wd)), (aM, .inr (2, [.ref aW, .int (cw_cnt st wb L)])), (aW, .inl (cI, 32, .inl (cw_mem st wd mw L)))] H := hP
  have hD : va_D A [(aC, .inr (0, [.ref aM, .int (nI wy), .ref a1, .ref a2, .ref a3, .int us])), (a1, .inl (cI, 8, .inl (upd st L (nI 0)))), (a3, .inl (cI, 32, .inl wd)), (aM, .inr (2, [.ref aW, .int (cw_cnt st wb L)])), (aW, .inl (cI, 32, .inl (cw_mem st wd mw L)))] := hD
  exact mk_vret hx hb hr hlocks hK hP hD hS d_Cache_drop_12 rfl
set_option maxRecDepth 100000 in
set_option maxHeartbeats 4000000 in
theorem c_share (l : Launch) (D : va_G) (cI cO : ClassId) (aC aM a1 a2 a3 wy : Nat) (us : Int32) (aW : Nat) (wb : Int32) (st wd mw : Nat → Int32) (L : Nat) (hL : L < 8) : mk_M l y_Cache_share w_Cache_share ({ frames := 2, cells := 0, slots := 0, locals := 62 } : Room) D (tysK cI cO) [.ref aC, .int (nI L)] [(aC, .inr (0, [.ref aM, .int (nI wy), .ref a1, .ref a2, .ref a3, .int us])), (a1, .inl (cI, 8, .inl st)), (a3, .inl (cI, 32, .inl wd)), (aM, .inr (2, [.ref aW, .int wb])), (aW, .inl (cI, 32, .inl mw))] (mk_Qv D (tysK cI cO) [(aC, .inr (0, [.ref aM, .int (nI wy), .ref a1, .ref a2, .ref a3, .int us])), (a1, .inl (cI, 8, .inl (upd st L (nI 1)))), (a3, .inl (cI, 32, .inl wd)), (aM, .inr (2, [.ref aW, .int (cw_cnt st wb L)])), (aW, .inl (cI, 32, .inl (cw_mem st wd mw L)))]) := by
  refine mk_start (cc := b_Cache_share) (maxL := 2) (ret := none) (by decide) (Nat.le_of_ble_eq_true rfl) (fun p e s m below meth c A ls H locs hx hb hml hr hlocks hnm hts hN hown hK hP hD hA hl hS => ?_)
  have hl : lv_has ls 2 [(0, .ref aC), (1, .int (nI L))] := hl
  refine lv_aload_n hx hb d_Cache_share_0 rfl (lv_at hl 0 rfl) ?_
  refine lv_iload_n hx hb d_Cache_share_1 rfl (lv_at hl 1 rfl) ?_
  refine mk_callv (X := [(aC, .inr (0, [.ref aM, .int (nI wy), .ref a1, .ref a2, .ref a3, .int us])), (a1, .inl (cI, 8, .inl st)), (a3, .inl (cI, 32, .inl wd)), (aM, .inr (2, [.ref aW, .int wb])), (aW, .inl (cI, 32, .inl mw))]) (pl := []) (wc := [(aC, .inr (0, [.ref aM, .int (nI wy), .ref a1, .ref a2, .ref a3, .int us])), (a1, .inl (cI, 8, .inl st)), (a3, .inl (cI, 32, .inl wd)), (aM, .inr (2, [.ref aW, .int wb])), (aW, .inl (cI, 32, .inl mw))]) (wr := []) (w1 := [(aC, .inr (0, [.ref aM, .int (nI wy), .ref a1, .ref a2, .ref a3, .int us])), (a1, .inl (cI, 8, .inl st)), (a3, .inl (cI, 32, .inl wd)), (aM, .inr (2, [.ref aW, .int (cw_cnt st wb L)])), (aW, .inl (cI, 32, .inl (cw_mem st wd mw L)))]) (X1 := [(aC, .inr (0, [.ref aM, .int (nI wy), .ref a1, .ref a2, .ref a3, .int us])), (a1, .inl (cI, 8, .inl st)), (a3, .inl (cI, 32, .inl wd)), (aM, .inr (2, [.ref aW, .int (cw_cnt st wb L)])), (aW, .inl (cI, 32, .inl (cw_mem st wd mw L)))]) hP hD hS hA [0, 1, 2, 3, 4] [] [0, 1, 2, 3, 4] rfl rfl rfl (by decide) (by decide) (by decide)
    (va_runV (b := aC) (As := [.int (nI L)]) (rest := []) ⟨hx, hb, hml, hown, hts⟩ (c_wbm l D cI cO aC aM a1 a2 a3 wy us aW wb st wd mw L (by first | assumption | omega) H.size) ⟨callB_of 1 hts g_Cache_writeBackIfModified rfl rfl rfl (hts _ iw_40) (hts _ iw_166) (by decide +kernel) ⟨by decide, by decide⟩, hts _ iw_168, hts _ iw_169⟩ (mk_preV (X := [(aC, .inr (0, [.ref aM, .int (nI wy), .ref a1, .ref a2, .ref a3, .int us])), (a1, .inl (cI, 8, .inl st)), (a3, .inl (cI, 32, .inl wd)), (aM, .inr (2, [.ref aW, .int wb])), (aW, .inl (cI, 32, .inl mw))]) (pl := []) hN hK hP hD [0, 1, 2, 3, 4] (by decide) rfl 0 rfl rfl rfl) rfl rfl hl.1 rfl (lv_room (Nat.le_of_ble_eq_true rfl)) d_Cache_share_2 ⟨Nat.le_refl _, Nat.le_refl _⟩) (fun H locs hP hD hS => ?_)
  have hP : va_P D vwCl [(aC, .inr (0, [.ref aM, .int (nI wy), .ref a1, .ref a2, .ref a3, .int us])), (a1, .inl (cI, 8, .inl st)), (a3, .inl (cI, 32, .inl wd)), (aM, .inr (2, [.ref aW, .int (cw_cnt st wb L)])), (aW, .inl (cI, 32, .inl (cw_mem st wd mw L)))] H := hP
  have hD : va_D A [(aC, .inr (0, [.ref aM, .int (nI wy), .ref a1, .ref a2, .ref a3, .int us])), (a1, .inl (cI, 8, .inl st)), (a3, .inl (cI, 32, .inl wd)), (aM, .inr (2, [.ref aW, .int (cw_cnt st wb L)])), (aW, .inl (cI, 32, .inl (cw_mem st wd mw L)))] := hD
  refine lv_aload_n hx hb d_Cache_share_5 rfl (lv_at hl 0 rfl) ?_
  refine va_get (D := D) (ci := 0) (v := .ref a1) (C := R_Cache) (T := T_Cache) (N := 6) hx hb hts in_Cache hown hK hP 0 rfl rfl 2 (by decide) (hts _ iw_63) (fun _ h9 => h9) rfl d_Cache_share_6 ?_
  refine lv_iload_n hx hb d_Cache_share_9 rfl (lv_at hl 1 rfl) ?_
  refine lv_iconst (v := nI 1) hx hb d_Cache_share_10 (by decide) ?_
  refine mk_iast hx hb hK hP hD hS 1 0 rfl rfl (j := L) (by omega) (by decide) d_Cache_share_11 (fun H locs hP hD hS => ?_)
  have hP : va_P D vwCl [(aC, .inr (0, [.ref aM, .int (nI wy), .ref a1, .ref a2, .ref a3, .int us])), (a1, .inl (cI, 8, .inl (upd st L (nI 1)))), (a3, .inl (cI, 32, .inl wd)), (aM, .inr (2, [.ref aW, .int (cw_cnt st wb L)])), (aW, .inl (cI, 32, .inl (cw_mem st wd mw L)))] H := hP
  have hD : va_D A [(aC, .inr (0, [.ref aM, .int (nI wy), .ref a1, .ref a2, .ref a3, .int us])), (a1, .inl (cI, 8, .inl (upd st L (nI 1)))), (a3, .inl (cI, 32, .inl wd)), (aM, .inr (2, [.ref aW, .int (cw_cnt st wb L)])), (aW, .inl (cI, 32, .inl (cw_mem st wd mw L)))] := hD
  exact mk_vret hx hb hr hlocks hK hP hD hS d_Cache_share_12 rfl
