set_option maxRecDepth 100000 in
set_option maxHeartbeats 4000000 in
theorem c_leave (l : Launch) (D : va_G) (cI cO : ClassId) (aC aM a1 a2 a3 wy : Nat) (us : Int32) (st ua : Nat → Int32) (z : Nat) (hz : z < 2) (hw : wy < 4) : mk_M l y_Cache_lineToLeave w_Cache_lineToLeave ({ frames := 1, cells := 0, slots := 0, locals := 21 } : Room) D (tysK cI cO) [.ref aC, .int (nI z)] [(aC, .inr (0, [.ref aM, .int (nI wy), .ref a1, .ref a2, .ref a3, .int us])), (a1, .inl (cI, 8, .inl st)), (a2, .inl (cI, 8, .inl ua))] (mk_Qi D (tysK cI cO) (cl_on (cl_leave st ua wy z)) [(aC, .inr (0, [.ref aM, .int (nI wy), .ref a1, .ref a2, .ref a3, .int us])), (a1, .inl (cI, 8, .inl st)), (a2, .inl (cI, 8, .inl ua))]) := by
  refine mk_start (cc := b_Cache_lineToLeave) (maxL := 5) (ret := (some FieldType.int)) (by decide) (Nat.le_of_ble_eq_true rfl) (fun p e s m below meth c A ls H locs hx hb hml hr hlocks hnm hts hN hown hK hP hD hA hl hS => ?_)
  have hl : lv_has ls 5 [(0, .ref aC), (1, .int (nI z))] := hl
  refine lv_iconst (v := nI 0) hx hb d_Cache_lineToLeave_0 (by decide) ?_
  refine lv_istore_n hx hb d_Cache_lineToLeave_1 rfl hl (by decide) rfl (fun ls hl => ?_)
  have hl : lv_has ls 5 [(2, .int (nI 0)), (0, .ref aC), (1, .int (nI z))] := hl
  refine lv_iconst (v := (-1)) hx hb d_Cache_lineToLeave_2 (by decide) ?_
  refine lv_istore_n hx hb d_Cache_lineToLeave_3 rfl hl (by decide) rfl (fun ls hl => ?_)
  have hl : lv_has ls 5 [(3, .int (-1)), (2, .int (nI 0)), (0, .ref aC), (1, .int (nI z))] := hl
  refine lv_iload_n hx hb d_Cache_lineToLeave_4 rfl (lv_at hl 3 rfl) ?_
  refine lv_istore hx hb d_Cache_lineToLeave_5 hl (by decide) rfl (fun ls hl => ?_)
  have hl : lv_has ls 5 [(4, .int (nI z)), (3, .int (-1)), (2, .int (nI 0)), (0, .ref aC), (1, .int (nI z))] := hl
  have loop : ∀ (fu t : Nat) (ls : Array Slot) (H : Heap) (locs : List Loc), t + fu = 4 → lv_has ls 5 [(0, .ref aC), (1, .int (nI z)), (2, .int (nI ((cl_scan st ua z t).1))), (3, .int (cl_on (cl_scan st ua z t).2)), (4, .int (nI (z + 2 * t)))] → va_P D vwCl [(aC, .inr (0, [.ref aM, .int (nI wy), .ref a1, .ref a2, .ref a3, .int us])), (a1, .inl (cI, 8, .inl st)), (a2, .inl (cI, 8, .inl ua))] H → va_D A [(aC, .inr (0, [.ref aM, .int (nI wy), .ref a1, .ref a2, .ref a3, .int us])), (a1, .inl (cI, 8, .inl st)), (a2, .inl (cI, 8, .inl ua))] → va_S A s.heap H locs → W p l e ({ frames := 1, cells := 0, slots := 0, locals := 21 } : Room) s m [.ref aC, .int (nI z)].toArray below meth c H locs 0 0 (MQ below (mk_Qi D (tysK cI cO) (cl_on (cl_leave st ua wy z)) [(aC, .inr (0, [.ref aM, .int (nI wy), .ref a1, .ref a2, .ref a3, .int us])), (a1, .inl (cI, 8, .inl st)), (a2, .inl (cI, 8, .inl ua))] A) [.ref aC, .int (nI z)].toArray s 0 0 A) (F0 m 7 ls []) := by
    intro fu
    induction fu with
    | zero =>
      intro t ls H locs  ht  hl hP hD hS
      have ht1 : 4 = t := by omega
      subst ht1
      have hsc := cl_scan_le st ua z 4
      refine lv_iload hx hb d_Cache_lineToLeave_7 (lv_at hl 4 rfl) ?_
      refine lv_bipush (v := nI 8) hx hb d_Cache_lineToLeave_9 (by decide) ?_
      refine lv_icmp_ge (tgt := 56) hx hb d_Cache_lineToLeave_11 rfl (fun _ => ?_) (fun h => absurd ((nI_leI (by omega) (by omega)).mpr (by omega)) h)
      refine lv_iload_n hx hb d_Cache_lineToLeave_56 rfl (lv_at hl 2 rfl) ?_
      refine lv_aload_n hx hb d_Cache_lineToLeave_57 rfl (lv_at hl 0 rfl) ?_
      refine va_get (D := D) (ci := 0) (v := .int (nI wy)) (C := R_Cache) (T := T_Cache) (N := 6) hx hb hts in_Cache hown hK hP 0 rfl rfl 1 (by decide) (hts _ iw_67) (fun _ h9 => h9) rfl d_Cache_lineToLeave_58 ?_
      refine lv_icmp_ge (tgt := 68) hx hb d_Cache_lineToLeave_61 rfl (fun h61 => ?_) (fun h61 => ?_)
      · have n61 : wy ≤ ((cl_scan st ua z 4).1) := (nI_leI (by omega) (by omega)).mp h61
        refine lv_iload_n hx hb d_Cache_lineToLeave_68 rfl (lv_at hl 3 rfl) ?_
        exact mk_iret hx hb hr hlocks hK hP hD hS d_Cache_lineToLeave_69 (by simp only [cl_leave, if_neg (Nat.not_lt.mpr n61)]) rfl
      · have n61 : ¬ wy ≤ ((cl_scan st ua z 4).1) := fun q => h61 ((nI_leI (by omega) (by omega)).mpr q)
        refine lv_iconst (v := (-1)) hx hb d_Cache_lineToLeave_64 (by decide) ?_
        refine lv_goto (tgt := 69) hx hb d_Cache_lineToLeave_65 rfl ?_
        exact mk_iret hx hb hr hlocks hK hP hD hS d_Cache_lineToLeave_69 (by simp only [cl_leave, if_pos (Nat.lt_of_not_le n61)]; rfl) rfl
    | succ fu ih =>
      intro t ls H locs  ht  hl hP hD hS
      have ht0 : t < 4 := by omega
      refine lv_iload hx hb d_Cache_lineToLeave_7 (lv_at hl 4 rfl) ?_
      refine lv_bipush (v := nI 8) hx hb d_Cache_lineToLeave_9 (by decide) ?_
      refine lv_icmp_ge (tgt := 56) hx hb d_Cache_lineToLeave_11 rfl (fun h => absurd h (fun q => absurd ((nI_leI (by omega) (by omega)).mp q) (by omega))) (fun _ => ?_)
      refine lv_aload_n hx hb d_Cache_lineToLeave_14 rfl (lv_at hl 0 rfl) ?_
      refine lv_iload hx hb d_Cache_lineToLeave_15 (lv_at hl 4 rfl) ?_
      by_cases hz0 : st (z + 2 * t) = 0
      · refine mk_calli (X := [(aC, .inr (0, [.ref aM, .int (nI wy), .ref a1, .ref a2, .ref a3, .int us])), (a1, .inl (cI, 8, .inl st)), (a2, .inl (cI, 8, .inl ua))]) (pl := []) (wc := [(aC, .inr (0, [.ref aM, .int (nI wy), .ref a1, .ref a2, .ref a3, .int us])), (a1, .inl (cI, 8, .inl st))]) (wr := [(a2, .inl (cI, 8, .inl ua))]) (w1 := [(aC, .inr (0, [.ref aM, .int (nI wy), .ref a1, .ref a2, .ref a3, .int us])), (a1, .inl (cI, 8, .inl st))]) (X1 := [(aC, .inr (0, [.ref aM, .int (nI wy), .ref a1, .ref a2, .ref a3, .int us])), (a1, .inl (cI, 8, .inl st)), (a2, .inl (cI, 8, .inl ua))]) hP hD hS hA [0, 1] [2] [1, 2, 0] rfl rfl rfl (by decide) (by decide) (by decide)
          (va_runV (b := aC) (As := [.int (nI (z + 2 * t))]) (rest := []) ⟨hx, hb, hml, hown, hts⟩ (c_holds_0 l D cI cO aC aM a1 a2 a3 wy us st (z + 2 * t) (by omega) hz0 H.size) ⟨callB_of 1 hts g_Cache_holds rfl rfl rfl (hts _ iw_40) (hts _ iw_179) (by decide +kernel) ⟨by decide, by decide⟩, hts _ iw_96, hts _ iw_97⟩ (mk_preV (X := [(aC, .inr (0, [.ref aM, .int (nI wy), .ref a1, .ref a2, .ref a3, .int us])), (a1, .inl (cI, 8, .inl st)), (a2, .inl (cI, 8, .inl ua))]) (pl := []) hN hK hP hD [0, 1] (by decide) rfl 0 rfl rfl rfl) rfl rfl hl.1 rfl (lv_room (Nat.le_of_ble_eq_true rfl)) d_Cache_lineToLeave_17 ⟨Nat.le_refl _, Nat.le_refl _⟩) (fun H locs hP hD hS => ?_)
        have hP : va_P D vwCl [(aC, .inr (0, [.ref aM, .int (nI wy), .ref a1, .ref a2, .ref a3, .int us])), (a1, .inl (cI, 8, .inl st)), (a2, .inl (cI, 8, .inl ua))] H := hP
        have hD : va_D A [(aC, .inr (0, [.ref aM, .int (nI wy), .ref a1, .ref a2, .ref a3, .int us])), (a1, .inl (cI, 8, .inl st)), (a2, .inl (cI, 8, .inl ua))] := hD
        refine lv_if_eq (tgt := 50) hx hb d_Cache_lineToLeave_20 rfl (fun _ => ?_) (fun h => absurd (by decide) h)
        refine lv_iinc (k := 4) (v := nI ((z + 2 * t) + 2)) hx hb d_Cache_lineToLeave_50 hl rfl (nI_add _ 2) (by decide) rfl (fun ls hl => ?_)
        have hl : lv_has ls 5 [(4, .int (nI ((z + 2 * t) + 2))), (0, .ref aC), (1, .int (nI z)), (2, .int (nI ((cl_scan st ua z t).1))), (3, .int (cl_on (cl_scan st ua z t).2))] := hl
        refine lv_goto (tgt := 7) hx hb d_Cache_lineToLeave_53 rfl ?_
        have e1 : cl_scan st ua z (t + 1) = (cl_scan st ua z t) := by rw [cl_scan, if_pos hz0]
        refine ih (t + 1) ls H locs (by omega) ?_ ?_ ?_ hS
        · rw [e1, show z + 2 * (t + 1) = z + 2 * t + 2 by omega]; exact lv_sub hl [1, 2, 3, 4, 0] rfl
        · exact hP
        · exact hD
      · refine mk_calli (X := [(aC, .inr (0, [.ref aM, .int (nI wy), .ref a1, .ref a2, .ref a3, .int us])), (a1, .inl (cI, 8, .inl st)), (a2, .inl (cI, 8, .inl ua))]) (pl := []) (wc := [(aC, .inr (0, [.ref aM, .int (nI wy), .ref a1, .ref a2, .ref a3, .int us])), (a1, .inl (cI, 8, .inl st))]) (wr := [(a2, .inl (cI, 8, .inl ua))]) (w1 := [(aC, .inr (0, [.ref aM, .int (nI wy), .ref a1, .ref a2, .ref a3, .int us])), (a1, .inl (cI, 8, .inl st))]) (X1 := [(aC, .inr (0, [.ref aM, .int (nI wy), .ref a1, .ref a2, .ref a3, .int us])), (a1, .inl (cI, 8, .inl st)), (a2, .inl (cI, 8, .inl ua))]) hP hD hS hA [0, 1] [2] [1, 2, 0] rfl rfl rfl (by decide) (by decide) (by decide)
          (va_runV (b := aC) (As := [.int (nI (z + 2 * t))]) (rest := []) ⟨hx, hb, hml, hown, hts⟩ (c_holds_1 l D cI cO aC aM a1 a2 a3 wy us st (z + 2 * t) (by omega) hz0 H.size) ⟨callB_of 1 hts g_Cache_holds rfl rfl rfl (hts _ iw_40) (hts _ iw_179) (by decide +kernel) ⟨by decide, by decide⟩, hts _ iw_96, hts _ iw_97⟩ (mk_preV (X := [(aC, .inr (0, [.ref aM, .int (nI wy), .ref a1, .ref a2, .ref a3, .int us])), (a1, .inl (cI, 8, .inl st)), (a2, .inl (cI, 8, .inl ua))]) (pl := []) hN hK hP hD [0, 1] (by decide) rfl 0 rfl rfl rfl) rfl rfl hl.1 rfl (lv_room (Nat.le_of_ble_eq_true rfl)) d_Cache_lineToLeave_17 ⟨Nat.le_refl _, Nat.le_refl _⟩) (fun H locs hP hD hS => ?_)
        have hP : va_P D vwCl [(aC, .inr (0, [.ref aM, .int (nI wy), .ref a1, .ref a2, .ref a3, .int us])), (a1, .inl (cI, 8, .inl st)), (a2, .inl (cI, 8, .inl ua))] H := hP
        have hD : va_D A [(aC, .inr (0, [.ref aM, .int (nI wy), .ref a1, .ref a2, .ref a3, .int us])), (a1, .inl (cI, 8, .inl st)), (a2, .inl (cI, 8, .inl ua))] := hD
        refine lv_if_eq (tgt := 50) hx hb d_Cache_lineToLeave_20 rfl (fun h => absurd h (by decide)) (fun _ => ?_)
        refine lv_iinc (k := 2) (v := nI (((cl_scan st ua z t).1) + 1)) hx hb d_Cache_lineToLeave_23 hl rfl (nI_1 _) (by decide) rfl (fun ls hl => ?_)
        have hl : lv_has ls 5 [(2, .int (nI (((cl_scan st ua z t).1) + 1))), (0, .ref aC), (1, .int (nI z)), (3, .int (cl_on (cl_scan st ua z t).2)), (4, .int (nI (z + 2 * t)))] := hl
        rcases ho : (cl_scan st ua z t).2 with _ | o
        · rw [ho] at hl
          have hl : lv_has ls 5 [(2, .int (nI (((cl_scan st ua z t).1) + 1))), (0, .ref aC), (1, .int (nI z)), (3, .int (-1)), (4, .int (nI (z + 2 * t)))] := hl
          refine lv_iload_n hx hb d_Cache_lineToLeave_26 rfl (lv_at hl 3 rfl) ?_
          refine lv_iconst (v := (-1)) hx hb d_Cache_lineToLeave_27 (by decide) ?_
          refine lv_icmp_eq (tgt := 47) hx hb d_Cache_lineToLeave_28 rfl (fun _ => ?_) (fun h => absurd (by decide) h)
          refine lv_iload hx hb d_Cache_lineToLeave_47 (lv_at hl 4 rfl) ?_
          refine lv_istore_n hx hb d_Cache_lineToLeave_49 rfl hl (by decide) rfl (fun ls hl => ?_)
          have hl : lv_has ls 5 [(3, .int (nI (z + 2 * t))), (2, .int (nI (((cl_scan st ua z t).1) + 1))), (0, .ref aC), (1, .int (nI z)), (4, .int (nI (z + 2 * t)))] := hl
          refine lv_iinc (k := 4) (v := nI ((z + 2 * t) + 2)) hx hb d_Cache_lineToLeave_50 hl rfl (nI_add _ 2) (by decide) rfl (fun ls hl => ?_)
          have hl : lv_has ls 5 [(4, .int (nI ((z + 2 * t) + 2))), (3, .int (nI (z + 2 * t))), (2, .int (nI (((cl_scan st ua z t).1) + 1))), (0, .ref aC), (1, .int (nI z))] := hl
          refine lv_goto (tgt := 7) hx hb d_Cache_lineToLeave_53 rfl ?_
          have e1 : cl_scan st ua z (t + 1) = ((cl_scan st ua z t).1 + 1, some (z + 2 * t)) := by rw [cl_scan, if_neg hz0, ho]
          refine ih (t + 1) ls H locs (by omega) ?_ ?_ ?_ hS
          · rw [e1, show z + 2 * (t + 1) = z + 2 * t + 2 by omega]; exact lv_sub hl [3, 4, 2, 1, 0] rfl
          · exact hP
          · exact hD
        · have hlo := cl_scan_lt st ua z t o ho
          rw [ho] at hl
          have hl : lv_has ls 5 [(2, .int (nI (((cl_scan st ua z t).1) + 1))), (0, .ref aC), (1, .int (nI z)), (3, .int (nI o)), (4, .int (nI (z + 2 * t)))] := hl
          refine lv_iload_n hx hb d_Cache_lineToLeave_26 rfl (lv_at hl 3 rfl) ?_
          refine lv_iconst (v := (-1)) hx hb d_Cache_lineToLeave_27 (by decide) ?_
          refine lv_icmp_eq (tgt := 47) hx hb d_Cache_lineToLeave_28 rfl (fun h => absurd h (nI_m1 (by omega))) (fun _ => ?_)
          refine lv_aload_n hx hb d_Cache_lineToLeave_31 rfl (lv_at hl 1 rfl) ?_
          refine va_get (D := D) (ci := 0) (v := .ref a2) (C := R_Cache) (T := T_Cache) (N := 6) hx hb hts in_Cache hown hK hP 0 rfl rfl 3 (by decide) (hts _ iw_64) (fun _ h9 => h9) rfl d_Cache_lineToLeave_32 ?_
          refine lv_iload hx hb d_Cache_lineToLeave_35 (lv_at hl 4 rfl) ?_
          refine mk_iald hx hb hK hP 2 0 rfl rfl (j := z + 2 * t) (by omega) (by decide) d_Cache_lineToLeave_37 ?_
          refine lv_aload_n hx hb d_Cache_lineToLeave_38 rfl (lv_at hl 1 rfl) ?_
          refine va_get (D := D) (ci := 0) (v := .ref a2) (C := R_Cache) (T := T_Cache) (N := 6) hx hb hts in_Cache hown hK hP 0 rfl rfl 3 (by decide) (hts _ iw_64) (fun _ h9 => h9) rfl d_Cache_lineToLeave_39 ?_
          refine lv_iload_n hx hb d_Cache_lineToLeave_42 rfl (lv_at hl 3 rfl) ?_
          refine mk_iald hx hb hK hP 2 0 rfl rfl (j := o) (by omega) (by decide) d_Cache_lineToLeave_43 ?_
          refine lv_icmp_ge (tgt := 50) hx hb d_Cache_lineToLeave_44 rfl (fun h44 => ?_) (fun h44 => ?_)
          · have hlt : ¬ ua (z + 2 * t) < ua o := Int32.not_lt.mpr h44
            refine lv_iinc (k := 4) (v := nI ((z + 2 * t) + 2)) hx hb d_Cache_lineToLeave_50 hl rfl (nI_add _ 2) (by decide) rfl (fun ls hl => ?_)
            have hl : lv_has ls 5 [(4, .int (nI ((z + 2 * t) + 2))), (2, .int (nI (((cl_scan st ua z t).1) + 1))), (0, .ref aC), (1, .int (nI z)), (3, .int (nI o))] := hl
            refine lv_goto (tgt := 7) hx hb d_Cache_lineToLeave_53 rfl ?_
            have e1 : cl_scan st ua z (t + 1) = ((cl_scan st ua z t).1 + 1, some o) := by rw [cl_scan, if_neg hz0, ho]; simp only [if_neg hlt]
            refine ih (t + 1) ls H locs (by omega) ?_ ?_ ?_ hS
            · rw [e1, show z + 2 * (t + 1) = z + 2 * t + 2 by omega]; exact lv_sub hl [2, 3, 1, 4, 0] rfl
            · exact hP
            · exact hD
          · have hlt : ua (z + 2 * t) < ua o := Int32.not_le.mp h44
            refine lv_iload hx hb d_Cache_lineToLeave_47 (lv_at hl 4 rfl) ?_
            refine lv_istore_n hx hb d_Cache_lineToLeave_49 rfl hl (by decide) rfl (fun ls hl => ?_)
            have hl : lv_has ls 5 [(3, .int (nI (z + 2 * t))), (2, .int (nI (((cl_scan st ua z t).1) + 1))), (0, .ref aC), (1, .int (nI z)), (4, .int (nI (z + 2 * t)))] := hl
            refine lv_iinc (k := 4) (v := nI ((z + 2 * t) + 2)) hx hb d_Cache_lineToLeave_50 hl rfl (nI_add _ 2) (by decide) rfl (fun ls hl => ?_)
            have hl : lv_has ls 5 [(4, .int (nI ((z + 2 * t) + 2))), (3, .int (nI (z + 2 * t))), (2, .int (nI (((cl_scan st ua z t).1) + 1))), (0, .ref aC), (1, .int (nI z))] := hl
            refine lv_goto (tgt := 7) hx hb d_Cache_lineToLeave_53 rfl ?_
            have e1 : cl_scan st ua z (t + 1) = ((cl_scan st ua z t).1 + 1, some (z + 2 * t)) := by rw [cl_scan, if_neg hz0, ho]; simp only [if_pos hlt]
            refine ih (t + 1) ls H locs (by omega) ?_ ?_ ?_ hS
            · rw [e1, show z + 2 * (t + 1) = z + 2 * t + 2 by omega]; exact lv_sub hl [3, 4, 2, 1, 0] rfl
            · exact hP
            · exact hD
  exact loop 4 0 ls H locs (by omega) (lv_sub hl [3, 4, 2, 1, 0] rfl) hP hD hS
set_option maxRecDepth 100000 in
set_option maxHeartbeats 4000000 in
theorem c_fill (l : Launch) (D : va_G) (cI cO : ClassId) (aC aM a1 a2 a3 wy : Nat) (us : Int32) (aW : Nat) (wb : Int32) (st ua wd mw : Nat → Int32) (L : Nat) (x : Int32) (hL : L < 8) (hw : wy < 4) : mk_M l y_Cache_fill w_Cache_fill ({ frames := 3, cells := 0, slots := 0, locals := 83 } : Room) D (tysK cI cO) [.ref aC, .int (nI L), .int x] [(aC, .inr (0, [.ref aM, .int (nI wy), .ref a1, .ref a2, .ref a3, .int us])), (a1, .inl (cI, 8, .inl st)), (a2, .inl (cI, 8, .inl ua)), (a3, .inl (cI, 32, .inl wd)), (aM, .inr (2, [.ref aW, .int wb])), (aW, .inl (cI, 32, .inl mw))] (mk_Qv D (tysK cI cO) [(aC, .inr (0, [.ref aM, .int (nI wy), .ref a1, .ref a2, .ref a3, .int (us + nI 1)])), (a1, .inl (cI, 8, .inl (upd (cf_st st (cl_leave st ua wy (L % 2))) L x))), (a2, .inl (cI, 8, .inl (upd ua L (us + nI 1)))), (a3, .inl (cI, 32, .inl (va_cpy (cf_mem st wd mw (cl_leave st ua wy (L % 2))) wd (L * 4) (L * 4) 4))), (aM, .inr (2, [.ref aW, .int (cf_cnt st wb (cl_leave st ua wy (L % 2)))])), (aW, .inl (cI, 32, .inl (cf_mem st wd mw (cl_leave st ua wy (L % 2)))))]) := by
  refine mk_start (cc := b_Cache_fill) (maxL := 5) (ret := none) (by decide) (Nat.le_of_ble_eq_true rfl) (fun p e s m below meth c A ls H locs hx hb hml hr hlocks hnm hts hN hown hK hP hD hA hl hS => ?_)
  have hl : lv_has ls 5 [(0, .ref aC), (1, .int (nI L)), (2, .int x)] := hl
  refine lv_aload_n hx hb d_Cache_fill_0 rfl (lv_at hl 0 rfl) ?_
  refine lv_iload_n hx hb d_Cache_fill_1 rfl (lv_at hl 1 rfl) ?_
  refine lv_iconst (v := nI 2) hx hb d_Cache_fill_2 (by decide) ?_
  refine lv_irem hx hb d_Cache_fill_3 (nI_ne0 (by omega) (by omega)) ?_
  refine mk_top (show _ = nI (L % 2) from pk_rem (by omega) (by omega) (by omega)) ?_
  refine mk_calli (X := [(aC, .inr (0, [.ref aM, .int (nI wy), .ref a1, .ref a2, .ref a3, .int us])), (a1, .inl (cI, 8, .inl st)), (a2, .inl (cI, 8, .inl ua)), (a3, .inl (cI, 32, .inl wd)), (aM, .inr (2, [.ref aW, .int wb])), (aW, .inl (cI, 32, .inl mw))]) (pl := []) (wc := [(aC, .inr (0, [.ref aM, .int (nI wy), .ref a1, .ref a2, .ref a3, .int us])), (a1, .inl (cI, 8, .inl st)), (a2, .inl (cI, 8, .inl ua))]) (wr := [(a3, .inl (cI, 32, .inl wd)), (aM, .inr (2, [.ref aW, .int wb])), (aW, .inl (cI, 32, .inl mw))]) (w1 := [(aC, .inr (0, [.ref aM, .int (nI wy), .ref a1, .ref a2, .ref a3, .int us])), (a1, .inl (cI, 8, .inl st)), (a2, .inl (cI, 8, .inl ua))]) (X1 := [(aC, .inr (0, [.ref aM, .int (nI wy), .ref a1, .ref a2, .ref a3, .int us])), (a1, .inl (cI, 8, .inl st)), (a2, .inl (cI, 8, .inl ua)), (a3, .inl (cI, 32, .inl wd)), (aM, .inr (2, [.ref aW, .int wb])), (aW, .inl (cI, 32, .inl mw))]) hP hD hS hA [0, 1, 2] [3, 4, 5] [3, 4, 5, 0, 1, 2] rfl rfl rfl (by decide) (by decide) (by decide)
    (va_runV (b := aC) (As := [.int (nI (L % 2))]) (rest := []) ⟨hx, hb, hml, hown, hts⟩ (c_leave l D cI cO aC aM a1 a2 a3 wy us st ua (L % 2) (by omega) (by first | assumption | omega) H.size) ⟨callB_of 1 hts g_Cache_lineToLeave rfl rfl rfl (hts _ iw_40) (hts _ iw_174) (by decide +kernel) ⟨by decide, by decide⟩, hts _ iw_177, hts _ iw_178⟩ (mk_preV (X := [(aC, .inr (0, [.ref aM, .int (nI wy), .ref a1, .ref a2, .ref a3, .int us])), (a1, .inl (cI, 8, .inl st)), (a2, .inl (cI, 8, .inl ua)), (a3, .inl (cI, 32, .inl wd)), (aM, .inr (2, [.ref aW, .int wb])), (aW, .inl (cI, 32, .inl mw))]) (pl := []) hN hK hP hD [0, 1, 2] (by decide) rfl 0 rfl rfl rfl) rfl rfl hl.1 rfl (lv_room (Nat.le_of_ble_eq_true rfl)) d_Cache_fill_4 ⟨Nat.le_refl _, Nat.le_refl _⟩) (fun H locs hP hD hS => ?_)
  have hP : va_P D vwCl [(aC, .inr (0, [.ref aM, .int (nI wy), .ref a1, .ref a2, .ref a3, .int us])), (a1, .inl (cI, 8, .inl st)), (a2, .inl (cI, 8, .inl ua)), (a3, .inl (cI, 32, .inl wd)), (aM, .inr (2, [.ref aW, .int wb])), (aW, .inl (cI, 32, .inl mw))] H := hP
  have hD : va_D A [(aC, .inr (0, [.ref aM, .int (nI wy), .ref a1, .ref a2, .ref a3, .int us])), (a1, .inl (cI, 8, .inl st)), (a2, .inl (cI, 8, .inl ua)), (a3, .inl (cI, 32, .inl wd)), (aM, .inr (2, [.ref aW, .int wb])), (aW, .inl (cI, 32, .inl mw))] := hD
  refine lv_istore_n hx hb d_Cache_fill_7 rfl hl (by decide) rfl (fun ls hl => ?_)
  have hl : lv_has ls 5 [(3, .int (cl_on (cl_leave st ua wy (L % 2)))), (0, .ref aC), (1, .int (nI L)), (2, .int x)] := hl
  rcases ho : cl_leave st ua wy (L % 2) with _ | o
  · rw [ho] at hl
    have hl : lv_has ls 5 [(3, .int (-1)), (0, .ref aC), (1, .int (nI L)), (2, .int x)] := hl
    refine lv_iload_n hx hb d_Cache_fill_8 rfl (lv_at hl 0 rfl) ?_
    refine lv_iconst (v := (-1)) hx hb d_Cache_fill_9 (by decide) ?_
    refine lv_icmp_eq (tgt := 18) hx hb d_Cache_fill_10 rfl (fun _ => ?_) (fun h => absurd (by decide) h)
    refine lv_iload_n hx hb d_Cache_fill_18 rfl (lv_at hl 2 rfl) ?_
    refine lv_iconst (v := nI 4) hx hb d_Cache_fill_19 (by decide) ?_
    refine lv_imul hx hb d_Cache_fill_20 ?_
    refine mk_top (show _ = nI (L * 4) from pk_mul _ _) ?_
    refine lv_istore hx hb d_Cache_fill_21 hl (by decide) rfl (fun ls hl => ?_)
    have hl : lv_has ls 5 [(4, .int (nI (L * 4))), (3, .int (-1)), (0, .ref aC), (1, .int (nI L)), (2, .int x)] := hl
    refine lv_aload_n hx hb d_Cache_fill_23 rfl (lv_at hl 2 rfl) ?_
    refine va_get (D := D) (ci := 0) (v := .ref aM) (C := R_Cache) (T := T_Cache) (N := 6) hx hb hts in_Cache hown hK hP 0 rfl rfl 0 (by decide) (hts _ iw_66) (fun _ h9 => h9) rfl d_Cache_fill_24 ?_
    refine va_getN (D := D) (ci := 2) (v := .ref aW) (C := R_Mem) (T := T_Mem) (N := 2) hx hb hts in_Mem hown hK hP 4 rfl rfl 0 (by decide) (va_Nw.use rfl (hN _ in_w27)) (fun _ h9 => h9) rfl d_Cache_fill_27 ?_
    refine lv_iload hx hb d_Cache_fill_30 (lv_at hl 0 rfl) ?_
    refine lv_aload_n hx hb d_Cache_fill_32 rfl (lv_at hl 2 rfl) ?_
    refine va_get (D := D) (ci := 0) (v := .ref a3) (C := R_Cache) (T := T_Cache) (N := 6) hx hb hts in_Cache hown hK hP 0 rfl rfl 4 (by decide) (hts _ iw_65) (fun _ h9 => h9) rfl d_Cache_fill_33 ?_
    refine lv_iload hx hb d_Cache_fill_36 (lv_at hl 0 rfl) ?_
    refine lv_iconst (v := nI 4) hx hb d_Cache_fill_38 (by decide) ?_
    refine mk_copy hx hb (hml.trans hl.1.symm) hown (hts _ iw_170) (hts _ iw_366) (hts _ iw_367) (hts _ iw_368) hK hP hD hS 5 3 0 rfl rfl rfl (sp := L * 4) (dp := L * 4) (n := 4) (by omega) (by omega) (by decide) (by decide) (Nat.le_of_ble_eq_true rfl) (Nat.le_of_ble_eq_true rfl) d_Cache_fill_39 (fun H locs hP hD hS => ?_)
    have hP : va_P D vwCl [(aC, .inr (0, [.ref aM, .int (nI wy), .ref a1, .ref a2, .ref a3, .int us])), (a1, .inl (cI, 8, .inl st)), (a2, .inl (cI, 8, .inl ua)), (a3, .inl (cI, 32, .inl (va_cpy mw wd (L * 4) (L * 4) 4))), (aM, .inr (2, [.ref aW, .int wb])), (aW, .inl (cI, 32, .inl mw))] H := hP
    have hD : va_D A [(aC, .inr (0, [.ref aM, .int (nI wy), .ref a1, .ref a2, .ref a3, .int us])), (a1, .inl (cI, 8, .inl st)), (a2, .inl (cI, 8, .inl ua)), (a3, .inl (cI, 32, .inl (va_cpy mw wd (L * 4) (L * 4) 4))), (aM, .inr (2, [.ref aW, .int wb])), (aW, .inl (cI, 32, .inl mw))] := hD
    refine lv_aload_n hx hb d_Cache_fill_42 rfl (lv_at hl 2 rfl) ?_
    refine va_get (D := D) (ci := 0) (v := .ref a1) (C := R_Cache) (T := T_Cache) (N := 6) hx hb hts in_Cache hown hK hP 0 rfl rfl 2 (by decide) (hts _ iw_63) (fun _ h9 => h9) rfl d_Cache_fill_43 ?_
    refine lv_iload_n hx hb d_Cache_fill_46 rfl (lv_at hl 3 rfl) ?_
    refine lv_iload_n hx hb d_Cache_fill_47 rfl (lv_at hl 4 rfl) ?_
    refine mk_iast hx hb hK hP hD hS 1 0 rfl rfl (j := L) (by omega) (by decide) d_Cache_fill_48 (fun H locs hP hD hS => ?_)
    have hP : va_P D vwCl [(aC, .inr (0, [.ref aM, .int (nI wy), .ref a1, .ref a2, .ref a3, .int us])), (a1, .inl (cI, 8, .inl (upd st L x))), (a2, .inl (cI, 8, .inl ua)), (a3, .inl (cI, 32, .inl (va_cpy mw wd (L * 4) (L * 4) 4))), (aM, .inr (2, [.ref aW, .int wb])), (aW, .inl (cI, 32, .inl mw))] H := hP
    have hD : va_D A [(aC, .inr (0, [.ref aM, .int (nI wy), .ref a1, .ref a2, .ref a3, .int us])), (a1, .inl (cI, 8, .inl (upd st L x))), (a2, .inl (cI, 8, .inl ua)), (a3, .inl (cI, 32, .inl (va_cpy mw wd (L * 4) (L * 4) 4))), (aM, .inr (2, [.ref aW, .int wb])), (aW, .inl (cI, 32, .inl mw))] := hD
    refine lv_aload_n hx hb d_Cache_fill_49 rfl (lv_at hl 2 rfl) ?_
    refine lv_iload_n hx hb d_Cache_fill_50 rfl (lv_at hl 3 rfl) ?_
    refine mk_callv (X := [(aC, .inr (0, [.ref aM, .int (nI wy), .ref a1, .ref a2, .ref a3, .int us])), (a1, .inl (cI, 8, .inl (upd st L x))), (a2, .inl (cI, 8, .inl ua)), (a3, .inl (cI, 32, .inl (va_cpy mw wd (L * 4) (L * 4) 4))), (aM, .inr (2, [.ref aW, .int wb])), (aW, .inl (cI, 32, .inl mw))]) (pl := []) (wc := [(aC, .inr (0, [.ref aM, .int (nI wy), .ref a1, .ref a2, .ref a3, .int us])), (a2, .inl (cI, 8, .inl ua))]) (wr := [(a1, .inl (cI, 8, .inl (upd st L x))), (a3, .inl (cI, 32, .inl (va_cpy mw wd (L * 4) (L * 4) 4))), (aM, .inr (2, [.ref aW, .int wb])), (aW, .inl (cI, 32, .inl mw))]) (w1 := [(aC, .inr (0, [.ref aM, .int (nI wy), .ref a1, .ref a2, .ref a3, .int (us + nI 1)])), (a2, .inl (cI, 8, .inl (upd ua L (us + nI 1))))]) (X1 := [(aC, .inr (0, [.ref aM, .int (nI wy), .ref a1, .ref a2, .ref a3, .int (us + nI 1)])), (a1, .inl (cI, 8, .inl (upd st L x))), (a2, .inl (cI, 8, .inl (upd ua L (us + nI 1)))), (a3, .inl (cI, 32, .inl (va_cpy mw wd (L * 4) (L * 4) 4))), (aM, .inr (2, [.ref aW, .int wb])), (aW, .inl (cI, 32, .inl mw))]) hP hD hS hA [0, 2] [1, 3, 4, 5] [4, 0, 5, 1, 2, 3] rfl rfl rfl (by decide) (by decide) (by decide)
      (va_runV (b := aC) (As := [.int (nI L)]) (rest := []) ⟨hx, hb, hml, hown, hts⟩ (c_use l D cI cO aC aM a1 a2 a3 wy us ua L (by first | assumption | omega) H.size) ⟨callB_of 1 hts g_Cache_use rfl rfl rfl (hts _ iw_40) (hts _ iw_132) (by decide +kernel) ⟨by decide, by decide⟩, hts _ iw_99, hts _ iw_100⟩ (mk_preV (X := [(aC, .inr (0, [.ref aM, .int (nI wy), .ref a1, .ref a2, .ref a3, .int us])), (a1, .inl (cI, 8, .inl (upd st L x))), (a2, .inl (cI, 8, .inl ua)), (a3, .inl (cI, 32, .inl (va_cpy mw wd (L * 4) (L * 4) 4))), (aM, .inr (2, [.ref aW, .int wb])), (aW, .inl (cI, 32, .inl mw))]) (pl := []) hN hK hP hD [0, 2] (by decide) rfl 0 rfl rfl rfl) rfl rfl hl.1 rfl (lv_room (Nat.le_of_ble_eq_true rfl)) d_Cache_fill_51 ⟨Nat.le_refl _, Nat.le_refl _⟩) (fun H locs hP hD hS => ?_)
    have hP : va_P D vwCl [(aC, .inr (0, [.ref aM, .int (nI wy), .ref a1, .ref a2, .ref a3, .int (us + nI 1)])), (a1, .inl (cI, 8, .inl (upd st L x))), (a2, .inl (cI, 8, .inl (upd ua L (us + nI 1)))), (a3, .inl (cI, 32, .inl (va_cpy mw wd (L * 4) (L * 4) 4))), (aM, .inr (2, [.ref aW, .int wb])), (aW, .inl (cI, 32, .inl mw))] H := hP
    have hD : va_D A [(aC, .inr (0, [.ref aM, .int (nI wy), .ref a1, .ref a2, .ref a3, .int (us + nI 1)])), (a1, .inl (cI, 8, .inl (upd st L x))), (a2, .inl (cI, 8, .inl (upd ua L (us + nI 1)))), (a3, .inl (cI, 32, .inl (va_cpy mw wd (L * 4) (L * 4) 4))), (aM, .inr (2, [.ref aW, .int wb])), (aW, .inl (cI, 32, .inl mw))] := hD
    exact mk_vret hx hb hr hlocks hK hP hD hS d_Cache_fill_54 rfl
  · have hlo := cl_leave_lt st ua wy (L % 2) o (by omega) ho
    rw [ho] at hl
    have hl : lv_has ls 5 [(3, .int (nI o)), (0, .ref aC), (1, .int (nI L)), (2, .int x)] := hl
    refine lv_iload_n hx hb d_Cache_fill_8 rfl (lv_at hl 0 rfl) ?_
    refine lv_iconst (v := (-1)) hx hb d_Cache_fill_9 (by decide) ?_
    refine lv_icmp_eq (tgt := 18) hx hb d_Cache_fill_10 rfl (fun h => absurd h (nI_m1 (by omega))) (fun _ => ?_)
    refine lv_aload_n hx hb d_Cache_fill_13 rfl (lv_at hl 1 rfl) ?_
    refine lv_iload_n hx hb d_Cache_fill_14 rfl (lv_at hl 0 rfl) ?_
    refine mk_callv (X := [(aC, .inr (0, [.ref aM, .int (nI wy), .ref a1, .ref a2, .ref a3, .int us])), (a1, .inl (cI, 8, .inl st)), (a2, .inl (cI, 8, .inl ua)), (a3, .inl (cI, 32, .inl wd)), (aM, .inr (2, [.ref aW, .int wb])), (aW, .inl (cI, 32, .inl mw))]) (pl := []) (wc := [(aC, .inr (0, [.ref aM, .int (nI wy), .ref a1, .ref a2, .ref a3, .int us])), (a1, .inl (cI, 8, .inl st)), (a3, .inl (cI, 32, .inl wd)), (aM, .inr (2, [.ref aW, .int wb])), (aW, .inl (cI, 32, .inl mw))]) (wr := [(a2, .inl (cI, 8, .inl ua))]) (w1 := [(aC, .inr (0, [.ref aM, .int (nI wy), .ref a1, .ref a2, .ref a3, .int us])), (a1, .inl (cI, 8, .inl (upd st o (nI 0)))), (a3, .inl (cI, 32, .inl wd)), (aM, .inr (2, [.ref aW, .int (cw_cnt st wb o)])), (aW, .inl (cI, 32, .inl (cw_mem st wd mw o)))]) (X1 := [(aC, .inr (0, [.ref aM, .int (nI wy), .ref a1, .ref a2, .ref a3, .int us])), (a1, .inl (cI, 8, .inl (upd st o (nI 0)))), (a2, .inl (cI, 8, .inl ua)), (a3, .inl (cI, 32, .inl wd)), (aM, .inr (2, [.ref aW, .int (cw_cnt st wb o)])), (aW, .inl (cI, 32, .inl (cw_mem st wd mw o)))]) hP hD hS hA [0, 1, 3, 4, 5] [2] [1, 2, 0, 3, 4, 5] rfl rfl rfl (by decide) (by decide) (by decide)
      (va_runV (b := aC) (As := [.int (nI o)]) (rest := []) ⟨hx, hb, hml, hown, hts⟩ (c_drop l D cI cO aC aM a1 a2 a3 wy us aW wb st wd mw o (by omega) H.size) ⟨callB_of 1 hts g_Cache_drop rfl rfl rfl (hts _ iw_40) (hts _ iw_175) (by decide +kernel) ⟨by decide, by decide⟩, hts _ iw_181, hts _ iw_182⟩ (mk_preV (X := [(aC, .inr (0, [.ref aM, .int (nI wy), .ref a1, .ref a2, .ref a3, .int us])), (a1, .inl (cI, 8, .inl st)), (a2, .inl (cI, 8, .inl ua)), (a3, .inl (cI, 32, .inl wd)), (aM, .inr (2, [.ref aW, .int wb])), (aW, .inl (cI, 32, .inl mw))]) (pl := []) hN hK hP hD [0, 1, 3, 4, 5] (by decide) rfl 0 rfl rfl rfl) rfl rfl hl.1 rfl (lv_room (Nat.le_of_ble_eq_true rfl)) d_Cache_fill_15 ⟨Nat.le_refl _, Nat.le_refl _⟩) (fun H locs hP hD hS => ?_)
    have hP : va_P D vwCl [(aC, .inr (0, [.ref aM, .int (nI wy), .ref a1, .ref a2, .ref a3, .int us])), (a1, .inl (cI, 8, .inl (upd st o (nI 0)))), (a2, .inl (cI, 8, .inl ua)), (a3, .inl (cI, 32, .inl wd)), (aM, .inr (2, [.ref aW, .int (cw_cnt st wb o)])), (aW, .inl (cI, 32, .inl (cw_mem st wd mw o)))] H := hP
    have hD : va_D A [(aC, .inr (0, [.ref aM, .int (nI wy), .ref a1, .ref a2, .ref a3, .int us])), (a1, .inl (cI, 8, .inl (upd st o (nI 0)))), (a2, .inl (cI, 8, .inl ua)), (a3, .inl (cI, 32, .inl wd)), (aM, .inr (2, [.ref aW, .int (cw_cnt st wb o)])), (aW, .inl (cI, 32, .inl (cw_mem st wd mw o)))] := hD
    refine lv_iload_n hx hb d_Cache_fill_18 rfl (lv_at hl 2 rfl) ?_
    refine lv_iconst (v := nI 4) hx hb d_Cache_fill_19 (by decide) ?_
    refine lv_imul hx hb d_Cache_fill_20 ?_
    refine mk_top (show _ = nI (L * 4) from pk_mul _ _) ?_
    refine lv_istore hx hb d_Cache_fill_21 hl (by decide) rfl (fun ls hl => ?_)
    have hl : lv_has ls 5 [(4, .int (nI (L * 4))), (3, .int (nI o)), (0, .ref aC), (1, .int (nI L)), (2, .int x)] := hl
    refine lv_aload_n hx hb d_Cache_fill_23 rfl (lv_at hl 2 rfl) ?_
    refine va_get (D := D) (ci := 0) (v := .ref aM) (C := R_Cache) (T := T_Cache) (N := 6) hx hb hts in_Cache hown hK hP 0 rfl rfl 0 (by decide) (hts _ iw_66) (fun _ h9 => h9) rfl d_Cache_fill_24 ?_
    refine va_getN (D := D) (ci := 2) (v := .ref aW) (C := R_Mem) (T := T_Mem) (N := 2) hx hb hts in_Mem hown hK hP 4 rfl rfl 0 (by decide) (va_Nw.use rfl (hN _ in_w27)) (fun _ h9 => h9) rfl d_Cache_fill_27 ?_
    refine lv_iload hx hb d_Cache_fill_30 (lv_at hl 0 rfl) ?_
    refine lv_aload_n hx hb d_Cache_fill_32 rfl (lv_at hl 2 rfl) ?_
    refine va_get (D := D) (ci := 0) (v := .ref a3) (C := R_Cache) (T := T_Cache) (N := 6) hx hb hts in_Cache hown hK hP 0 rfl rfl 4 (by decide) (hts _ iw_65) (fun _ h9 => h9) rfl d_Cache_fill_33 ?_
    refine lv_iload hx hb d_Cache_fill_36 (lv_at hl 0 rfl) ?_
    refine lv_iconst (v := nI 4) hx hb d_Cache_fill_38 (by decide) ?_
    refine mk_copy hx hb (hml.trans hl.1.symm) hown (hts _ iw_170) (hts _ iw_366) (hts _ iw_367) (hts _ iw_368) hK hP hD hS 5 3 0 rfl rfl rfl (sp := L * 4) (dp := L * 4) (n := 4) (by omega) (by omega) (by decide) (by decide) (Nat.le_of_ble_eq_true rfl) (Nat.le_of_ble_eq_true rfl) d_Cache_fill_39 (fun H locs hP hD hS => ?_)
    have hP : va_P D vwCl [(aC, .inr (0, [.ref aM, .int (nI wy), .ref a1, .ref a2, .ref a3, .int us])), (a1, .inl (cI, 8, .inl (upd st o (nI 0)))), (a2, .inl (cI, 8, .inl ua)), (a3, .inl (cI, 32, .inl (va_cpy (cw_mem st wd mw o) wd (L * 4) (L * 4) 4))), (aM, .inr (2, [.ref aW, .int (cw_cnt st wb o)])), (aW, .inl (cI, 32, .inl (cw_mem st wd mw o)))] H := hP
    have hD : va_D A [(aC, .inr (0, [.ref aM, .int (nI wy), .ref a1, .ref a2, .ref a3, .int us])), (a1, .inl (cI, 8, .inl (upd st o (nI 0)))), (a2, .inl (cI, 8, .inl ua)), (a3, .inl (cI, 32, .inl (va_cpy (cw_mem st wd mw o) wd (L * 4) (L * 4) 4))), (aM, .inr (2, [.ref aW, .int (cw_cnt st wb o)])), (aW, .inl (cI, 32, .inl (cw_mem st wd mw o)))] := hD
    refine lv_aload_n hx hb d_Cache_fill_42 rfl (lv_at hl 2 rfl) ?_
    refine va_get (D := D) (ci := 0) (v := .ref a1) (C := R_Cache) (T := T_Cache) (N := 6) hx hb hts in_Cache hown hK hP 0 rfl rfl 2 (by decide) (hts _ iw_63) (fun _ h9 => h9) rfl d_Cache_fill_43 ?_
    refine lv_iload_n hx hb d_Cache_fill_46 rfl (lv_at hl 3 rfl) ?_
    refine lv_iload_n hx hb d_Cache_fill_47 rfl (lv_at hl 4 rfl) ?_
    refine mk_iast hx hb hK hP hD hS 1 0 rfl rfl (j := L) (by omega) (by decide) d_Cache_fill_48 (fun H locs hP hD hS => ?_)
    have hP : va_P D vwCl [(aC, .inr (0, [.ref aM, .int (nI wy), .ref a1, .ref a2, .ref a3, .int us])), (a1, .inl (cI, 8, .inl (upd (upd st o (nI 0)) L x))), (a2, .inl (cI, 8, .inl ua)), (a3, .inl (cI, 32, .inl (va_cpy (cw_mem st wd mw o) wd (L * 4) (L * 4) 4))), (aM, .inr (2, [.ref aW, .int (cw_cnt st wb o)])), (aW, .inl (cI, 32, .inl (cw_mem st wd mw o)))] H := hP
    have hD : va_D A [(aC, .inr (0, [.ref aM, .int (nI wy), .ref a1, .ref a2, .ref a3, .int us])), (a1, .inl (cI, 8, .inl (upd (upd st o (nI 0)) L x))), (a2, .inl (cI, 8, .inl ua)), (a3, .inl (cI, 32, .inl (va_cpy (cw_mem st wd mw o) wd (L * 4) (L * 4) 4))), (aM, .inr (2, [.ref aW, .int (cw_cnt st wb o)])), (aW, .inl (cI, 32, .inl (cw_mem st wd mw o)))] := hD
    refine lv_aload_n hx hb d_Cache_fill_49 rfl (lv_at hl 2 rfl) ?_
    refine lv_iload_n hx hb d_Cache_fill_50 rfl (lv_at hl 3 rfl) ?_
    refine mk_callv (X := [(aC, .inr (0, [.ref aM, .int (nI wy), .ref a1, .ref a2, .ref a3, .int us])), (a1, .inl (cI, 8, .inl (upd (upd st o (nI 0)) L x))), (a2, .inl (cI, 8, .inl ua)), (a3, .inl (cI, 32, .inl (va_cpy (cw_mem st wd mw o) wd (L * 4) (L * 4) 4))), (aM, .inr (2, [.ref aW, .int (cw_cnt st wb o)])), (aW, .inl (cI, 32, .inl (cw_mem st wd mw o)))]) (pl := []) (wc := [(aC, .inr (0, [.ref aM, .int (nI wy), .ref a1, .ref a2, .ref a3, .int us])), (a2, .inl (cI, 8, .inl ua))]) (wr := [(a1, .inl (cI, 8, .inl (upd (upd st o (nI 0)) L x))), (a3, .inl (cI, 32, .inl (va_cpy (cw_mem st wd mw o) wd (L * 4) (L * 4) 4))), (aM, .inr (2, [.ref aW, .int (cw_cnt st wb o)])), (aW, .inl (cI, 32, .inl (cw_mem st wd mw o)))]) (w1 := [(aC, .inr (0, [.ref aM, .int (nI wy), .ref a1, .ref a2, .ref a3, .int (us + nI 1)])), (a2, .inl (cI, 8, .inl (upd ua L (us + nI 1))))]) (X1 := [(aC, .inr (0, [.ref aM, .int (nI wy), .ref a1, .ref a2, .ref a3, .int (us + nI 1)])), (a1, .inl (cI, 8, .inl (upd (upd st o (nI 0)) L x))), (a2, .inl (cI, 8, .inl (upd ua L (us + nI 1)))), (a3, .inl (cI, 32, .inl (va_cpy (cw_mem st wd mw o) wd (L * 4) (L * 4) 4))), (aM, .inr (2, [.ref aW, .int (cw_cnt st wb o)])), (aW, .inl (cI, 32, .inl (cw_mem st wd mw o)))]) hP hD hS hA [0, 2] [1, 3, 4, 5] [4, 0, 5, 1, 2, 3] rfl rfl rfl (by decide) (by decide) (by decide)
      (va_runV (b := aC) (As := [.int (nI L)]) (rest := []) ⟨hx, hb, hml, hown, hts⟩ (c_use l D cI cO aC aM a1 a2 a3 wy us ua L (by first | assumption | omega) H.size) ⟨callB_of 1 hts g_Cache_use rfl rfl rfl (hts _ iw_40) (hts _ iw_132) (by decide +kernel) ⟨by decide, by decide⟩, hts _ iw_99, hts _ iw_100⟩ (mk_preV (X := [(aC, .inr (0, [.ref aM, .int (nI wy), .ref a1, .ref a2, .ref a3, .int us])), (a1, .inl (cI, 8, .inl (upd (upd st o (nI 0)) L x))), (a2, .inl (cI, 8, .inl ua)), (a3, .inl (cI, 32, .inl (va_cpy (cw_mem st wd mw o) wd (L * 4) (L * 4) 4))), (aM, .inr (2, [.ref aW, .int (cw_cnt st wb o)])), (aW, .inl (cI, 32, .inl (cw_mem st wd mw o)))]) (pl := []) hN hK hP hD [0, 2] (by decide) rfl 0 rfl rfl rfl) rfl rfl hl.1 rfl (lv_room (Nat.le_of_ble_eq_true rfl)) d_Cache_fill_51 ⟨Nat.le_refl _, Nat.le_refl _⟩) (fun H locs hP hD hS => ?_)
    have hP : va_P D vwCl [(aC, .inr (0, [.ref aM, .int (nI wy), .ref a1, .ref a2, .ref a3, .int (us + nI 1)])), (a1, .inl (cI, 8, .inl (upd (upd st o (nI 0)) L x))), (a2, .inl (cI, 8, .inl (upd ua L (us + nI 1)))), (a3, .inl (cI, 32, .inl (va_cpy (cw_mem st wd mw o) wd (L * 4) (L * 4) 4))), (aM, .inr (2, [.ref aW, .int (cw_cnt st wb o)])), (aW, .inl (cI, 32, .inl (cw_mem st wd mw o)))] H := hP
    have hD : va_D A [(aC, .inr (0, [.ref aM, .int (nI wy), .ref a1, .ref a2, .ref a3, .int (us + nI 1)])), (a1, .inl (cI, 8, .inl (upd (upd st o (nI 0)) L x))), (a2, .inl (cI, 8, .inl (upd ua L (us + nI 1)))), (a3, .inl (cI, 32, .inl (va_cpy (cw_mem st wd mw o) wd (L * 4) (L * 4) 4))), (aM, .inr (2, [.ref aW, .int (cw_cnt st wb o)])), (aW, .inl (cI, 32, .inl (cw_mem st wd mw o)))] := hD
    exact mk_vret hx hb hr hlocks hK hP hD hS d_Cache_fill_54 rfl
