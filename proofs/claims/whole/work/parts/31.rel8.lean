/-! The bus's step. -/
theorem BB_2 {k : Nat} {K K' : KS} {sn da va la ki wa op : Nat → Int32} (e : K'.2 = K.2) (h : BB k K sn da va la ki wa op) : BB k K' sn da va la ki wa op := by
  obtain ⟨a, r⟩ := K
  obtain ⟨a', r'⟩ := K'
  cases e
  exact h
theorem Coh_bus {n i L : Nat} {S S1 : Nat → KS} {K' : KS} (h : Coh n S) (hA : ∀ k M, M ≠ L → kst (S1 k) M = kst (S k) M) (hB : ∀ k, k < n → k ≠ i → kst (S1 k) L = nI 0 ∨ kst (S1 k) L = nI 1) (hC : ∀ M, M ≠ L → kst K' M = kst (S i) M ∨ kst K' M = nI 0) (hD : (kst K' L = nI 2 ∨ kst K' L = nI 3) → ∀ k, k < n → k ≠ i → kst (S1 k) L = nI 0) : Coh n (va_up S1 i K') := by
  have n1 : ∀ x : Int32, (x = nI 0 ∨ x = nI 1) → (x = nI 2 ∨ x = nI 3) → False := by
    intro x h1 h2
    rcases h1 with rfl | rfl <;> rcases h2 with h2 | h2 <;> exact absurd h2 (by decide)
  intro a c M ha hc hac hM hs
  by_cases ea : a = i
  · subst ea
    rw [va_up_self] at hs
    rw [va_up_ne _ _ (fun z => hac z.symm)]
    by_cases eM : M = L
    · subst eM; exact hD hs c hc (fun z => hac z.symm)
    · rcases hC M eM with e | e
      · rw [e] at hs
        rw [hA c M eM]
        exact h a c M ha hc hac hM hs
      · exact absurd hs (fun z => n1 _ (Or.inl e) z)
  · rw [va_up_ne _ _ ea] at hs
    by_cases eM : M = L
    · subst eM; exact absurd hs (fun z => n1 _ (hB a ha ea) z)
    · rw [hA a M eM] at hs
      by_cases ec : c = i
      · subst ec
        rw [va_up_self]
        rcases hC M eM with e | e
        · rw [e]; exact h a c M ha hc hac hM hs
        · exact e
      · rw [va_up_ne _ _ ec, hA c M eM]
        exact h a c M ha hc hac hM hs
theorem Rel_bus {n wy b b' C C' i : Nat} {S S1 : Nat → KS} {K' : KS} {mw' : Nat → Int32} {wb' sv' iv' ug' ck' : Int32} {li ux co sn da va la ki wa op sx1 wo' li' sx' ux' co' sn' da' va' la' ki' wa' op' ct' : Nat → Int32} (hi : i < n) (hb : b ≤ b') (hC : C ≤ C')
    (hM : Memo mw' wb' sv' iv' ug' wo' ct') (hck : ck' = nI C') (hC' : C' ≤ b') (hcc : ∀ k, k < n → CCe wy k b (S1 k) sx1 li ux co C) (hci : CCe wy i b' K' sx' li' ux' co' C')
    (f1 : ∀ p, ¬ (6 * i ≤ p ∧ p < 6 * i + 6) → sx' p = sx1 p) (f2 : ∀ p, ¬ (6 * i ≤ p ∧ p < 6 * i + 6) → li' p = li p) (f3 : ∀ p, ¬ (6 * i ≤ p ∧ p < 6 * i + 6) → ux' p = ux p) (f4 : ∀ p, ¬ (24 * i ≤ p ∧ p < 24 * i + 24) → co' p = co p)
    (h2 : ∀ k, (S1 k).2 = (S k).2) (hbo : ∀ k, k < n → BB k (S k) sn da va la ki wa op) (hbb : BB i K' sn' da' va' la' ki' wa' op') (g1 : ∀ j, j ≠ i → sn' j = sn j) (g2 : ∀ p, ¬ (4 * i ≤ p ∧ p < 4 * i + 4) → da' p = da p) (g3 : ∀ p, ¬ (4 * i ≤ p ∧ p < 4 * i + 4) → va' p = va p) (g4 : ∀ j, j ≠ i → la' j = la j) (g5 : ∀ j, j ≠ i → ki' j = ki j) (g6 : ∀ j, j ≠ i → wa' j = wa j) (g7 : ∀ j, j ≠ i → op' j = op j)
    (hd : ∀ k, k < n → k ≠ i → Dom (S1 k)) (hdi : Dom K') (hco : Coh n (va_up S1 i K')) : Rel n wy b' (va_up S1 i K') mw' wb' i sv' iv' ug' wo' li' sx' ux' co' ck' sn' da' va' la' ki' wa' op' ((i + 1) % n) ct' := by
  refine ⟨hM, ⟨hi, rfl⟩, ⟨C', hck, hC', fun j hj => ?_⟩, fun j hj => ?_, fun j hj => ?_, hco⟩
  · by_cases e : j = i
    · subst e; rw [va_up_self]; exact hci
    · rw [va_up_ne _ _ e]
      obtain ⟨ln, u, v, U, hc⟩ := hcc j hj
      exact ⟨ln, u, v, U, CC_fr hc hb hC (fun q hq => f1 _ (by omega)) (fun q hq => f2 _ (by omega)) (fun q hq => f3 _ (by omega)) (fun q k hq hk => f4 _ (by omega))⟩
  · by_cases e : j = i
    · subst e; rw [va_up_self]; exact hbb
    · rw [va_up_ne _ _ e]
      exact BB_fr (BB_2 (h2 j) (hbo j hj)) (g1 j e) (fun q hq => g2 _ (by omega)) (fun q hq => g3 _ (by omega)) (g4 j e) (g5 j e) (g6 j e) (g7 j e)
  · by_cases e : j = i
    · subst e; rw [va_up_self]; exact hdi
    · rw [va_up_ne _ _ e]; exact hd j hj e
theorem Dom_sn {K K1 : KS} {L : Nat} (h : Dom K) (e2 : K1.2 = K.2) (hA : ∀ M, M ≠ L → kst K1 M = kst K M) (hB : kst K1 L = nI 0 ∨ kst K1 L = nI 1) (h0 : ∀ M, kst K M = nI 0 → kst K1 M = nI 0) : Dom K1 := by
  refine ⟨fun M hM => ?_, fun hr => ?_⟩
  · by_cases e : M = L
    · subst e; rcases hB with hB | hB
      · exact Or.inl hB
      · exact Or.inr (Or.inl hB)
    · rw [hA M e]; exact h.1 M hM
  · have r1 : krk K1 = krk K := congrArg (fun z => z.2.2.2.2.2.2.1) e2
    have r2 : kra K1 = kra K := congrArg (fun z => z.2.2.2.2.2.2.2.1) e2
    rw [r2]
    exact h0 _ (h.2 (r1.symm.trans hr))
set_option maxHeartbeats 2000000 in
theorem s_bus (l : Launch) (D : va_G) (cI cO : ClassId) (aB aM aR aW n wy : Nat) (g : Nat → Option Nat) (ad : Nat → Nat → Nat) (aX : Nat) (e : Nat → Nat) (b : Nat) (S : Nat → KS) (mw : Nat → Int32) (wb : Int32) (sl : Nat) (sv iv ug : Int32) (wo li sx ux co : Nat → Int32) (ck : Int32) (sn da va la ki wa op : Nat → Int32) (tu : Nat) (ct : Nat → Int32)  (hn2 : 2 ≤ n) (hn : n ≤ 4) (hw0 : 1 ≤ wy) (hw : wy < 4) (hb : b + 2 < 2 ^ 31) (hg : ∀ i, i < n → g i = some (ad i 0)) (hR : Rel n wy b S mw wb sl sv iv ug wo li sx ux co ck sn da va la ki wa op tu ct) : Ans l D cI cO aB aM aR aW n wy g ad aX e y_Bus_bus y_Model_bus w_Bus_bus w_Model_bus [.ref aB] [.ref aX] (b + 2) S mw wb sl sv iv ug wo li sx ux co ck sn da va la ki wa op tu ct := by
  have hR0 := hR
  obtain ⟨⟨m1, m2, m3, m4, m5⟩, ⟨t1, t2⟩, ⟨C, c1, c2, c3⟩, b4, d5, o6⟩ := hR
  subst c1
  subst t2
  have hix : ∀ k, ((sl + 1) % n + k) % n = (sl + (k + 1)) % n := fun k => by rw [Nat.mod_add_mod]; congr 1; omega
  have htu : (sl + 1) % n < n := Nat.mod_lt _ (by omega)
  rcases first_or (fun k => ¬ krk (S ((sl + (k + 1)) % n)) = 0) n with hq | ⟨t0, ht0, h3, hq⟩
  · have hq1 : ∀ k, k < n → krk (S ((sl + (k + 1)) % n)) = 0 := fun k hk => Classical.not_not.mp (hq k hk)
    have h1 := lf_bus_n l D cI cO aB aM aR n sl sv iv ug g aW wy wb mw ad S hn hg (by omega) t1 hq1
    have h2 := lm_bus_n l D cI cO aX e n wy wo li sx ux co (nI C) sn da va la ki wa op ((sl + 1) % n) ct hn (by omega) htu (fun k hk => by rw [hix, (b4 _ (Nat.mod_lt _ (by omega))).2.2.2.2.1, hq1 k hk]; decide)
    exact ⟨_, _, _, _, _, _, _, _, _, _, _, _, _, _, _, _, _, _, _, _, _, _, _, h1, h2, Rel_mono hR0 (by omega)⟩
  · have hq1 : ∀ k, k < t0 → krk (S ((sl + (k + 1)) % n)) = 0 := fun k hk => Classical.not_not.mp (hq k hk)
    have hqm : mq ki n ((sl + 1) % n) t0 := fun k hk => by rw [hix, (b4 _ (Nat.mod_lt _ (by omega))).2.2.2.2.1, hq1 k hk]; decide
    obtain ⟨i, hie⟩ : ∃ i, (sl + (t0 + 1)) % n = i := ⟨_, rfl⟩
    have hi : i < n := by rw [← hie]; exact Nat.mod_lt _ (by omega)
    have hi4 : i < 4 := by omega
    have hiM : ((sl + 1) % n + t0) % n = i := (hix t0).trans hie
    rw [hie] at h3
    obtain ⟨p1, p2, p3, p4, p5, p6⟩ := b4 i hi
    rcases p6 with p0 | ⟨kd, k1, k2, k3, k4, k5, k6, k7⟩
    · exact absurd (show krk (S i) = 0 from p0) h3
    · obtain ⟨j, hje⟩ : ∃ j, kra (S i) = j := ⟨_, rfl⟩
      rw [hje] at k4 k5 k7
      have hL : j / 4 < 8 := by omega
      have hm0 := Memo_c0 (⟨m1, m2, m3, m4, m5⟩ : Memo mw wb sv iv ug wo ct)
      rcases (show kd = 1 ∨ kd = 2 ∨ kd = 3 ∨ kd = 4 by omega) with rfl | rfl | rfl | rfl
      · obtain ⟨S1, mw1, wb1, fl, hsh⟩ : ∃ S1 mw1 wb1 fl, sh i (j / 4) S mw wb n = (S1, mw1, wb1, fl) := ⟨_, _, _, _, rfl⟩
        obtain ⟨sx1, wo1, ct1, fm, hms⟩ : ∃ sx1 wo1 ct1 fm, ms li co i (nI (j / 4)) (nI 1) (nI 0) sx wo (upd ct 0 (ct 0 + nI 1)) n = (sx1, wo1, ct1, fm) := ⟨_, _, _, _, rfl⟩
        have sn := sn_sh (i := i) hn hL hm0 c3 n (Nat.le_refl _)
        have fb := sh_b i (j / 4) S mw wb n
        rw [hsh, hms] at sn
        rw [hsh] at fb
        dsimp only at sn fb
        obtain ⟨i1, i2, i3, i4, i5, i6, i7, i9, i8⟩ := sn
        subst i1
        have hSi : S1 i = S i := i6 i (Or.inr rfl)
        have h0 : kst (S1 i) (j / 4) = 0 := by rw [hSi]; have := (d5 i hi).2 k3; rw [hje] at this; exact this
        obtain ⟨ln, u, v, U, hc⟩ := i3 i hi
        rcases fb with fb | fb
        · subst fb
          have h1 := lf_bus_r0 l D cI cO aB aM aR n sl sv iv ug g aW wy wb mw ad S i j S1 mw1 wb1 t0 hn hg hi4 hi k4 hw hsh k3 hje (by omega) t1 ht0 hie hq1
          obtain ⟨q, q1, q2, q3, q4, ⟨ln2, u2, v2, U2, q5, q6⟩, q7, q8⟩ := CC_fill (z := nI 2) (K' := (upd (cf_st (kst (S1 i)) (cl_leave (kst (S1 i)) (kua (S1 i)) wy ((j / 4) % 2))) (j / 4) (nI 2), upd (kua (S1 i)) (j / 4) ((kus (S1 i)) + nI 1), va_cpy (cf_mem (kst (S1 i)) (kwd (S1 i)) mw1 (cl_leave (kst (S1 i)) (kua (S1 i)) wy ((j / 4) % 2))) (kwd (S1 i)) ((j / 4) * 4) ((j / 4) * 4) 4, (kus (S1 i)) + nI 1, ksa (S1 i), ksw (S1 i), kk (S1 i), nI 0, kra (S1 i), krw (S1 i), (va_cpy (cf_mem (kst (S1 i)) (kwd (S1 i)) mw1 (cl_leave (kst (S1 i)) (kua (S1 i)) wy ((j / 4) % 2))) (kwd (S1 i)) ((j / 4) * 4) ((j / 4) * 4) 4) j)) hc i2 hw0 hw (by omega) c2 hL h0 (by decide) rfl rfl rfl rfl
          have h2 := lm_bus_r0 l D cI cO aX e n wy wo li sx ux co (nI C) sn da va la ki wa op ((sl + 1) % n) ct i j (6 * i + q) sx1 wo1 ct1 t0 k4 hw0 hw q2 q3 hms hn (by omega) htu ht0 hiM hi4 hqm (p5.trans k3) k5
          refine ⟨_, _, _, _, _, _, _, _, _, _, _, _, _, _, _, _, _, _, _, _, _, _, _, h1, h2, Rel_mono (Rel_bus (S := S) hi (Nat.le_succ b) (Nat.le_succ C) q4 (nI_add C 1) (by omega) i3 ⟨ln2, u2, v2, U2, q6⟩ (fun _ h9 => pk_un (by omega)) (fun _ h9 => pk_un (by omega)) (fun _ h9 => pk_un (by omega)) (fun p hp => pk_cpy_out (by omega)) i4 b4 ?_ (fun _ _ => rfl) (fun _ _ => rfl) (fun _ _ => rfl) (fun _ h9 => pk_un h9) (fun _ h9 => pk_un h9) (fun _ _ => rfl) (fun _ _ => rfl) (fun k hk hki => Dom_sn (d5 k hk) (i4 k) (i5 k) (i7 k hk hki) (i9 k)) ⟨fun M hM => ?_, fun h => absurd (show nI 0 = nI 1 from h) (by decide)⟩ (Coh_bus o6 i5 i7 (fun M hM => by rw [← hSi]; exact q7 M hM) ?_)) (by omega)⟩
          · rw [hSi]; exact ⟨p1, p2, p3, by rw [pk_us, ← hSi]; exact CC_at q6 q1 (by rw [pk_us]; decide) q5, by rw [pk_us], Or.inl rfl⟩
          · by_cases e2 : M = j / 4
            · rw [e2, q8]; exact Or.inr (Or.inr (Or.inl rfl))
            · rcases q7 M e2 with e3 | e3
              · rw [e3, hSi]; exact (d5 i hi).1 M hM
              · exact Or.inl e3
          · exact fun _ k hk hki => i8 rfl k hk hki
        · subst fb
          have h1 := lf_bus_r1 l D cI cO aB aM aR n sl sv iv ug g aW wy wb mw ad S i j S1 mw1 wb1 t0 hn hg hi4 hi k4 hw hsh k3 hje (by omega) t1 ht0 hie hq1
          obtain ⟨q, q1, q2, q3, q4, ⟨ln2, u2, v2, U2, q5, q6⟩, q7, q8⟩ := CC_fill (z := nI 1) (K' := (upd (cf_st (kst (S1 i)) (cl_leave (kst (S1 i)) (kua (S1 i)) wy ((j / 4) % 2))) (j / 4) (nI 1), upd (kua (S1 i)) (j / 4) ((kus (S1 i)) + nI 1), va_cpy (cf_mem (kst (S1 i)) (kwd (S1 i)) mw1 (cl_leave (kst (S1 i)) (kua (S1 i)) wy ((j / 4) % 2))) (kwd (S1 i)) ((j / 4) * 4) ((j / 4) * 4) 4, (kus (S1 i)) + nI 1, ksa (S1 i), ksw (S1 i), kk (S1 i), nI 0, kra (S1 i), krw (S1 i), (va_cpy (cf_mem (kst (S1 i)) (kwd (S1 i)) mw1 (cl_leave (kst (S1 i)) (kua (S1 i)) wy ((j / 4) % 2))) (kwd (S1 i)) ((j / 4) * 4) ((j / 4) * 4) 4) j)) hc i2 hw0 hw (by omega) c2 hL h0 (by decide) rfl rfl rfl rfl
          have h2 := lm_bus_r1 l D cI cO aX e n wy wo li sx ux co (nI C) sn da va la ki wa op ((sl + 1) % n) ct i j (6 * i + q) sx1 wo1 ct1 t0 k4 hw0 hw q2 q3 hms hn (by omega) htu ht0 hiM hi4 hqm (p5.trans k3) k5
          refine ⟨_, _, _, _, _, _, _, _, _, _, _, _, _, _, _, _, _, _, _, _, _, _, _, h1, h2, Rel_mono (Rel_bus (S := S) hi (Nat.le_succ b) (Nat.le_succ C) q4 (nI_add C 1) (by omega) i3 ⟨ln2, u2, v2, U2, q6⟩ (fun _ h9 => pk_un (by omega)) (fun _ h9 => pk_un (by omega)) (fun _ h9 => pk_un (by omega)) (fun p hp => pk_cpy_out (by omega)) i4 b4 ?_ (fun _ _ => rfl) (fun _ _ => rfl) (fun _ _ => rfl) (fun _ h9 => pk_un h9) (fun _ h9 => pk_un h9) (fun _ _ => rfl) (fun _ _ => rfl) (fun k hk hki => Dom_sn (d5 k hk) (i4 k) (i5 k) (i7 k hk hki) (i9 k)) ⟨fun M hM => ?_, fun h => absurd (show nI 0 = nI 1 from h) (by decide)⟩ (Coh_bus o6 i5 i7 (fun M hM => by rw [← hSi]; exact q7 M hM) ?_)) (by omega)⟩
          · rw [hSi]; exact ⟨p1, p2, p3, by rw [pk_us, ← hSi]; exact CC_at q6 q1 (by rw [pk_us]; decide) q5, by rw [pk_us], Or.inl rfl⟩
          · by_cases e2 : M = j / 4
            · rw [e2, q8]; exact Or.inr (Or.inl rfl)
            · rcases q7 M e2 with e3 | e3
              · rw [e3, hSi]; exact (d5 i hi).1 M hM
              · exact Or.inl e3
          · rw [q8]; exact fun h => absurd h (by decide)
      · obtain ⟨S1, mw1, wb1, iv1, hsh⟩ : ∃ S1 mw1 wb1 iv1, dr i (j / 4) S mw wb iv n = (S1, mw1, wb1, iv1) := ⟨_, _, _, _, rfl⟩
        obtain ⟨sx1, wo1, ct1, sm, hms⟩ : ∃ sx1 wo1 ct1 sm, ms li co i (nI (j / 4)) (nI 0) (nI 1) sx wo (upd ct 0 (ct 0 + nI 1)) n = (sx1, wo1, ct1, sm) := ⟨_, _, _, _, rfl⟩
        have sn := sn_dr (i := i) hn hL hm0 c3 n (Nat.le_refl _)
        rw [hsh, hms] at sn
        dsimp only at sn
        obtain ⟨i2, i3, i4, i5, i6, i7, i9⟩ := sn
        have hSi : S1 i = S i := i6 i (Or.inr rfl)
        have hS2 : (S1 i).2 = (S i).2 := i4 i
        obtain ⟨ln, u, v, U, hc⟩ := i3 i hi
        obtain ⟨k70, k71, k72⟩ := k7 rfl
        have hda : da (4 * i) = nI j := (p3 0 k70).1.trans k71
        have hva : va (4 * i) = krw (S1 i) := by rw [hSi]; exact (p3 0 k70).2.1.trans k72
        have hB : ∀ k, k < n → k ≠ i → kst (S1 k) (j / 4) = nI 0 ∨ kst (S1 k) (j / 4) = nI 1 := fun k hk hki => Or.inl (i7 k hk hki)
        by_cases h0 : kst (S1 i) (j / 4) = 0
        · have h1 := lf_bus_2n l D cI cO aB aM aR n sl sv iv ug g aW wy wb mw ad S i j S1 mw1 wb1 iv1 t0 hn hg hi4 hi k4 hw hsh h0 hS2 k3 hje (by rw [hSi]; exact k70) (by rw [hSi]; exact p2) (by omega) t1 ht0 hie hq1
          obtain ⟨q, q1, q2, q3, q4, ⟨ln2, u2, v2, U2, q5, q6⟩, q7, q8⟩ := CC_fill (z := nI 3) (K' := (upd (cf_st (kst (S1 i)) (cl_leave (kst (S1 i)) (kua (S1 i)) wy ((j / 4) % 2))) (j / 4) (nI 3), upd (kua (S1 i)) (j / 4) ((kus (S1 i)) + nI 1), va_cpy (cf_mem (kst (S1 i)) (kwd (S1 i)) mw1 (cl_leave (kst (S1 i)) (kua (S1 i)) wy ((j / 4) % 2))) (kwd (S1 i)) ((j / 4) * 4) ((j / 4) * 4) 4, (kus (S1 i)) + nI 1, (S1 i).2.2.2.2)) hc i2 hw0 hw (by omega) c2 hL h0 (by decide) rfl rfl rfl rfl
          have h2 := lm_bus_2n l D cI cO aX e n wy wo li sx ux co (nI C) sn da va la ki wa op ((sl + 1) % n) ct i j (6 * i + q) (kk (S i)) sm sx1 wo1 ct1 t0 k4 hms k70 p2 p1 hda (CC_n hc hL h0) hw0 hw q2 q3 hn (by omega) htu ht0 hiM hi4 hqm (p5.trans k3) k5
          rw [hva] at h2
          have hpt := fun (K2 : KS) x a1 a2 a3 a4 => CC_put (K' := K2) (x := x) q6 (by omega) (by omega) q1 (by rw [pk_us]; decide) q5 k4 a1 a2 a3 a4
          rw [nI_add C 1] at hpt
          rw [nI_add C 1] at h2
          refine ⟨_, _, _, _, _, _, _, _, _, _, _, _, _, _, _, _, _, _, _, _, _, _, _, h1, h2, Rel_bus (S := S) hi (by omega) (show C ≤ C + 1 + 1 by omega) (q4) (nI_add (C + 1) 1) (by omega) i3 (hpt _ _ rfl rfl rfl rfl) (fun p hp => (pk_un (by omega)).trans (pk_un (by omega))) (fun _ h9 => pk_un (by omega)) (fun p hp => (pk_un (by omega)).trans (pk_un (by omega))) (fun p hp => (pk_un (by omega)).trans (pk_cpy_out (by omega))) i4 b4 ?_ (fun _ h9 => pk_un h9) (fun _ h9 => if_neg (by omega)) (fun _ h9 => if_neg (by omega)) (fun _ _ => rfl) (fun _ h9 => pk_un h9) (fun _ _ => rfl) (fun _ _ => rfl) (fun k hk hki => Dom_sn (d5 k hk) (i4 k) (i5 k) (hB k hk hki) (i9 k)) ⟨fun M hM => ?_, fun h => absurd (show nI 0 = nI 1 from h) (by decide)⟩ (Coh_bus o6 i5 hB (fun M hM => ?_) (fun _ k hk hki => i7 k hk hki))⟩
          · rw [hSi]; exact ⟨by rw [pk_us], (show kk (S i) - 1 ≤ 4 by omega), (fun q0 hq0 => by
          have hq2 : q0 + 1 < kk (S i) := by have : q0 < kk (S i) - 1 := hq0; omega
          obtain ⟨a1, a2, j2, hj2, a3⟩ := p3 (q0 + 1) hq2
          have s1 : cs_sh (ksa (S i)) (kk (S i) - 1) q0 = ksa (S i) (q0 + 1) := if_pos hq0
          have s2 : cs_sh (ksw (S i)) (kk (S i) - 1) q0 = ksw (S i) (q0 + 1) := if_pos hq0
          exact ⟨(if_pos (by have : q0 < kk (S i) - 1 := hq0; omega)).trans (a1.trans s1.symm), (if_pos (by have : q0 < kk (S i) - 1 := hq0; omega)).trans (a2.trans s2.symm), j2, hj2, s1.trans a3⟩), p4, by rw [pk_us], Or.inl rfl⟩
          · by_cases e2 : M = j / 4
            · rw [e2]; exact Or.inr (Or.inr (Or.inr pk_us))
            · rcases q7 M e2 with e3 | e3
              · rw [show kst _ M = kst (S1 i) M from (pk_un e2).trans e3, hSi]; exact (d5 i hi).1 M hM
              · exact Or.inl ((pk_un e2).trans e3)
          · rcases q7 M hM with e3 | e3
            · exact Or.inl (by rw [← hSi]; exact (pk_un hM).trans e3)
            · exact Or.inr ((pk_un hM).trans e3)
        · have h1 := lf_bus_2s l D cI cO aB aM aR n sl sv iv ug g aW wy wb mw ad S i j S1 mw1 wb1 iv1 t0 hn hg hi4 hi k4 hw hsh h0 hS2 k3 hje (by rw [hSi]; exact k70) (by rw [hSi]; exact p2) (by omega) t1 ht0 hie hq1
          obtain ⟨q, q1, q2, q3, q4, q5⟩ := CC_s hc hL h0
          have h2 := lm_bus_2s l D cI cO aX e n wy wo li sx ux co (nI C) sn da va la ki wa op ((sl + 1) % n) ct i j (6 * i + q) (kk (S i)) sm sx1 wo1 ct1 t0 k4 hms k70 p2 p1 hda q2 hn (by omega) htu ht0 hiM hi4 hqm (p5.trans k3) k5
          have q6 := CC_use (K' := (upd (kst (S1 i)) (j / 4) (nI 3), upd (kua (S1 i)) (j / 4) ((kus (S1 i)) + nI 1), kwd (S1 i), (kus (S1 i)) + nI 1, (S1 i).2.2.2.2)) (CC_state (K' := (upd (kst (S1 i)) (j / 4) (nI 3), (S1 i).2)) (z := nI 3) hc q1 q3 q4 (by decide) rfl rfl rfl rfl) (by omega) c2 q1 (by rw [pk_us]; decide) q4 rfl rfl rfl rfl
          have q7 : ∀ M, M ≠ j / 4 → kst (S1 i) M = kst (S1 i) M ∨ True := fun _ _ => Or.inr trivial
          rw [hva] at h2
          have hpt := fun (K2 : KS) x a1 a2 a3 a4 => CC_put (K' := K2) (x := x) q6 (by omega) (by omega) q1 (by rw [pk_us]; decide) q4 k4 a1 a2 a3 a4
          rw [nI_add C 1] at hpt
          rw [nI_add C 1] at h2
          refine ⟨_, _, _, _, _, _, _, _, _, _, _, _, _, _, _, _, _, _, _, _, _, _, _, h1, h2, Rel_bus (S := S) hi (by omega) (show C ≤ C + 1 + 1 by omega) (Memo_c3 i2) (nI_add (C + 1) 1) (by omega) i3 (hpt _ _ rfl rfl rfl rfl) (fun p hp => (pk_un (by omega)).trans (pk_un (by omega))) (fun _ _ => rfl) (fun p hp => (pk_un (by omega)).trans (pk_un (by omega))) (fun _ h9 => pk_un (by omega)) i4 b4 ?_ (fun _ h9 => pk_un h9) (fun _ h9 => if_neg (by omega)) (fun _ h9 => if_neg (by omega)) (fun _ _ => rfl) (fun _ h9 => pk_un h9) (fun _ _ => rfl) (fun _ _ => rfl) (fun k hk hki => Dom_sn (d5 k hk) (i4 k) (i5 k) (hB k hk hki) (i9 k)) ⟨fun M hM => ?_, fun h => absurd (show nI 0 = nI 1 from h) (by decide)⟩ (Coh_bus o6 i5 hB (fun M hM => ?_) (fun _ k hk hki => i7 k hk hki))⟩
          · rw [hSi]; exact ⟨by rw [pk_us], (show kk (S i) - 1 ≤ 4 by omega), (fun q0 hq0 => by
          have hq2 : q0 + 1 < kk (S i) := by have : q0 < kk (S i) - 1 := hq0; omega
          obtain ⟨a1, a2, j2, hj2, a3⟩ := p3 (q0 + 1) hq2
          have s1 : cs_sh (ksa (S i)) (kk (S i) - 1) q0 = ksa (S i) (q0 + 1) := if_pos hq0
          have s2 : cs_sh (ksw (S i)) (kk (S i) - 1) q0 = ksw (S i) (q0 + 1) := if_pos hq0
          exact ⟨(if_pos (by have : q0 < kk (S i) - 1 := hq0; omega)).trans (a1.trans s1.symm), (if_pos (by have : q0 < kk (S i) - 1 := hq0; omega)).trans (a2.trans s2.symm), j2, hj2, s1.trans a3⟩), p4, by rw [pk_us], Or.inl rfl⟩
          · by_cases e2 : M = j / 4
            · rw [e2]; exact Or.inr (Or.inr (Or.inr pk_us))
            · rw [show kst _ M = kst (S1 i) M from (pk_un e2).trans (pk_un e2), hSi]; exact (d5 i hi).1 M hM
          · exact Or.inl (by rw [← hSi]; exact (pk_un hM).trans (pk_un hM))
      · obtain ⟨S1, mw1, wb1, iv1, hsh⟩ : ∃ S1 mw1 wb1 iv1, dr i (j / 4) S mw wb iv n = (S1, mw1, wb1, iv1) := ⟨_, _, _, _, rfl⟩
        obtain ⟨sx1, wo1, ct1, sm, hms⟩ : ∃ sx1 wo1 ct1 sm, ms li co i (nI (j / 4)) (nI 0) (nI 1) sx wo (upd ct 0 (ct 0 + nI 1)) n = (sx1, wo1, ct1, sm) := ⟨_, _, _, _, rfl⟩
        have sn := sn_dr (i := i) hn hL hm0 c3 n (Nat.le_refl _)
        rw [hsh, hms] at sn
        dsimp only at sn
        obtain ⟨i2, i3, i4, i5, i6, i7, i9⟩ := sn
        have hSi : S1 i = S i := i6 i (Or.inr rfl)
        have hS2 : (S1 i).2 = (S i).2 := i4 i
        obtain ⟨ln, u, v, U, hc⟩ := i3 i hi
        have hop : op i = krw (S1 i) := by rw [hSi]; exact k6 (by decide)
        have hB : ∀ k, k < n → k ≠ i → kst (S1 k) (j / 4) = nI 0 ∨ kst (S1 k) (j / 4) = nI 1 := fun k hk hki => Or.inl (i7 k hk hki)
        by_cases h0 : kst (S1 i) (j / 4) = 0
        · have h1 := lf_bus_3n l D cI cO aB aM aR n sl sv iv ug g aW wy wb mw ad S i j S1 mw1 wb1 iv1 t0 hn hg hi4 hi k4 hw hsh h0 hS2 k3 hje (by omega) t1 ht0 hie hq1
          obtain ⟨q, q1, q2, q3, q4, ⟨ln2, u2, v2, U2, q5, q6⟩, q7, q8⟩ := CC_fill (z := nI 3) (K' := (upd (cf_st (kst (S1 i)) (cl_leave (kst (S1 i)) (kua (S1 i)) wy ((j / 4) % 2))) (j / 4) (nI 3), upd (kua (S1 i)) (j / 4) ((kus (S1 i)) + nI 1), va_cpy (cf_mem (kst (S1 i)) (kwd (S1 i)) mw1 (cl_leave (kst (S1 i)) (kua (S1 i)) wy ((j / 4) % 2))) (kwd (S1 i)) ((j / 4) * 4) ((j / 4) * 4) 4, (kus (S1 i)) + nI 1, (S1 i).2.2.2.2)) hc i2 hw0 hw (by omega) c2 hL h0 (by decide) rfl rfl rfl rfl
          have h2 := lm_bus_3n l D cI cO aX e n wy wo li sx ux co (nI C) sn da va la ki wa op ((sl + 1) % n) ct i j (6 * i + q) sm sx1 wo1 ct1 t0 k4 hms (CC_n hc hL h0) hw0 hw q2 q3 hn (by omega) htu ht0 hiM hi4 hqm (p5.trans k3) k5
          have hcat := CC_at q6 q1 (by rw [pk_us]; decide) q5
          rw [hop, hcat] at h2
          have hpt := fun (K2 : KS) x a1 a2 a3 a4 => CC_put (K' := K2) (x := x) q6 (by omega) (by omega) q1 (by rw [pk_us]; decide) q5 k4 a1 a2 a3 a4
          rw [nI_add C 1] at hpt
          rw [nI_add C 1] at h2
          refine ⟨_, _, _, _, _, _, _, _, _, _, _, _, _, _, _, _, _, _, _, _, _, _, _, h1, h2, Rel_bus (S := S) hi (by omega) (show C ≤ C + 1 + 1 by omega) (q4) (nI_add (C + 1) 1) (by omega) i3 (hpt _ _ rfl rfl rfl rfl) (fun p hp => (pk_un (by omega)).trans (pk_un (by omega))) (fun _ h9 => pk_un (by omega)) (fun p hp => (pk_un (by omega)).trans (pk_un (by omega))) (fun p hp => (pk_un (by omega)).trans (pk_cpy_out (by omega))) i4 b4 ?_ (fun _ _ => rfl) (fun _ _ => rfl) (fun _ _ => rfl) (fun _ h9 => pk_un h9) (fun _ h9 => pk_un h9) (fun _ _ => rfl) (fun _ _ => rfl) (fun k hk hki => Dom_sn (d5 k hk) (i4 k) (i5 k) (hB k hk hki) (i9 k)) ⟨fun M hM => ?_, fun h => absurd (show nI 0 = nI 1 from h) (by decide)⟩ (Coh_bus o6 i5 hB (fun M hM => ?_) (fun _ k hk hki => i7 k hk hki))⟩
          · rw [hSi]; exact ⟨p1, p2, p3, by rw [pk_us], by rw [pk_us], Or.inl rfl⟩
          · by_cases e2 : M = j / 4
            · rw [e2]; exact Or.inr (Or.inr (Or.inr pk_us))
            · rcases q7 M e2 with e3 | e3
              · rw [show kst _ M = kst (S1 i) M from (pk_un e2).trans e3, hSi]; exact (d5 i hi).1 M hM
              · exact Or.inl ((pk_un e2).trans e3)
          · rcases q7 M hM with e3 | e3
            · exact Or.inl (by rw [← hSi]; exact (pk_un hM).trans e3)
            · exact Or.inr ((pk_un hM).trans e3)
        · have h1 := lf_bus_3s l D cI cO aB aM aR n sl sv iv ug g aW wy wb mw ad S i j S1 mw1 wb1 iv1 t0 hn hg hi4 hi k4 hw hsh h0 hS2 k3 hje (by omega) t1 ht0 hie hq1
          obtain ⟨q, q1, q2, q3, q4, q5⟩ := CC_s hc hL h0
          have h2 := lm_bus_3s l D cI cO aX e n wy wo li sx ux co (nI C) sn da va la ki wa op ((sl + 1) % n) ct i j (6 * i + q) sm sx1 wo1 ct1 t0 k4 hms q2 hn (by omega) htu ht0 hiM hi4 hqm (p5.trans k3) k5
          have q6 := CC_use (K' := (upd (kst (S1 i)) (j / 4) (nI 3), upd (kua (S1 i)) (j / 4) ((kus (S1 i)) + nI 1), kwd (S1 i), (kus (S1 i)) + nI 1, (S1 i).2.2.2.2)) (CC_state (K' := (upd (kst (S1 i)) (j / 4) (nI 3), (S1 i).2)) (z := nI 3) hc q1 q3 q4 (by decide) rfl rfl rfl rfl) (by omega) c2 q1 (by rw [pk_us]; decide) q4 rfl rfl rfl rfl
          have q7 : ∀ M, M ≠ j / 4 → kst (S1 i) M = kst (S1 i) M ∨ True := fun _ _ => Or.inr trivial
          have hcat := CC_at q6 q1 (by rw [pk_us]; decide) q4
          rw [hop, hcat] at h2
          have hpt := fun (K2 : KS) x a1 a2 a3 a4 => CC_put (K' := K2) (x := x) q6 (by omega) (by omega) q1 (by rw [pk_us]; decide) q4 k4 a1 a2 a3 a4
          rw [nI_add C 1] at hpt
          rw [nI_add C 1] at h2
          refine ⟨_, _, _, _, _, _, _, _, _, _, _, _, _, _, _, _, _, _, _, _, _, _, _, h1, h2, Rel_bus (S := S) hi (by omega) (show C ≤ C + 1 + 1 by omega) (Memo_c3 i2) (nI_add (C + 1) 1) (by omega) i3 (hpt _ _ rfl rfl rfl rfl) (fun p hp => (pk_un (by omega)).trans (pk_un (by omega))) (fun _ _ => rfl) (fun p hp => (pk_un (by omega)).trans (pk_un (by omega))) (fun _ h9 => pk_un (by omega)) i4 b4 ?_ (fun _ _ => rfl) (fun _ _ => rfl) (fun _ _ => rfl) (fun _ h9 => pk_un h9) (fun _ h9 => pk_un h9) (fun _ _ => rfl) (fun _ _ => rfl) (fun k hk hki => Dom_sn (d5 k hk) (i4 k) (i5 k) (hB k hk hki) (i9 k)) ⟨fun M hM => ?_, fun h => absurd (show nI 0 = nI 1 from h) (by decide)⟩ (Coh_bus o6 i5 hB (fun M hM => ?_) (fun _ k hk hki => i7 k hk hki))⟩
          · rw [hSi]; exact ⟨p1, p2, p3, by rw [pk_us], by rw [pk_us], Or.inl rfl⟩
          · by_cases e2 : M = j / 4
            · rw [e2]; exact Or.inr (Or.inr (Or.inr pk_us))
            · rw [show kst _ M = kst (S1 i) M from (pk_un e2).trans (pk_un e2), hSi]; exact (d5 i hi).1 M hM
          · exact Or.inl (by rw [← hSi]; exact (pk_un hM).trans (pk_un hM))
      · obtain ⟨S1, mw1, wb1, iv1, hsh⟩ : ∃ S1 mw1 wb1 iv1, dr i (j / 4) S mw wb iv n = (S1, mw1, wb1, iv1) := ⟨_, _, _, _, rfl⟩
        obtain ⟨sx1, wo1, ct1, sm, hms⟩ : ∃ sx1 wo1 ct1 sm, ms li co i (nI (j / 4)) (nI 0) (nI 1) sx wo (upd ct 0 (ct 0 + nI 1)) n = (sx1, wo1, ct1, sm) := ⟨_, _, _, _, rfl⟩
        have sn := sn_dr (i := i) hn hL hm0 c3 n (Nat.le_refl _)
        rw [hsh, hms] at sn
        dsimp only at sn
        obtain ⟨i2, i3, i4, i5, i6, i7, i9⟩ := sn
        have hSi : S1 i = S i := i6 i (Or.inr rfl)
        have hS2 : (S1 i).2 = (S i).2 := i4 i
        obtain ⟨ln, u, v, U, hc⟩ := i3 i hi
        have hop : op i = krw (S1 i) := by rw [hSi]; exact k6 (by decide)
        have hB : ∀ k, k < n → k ≠ i → kst (S1 k) (j / 4) = nI 0 ∨ kst (S1 k) (j / 4) = nI 1 := fun k hk hki => Or.inl (i7 k hk hki)
        by_cases h0 : kst (S1 i) (j / 4) = 0
        · have h1 := lf_bus_4n l D cI cO aB aM aR n sl sv iv ug g aW wy wb mw ad S i j S1 mw1 wb1 iv1 t0 hn hg hi4 hi k4 hw hsh h0 hS2 k3 hje (by omega) t1 ht0 hie hq1
          obtain ⟨q, q1, q2, q3, q4, ⟨ln2, u2, v2, U2, q5, q6⟩, q7, q8⟩ := CC_fill (z := nI 3) (K' := (upd (cf_st (kst (S1 i)) (cl_leave (kst (S1 i)) (kua (S1 i)) wy ((j / 4) % 2))) (j / 4) (nI 3), upd (kua (S1 i)) (j / 4) ((kus (S1 i)) + nI 1), va_cpy (cf_mem (kst (S1 i)) (kwd (S1 i)) mw1 (cl_leave (kst (S1 i)) (kua (S1 i)) wy ((j / 4) % 2))) (kwd (S1 i)) ((j / 4) * 4) ((j / 4) * 4) 4, (kus (S1 i)) + nI 1, (S1 i).2.2.2.2)) hc i2 hw0 hw (by omega) c2 hL h0 (by decide) rfl rfl rfl rfl
          have h2 := lm_bus_4n l D cI cO aX e n wy wo li sx ux co (nI C) sn da va la ki wa op ((sl + 1) % n) ct i j (6 * i + q) sm sx1 wo1 ct1 t0 k4 hms (CC_n hc hL h0) hw0 hw q2 q3 hn (by omega) htu ht0 hiM hi4 hqm (p5.trans k3) k5
          have hcat := CC_at q6 q1 (by rw [pk_us]; decide) q5
          rw [hop, hcat] at h2
          have hpt := fun (K2 : KS) x a1 a2 a3 a4 => CC_put (K' := K2) (x := x) q6 (by omega) (by omega) q1 (by rw [pk_us]; decide) q5 k4 a1 a2 a3 a4
          rw [nI_add C 1] at hpt
          rw [nI_add C 1] at h2
          refine ⟨_, _, _, _, _, _, _, _, _, _, _, _, _, _, _, _, _, _, _, _, _, _, _, h1, h2, Rel_bus (S := S) hi (by omega) (show C ≤ C + 1 + 1 by omega) (q4) (nI_add (C + 1) 1) (by omega) i3 (hpt _ _ rfl rfl rfl rfl) (fun p hp => (pk_un (by omega)).trans (pk_un (by omega))) (fun _ h9 => pk_un (by omega)) (fun p hp => (pk_un (by omega)).trans (pk_un (by omega))) (fun p hp => (pk_un (by omega)).trans (pk_cpy_out (by omega))) i4 b4 ?_ (fun _ _ => rfl) (fun _ _ => rfl) (fun _ _ => rfl) (fun _ h9 => pk_un h9) (fun _ h9 => pk_un h9) (fun _ _ => rfl) (fun _ _ => rfl) (fun k hk hki => Dom_sn (d5 k hk) (i4 k) (i5 k) (hB k hk hki) (i9 k)) ⟨fun M hM => ?_, fun h => absurd (show nI 0 = nI 1 from h) (by decide)⟩ (Coh_bus o6 i5 hB (fun M hM => ?_) (fun _ k hk hki => i7 k hk hki))⟩
          · rw [hSi]; exact ⟨p1, p2, p3, by rw [pk_us], by rw [pk_us], Or.inl rfl⟩
          · by_cases e2 : M = j / 4
            · rw [e2]; exact Or.inr (Or.inr (Or.inr pk_us))
            · rcases q7 M e2 with e3 | e3
              · rw [show kst _ M = kst (S1 i) M from (pk_un e2).trans e3, hSi]; exact (d5 i hi).1 M hM
              · exact Or.inl ((pk_un e2).trans e3)
          · rcases q7 M hM with e3 | e3
            · exact Or.inl (by rw [← hSi]; exact (pk_un hM).trans e3)
            · exact Or.inr ((pk_un hM).trans e3)
        · have h1 := lf_bus_4s l D cI cO aB aM aR n sl sv iv ug g aW wy wb mw ad S i j S1 mw1 wb1 iv1 t0 hn hg hi4 hi k4 hw hsh h0 hS2 k3 hje (by omega) t1 ht0 hie hq1
          obtain ⟨q, q1, q2, q3, q4, q5⟩ := CC_s hc hL h0
          have h2 := lm_bus_4s l D cI cO aX e n wy wo li sx ux co (nI C) sn da va la ki wa op ((sl + 1) % n) ct i j (6 * i + q) sm sx1 wo1 ct1 t0 k4 hms q2 hn (by omega) htu ht0 hiM hi4 hqm (p5.trans k3) k5
          have q6 := CC_use (K' := (upd (kst (S1 i)) (j / 4) (nI 3), upd (kua (S1 i)) (j / 4) ((kus (S1 i)) + nI 1), kwd (S1 i), (kus (S1 i)) + nI 1, (S1 i).2.2.2.2)) (CC_state (K' := (upd (kst (S1 i)) (j / 4) (nI 3), (S1 i).2)) (z := nI 3) hc q1 q3 q4 (by decide) rfl rfl rfl rfl) (by omega) c2 q1 (by rw [pk_us]; decide) q4 rfl rfl rfl rfl
          have q7 : ∀ M, M ≠ j / 4 → kst (S1 i) M = kst (S1 i) M ∨ True := fun _ _ => Or.inr trivial
          have hcat := CC_at q6 q1 (by rw [pk_us]; decide) q4
          rw [hop, hcat] at h2
          have hpt := fun (K2 : KS) x a1 a2 a3 a4 => CC_put (K' := K2) (x := x) q6 (by omega) (by omega) q1 (by rw [pk_us]; decide) q4 k4 a1 a2 a3 a4
          rw [nI_add C 1] at hpt
          rw [nI_add C 1] at h2
          refine ⟨_, _, _, _, _, _, _, _, _, _, _, _, _, _, _, _, _, _, _, _, _, _, _, h1, h2, Rel_bus (S := S) hi (by omega) (show C ≤ C + 1 + 1 by omega) (Memo_c3 i2) (nI_add (C + 1) 1) (by omega) i3 (hpt _ _ rfl rfl rfl rfl) (fun p hp => (pk_un (by omega)).trans (pk_un (by omega))) (fun _ _ => rfl) (fun p hp => (pk_un (by omega)).trans (pk_un (by omega))) (fun _ h9 => pk_un (by omega)) i4 b4 ?_ (fun _ _ => rfl) (fun _ _ => rfl) (fun _ _ => rfl) (fun _ h9 => pk_un h9) (fun _ h9 => pk_un h9) (fun _ _ => rfl) (fun _ _ => rfl) (fun k hk hki => Dom_sn (d5 k hk) (i4 k) (i5 k) (hB k hk hki) (i9 k)) ⟨fun M hM => ?_, fun h => absurd (show nI 0 = nI 1 from h) (by decide)⟩ (Coh_bus o6 i5 hB (fun M hM => ?_) (fun _ k hk hki => i7 k hk hki))⟩
          · rw [hSi]; exact ⟨p1, p2, p3, by rw [pk_us], by rw [pk_us], Or.inl rfl⟩
          · by_cases e2 : M = j / 4
            · rw [e2]; exact Or.inr (Or.inr (Or.inr pk_us))
            · rw [show kst _ M = kst (S1 i) M from (pk_un e2).trans (pk_un e2), hSi]; exact (d5 i hi).1 M hM
          · exact Or.inl (by rw [← hSi]; exact (pk_un hM).trans (pk_un hM))
