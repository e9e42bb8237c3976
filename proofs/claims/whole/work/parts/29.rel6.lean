set_option maxHeartbeats 2000000 in
theorem s_load (l : Launch) (D : va_G) (cI cO : ClassId) (aB aM aR aW n wy : Nat) (g : Nat → Option Nat) (ad : Nat → Nat → Nat) (aX : Nat) (e : Nat → Nat) (b : Nat) (S : Nat → KS) (mw : Nat → Int32) (wb : Int32) (sl : Nat) (sv iv ug : Int32) (wo li sx ux co : Nat → Int32) (ck : Int32) (sn da va la ki wa op : Nat → Int32) (tu : Nat) (ct : Nat → Int32) (x y : Int32) (hn2 : 2 ≤ n) (hn : n ≤ 4) (hw0 : 1 ≤ wy) (hw : wy < 4) (hb : b + 2 < 2 ^ 31) (hg : ∀ i, i < n → g i = some (ad i 0)) (hR : Rel n wy b S mw wb sl sv iv ug wo li sx ux co ck sn da va la ki wa op tu ct) : Ans l D cI cO aB aM aR aW n wy g ad aX e y_Bus_load y_Model_load w_Bus_load w_Model_load [.ref aB, .int x, .int y] [.ref aX, .int x, .int y] (b + 2) S mw wb sl sv iv ug wo li sx ux co ck sn da va la ki wa op tu ct := by
  have hR0 := hR
  obtain ⟨⟨m1, m2, m3, m4, m5⟩, ⟨t1, t2⟩, ⟨C, c1, c2, c3⟩, b4, d5, o6⟩ := hR
  rcases vp_cases x (n := n) (by omega) with ⟨i, hi, rfl⟩ | hx0
  · obtain ⟨p1, p2, p3, p4, p5, p6⟩ := b4 i hi
    obtain ⟨ln, u, v, U, hc⟩ := c3 i hi
    rcases vp_cases y (n := 32) (by decide) with ⟨j, hj, rfl⟩ | hy0
    · rcases p6 with p0 | ⟨kd, k1, k2, k3, k4, k5, k6, k7⟩
      · have z0 : krk (S i) = 0 := p0
        have z1 : ki i = 0 := p5.trans z0
        have hnew : cs_new (fun q => da (4 * i + q)) (nI j) (kk (S i)) = cs_new (ksa (S i)) (nI j) (kk (S i)) := cs_new_eq _ (fun q hq => (p3 q hq).1)
        cases hq : cs_new (ksa (S i)) (nI j) (kk (S i)) with
        | none =>
          by_cases h0 : kst (S i) (j / 4) = 0
          · have h1 := lc_load_miss l D cI cO aB aM aR aW n wy sl sv iv ug wb g mw ad S i j hn hg hi z0 hj p2 hq h0
            have h2 := lm_load_miss l D cI cO aX e n wy wo li sx ux co ck sn da va la ki wa op tu ct i j (kk (S i)) hn hi hj z1 p2 p1 (hnew.trans hq) (CC_n hc (by omega) h0)
            exact ⟨_, _, _, _, _, _, _, _, _, _, _, _, _, _, _, _, _, _, _, _, _, _, _, h1, h2, Rel_mono (Rel_buf hR0 (by omega) hi rfl rfl rfl rfl ⟨(d5 i hi).1, fun _ => h0⟩ ⟨p1, p2, p3, p4, (by rw [pk_us]), Or.inr ⟨1, by omega, by omega, rfl, hj, (by rw [pk_us]), (fun h => absurd h (by omega)), (fun h => absurd h (by omega))⟩⟩ (fun _ _ => rfl) (fun _ _ => rfl) (fun _ _ => rfl) (fun _ _ => rfl) (fun _ h9 => pk_un h9) (fun _ h9 => pk_un h9) (fun _ h9 => pk_un h9)) (by omega)⟩
          · subst c1
            obtain ⟨q, q1, q2, q3, q4, q5⟩ := CC_s hc (L := j / 4) (by omega) h0
            have h1 := lc_load_hit l D cI cO aB aM aR aW n wy sl sv iv ug wb g mw ad S i j hn hg hi z0 hj p2 hq h0
            have h2 := lm_load_hit l D cI cO aX e n wy wo li sx ux co (nI C) sn da va la ki wa op tu ct i j (kk (S i)) (6 * i + q) hn hi hj z1 p2 p1 (hnew.trans hq) q2
            exact ⟨_, _, _, _, _, _, _, _, _, _, _, _, _, _, _, _, _, _, _, _, _, _, _, h1, h2, Rel_mono (Rel_cac hR0 (by omega) c2 hi ⟨_, _, _, _, CC_use hc (by omega) c2 q1 q3 q4 rfl rfl rfl rfl⟩ (fun _ _ => rfl) (fun _ h9 => pk_un (by omega)) (fun _ _ => rfl) ⟨p1, p2, p3, (by rw [pk_us]; exact CC_at hc q1 q3 q4), p5, Or.inl p0⟩ (fun _ _ => rfl) (fun _ _ => rfl) (fun _ _ => rfl) (fun _ h9 => pk_un h9) (fun _ _ => rfl) (fun _ _ => rfl) (fun _ _ => rfl) (d5 i hi) (Coh_up o6 (fun _ _ h => h) (fun _ _ h => h))) (by omega)⟩
        | some q =>
          have hq4 := cs_new_lt _ _ hq
          have h1 := lc_load_fwd l D cI cO aB aM aR aW n wy sl sv iv ug wb g mw ad S i j q hn hg hi z0 hj p2 hq (by omega)
          have h2 := lm_load_fwd l D cI cO aX e n wy wo li sx ux co ck sn da va la ki wa op tu ct i j (kk (S i)) q hn hi hj z1 p2 p1 (hnew.trans hq)
          exact ⟨_, _, _, _, _, _, _, _, _, _, _, _, _, _, _, _, _, _, _, _, _, _, _, h1, h2, Rel_mono (Rel_buf hR0 (by omega) hi rfl rfl rfl rfl (d5 i hi) ⟨p1, p2, p3, (by rw [pk_us]; exact (p3 q hq4).2.1), p5, Or.inl p0⟩ (fun _ _ => rfl) (fun _ _ => rfl) (fun _ _ => rfl) (fun _ h9 => pk_un h9) (fun _ _ => rfl) (fun _ _ => rfl) (fun _ _ => rfl)) (by omega)⟩
      · have z0 : ¬ krk (S i) = 0 := by rw [k3]; exact nI_ne0 (by omega) (by omega)
        have z1 : ¬ ki i ≤ 0 := by rw [p5, k3]; exact nI_nle (by omega) (by omega)
        have h1 := lc_load_busy l D cI cO aB aM aR aW n wy sl sv iv ug wb g mw ad S i j hn hg hi z0 hj
        rw [va_same] at h1
        have h2 := lm_load_busy l D cI cO aX e n wy wo li sx ux co ck sn da va la ki wa op tu ct i j hn hi hj z1
        exact ⟨_, _, _, _, _, _, _, _, _, _, _, _, _, _, _, _, _, _, _, _, _, _, _, h1, h2, Rel_mono hR0 (by omega)⟩
    · have h1 := lc_load_ba l D cI cO aB aM aR aW n wy sl sv iv ug wb g mw ad S i y hn hg hi hy0
      have h2 := lm_load_ba l D cI cO aX e n wy wo li sx ux co ck sn da va la ki wa op tu ct i y hn hi hy0
      exact ⟨_, _, _, _, _, _, _, _, _, _, _, _, _, _, _, _, _, _, _, _, _, _, _, h1, h2, Rel_mono hR0 (by omega)⟩
  · have h1 := lc_load_bc l D cI cO aB aM aR aW n wy sl sv iv ug wb g mw ad S x y hn hg hx0
    have h2 := lm_load_bc l D cI cO aX e n wy wo li sx ux co ck sn da va la ki wa op tu ct x y hn hx0
    exact ⟨_, _, _, _, _, _, _, _, _, _, _, _, _, _, _, _, _, _, _, _, _, _, _, h1, h2, Rel_mono hR0 (by omega)⟩
set_option maxHeartbeats 2000000 in
theorem s_store (l : Launch) (D : va_G) (cI cO : ClassId) (aB aM aR aW n wy : Nat) (g : Nat → Option Nat) (ad : Nat → Nat → Nat) (aX : Nat) (e : Nat → Nat) (b : Nat) (S : Nat → KS) (mw : Nat → Int32) (wb : Int32) (sl : Nat) (sv iv ug : Int32) (wo li sx ux co : Nat → Int32) (ck : Int32) (sn da va la ki wa op : Nat → Int32) (tu : Nat) (ct : Nat → Int32) (x y w : Int32) (hn2 : 2 ≤ n) (hn : n ≤ 4) (hw0 : 1 ≤ wy) (hw : wy < 4) (hb : b + 2 < 2 ^ 31) (hg : ∀ i, i < n → g i = some (ad i 0)) (hR : Rel n wy b S mw wb sl sv iv ug wo li sx ux co ck sn da va la ki wa op tu ct) : Ans l D cI cO aB aM aR aW n wy g ad aX e y_Bus_store y_Model_store w_Bus_store w_Model_store [.ref aB, .int x, .int y, .int w] [.ref aX, .int x, .int y, .int w] (b + 2) S mw wb sl sv iv ug wo li sx ux co ck sn da va la ki wa op tu ct := by
  have hR0 := hR
  obtain ⟨⟨m1, m2, m3, m4, m5⟩, ⟨t1, t2⟩, ⟨C, c1, c2, c3⟩, b4, d5, o6⟩ := hR
  rcases vp_cases x (n := n) (by omega) with ⟨i, hi, rfl⟩ | hx0
  · obtain ⟨p1, p2, p3, p4, p5, p6⟩ := b4 i hi
    obtain ⟨ln, u, v, U, hc⟩ := c3 i hi
    rcases vp_cases y (n := 32) (by decide) with ⟨j, hj, rfl⟩ | hy0
    · rcases p6 with p0 | ⟨kd, k1, k2, k3, k4, k5, k6, k7⟩
      · have z0 : krk (S i) = 0 := p0
        have z1 : ki i = 0 := p5.trans z0
        by_cases hk4 : kk (S i) < 4
        · have h1 := lc_store_ok l D cI cO aB aM aR aW n wy sl sv iv ug wb g mw ad S i j w hn hg hi z0 hj hk4
          have h2 := lm_store_ok l D cI cO aX e n wy wo li sx ux co ck sn da va la ki wa op tu ct i j (kk (S i)) w hn hi hj z1 hk4 p1
          exact ⟨_, _, _, _, _, _, _, _, _, _, _, _, _, _, _, _, _, _, _, _, _, _, _, h1, h2, Rel_mono (Rel_buf hR0 (by omega) hi rfl rfl rfl rfl (d5 i hi) ⟨(by rw [pk_us]), (show kk (S i) + 1 ≤ 4 by omega), (fun q hq => by
      by_cases e : q = kk (S i)
      · subst e
        exact ⟨by rw [pk_us]; exact pk_us.symm, by rw [pk_us]; exact pk_us.symm, j, hj, pk_us⟩
      · have hq2 : q < kk (S i) := by have : q < kk (S i) + 1 := hq; omega
        obtain ⟨a1, a2, j2, hj2, a3⟩ := p3 q hq2
        exact ⟨by rw [pk_un (by omega)]; exact a1.trans (pk_un e).symm, by rw [pk_un (by omega)]; exact a2.trans (pk_un e).symm, j2, hj2, (pk_un e).trans a3⟩), p4, p5, Or.inl p0⟩ (fun _ h9 => pk_un h9) (fun _ h9 => pk_un (by omega)) (fun _ h9 => pk_un (by omega)) (fun _ _ => rfl) (fun _ _ => rfl) (fun _ _ => rfl) (fun _ _ => rfl)) (by omega)⟩
        · have hk4 : kk (S i) = 4 := by omega
          have h1 := lc_store_full l D cI cO aB aM aR aW n wy sl sv iv ug wb g mw ad S i j w hn hg hi z0 hj hk4
          rw [va_same] at h1
          have h2 := lm_store_full l D cI cO aX e n wy wo li sx ux co ck sn da va la ki wa op tu ct i j w hn hi hj z1 (by rw [p1, hk4])
          exact ⟨_, _, _, _, _, _, _, _, _, _, _, _, _, _, _, _, _, _, _, _, _, _, _, h1, h2, Rel_mono hR0 (by omega)⟩
      · have z0 : ¬ krk (S i) = 0 := by rw [k3]; exact nI_ne0 (by omega) (by omega)
        have z1 : ¬ ki i ≤ 0 := by rw [p5, k3]; exact nI_nle (by omega) (by omega)
        have h1 := lc_store_busy l D cI cO aB aM aR aW n wy sl sv iv ug wb g mw ad S i j w hn hg hi z0 hj
        rw [va_same] at h1
        have h2 := lm_store_busy l D cI cO aX e n wy wo li sx ux co ck sn da va la ki wa op tu ct i j w hn hi hj z1
        exact ⟨_, _, _, _, _, _, _, _, _, _, _, _, _, _, _, _, _, _, _, _, _, _, _, h1, h2, Rel_mono hR0 (by omega)⟩
    · have h1 := lc_store_ba l D cI cO aB aM aR aW n wy sl sv iv ug wb g mw ad S i y w hn hg hi hy0
      have h2 := lm_store_ba l D cI cO aX e n wy wo li sx ux co ck sn da va la ki wa op tu ct i y w hn hi hy0
      exact ⟨_, _, _, _, _, _, _, _, _, _, _, _, _, _, _, _, _, _, _, _, _, _, _, h1, h2, Rel_mono hR0 (by omega)⟩
  · have h1 := lc_store_bc l D cI cO aB aM aR aW n wy sl sv iv ug wb g mw ad S x y w hn hg hx0
    have h2 := lm_store_bc l D cI cO aX e n wy wo li sx ux co ck sn da va la ki wa op tu ct x y w hn hx0
    exact ⟨_, _, _, _, _, _, _, _, _, _, _, _, _, _, _, _, _, _, _, _, _, _, _, h1, h2, Rel_mono hR0 (by omega)⟩
set_option maxHeartbeats 2000000 in
theorem s_drain (l : Launch) (D : va_G) (cI cO : ClassId) (aB aM aR aW n wy : Nat) (g : Nat → Option Nat) (ad : Nat → Nat → Nat) (aX : Nat) (e : Nat → Nat) (b : Nat) (S : Nat → KS) (mw : Nat → Int32) (wb : Int32) (sl : Nat) (sv iv ug : Int32) (wo li sx ux co : Nat → Int32) (ck : Int32) (sn da va la ki wa op : Nat → Int32) (tu : Nat) (ct : Nat → Int32) (x : Int32) (hn2 : 2 ≤ n) (hn : n ≤ 4) (hw0 : 1 ≤ wy) (hw : wy < 4) (hb : b + 2 < 2 ^ 31) (hg : ∀ i, i < n → g i = some (ad i 0)) (hR : Rel n wy b S mw wb sl sv iv ug wo li sx ux co ck sn da va la ki wa op tu ct) : Ans l D cI cO aB aM aR aW n wy g ad aX e y_Bus_drain y_Model_drain w_Bus_drain w_Model_drain [.ref aB, .int x] [.ref aX, .int x] (b + 2) S mw wb sl sv iv ug wo li sx ux co ck sn da va la ki wa op tu ct := by
  have hR0 := hR
  obtain ⟨⟨m1, m2, m3, m4, m5⟩, ⟨t1, t2⟩, ⟨C, c1, c2, c3⟩, b4, d5, o6⟩ := hR
  rcases vp_cases x (n := n) (by omega) with ⟨i, hi, rfl⟩ | hx0
  · obtain ⟨p1, p2, p3, p4, p5, p6⟩ := b4 i hi
    obtain ⟨ln, u, v, U, hc⟩ := c3 i hi
    rcases p6 with p0 | ⟨kd, k1, k2, k3, k4, k5, k6, k7⟩
    · have z0 : krk (S i) = 0 := p0
      have z1 : ki i = 0 := p5.trans z0
      by_cases hk0 : 1 ≤ kk (S i)
      · obtain ⟨j, hj, ej⟩ := (p3 0 hk0).2.2
        have hda : da (4 * i) = nI j := (p3 0 hk0).1.trans ej
        by_cases ho : kst (S i) (j / 4) = nI 2 ∨ kst (S i) (j / 4) = nI 3
        · subst c1
          have h0 : ¬ kst (S i) (j / 4) = 0 := by rcases ho with z | z <;> rw [z] <;> decide
          obtain ⟨q, q1, q2, q3, q4, q5⟩ := CC_s hc (L := j / 4) (by omega) h0
          have hs1 : ¬ sx (6 * i + q) = nI 1 := by rw [q5]; rcases ho with z | z <;> rw [z] <;> decide
          have h1 := lc_drain_own l D cI cO aB aM aR aW n wy sl sv iv ug wb g mw ad S i j hn hg hi z0 hj hk0 p2 ej ho
          have h2 := lm_drain_own l D cI cO aX e n wy wo li sx ux co (nI C) sn da va la ki wa op tu ct i j (kk (S i)) (6 * i + q) hn hi hj z1 hk0 p2 p1 hda q2 hs1
          rw [show va (4 * i) = ksw (S i) 0 from (p3 0 hk0).2.1] at h2
          exact ⟨_, _, _, _, _, _, _, _, _, _, _, _, _, _, _, _, _, _, _, _, _, _, _, h1, h2, Rel_mono (Rel_cac hR0 (by omega) c2 hi (CC_put hc (by omega) c2 q1 q3 q4 hj rfl rfl rfl rfl) (fun _ h9 => pk_un (by omega)) (fun _ h9 => pk_un (by omega)) (fun _ h9 => pk_un (by omega)) ⟨(by rw [pk_us]), (show kk (S i) - 1 ≤ 4 by omega), (fun q hq => by
      have hq2 : q + 1 < kk (S i) := by have : q < kk (S i) - 1 := hq; omega
      obtain ⟨a1, a2, j2, hj2, a3⟩ := p3 (q + 1) hq2
      have s1 : cs_sh (ksa (S i)) (kk (S i) - 1) q = ksa (S i) (q + 1) := if_pos hq
      have s2 : cs_sh (ksw (S i)) (kk (S i) - 1) q = ksw (S i) (q + 1) := if_pos hq
      exact ⟨(if_pos (by have : q < kk (S i) - 1 := hq; omega)).trans (a1.trans s1.symm), (if_pos (by have : q < kk (S i) - 1 := hq; omega)).trans (a2.trans s2.symm), j2, hj2, s1.trans a3⟩), p4, p5, Or.inl p0⟩ (fun _ h9 => pk_un h9) (fun _ h9 => if_neg (by omega)) (fun _ h9 => if_neg (by omega)) (fun _ _ => rfl) (fun _ _ => rfl) (fun _ _ => rfl) (fun _ _ => rfl) (Dom_put (d5 i hi) p0 rfl) (Coh_put o6 ho rfl)) (by omega)⟩
        · have o2 : ¬ kst (S i) (j / 4) = nI 2 := fun z => ho (Or.inl z)
          have o3 : ¬ kst (S i) (j / 4) = nI 3 := fun z => ho (Or.inr z)
          have d := (d5 i hi).1 (j / 4) (by omega)
          have h1 := lc_drain_ask l D cI cO aB aM aR aW n wy sl sv iv ug wb g mw ad S i j hn hg hi z0 hj hk0 p2 ej o2 o3
          by_cases h0 : kst (S i) (j / 4) = 0
          · have h2 := lm_drain_askn l D cI cO aX e n wy wo li sx ux co ck sn da va la ki wa op tu ct i j (kk (S i)) hn hi hj z1 hk0 p2 p1 hda (CC_n hc (by omega) h0)
            exact ⟨_, _, _, _, _, _, _, _, _, _, _, _, _, _, _, _, _, _, _, _, _, _, _, h1, h2, Rel_mono (Rel_buf hR0 (by omega) hi rfl rfl rfl rfl ⟨(d5 i hi).1, fun h => absurd (show nI 2 = nI 1 from h) (by decide)⟩ ⟨p1, p2, p3, p4, (by rw [pk_us]), Or.inr ⟨2, by omega, by omega, rfl, hj, (by rw [pk_us]), (fun h => absurd h (by omega)), (fun _ => ⟨hk0, ej, rfl⟩)⟩⟩ (fun _ _ => rfl) (fun _ _ => rfl) (fun _ _ => rfl) (fun _ _ => rfl) (fun _ h9 => pk_un h9) (fun _ h9 => pk_un h9) (fun _ h9 => pk_un h9)) (by omega)⟩
          · obtain ⟨q, q1, q2, q3, q4, q5⟩ := CC_s hc (L := j / 4) (by omega) h0
            have hs1 : sx (6 * i + q) = nI 1 := d.elim (fun d => absurd (show kst (S i) (j / 4) = 0 from d) h0) (fun d => d.elim (fun d => q5.trans d) (fun d => d.elim (fun d => absurd d o2) (fun d => absurd d o3)))
            have h2 := lm_drain_asks l D cI cO aX e n wy wo li sx ux co ck sn da va la ki wa op tu ct i j (kk (S i)) (6 * i + q) hn hi hj z1 hk0 p2 p1 hda q2 hs1
            exact ⟨_, _, _, _, _, _, _, _, _, _, _, _, _, _, _, _, _, _, _, _, _, _, _, h1, h2, Rel_mono (Rel_buf hR0 (by omega) hi rfl rfl rfl rfl ⟨(d5 i hi).1, fun h => absurd (show nI 2 = nI 1 from h) (by decide)⟩ ⟨p1, p2, p3, p4, (by rw [pk_us]), Or.inr ⟨2, by omega, by omega, rfl, hj, (by rw [pk_us]), (fun h => absurd h (by omega)), (fun _ => ⟨hk0, ej, rfl⟩)⟩⟩ (fun _ _ => rfl) (fun _ _ => rfl) (fun _ _ => rfl) (fun _ _ => rfl) (fun _ h9 => pk_un h9) (fun _ h9 => pk_un h9) (fun _ h9 => pk_un h9)) (by omega)⟩
      · have hz : kk (S i) = 0 := by omega
        have h1 := lc_drain_not l D cI cO aB aM aR aW n wy sl sv iv ug wb g mw ad S i hn hg hi z0 hz
        rw [va_same] at h1
        have h2 := lm_drain_not l D cI cO aX e n wy wo li sx ux co ck sn da va la ki wa op tu ct i hn hi z1 (by rw [p1, hz]; rfl)
        exact ⟨_, _, _, _, _, _, _, _, _, _, _, _, _, _, _, _, _, _, _, _, _, _, _, h1, h2, Rel_mono hR0 (by omega)⟩
    · have z0 : ¬ krk (S i) = 0 := by rw [k3]; exact nI_ne0 (by omega) (by omega)
      have z1 : ¬ ki i ≤ 0 := by rw [p5, k3]; exact nI_nle (by omega) (by omega)
      have h1 := lc_drain_busy l D cI cO aB aM aR aW n wy sl sv iv ug wb g mw ad S i hn hg hi z0
      rw [va_same] at h1
      have h2 := lm_drain_busy l D cI cO aX e n wy wo li sx ux co ck sn da va la ki wa op tu ct i hn hi z1
      exact ⟨_, _, _, _, _, _, _, _, _, _, _, _, _, _, _, _, _, _, _, _, _, _, _, h1, h2, Rel_mono hR0 (by omega)⟩
  · have h1 := lc_drain_bc l D cI cO aB aM aR aW n wy sl sv iv ug wb g mw ad S x hn hg hx0
    have h2 := lm_drain_bc l D cI cO aX e n wy wo li sx ux co ck sn da va la ki wa op tu ct x hn hx0
    exact ⟨_, _, _, _, _, _, _, _, _, _, _, _, _, _, _, _, _, _, _, _, _, _, _, h1, h2, Rel_mono hR0 (by omega)⟩
set_option maxHeartbeats 2000000 in
theorem s_swap (l : Launch) (D : va_G) (cI cO : ClassId) (aB aM aR aW n wy : Nat) (g : Nat → Option Nat) (ad : Nat → Nat → Nat) (aX : Nat) (e : Nat → Nat) (b : Nat) (S : Nat → KS) (mw : Nat → Int32) (wb : Int32) (sl : Nat) (sv iv ug : Int32) (wo li sx ux co : Nat → Int32) (ck : Int32) (sn da va la ki wa op : Nat → Int32) (tu : Nat) (ct : Nat → Int32) (x y w : Int32) (hn2 : 2 ≤ n) (hn : n ≤ 4) (hw0 : 1 ≤ wy) (hw : wy < 4) (hb : b + 2 < 2 ^ 31) (hg : ∀ i, i < n → g i = some (ad i 0)) (hR : Rel n wy b S mw wb sl sv iv ug wo li sx ux co ck sn da va la ki wa op tu ct) : Ans l D cI cO aB aM aR aW n wy g ad aX e y_Bus_swap y_Model_swap w_Bus_swap w_Model_swap [.ref aB, .int x, .int y, .int w] [.ref aX, .int x, .int y, .int w] (b + 2) S mw wb sl sv iv ug wo li sx ux co ck sn da va la ki wa op tu ct := by
  have hR0 := hR
  obtain ⟨⟨m1, m2, m3, m4, m5⟩, ⟨t1, t2⟩, ⟨C, c1, c2, c3⟩, b4, d5, o6⟩ := hR
  rcases vp_cases x (n := n) (by omega) with ⟨i, hi, rfl⟩ | hx0
  · obtain ⟨p1, p2, p3, p4, p5, p6⟩ := b4 i hi
    obtain ⟨ln, u, v, U, hc⟩ := c3 i hi
    rcases vp_cases y (n := 32) (by decide) with ⟨j, hj, rfl⟩ | hy0
    · rcases p6 with p0 | ⟨kd, k1, k2, k3, k4, k5, k6, k7⟩
      · have z0 : krk (S i) = 0 := p0
        have z1 : ki i = 0 := p5.trans z0
        by_cases hz : kk (S i) = 0
        · by_cases ho : kst (S i) (j / 4) = nI 2 ∨ kst (S i) (j / 4) = nI 3
          · subst c1
            have h0 : ¬ kst (S i) (j / 4) = 0 := by rcases ho with z | z <;> rw [z] <;> decide
            obtain ⟨q, q1, q2, q3, q4, q5⟩ := CC_s hc (L := j / 4) (by omega) h0
            have hs1 : ¬ sx (6 * i + q) = nI 1 := by rw [q5]; rcases ho with z | z <;> rw [z] <;> decide
            have h1 := lc_swap_do l D cI cO aB aM aR aW n wy sl sv iv ug wb g mw ad S i j w hn hg hi z0 hj hz ho
            have h2 := lm_swap_do l D cI cO aX e n wy wo li sx ux co (nI C) sn da va la ki wa op tu ct i j (6 * i + q) w hn hi hj z1 (by rw [p1, hz]) q2 hs1
            rw [CC_at hc q1 q3 q4] at h2
            exact ⟨_, _, _, _, _, _, _, _, _, _, _, _, _, _, _, _, _, _, _, _, _, _, _, h1, h2, Rel_mono (Rel_cac hR0 (by omega) c2 hi (CC_put hc (by omega) c2 q1 q3 q4 hj rfl rfl rfl rfl) (fun _ h9 => pk_un (by omega)) (fun _ h9 => pk_un (by omega)) (fun _ h9 => pk_un (by omega)) ⟨p1, p2, p3, (by rw [pk_us]), p5, Or.inl p0⟩ (fun _ _ => rfl) (fun _ _ => rfl) (fun _ _ => rfl) (fun _ h9 => pk_un h9) (fun _ _ => rfl) (fun _ _ => rfl) (fun _ _ => rfl) (Dom_put (d5 i hi) p0 rfl) (Coh_put o6 ho rfl)) (by omega)⟩
          · have o2 : ¬ kst (S i) (j / 4) = nI 2 := fun z => ho (Or.inl z)
            have o3 : ¬ kst (S i) (j / 4) = nI 3 := fun z => ho (Or.inr z)
            have d := (d5 i hi).1 (j / 4) (by omega)
            have h1 := lc_swap_ask l D cI cO aB aM aR aW n wy sl sv iv ug wb g mw ad S i j w hn hg hi z0 hj hz o2 o3
            by_cases h0 : kst (S i) (j / 4) = 0
            · have h2 := lm_swap_askn l D cI cO aX e n wy wo li sx ux co ck sn da va la ki wa op tu ct i j w hn hi hj z1 (by rw [p1, hz]) (CC_n hc (by omega) h0)
              exact ⟨_, _, _, _, _, _, _, _, _, _, _, _, _, _, _, _, _, _, _, _, _, _, _, h1, h2, Rel_mono (Rel_buf hR0 (by omega) hi rfl rfl rfl rfl ⟨(d5 i hi).1, fun h => absurd (show nI 3 = nI 1 from h) (by decide)⟩ ⟨p1, p2, p3, p4, (by rw [pk_us]), Or.inr ⟨3, by omega, by omega, rfl, hj, (by rw [pk_us]), (fun _ => pk_us), (fun h => absurd h (by omega))⟩⟩ (fun _ _ => rfl) (fun _ _ => rfl) (fun _ _ => rfl) (fun _ _ => rfl) (fun _ h9 => pk_un h9) (fun _ h9 => pk_un h9) (fun _ h9 => pk_un h9)) (by omega)⟩
            · obtain ⟨q, q1, q2, q3, q4, q5⟩ := CC_s hc (L := j / 4) (by omega) h0
              have hs1 : sx (6 * i + q) = nI 1 := d.elim (fun d => absurd (show kst (S i) (j / 4) = 0 from d) h0) (fun d => d.elim (fun d => q5.trans d) (fun d => d.elim (fun d => absurd d o2) (fun d => absurd d o3)))
              have h2 := lm_swap_asks l D cI cO aX e n wy wo li sx ux co ck sn da va la ki wa op tu ct i j (6 * i + q) w hn hi hj z1 (by rw [p1, hz]) q2 hs1
              exact ⟨_, _, _, _, _, _, _, _, _, _, _, _, _, _, _, _, _, _, _, _, _, _, _, h1, h2, Rel_mono (Rel_buf hR0 (by omega) hi rfl rfl rfl rfl ⟨(d5 i hi).1, fun h => absurd (show nI 3 = nI 1 from h) (by decide)⟩ ⟨p1, p2, p3, p4, (by rw [pk_us]), Or.inr ⟨3, by omega, by omega, rfl, hj, (by rw [pk_us]), (fun _ => pk_us), (fun h => absurd h (by omega))⟩⟩ (fun _ _ => rfl) (fun _ _ => rfl) (fun _ _ => rfl) (fun _ _ => rfl) (fun _ h9 => pk_un h9) (fun _ h9 => pk_un h9) (fun _ h9 => pk_un h9)) (by omega)⟩
        · have h1 := lc_swap_not l D cI cO aB aM aR aW n wy sl sv iv ug wb g mw ad S i j w hn hg hi z0 hj (by omega) p2
          rw [va_same] at h1
          have h2 := lm_swap_not l D cI cO aX e n wy wo li sx ux co ck sn da va la ki wa op tu ct i j (kk (S i)) w hn hi hj z1 (by omega) p2 p1
          exact ⟨_, _, _, _, _, _, _, _, _, _, _, _, _, _, _, _, _, _, _, _, _, _, _, h1, h2, Rel_mono hR0 (by omega)⟩
      · have z0 : ¬ krk (S i) = 0 := by rw [k3]; exact nI_ne0 (by omega) (by omega)
        have z1 : ¬ ki i ≤ 0 := by rw [p5, k3]; exact nI_nle (by omega) (by omega)
        have h1 := lc_swap_busy l D cI cO aB aM aR aW n wy sl sv iv ug wb g mw ad S i j w hn hg hi z0 hj
        rw [va_same] at h1
        have h2 := lm_swap_busy l D cI cO aX e n wy wo li sx ux co ck sn da va la ki wa op tu ct i j w hn hi hj z1
        exact ⟨_, _, _, _, _, _, _, _, _, _, _, _, _, _, _, _, _, _, _, _, _, _, _, h1, h2, Rel_mono hR0 (by omega)⟩
    · have h1 := lc_swap_ba l D cI cO aB aM aR aW n wy sl sv iv ug wb g mw ad S i y w hn hg hi hy0
      have h2 := lm_swap_ba l D cI cO aX e n wy wo li sx ux co ck sn da va la ki wa op tu ct i y w hn hi hy0
      exact ⟨_, _, _, _, _, _, _, _, _, _, _, _, _, _, _, _, _, _, _, _, _, _, _, h1, h2, Rel_mono hR0 (by omega)⟩
  · have h1 := lc_swap_bc l D cI cO aB aM aR aW n wy sl sv iv ug wb g mw ad S x y w hn hg hx0
    have h2 := lm_swap_bc l D cI cO aX e n wy wo li sx ux co ck sn da va la ki wa op tu ct x y w hn hx0
    exact ⟨_, _, _, _, _, _, _, _, _, _, _, _, _, _, _, _, _, _, _, _, _, _, _, h1, h2, Rel_mono hR0 (by omega)⟩
set_option maxHeartbeats 2000000 in
theorem s_add (l : Launch) (D : va_G) (cI cO : ClassId) (aB aM aR aW n wy : Nat) (g : Nat → Option Nat) (ad : Nat → Nat → Nat) (aX : Nat) (e : Nat → Nat) (b : Nat) (S : Nat → KS) (mw : Nat → Int32) (wb : Int32) (sl : Nat) (sv iv ug : Int32) (wo li sx ux co : Nat → Int32) (ck : Int32) (sn da va la ki wa op : Nat → Int32) (tu : Nat) (ct : Nat → Int32) (x y w : Int32) (hn2 : 2 ≤ n) (hn : n ≤ 4) (hw0 : 1 ≤ wy) (hw : wy < 4) (hb : b + 2 < 2 ^ 31) (hg : ∀ i, i < n → g i = some (ad i 0)) (hR : Rel n wy b S mw wb sl sv iv ug wo li sx ux co ck sn da va la ki wa op tu ct) : Ans l D cI cO aB aM aR aW n wy g ad aX e y_Bus_add y_Model_add w_Bus_add w_Model_add [.ref aB, .int x, .int y, .int w] [.ref aX, .int x, .int y, .int w] (b + 2) S mw wb sl sv iv ug wo li sx ux co ck sn da va la ki wa op tu ct := by
  have hR0 := hR
  obtain ⟨⟨m1, m2, m3, m4, m5⟩, ⟨t1, t2⟩, ⟨C, c1, c2, c3⟩, b4, d5, o6⟩ := hR
  rcases vp_cases x (n := n) (by omega) with ⟨i, hi, rfl⟩ | hx0
  · obtain ⟨p1, p2, p3, p4, p5, p6⟩ := b4 i hi
    obtain ⟨ln, u, v, U, hc⟩ := c3 i hi
    rcases vp_cases y (n := 32) (by decide) with ⟨j, hj, rfl⟩ | hy0
    · rcases p6 with p0 | ⟨kd, k1, k2, k3, k4, k5, k6, k7⟩
      · have z0 : krk (S i) = 0 := p0
        have z1 : ki i = 0 := p5.trans z0
        by_cases hz : kk (S i) = 0
        · by_cases ho : kst (S i) (j / 4) = nI 2 ∨ kst (S i) (j / 4) = nI 3
          · subst c1
            have h0 : ¬ kst (S i) (j / 4) = 0 := by rcases ho with z | z <;> rw [z] <;> decide
            obtain ⟨q, q1, q2, q3, q4, q5⟩ := CC_s hc (L := j / 4) (by omega) h0
            have hs1 : ¬ sx (6 * i + q) = nI 1 := by rw [q5]; rcases ho with z | z <;> rw [z] <;> decide
            have h1 := lc_add_do l D cI cO aB aM aR aW n wy sl sv iv ug wb g mw ad S i j w hn hg hi z0 hj hz ho
            have h2 := lm_add_do l D cI cO aX e n wy wo li sx ux co (nI C) sn da va la ki wa op tu ct i j (6 * i + q) w hn hi hj z1 (by rw [p1, hz]) q2 hs1
            rw [CC_at hc q1 q3 q4] at h2
            exact ⟨_, _, _, _, _, _, _, _, _, _, _, _, _, _, _, _, _, _, _, _, _, _, _, h1, h2, Rel_mono (Rel_cac hR0 (by omega) c2 hi (CC_put hc (by omega) c2 q1 q3 q4 hj rfl rfl rfl rfl) (fun _ h9 => pk_un (by omega)) (fun _ h9 => pk_un (by omega)) (fun _ h9 => pk_un (by omega)) ⟨p1, p2, p3, (by rw [pk_us]), p5, Or.inl p0⟩ (fun _ _ => rfl) (fun _ _ => rfl) (fun _ _ => rfl) (fun _ h9 => pk_un h9) (fun _ _ => rfl) (fun _ _ => rfl) (fun _ _ => rfl) (Dom_put (d5 i hi) p0 rfl) (Coh_put o6 ho rfl)) (by omega)⟩
          · have o2 : ¬ kst (S i) (j / 4) = nI 2 := fun z => ho (Or.inl z)
            have o3 : ¬ kst (S i) (j / 4) = nI 3 := fun z => ho (Or.inr z)
            have d := (d5 i hi).1 (j / 4) (by omega)
            have h1 := lc_add_ask l D cI cO aB aM aR aW n wy sl sv iv ug wb g mw ad S i j w hn hg hi z0 hj hz o2 o3
            by_cases h0 : kst (S i) (j / 4) = 0
            · have h2 := lm_add_askn l D cI cO aX e n wy wo li sx ux co ck sn da va la ki wa op tu ct i j w hn hi hj z1 (by rw [p1, hz]) (CC_n hc (by omega) h0)
              exact ⟨_, _, _, _, _, _, _, _, _, _, _, _, _, _, _, _, _, _, _, _, _, _, _, h1, h2, Rel_mono (Rel_buf hR0 (by omega) hi rfl rfl rfl rfl ⟨(d5 i hi).1, fun h => absurd (show nI 4 = nI 1 from h) (by decide)⟩ ⟨p1, p2, p3, p4, (by rw [pk_us]), Or.inr ⟨4, by omega, by omega, rfl, hj, (by rw [pk_us]), (fun _ => pk_us), (fun h => absurd h (by omega))⟩⟩ (fun _ _ => rfl) (fun _ _ => rfl) (fun _ _ => rfl) (fun _ _ => rfl) (fun _ h9 => pk_un h9) (fun _ h9 => pk_un h9) (fun _ h9 => pk_un h9)) (by omega)⟩
            · obtain ⟨q, q1, q2, q3, q4, q5⟩ := CC_s hc (L := j / 4) (by omega) h0
              have hs1 : sx (6 * i + q) = nI 1 := d.elim (fun d => absurd (show kst (S i) (j / 4) = 0 from d) h0) (fun d => d.elim (fun d => q5.trans d) (fun d => d.elim (fun d => absurd d o2) (fun d => absurd d o3)))
              have h2 := lm_add_asks l D cI cO aX e n wy wo li sx ux co ck sn da va la ki wa op tu ct i j (6 * i + q) w hn hi hj z1 (by rw [p1, hz]) q2 hs1
              exact ⟨_, _, _, _, _, _, _, _, _, _, _, _, _, _, _, _, _, _, _, _, _, _, _, h1, h2, Rel_mono (Rel_buf hR0 (by omega) hi rfl rfl rfl rfl ⟨(d5 i hi).1, fun h => absurd (show nI 4 = nI 1 from h) (by decide)⟩ ⟨p1, p2, p3, p4, (by rw [pk_us]), Or.inr ⟨4, by omega, by omega, rfl, hj, (by rw [pk_us]), (fun _ => pk_us), (fun h => absurd h (by omega))⟩⟩ (fun _ _ => rfl) (fun _ _ => rfl) (fun _ _ => rfl) (fun _ _ => rfl) (fun _ h9 => pk_un h9) (fun _ h9 => pk_un h9) (fun _ h9 => pk_un h9)) (by omega)⟩
        · have h1 := lc_add_not l D cI cO aB aM aR aW n wy sl sv iv ug wb g mw ad S i j w hn hg hi z0 hj (by omega) p2
          rw [va_same] at h1
          have h2 := lm_add_not l D cI cO aX e n wy wo li sx ux co ck sn da va la ki wa op tu ct i j (kk (S i)) w hn hi hj z1 (by omega) p2 p1
          exact ⟨_, _, _, _, _, _, _, _, _, _, _, _, _, _, _, _, _, _, _, _, _, _, _, h1, h2, Rel_mono hR0 (by omega)⟩
      · have z0 : ¬ krk (S i) = 0 := by rw [k3]; exact nI_ne0 (by omega) (by omega)
        have z1 : ¬ ki i ≤ 0 := by rw [p5, k3]; exact nI_nle (by omega) (by omega)
        have h1 := lc_add_busy l D cI cO aB aM aR aW n wy sl sv iv ug wb g mw ad S i j w hn hg hi z0 hj
        rw [va_same] at h1
        have h2 := lm_add_busy l D cI cO aX e n wy wo li sx ux co ck sn da va la ki wa op tu ct i j w hn hi hj z1
        exact ⟨_, _, _, _, _, _, _, _, _, _, _, _, _, _, _, _, _, _, _, _, _, _, _, h1, h2, Rel_mono hR0 (by omega)⟩
    · have h1 := lc_add_ba l D cI cO aB aM aR aW n wy sl sv iv ug wb g mw ad S i y w hn hg hi hy0
      have h2 := lm_add_ba l D cI cO aX e n wy wo li sx ux co ck sn da va la ki wa op tu ct i y w hn hi hy0
      exact ⟨_, _, _, _, _, _, _, _, _, _, _, _, _, _, _, _, _, _, _, _, _, _, _, h1, h2, Rel_mono hR0 (by omega)⟩
  · have h1 := lc_add_bc l D cI cO aB aM aR aW n wy sl sv iv ug wb g mw ad S x y w hn hg hx0
    have h2 := lm_add_bc l D cI cO aX e n wy wo li sx ux co ck sn da va la ki wa op tu ct x y w hn hx0
    exact ⟨_, _, _, _, _, _, _, _, _, _, _, _, _, _, _, _, _, _, _, _, _, _, _, h1, h2, Rel_mono hR0 (by omega)⟩
set_option maxHeartbeats 2000000 in
theorem s_evict (l : Launch) (D : va_G) (cI cO : ClassId) (aB aM aR aW n wy : Nat) (g : Nat → Option Nat) (ad : Nat → Nat → Nat) (aX : Nat) (e : Nat → Nat) (b : Nat) (S : Nat → KS) (mw : Nat → Int32) (wb : Int32) (sl : Nat) (sv iv ug : Int32) (wo li sx ux co : Nat → Int32) (ck : Int32) (sn da va la ki wa op : Nat → Int32) (tu : Nat) (ct : Nat → Int32) (x y : Int32) (hn2 : 2 ≤ n) (hn : n ≤ 4) (hw0 : 1 ≤ wy) (hw : wy < 4) (hb : b + 2 < 2 ^ 31) (hg : ∀ i, i < n → g i = some (ad i 0)) (hR : Rel n wy b S mw wb sl sv iv ug wo li sx ux co ck sn da va la ki wa op tu ct) : Ans l D cI cO aB aM aR aW n wy g ad aX e y_Bus_evict y_Model_evict w_Bus_evict w_Model_evict [.ref aB, .int x, .int y] [.ref aX, .int x, .int y] (b + 2) S mw wb sl sv iv ug wo li sx ux co ck sn da va la ki wa op tu ct := by
  have hR0 := hR
  obtain ⟨⟨m1, m2, m3, m4, m5⟩, ⟨t1, t2⟩, ⟨C, c1, c2, c3⟩, b4, d5, o6⟩ := hR
  rcases vp_cases x (n := n) (by omega) with ⟨i, hi, rfl⟩ | hx0
  · obtain ⟨p1, p2, p3, p4, p5, p6⟩ := b4 i hi
    obtain ⟨ln, u, v, U, hc⟩ := c3 i hi
    rcases vp_cases y (n := 8) (by decide) with ⟨L, hL, rfl⟩ | hy0
    · rcases p6 with p0 | ⟨kd, k1, k2, k3, k4, k5, k6, k7⟩
      · have z0 : krk (S i) = 0 := p0
        have z1 : ki i = 0 := p5.trans z0
        have h1 := lc_evict_ok l D cI cO aB aM aR aW n wy sl sv iv ug wb g mw ad S i L hn hg hi z0 hL
        by_cases h0 : kst (S i) L = 0
        · have h2 := lm_evict_n l D cI cO aX e n wy wo li sx ux co ck sn da va la ki wa op tu ct i L hn hi hL z1 (CC_n hc hL h0)
          rw [upd_id (show kst (S i) L = nI 0 from h0), va_same, show cw_mem (kst (S i)) (kwd (S i)) mw L = mw from if_neg (by rw [h0]; decide), show cw_cnt (kst (S i)) wb L = wb from if_neg (by rw [h0]; decide), h0] at h1
          exact ⟨_, _, _, _, _, _, _, _, _, _, _, _, _, _, _, _, _, _, _, _, _, _, _, h1, h2, Rel_mono hR0 (by omega)⟩
        · obtain ⟨q, q1, q2, q3, q4, q5⟩ := CC_s hc hL h0
          have h2 := lm_evict_s l D cI cO aX e n wy wo li sx ux co ck sn da va la ki wa op tu ct i L (6 * i + q) hn hi hL z1 q2
          rw [q5] at h2
          exact ⟨_, _, _, _, _, _, _, _, _, _, _, _, _, _, _, _, _, _, _, _, _, _, _, h1, h2, Rel_up hR0 hi (by omega) (Memo_wb hc ⟨m1, m2, m3, m4, m5⟩ q1 q3 q4) c1 (by omega) (fun C2 e1 e2 => Nat.le_of_eq ((nI_eq (by omega) (by omega)).mp (e1.symm.trans c1))) ⟨_, _, _, _, CC_fr (CC_drop hc q1 q3 q4 rfl rfl rfl rfl) (by omega) (Nat.le_refl _) (fun _ _ => rfl) (fun _ _ => rfl) (fun _ _ => rfl) (fun _ _ _ _ => rfl)⟩ (fun _ h9 => pk_un (by omega)) (fun _ _ => rfl) (fun _ _ => rfl) (fun _ _ => rfl) ⟨p1, p2, p3, p4, p5, Or.inl p0⟩ (fun _ _ => rfl) (fun _ _ => rfl) (fun _ _ => rfl) (fun _ _ => rfl) (fun _ _ => rfl) (fun _ _ => rfl) (fun _ _ => rfl) ⟨(fun M hM => by
      by_cases e : M = L
      · subst e; exact Or.inl pk_us
      · rw [show kst _ M = kst (S i) M from pk_un e]; exact (d5 i hi).1 M hM), fun h => absurd (p0.symm.trans h) (by decide)⟩ (Coh_up o6 (fun M hM hs => by
      by_cases e : M = L
      · subst e; rw [show kst _ M = nI 0 from pk_us] at hs; exact absurd hs (by decide)
      · rw [show kst _ M = kst (S i) M from pk_un e] at hs; exact hs) (fun M hM hs => by
      by_cases e : M = L
      · subst e; exact pk_us
      · exact (show kst _ M = kst (S i) M from pk_un e).trans hs))⟩
      · have z0 : ¬ krk (S i) = 0 := by rw [k3]; exact nI_ne0 (by omega) (by omega)
        have z1 : ¬ ki i ≤ 0 := by rw [p5, k3]; exact nI_nle (by omega) (by omega)
        have h1 := lc_evict_busy l D cI cO aB aM aR aW n wy sl sv iv ug wb g mw ad S i L hn hg hi z0 hL
        rw [va_same] at h1
        have h2 := lm_evict_busy l D cI cO aX e n wy wo li sx ux co ck sn da va la ki wa op tu ct i L hn hi hL z1
        exact ⟨_, _, _, _, _, _, _, _, _, _, _, _, _, _, _, _, _, _, _, _, _, _, _, h1, h2, Rel_mono hR0 (by omega)⟩
    · have h1 := lc_evict_ba l D cI cO aB aM aR aW n wy sl sv iv ug wb g mw ad S i y hn hg hi hy0
      have h2 := lm_evict_ba l D cI cO aX e n wy wo li sx ux co ck sn da va la ki wa op tu ct i y hn hi hy0
      exact ⟨_, _, _, _, _, _, _, _, _, _, _, _, _, _, _, _, _, _, _, _, _, _, _, h1, h2, Rel_mono hR0 (by omega)⟩
  · have h1 := lc_evict_bc l D cI cO aB aM aR aW n wy sl sv iv ug wb g mw ad S x y hn hg hx0
    have h2 := lm_evict_bc l D cI cO aX e n wy wo li sx ux co ck sn da va la ki wa op tu ct x y hn hx0
    exact ⟨_, _, _, _, _, _, _, _, _, _, _, _, _, _, _, _, _, _, _, _, _, _, _, h1, h2, Rel_mono hR0 (by omega)⟩
