/-! PUT: the code goes to the written bits, then the writer's tree steps -/
section PUT
variable {Z n wd tb : Nat} {lm : Int32} {hs : Nat → Int32}
theorem e_put_loop {wb len mC : Nat} {cb : Nat → Nat} {r : Nat → Int32} (hmC : len ≤ mC) (hm : mC < 1000) (hr : ∀ j, j < len → r j = nI (cb j)) (hw : wb + len ≤ 1000) : ∀ (k i w : Nat) (wr : Nat → Int32) (h : Hp), i + k = len → k < w → KA Z n wd (wb + i) tb lm hs wr h → oc (Z + 7) mC r (nI len) h = h →
    ∃ (h' : Hp) (wr' : Nat → Int32), (∀ K : Hp → Option (Hp × Int32), lpG (fun _ _ => none) w (LA_put_55 Z K) h (nI i) = K h') ∧ KA Z n wd (wb + len) tb lm hs wr' h' ∧ (∀ x, x ≠ Z → x ≠ Z + 5 → h' x = h x) ∧ (∀ j, j < wb + i → wr' j = wr j) ∧ ∀ j, i ≤ j → j < len → wr' (wb + j) = nI (cb j)
  | 0, i, w, wr, h, hk, hw0, k, hoc => by
    obtain ⟨w', rfl⟩ : ∃ w', w = w' + 1 := ⟨w - 1, by omega⟩
    have hi : i = len := by omega
    subst hi
    refine ⟨h, wr, ?_, k, fun _ _ _ => rfl, fun _ _ => rfl, fun j _ _ => by omega⟩
    intro K
    rw [lpG_s, LA_put_55.eq_1, k.r10, gI_at (x := nI i) (by rw [← hoc]; exact oc_0) rfl, if_pos (nI_le (Nat.le_refl _) (by omega))]
  | e + 1, i, w, wr, h, hk, hw0, k, hoc => by
    obtain ⟨w', rfl⟩ : ∃ w', w = w' + 1 := ⟨w - 1, by omega⟩
    have hi : i < len := by omega
    obtain ⟨h1, a1, b1, c1⟩ := k.SW (t := wb + i) (v := nI (cb i)) (by omega)
    obtain ⟨h2, a2, b2, c2⟩ := b1.P7 (v := wb + (i + 1))
    have cc : ∀ x, x ≠ Z → x ≠ Z + 5 → h2 x = h x := fun x x1 x2 => by rw [c2 x x1, c1 x x2]
    obtain ⟨h3, wr3, d1, d2, d3, d4, d5⟩ := e_put_loop hmC hm hr hw e (i + 1) w' _ h2 (by omega) (by omega) b2 (oc_ag hoc (cc _ (by omega) (by omega)) (cc _ (by omega) (by omega)))
    refine ⟨h3, wr3, ?_, d2, fun x x1 x2 => by rw [d3 x x1 x2, cc x x1 x2], fun j hj => ?_, fun j j1 j2 => ?_⟩
    · have hc0 : h (Z + 7) = some (.inr (0, [.ref (Z + 8), .int (nI len)])) := by rw [← hoc]; exact oc_0
      have hb : FC_bitAt h (Z + 7) (nI i) = some (nI (cb i)) := by
        unfold FC_bitAt
        rw [jn_eq]
        try dsimp only
        rw [jn_eq]
        try dsimp only
        rw [if_neg (nI_pos (by omega)), gI_at hc0 rfl, if_neg (nI_ge hi (by omega)), gR_at hc0 rfl, ldI_at (f := r) (m := mC) (by rw [← hoc]; exact oc_1) (by omega) (by omega), hr i hi]
      intro K
      rw [lpG_s, LA_put_55.eq_1, k.r10, gI_at hc0 rfl, if_neg (nI_ge hi (by omega)), k.r6, k.i7, k.r10, gd_t (isO_at hc0), hb, Option.bind_some, a1, b1.i7, show nI (wb + i) + 1 = nI (wb + (i + 1)) from nI_add _ _, a2, show nI i + 1 = nI (i + 1) from nI_add _ _, d1]
    · rw [d4 j (by omega)]; exact if_neg (by omega)
    · by_cases z : j = i
      · subst z; rw [d4 _ (by omega)]; exact if_pos rfl
      · exact d5 j (by omega) j2
end PUT
theorem m_put_loop {M wb len : Nat} {X : Nat → Int32} {A0 : Nat → Nat → Int32} {cb : Nat → Nat} (hl : len < 200) (hw : wb + len ≤ 1000) (hcb : ∀ j, j < len → cb j < 2) (hMB : MB A0 len cb) : ∀ (k i w : Nat) (A : Nat → Nat → Int32), i + k = len → k < w → A 15 = A0 15 →
    ∃ A' : Nat → Nat → Int32, (∀ (h : Hp) (K : Hp → Option (Hp × Int32)), lpG (fun _ _ => none) w (LM_put_65 M K) (om M (upd X 13 (nI (wb + i))) A h) (nI k - 1) = K (om M (upd X 13 (nI (wb + len))) A' h)) ∧ (∀ i, i ≠ 11 → A' i = A i) ∧ (∀ j, j < wb + i → A' 11 j = A 11 j) ∧ ∀ j, i ≤ j → j < len → A' 11 (wb + j) = nI (cb j)
  | 0, i, w, A, hk, hw0, h15 => by
    obtain ⟨w', rfl⟩ : ∃ w', w = w' + 1 := ⟨w - 1, by omega⟩
    have hi : i = len := by omega
    subst hi
    refine ⟨A, ?_, fun _ _ => rfl, fun _ _ => rfl, fun j _ _ => by omega⟩
    intro h K
    rw [lpG_s, LM_put_65.eq_1, if_pos (by decide)]
  | e + 1, i, w, A, hk, hw0, h15 => by
    obtain ⟨w', rfl⟩ : ∃ w', w = w' + 1 := ⟨w - 1, by omega⟩
    have hi : i < len := by omega
    have hb := hMB i hi
    rw [show len - 1 - i = e from by omega] at hb
    obtain ⟨A', d1, d2, d3, d4⟩ := m_put_loop (X := X) (M := M) hl hw hcb hMB e (i + 1) w' (u2 A 11 (wb + i) (nI (cb i))) (by omega) (by omega) (by rw [u2_n (by decide)]; exact h15)
    refine ⟨A', ?_, fun j hj => by rw [d2 j hj, u2_n hj], fun j hj => ?_, fun j j1 j2 => ?_⟩
    · intro h K
      rw [lpG_s, LM_put_65.eq_1, nI_s1, if_neg (nI_pos (by omega)), mr_bt, mi_13, updS, mr_bk, ml_bk (by omega), h15, hb, nar_d (hcb i hi), ms_bt (by omega), mi_13, updS, show nI (wb + i) + 1 = nI (wb + (i + 1)) from nI_add _ _, mp_13, updU, nI_pm, d1]
    · rw [d3 j (by omega), u2_e]; exact if_neg (by omega)
    · by_cases z : j = i
      · subst z; rw [d3 _ (by omega), u2_e]; exact if_pos rfl
      · exact d4 j (by omega) j2
section PUTS
variable {Z n wd B : Nat} {h : Hp}
theorem p_put (S : ST Z n wd B h) (hB : B < 2 ^ 27) {p1 p2 : Int32} : OPC Z n wd B (FA_put h Z p1 p2) (fun h1 => FM_put h1 (Z + 97) p1 p2) := by
  obtain ⟨wb, tb, lm, hs, wr, tr, nd, nu, nb, X, A, S, hom⟩ := S
  have hK := S.2.1.1
  have hX0 : upd X 20 0 0 = nI n := S.2.2.1.1
  have hX13 : X 13 = nI wb := S.2.2.1.2.2.2.1
  have hwb : wb ≤ 1000 := S.2.2.1.2.2.2.2.2.2.1
  obtain ⟨n0, n1, w0, w1, w2⟩ := S.1
  rcases tr_cases p1 with ⟨t, ht, rfl, k2, k3⟩ | ⟨k2, k3⟩
  · rcases sg_cases hK (by omega) n1 p2 with ⟨s, hs', rfl, g1, g2⟩ | ⟨-, g1, g2⟩
    · obtain ⟨len, cb, r, e1, e2, e3, e4, hf⟩ := S.lay (q := t) (by omega) hs' hom
      have S1 := S.code (r := r) (ln := nI len)
      have hK1 := S1.2.1.1
      have hoc : oc (Z + 7) (2 * n + 1 + wd) r (nI len) (oc (Z + 7) (2 * n + 1 + wd) r (nI len) h) = oc (Z + 7) (2 * n + 1 + wd) r (nI len) h := oc_idem
      have hcA : nI len ≤ 1000 - nI wb ↔ wb + len ≤ 1000 := by
        rw [show (1000 : Int32) = nI 1000 from rfl, pk_sub hwb]
        constructor
        · intro z
          rcases Nat.lt_or_ge (1000 - wb) len with y | y
          · exact absurd z (nI_ge y (by omega))
          · omega
        · intro z
          exact nI_le (by omega) (by omega)
      have hcM : nI wb + nI len ≤ 1000 ↔ wb + len ≤ 1000 := by
        rw [show (1000 : Int32) = nI 1000 from rfl, nI_add]
        constructor
        · intro z
          rcases Nat.lt_or_ge 1000 (wb + len) with y | y
          · exact absurd z (nI_ge y (by omega))
          · exact y
        · intro z
          exact nI_le z (by omega)
      by_cases hfit : wb + len ≤ 1000
      · obtain ⟨h2, wr2, d1, d2, d3, d4, d5⟩ := e_put_loop (Z := Z) (mC := 2 * n + 1 + wd) (by omega) (by omega) (fun j hj => (e3 j hj).2) hfit len 0 fu wr _ (by omega) (by show len < 100000; omega) hK1 hoc
        have hoc2 : oc (Z + 7) (2 * n + 1 + wd) r (nI len) h2 = h2 := oc_ag hoc (d3 _ (by omega) (by omega)) (d3 _ (by omega) (by omega))
        have hb := ad_bd (Z := Z) (show t < 12 by omega)
        obtain ⟨pc, ps, pf, pz, t4⟩ := S1.2.1.2.2.2
        obtain ⟨h3, f1, f2, f3, -⟩ := ((S1.tre (q := t) (by omega)).ag (fun x x1 x2 => d3 x (by omega) (by omega))).step (M := Z + 97) (X := X) (lim := lm) (by omega) n0 n1 (by omega) hB hs' S.2.2.1.1 S.2.2.1.2.2.1 (op_ag t4 (fun x _ _ => d3 x (by omega) (by omega)))
        obtain ⟨A', e5, e6, e7⟩ := hf h3
        obtain ⟨A2, c1, c2, c3, c4⟩ := m_put_loop (M := Z + 97) (X := upd (upd X 20 0) 25 (nI len)) (show len < 200 by omega) hfit (fun j hj => (e3 j hj).1) e7 len 0 fu A' (by omega) (by show len < 100000; omega) rfl
        have hA2 : ∀ i, i ≠ 15 → i ≠ 11 → A2 i = A i := fun i i1 i2 => by rw [c2 i i2, e6 i i1]
        have S2 : SS Z n wd B (wb + len) tb lm hs wr2 tr nd nu nb (upd (upd (upd X 20 0) 25 (nI len)) 13 (nI (wb + len))) A2 h2 := by
          obtain ⟨s1, ⟨t1, t2, -, -⟩, s3, s4, s5, s6⟩ := S1
          refine ⟨s1, ⟨d2, t2.ag (d3 _ (by omega) (by omega)), ⟨r, nI len, hoc2⟩, ⟨pc, ps, pf, pz, op_ag t4 (fun x _ _ => d3 x (by omega) (by omega))⟩⟩, ?_, s4.ag ⟨rfl, rfl, rfl, rfl⟩ ?_, ?_, ?_⟩
          · obtain ⟨m1, m2, m3, m4, m5, m6, m7, m8, m9⟩ := s3
            refine ⟨m1, m2, m3, rfl, m5, by omega, hfit, fun j hj => ?_, fun s hs => by rw [hA2 4 (by decide) (by decide)]; exact m9 s hs⟩
            by_cases z : j < wb
            · rw [d4 j z, c3 j z, e6 11 (by decide)]; exact m8 j z
            · obtain ⟨i, rfl⟩ : ∃ i, j = wb + i := ⟨j - wb, by omega⟩
              rw [d5 i (by omega) (by omega), c4 i (by omega) (by omega)]
              exact ⟨rfl, cb i, (e3 i (by omega)).1, rfl⟩
          · intro t' ht' _ x x1 x2
            have := ad_bd (Z := Z) (q := 4 + t') (by omega)
            exact d3 x (by omega) (by omega)
          · intro q hq
            have := ad_bd (Z := Z) hq
            exact ((s5 q hq).ag (fun x _ _ => d3 x (by omega) (by omega))).sameQ s1.2.1 (sameQ_s (fun i i1 i2 _ => hA2 i i1 i2)) (hA2 4 (by decide) (by decide))
          · obtain ⟨f, hf⟩ := s6
            exact ⟨f, by rw [d3 _ (by omega) (by omega)]; exact hf⟩
        obtain ⟨h3', f1', f2', f3', A3, f4', f5'⟩ := S2.step (q := t) (by omega) hs' hB (fun t' _ _ => by omega)
        have hh : h3 = h3' := Option.some.inj (f1.symm.trans f1')
        subst hh
        have hom3 : om (Z + 97) X A h3 = h3 := om_ag e4 (fun x x1 x2 => by rw [f3' x x1, d3 x (by omega) (by omega)])
        refine OPC_of (r := nI len) hom3 ?_ f5' ?_
        · unfold FA_put
          rw [k2, Option.bind_some, if_neg (by decide), gd_t hK.o, g1, Option.bind_some, if_neg (by decide), hK.r2, hK.q1 ht, ad_w ht, gd_t hK.o, e1, Option.bind_some, hK1.r10, c_i, hK1.i7, if_pos (hcA.mpr hfit), jn_eq]
          try dsimp only
          rw [show (0 : Int32) = nI 0 from rfl, d1, d2.r2, d2.q1 ht, ad_w ht, d2.i9, gd_t (S2.tre (q := t) (by omega)).o, f1, Option.bind_some, f5'.2.1.1.r10, gI_at (x := nI len) (by rw [f2' _ (by omega), ← hoc2]; exact oc_0) rfl]
        · show FM_put _ _ _ _ = _
          unfold FM_put
          rw [mp_20, k3, Option.bind_some, if_neg (by decide), mi_0, hX0, g2, Option.bind_some, if_neg (by decide), gd_t o_om, e5, Option.bind_some, mi_13, mi_25, updS, show upd (upd X 20 0) 25 (nI len) 13 = X 13 from rfl, hX13, if_pos (hcM.mpr hfit), mi_25, updS, jn_eq]
          try dsimp only
          have hX : upd (upd X 20 0) 25 (nI len) = upd (upd (upd X 20 0) 25 (nI len)) 13 (nI (wb + 0)) := by
            funext k
            by_cases z : k = 13
            · subst z; rw [updS, Nat.add_zero, ← hX13]; rfl
            · exact (if_neg z).symm
          rw [hX, c1, gd_t o_om, f4', Option.bind_some, mi_25]
          rfl
      · obtain ⟨A', e5, e6, e7⟩ := hf (oc (Z + 7) (2 * n + 1 + wd) r (nI len) h)
        refine OPC_of (X' := upd (upd X 20 0) 25 (nI len)) (r := (-5)) e4 ?_ (S.code.q u25 e6) ?_
        · unfold FA_put
          rw [k2, Option.bind_some, if_neg (by decide), gd_t hK.o, g1, Option.bind_some, if_neg (by decide), hK.r2, hK.q1 ht, ad_w ht, gd_t hK.o, e1, Option.bind_some, hK1.r10, c_i, hK1.i7, if_neg (fun z => hfit (hcA.mp z))]
        · show FM_put _ _ _ _ = _
          unfold FM_put
          rw [mp_20, k3, Option.bind_some, if_neg (by decide), mi_0, hX0, g2, Option.bind_some, if_neg (by decide), gd_t o_om, e5, Option.bind_some, mi_13, mi_25, updS, show upd (upd X 20 0) 25 (nI len) 13 = X 13 from rfl, hX13, if_neg (fun z => hfit (hcM.mp z))]
    · refine OPC_of (X' := upd X 20 0) (A' := A) (r := (-3)) hom ?_ (S.q u20 (fun _ _ => rfl)) ?_
      · unfold FA_put
        rw [k2, Option.bind_some, if_neg (by decide), gd_t hK.o, g1, Option.bind_some, if_pos rfl]
      · show FM_put _ _ _ _ = _
        unfold FM_put
        rw [mp_20, k3, Option.bind_some, if_neg (by decide), mi_0, hX0, g2, Option.bind_some, if_pos rfl]
  · refine OPC_of (X' := upd X 20 0) (A' := A) (r := (-2)) hom ?_ (S.q u20 (fun _ _ => rfl)) ?_
    · unfold FA_put
      rw [k2, Option.bind_some, if_pos rfl]
    · show FM_put _ _ _ _ = _
      unfold FM_put
      rw [mp_20, k3, Option.bind_some, if_pos rfl]
end PUTS
