/-! GET and PULL -/
section RD5
variable {Z n wd B wb tb wb' tb' : Nat} {lm lm' : Int32} {hs wr hs' wr' : Nat → Int32} {tr nd nu nb : Int32} {X X' : Nat → Int32} {A A' : Nat → Nat → Int32} {h h' : Hp} {t b : Nat}
theorem SS.mono {B' : Nat} (S : SS Z n wd B wb tb lm hs wr tr nd nu nb X A h) (hB : B ≤ B') : SS Z n wd B' wb tb lm hs wr tr nd nu nb X A h := by
  obtain ⟨s1, s2, s3, s4, s5, s6⟩ := S
  exact ⟨s1, s2, s3, s4, fun q hq => (s5 q hq).mono hB, s6⟩
theorem SS.q0 (S : SS Z n wd B wb tb lm hs wr tr nd nu nb X A h) (hX : ∀ k, k ≠ 20 → k ≠ 25 → X' k = X k) : SS Z n wd B wb tb lm hs wr tr nd nu nb X' A h := by
  obtain ⟨s1, s2, s3, s4, s5, s6⟩ := S
  exact ⟨s1, s2, s3.ag ⟨hX _ (by decide) (by decide), hX _ (by decide) (by decide), hX _ (by decide) (by decide), hX _ (by decide) (by decide), hX _ (by decide) (by decide)⟩ rfl rfl, s4.ag ⟨hX _ (by decide) (by decide), hX _ (by decide) (by decide), hX _ (by decide) (by decide), hX _ (by decide) (by decide)⟩ (fun _ _ _ _ _ _ => rfl), s5, s6⟩
/-- the class's own cells were written -/
theorem SS.ka (S : SS Z n wd B wb tb lm hs wr tr nd nu nb X A h) (k : KA Z n wd wb' tb' lm' hs' wr' h') (c : ∀ x, x ≠ Z → x ≠ Z + 4 → x ≠ Z + 5 → h' x = h x) (hM : SM n wd wb' tb' lm' hs' wr' X' A') (hX : X' 16 = X 16 ∧ X' 17 = X 17 ∧ X' 18 = X 18 ∧ X' 19 = X 19) (hA : ∀ i, i ≠ 15 → i ≠ 11 → A' i = A i) : SS Z n wd B wb' tb' lm' hs' wr' tr nd nu nb X' A' h' := by
  obtain ⟨s1, ⟨t1, t2, ⟨r, ln, t3⟩, ⟨pc, ps, pf, pz, t4⟩⟩, s3, s4, s5, s6⟩ := S
  refine ⟨s1, ⟨k, t2.ag (c _ (by omega) (by omega) (by omega)), ⟨r, ln, oc_ag t3 (c _ (by omega) (by omega) (by omega)) (c _ (by omega) (by omega) (by omega))⟩, ⟨pc, ps, pf, pz, op_ag t4 (fun x _ _ => c x (by omega) (by omega) (by omega))⟩⟩, hM, s4.ag hX (fun t ht _ x x1 x2 => ?_), fun q hq => ?_, ?_⟩
  · have := ad_bd (Z := Z) (q := 4 + t) (by omega)
    exact c x (by omega) (by omega) (by omega)
  · have := ad_bd (Z := Z) hq
    exact ((s5 q hq).ag (fun x x1 x2 => c x (by omega) (by omega) (by omega))).sameQ s1.2.1 (sameQ_s (fun i i1 i2 _ => hA i i1 i2)) (hA 4 (by decide) (by decide))
  · obtain ⟨f, hf⟩ := s6
    exact ⟨f, by rw [c _ (by omega) (by omega) (by omega)]; exact hf⟩
theorem SS.read (h2 : Hp) (S : SS Z n wd B wb tb lm hs wr tr nd nu nb X A h) (ht : t < 4) (hb : b < 2) (hB : B < 2 ^ 27) (htr : tr = (-1) ∨ tr = nI t) : RD Z n wd B wb tb lm hs wr t h (FA_readBit h Z (nI t) (nI b)) (FM_takes (om (Z + 97) X A h2) (Z + 97) (nI (4 + t)) (nI b)) h2 := by
  have hK := S.2.1.1
  have hG := S.2.1.2.1
  have hbd := ad_bd (Z := Z) (show 4 + t < 12 by omega)
  obtain ⟨h1, a1, b1, c1⟩ := hG.P0 (v := nI t)
  have eA : FA_readBit h Z (nI t) (nI b) = rdA h1 Z (ad Z (4 + t)) (nI b) := by
    rw [FA_readBit_eq, hK.r3, hK.q2 ht, hK.r11, gd_t hG.o, ad_r ht]
    unfold FR_enterCodeOf
    rw [a1, Option.bind_some]
  have key : RD Z n wd B wb tb lm hs wr t h1 (rdA h1 Z (ad Z (4 + t)) (nI b)) (FM_takes (om (Z + 97) X A h2) (Z + 97) (nI (4 + t)) (nI b)) h2 := by
    rcases S.2.2.2.1 with ⟨r1, r2, r3, r4, r5⟩ | ⟨t', v, w, bb, r1, r2, r3, r4, r5, r6, r7, r8, r9, r10⟩
    · subst r2; subst r3; subst r4
      have hr0 : RN n wd (ad Z (4 + t)) h1 0 0 0 := ((S.tre (q := 4 + t) (by omega)).root S.1).ag (fun y _ _ => c1 y (by omega))
      have S1 := S.kg (X' := upd (upd (upd (upd X 16 (nI (4 + t))) 17 0) 18 0) 19 0) b1 c1 ⟨rfl, rfl, rfl, rfl, rfl⟩ (Or.inr ⟨t, 0, 0, 0, ht, rfl, rfl, rfl, rfl, rfl, rfl, rfl, rfl, hr0⟩)
      have := SS.rd (v := 0) (w := 0) (bb := 0) h2 S1 ht hb hB rfl rfl rfl rfl hr0
      rw [FM_takes_eq, mi_16, r5, if_pos rfl, mp_16, mp_17, mp_18, mp_19]
      exact this
    · have : t' = t := by
        rcases htr with e | e
        · rw [r2] at e; exact absurd e (m1_nI (by omega))
        · rw [r2, nI_eq (by omega) (by omega)] at e; exact e
      subst this
      subst r3; subst r4; subst r5
      have hr1 : RN n wd (ad Z (4 + t')) h1 v w bb := r10.ag (fun y _ _ => c1 y (by omega))
      have S1 := S.kg (X' := X) b1 c1 ⟨rfl, rfl, rfl, rfl, rfl⟩ (Or.inr ⟨t', v, w, bb, ht, rfl, rfl, rfl, rfl, r6, r7, r8, r9, hr1⟩)
      have := SS.rd h2 S1 ht hb hB r6 r7 r8 r9 hr1
      rw [FM_takes_eq, mi_16, r6, if_neg (m1_nI (by omega))]
      exact this
  rw [eA]
  obtain ⟨h', r, B', X', A', tr', nd', nu', nb', k1, k2, k3, k4, k5⟩ := key
  exact ⟨h', r, B', X', A', tr', nd', nu', nb', k1, k2, k3, fun x hx => by rw [k4 x hx, c1 x (by omega)], k5⟩
/-- of which tree's code a bit may come -/
theorem RR.gate (hR : RR Z n wd tr nd nu nb X h) (ht : t < 4) : (tr = (-1) ↔ X 16 = (-1)) ∧ (tr = nI t ↔ X 16 = nI (4 + t)) := by
  rcases hR with ⟨r1, r2, r3, r4, r5⟩ | ⟨t', v, w, bb, r1, r2, r3, r4, r5, r6, r7, r8, r9, r10⟩
  · rw [r1, r5]
    exact ⟨⟨fun _ => rfl, fun _ => rfl⟩, ⟨fun e => absurd e.symm (m1_nI (by omega)), fun e => absurd e.symm (m1_nI (by omega))⟩⟩
  · rw [r2, r6]
    refine ⟨⟨fun e => absurd e (m1_nI (by omega)), fun e => absurd e (m1_nI (by omega))⟩, ?_⟩
    rw [nI_eq (by omega) (by omega), nI_eq (by omega) (by omega)]
    omega
/-- the loop of pull, both sides -/
theorem pull_loop (h2 : Hp) (ht : t < 4) : ∀ (k w w2 tb B : Nat) (tr nd nu nb : Int32) (X : Nat → Int32) (A : Nat → Nat → Int32) (h : Hp), SS Z n wd B wb tb lm hs wr tr nd nu nb X A h → B < 2 ^ 27 → (tr = (-1) ∨ tr = nI t) → tb + k = wb → k < w → k + 1 < w2 →
    ∃ (h' : Hp) (r : Int32) (B' tb' : Nat) (X' : Nat → Int32) (A' : Nat → Nat → Int32) (tr' nd' nu' nb' : Int32), lpG (fun _ => none) w (LA_pull_24 Z (nI t) (fun h5 => some (h5, (-1))) (fun h7 x8 => some (h7, x8))) h = some (h', r) ∧ lpG (fun _ _ => none) w2 (LM_pull_40 (Z + 97) (nI t) (fun h5 x6 => some (h5, x6))) (om (Z + 97) X A h2) (-1) = some (om (Z + 97) X' A' h2, r) ∧ SS Z n wd B' wb tb' lm hs wr tr' nd' nu' nb' X' A' h' ∧ (∀ x, Z + 97 ≤ x → h' x = h x) ∧ B' ≤ B + 1
  | 0, w, w2, tb, B, tr, nd, nu, nb, X, A, h, S, hB, htr, hk, hw, hw2 => by
    obtain ⟨w', rfl⟩ : ∃ w', w = w' + 1 := ⟨w - 1, by omega⟩
    obtain ⟨w2', rfl⟩ : ∃ w', w2 = w' + 1 := ⟨w2 - 1, by omega⟩
    have hK := S.2.1.1
    have hX13 : X 13 = nI wb := S.2.2.1.2.2.2.1
    have hX15 : X 15 = nI tb := S.2.2.1.2.2.2.2.1
    have hwb : wb ≤ 1000 := S.2.2.1.2.2.2.2.2.2.1
    refine ⟨h, (-1), B, tb, X, A, tr, nd, nu, nb, ?_, ?_, S, fun _ _ => rfl, by omega⟩
    · rw [lpG_s, LA_pull_24.eq_1, hK.i8, hK.i7, if_pos (nI_le (by omega) (by omega))]
    · rw [lpG_s, LM_pull_40.eq_1, if_pos rfl, mi_15, hX15, mi_13, hX13, if_pos (nI_le (by omega) (by omega))]
  | k + 1, w, w2, tb, B, tr, nd, nu, nb, X, A, h, S, hB, htr, hk, hw, hw2 => by
    obtain ⟨w', rfl⟩ : ∃ w', w = w' + 1 := ⟨w - 1, by omega⟩
    obtain ⟨w2', rfl⟩ : ∃ w', w2 = w' + 1 := ⟨w2 - 1, by omega⟩
    have hK := S.2.1.1
    have hX13 : X 13 = nI wb := S.2.2.1.2.2.2.1
    have hX15 : X 15 = nI tb := S.2.2.1.2.2.2.2.1
    have hwb : wb ≤ 1000 := S.2.2.1.2.2.2.2.2.2.1
    obtain ⟨hbit, b, hb, hbA⟩ := S.2.2.1.2.2.2.2.2.2.2.1 tb (by omega)
    obtain ⟨h1, a1, b1, c1⟩ := hK.P8 (v := tb + 1)
    have S1 : SS Z n wd B wb (tb + 1) lm hs wr tr nd nu nb (upd X 15 (nI (tb + 1))) A h1 := by
      refine S.ka b1 (fun x x1 _ _ => c1 x x1) ?_ ⟨rfl, rfl, rfl, rfl⟩ (fun _ _ _ => rfl)
      obtain ⟨m1, m2, m3, m4, m5, m6, m7, m8⟩ := S.2.2.1
      exact ⟨m1, m2, m3, m4, rfl, by omega, m7, m8⟩
    obtain ⟨h', r, B', X', A', tr', nd', nu', nb', k1, k2, k3, k4, k5⟩ := S1.read h2 ht hb hB htr
    have eA : lpG (fun _ => none) (w' + 1) (LA_pull_24 Z (nI t) (fun h5 => some (h5, (-1))) (fun h7 x8 => some (h7, x8))) h = if r = (-1) then lpG (fun _ => none) w' (LA_pull_24 Z (nI t) (fun h5 => some (h5, (-1))) (fun h7 x8 => some (h7, x8))) h' else some (h', r) := by
      rw [lpG_s, LA_pull_24.eq_1, hK.i8, hK.i7, if_neg (nI_ge (by omega) (by omega)), hK.r6, hK.i8, hK.lw (by omega), hbit, hbA, hK.i8, show nI tb + 1 = nI (tb + 1) from nI_add _ _, a1, gd_t b1.o, k1, Option.bind_some]
    have eM : lpG (fun _ _ => none) (w2' + 1) (LM_pull_40 (Z + 97) (nI t) (fun h5 x6 => some (h5, x6))) (om (Z + 97) X A h2) (-1) = lpG (fun _ _ => none) w2' (LM_pull_40 (Z + 97) (nI t) (fun h5 x6 => some (h5, x6))) (om (Z + 97) X' A' h2) r := by
      rw [lpG_s, LM_pull_40.eq_1, if_pos rfl, mi_15, hX15, mi_13, hX13, if_neg (nI_ge (by omega) (by omega)), mi_15, hX15, show nI tb + 1 = nI (tb + 1) from nI_add _ _, mp_15, mr_bt, mi_15, updS, nI_s1, ml_bt (by omega), hbA, gd_t o_om, q4, k2, Option.bind_some]
    rcases k5 with ⟨k6, k7, k8⟩ | ⟨k6, k7⟩
    · subst k6; subst k7
      obtain ⟨h'', r'', B'', tb'', X'', A'', tr'', nd'', nu'', nb'', i1, i2, i3, i4, i5⟩ := pull_loop h2 ht k w' w2' (tb + 1) B' tr' nd' nu' nb' X' A' h' k3 hB (Or.inr k8) (by omega) (by omega) (by omega)
      refine ⟨h'', r'', B'', tb'', X'', A'', tr'', nd'', nu'', nb'', ?_, ?_, i3, fun x hx => by rw [i4 x hx, k4 x hx, c1 x (by omega)], i5⟩
      · rw [eA, if_pos rfl, i1]
      · rw [eM, i2]
    · refine ⟨h', r, B', tb + 1, X', A', tr', nd', nu', nb', ?_, ?_, k3, fun x hx => by rw [k4 x hx, c1 x (by omega)], k7⟩
      · rw [eA, if_neg k6]
      · obtain ⟨w3, rfl⟩ : ∃ w3, w2' = w3 + 1 := ⟨w2' - 1, by omega⟩
        rw [eM, lpG_s, LM_pull_40.eq_1, if_neg k6]
end RD5
section RD6
variable {Z n wd B : Nat} {h : Hp}
theorem p_get (S : ST Z n wd B h) (hB : B < 2 ^ 27) {p1 : Int32} {b : Nat} (hb : b < 2) : OPC Z n wd B (FA_get h Z p1 (nI b)) (fun h1 => FM_get h1 (Z + 97) p1 (nI b)) := by
  obtain ⟨wb, tb, lm, hs, wr, tr, nd, nu, nb, X, A, S, hom⟩ := S
  have hK := S.2.1.1
  have hG := S.2.1.2.1
  rcases tr_cases p1 with ⟨t, ht, rfl, k2, k3⟩ | ⟨k2, k3⟩
  · obtain ⟨g1, g2⟩ := S.2.2.2.1.gate ht
    by_cases htr : tr = (-1) ∨ tr = nI t
    · have S0 := S.q0 (X' := upd X 20 0) u20
      obtain ⟨h1, r1, -, -, -, -, -, -, -, c1, -⟩ := S0.read h ht hb hB htr
      obtain ⟨h', r, B', X', A', tr', nd', nu', nb', c1', c2', c3', c4', c5'⟩ := S0.read h1 ht hb hB htr
      have hh := c1.symm.trans c1'
      injection hh with hh
      injection hh with hh hh2
      subst hh; subst hh2
      refine OPC_of (om_ag hom (fun x x1 _ => c4' x x1)) (r := r1) ?_ (c3'.mono (B' := B + 1) (by rcases c5' with ⟨_, e, _⟩ | ⟨_, e⟩ <;> omega)) ?_
      · unfold FA_get
        rw [k2, Option.bind_some, if_neg (by decide), hK.r11, gd_t hG.o, e_Rother hG, Option.bind_some, if_pos htr, if_pos rfl, jn_eq]
        try dsimp only
        by_cases z : b = 0
        · subst z
          rw [if_pos nI_0, gd_t hK.o]
          rw [show FA_readBit h Z (nI t) 0 = _ from c1, Option.bind_some]
        · have : b = 1 := by omega
          subst this
          rw [if_neg (by decide), gd_t hK.o]
          rw [show FA_readBit h Z (nI t) 1 = _ from c1, Option.bind_some]
      · show FM_get _ _ _ _ = _
        unfold FM_get
        rw [mp_20, k3, Option.bind_some, if_neg (by decide), mi_16, show upd X 20 0 16 = X 16 from rfl, jn_eq]
        try dsimp only
        rw [q4, gd_t o_om, c2', Option.bind_some]
        by_cases z : X 16 = (-1)
        · rw [if_pos z]
        · rw [if_neg z, mi_16, show upd X 20 0 16 = X 16 from rfl]
          rcases htr with e | e
          · exact absurd (g1.mp e) z
          · rw [if_pos (g2.mp e)]
    · refine OPC_of (X' := upd X 20 0) (A' := A) (r := (-4)) hom ?_ (S.q u20 (fun _ _ => rfl)) ?_
      · unfold FA_get
        rw [k2, Option.bind_some, if_neg (by decide), hK.r11, gd_t hG.o, e_Rother hG, Option.bind_some, if_neg htr, if_neg (by decide)]
      · show FM_get _ _ _ _ = _
        unfold FM_get
        rw [mp_20, k3, Option.bind_some, if_neg (by decide), mi_16, show upd X 20 0 16 = X 16 from rfl, jn_eq]
        try dsimp only
        rw [if_neg (fun e => htr (Or.inl (g1.mpr e))), mi_16, show upd X 20 0 16 = X 16 from rfl, q4, if_neg (fun e => htr (Or.inr (g2.mpr e)))]
  · refine OPC_of (X' := upd X 20 0) (A' := A) (r := (-2)) hom ?_ (S.q u20 (fun _ _ => rfl)) ?_
    · unfold FA_get
      rw [k2, Option.bind_some, if_pos rfl]
    · show FM_get _ _ _ _ = _
      unfold FM_get
      rw [mp_20, k3, Option.bind_some, if_pos rfl]
theorem p_pull (S : ST Z n wd B h) (hB : B < 2 ^ 27) {p1 : Int32} : OPC Z n wd B (FA_pull h Z p1) (fun h1 => FM_pull h1 (Z + 97) p1) := by
  obtain ⟨wb, tb, lm, hs, wr, tr, nd, nu, nb, X, A, S, hom⟩ := S
  have hK := S.2.1.1
  have hG := S.2.1.2.1
  have htw : tb ≤ wb := S.2.2.1.2.2.2.2.2.1
  have hwb : wb ≤ 1000 := S.2.2.1.2.2.2.2.2.2.1
  rcases tr_cases p1 with ⟨t, ht, rfl, k2, k3⟩ | ⟨k2, k3⟩
  · obtain ⟨g1, g2⟩ := S.2.2.2.1.gate ht
    by_cases htr : tr = (-1) ∨ tr = nI t
    · have S0 := S.q0 (X' := upd X 20 0) u20
      obtain ⟨h1, r1, -, -, -, -, -, -, -, -, c1, -⟩ := pull_loop h ht (wb - tb) fu fu tb B tr nd nu nb _ A h S0 hB htr (by omega) (by show wb - tb < 100000; omega) (by show wb - tb + 1 < 100000; omega)
      obtain ⟨h', r, B', tb', X', A', tr', nd', nu', nb', c1', c2', c3', c4', c5'⟩ := pull_loop h1 ht (wb - tb) fu fu tb B tr nd nu nb _ A h S0 hB htr (by omega) (by show wb - tb < 100000; omega) (by show wb - tb + 1 < 100000; omega)
      have hh := c1.symm.trans c1'
      injection hh with hh
      injection hh with hh hh2
      subst hh; subst hh2
      refine OPC_of (om_ag hom (fun x x1 _ => c4' x x1)) (r := r1) ?_ (c3'.mono (B' := B + 1) c5') ?_
      · unfold FA_pull
        rw [k2, Option.bind_some, if_neg (by decide), hK.r11, gd_t hG.o, e_Rother hG, Option.bind_some, if_pos htr, if_pos rfl, jn_eq]
        try dsimp only
        rw [jn_eq]
        exact c1
      · show FM_pull _ _ _ = _
        unfold FM_pull
        rw [mp_20, k3, Option.bind_some, if_neg (by decide), mi_16, show upd X 20 0 16 = X 16 from rfl, jn_eq]
        try dsimp only
        rw [jn_eq]
        try dsimp only
        rw [c2', q4]
        by_cases z : X 16 = (-1)
        · rw [if_pos z]
        · rw [if_neg z, mi_16, show upd X 20 0 16 = X 16 from rfl]
          rcases htr with e | e
          · exact absurd (g1.mp e) z
          · rw [if_pos (g2.mp e)]
    · refine OPC_of (X' := upd X 20 0) (A' := A) (r := (-4)) hom ?_ (S.q u20 (fun _ _ => rfl)) ?_
      · unfold FA_pull
        rw [k2, Option.bind_some, if_neg (by decide), hK.r11, gd_t hG.o, e_Rother hG, Option.bind_some, if_neg htr, if_neg (by decide)]
      · show FM_pull _ _ _ = _
        unfold FM_pull
        rw [mp_20, k3, Option.bind_some, if_neg (by decide), mi_16, show upd X 20 0 16 = X 16 from rfl, jn_eq]
        try dsimp only
        rw [if_neg (fun e => htr (Or.inl (g1.mpr e))), mi_16, show upd X 20 0 16 = X 16 from rfl, q4, if_neg (fun e => htr (Or.inr (g2.mpr e)))]
  · refine OPC_of (X' := upd X 20 0) (A' := A) (r := (-2)) hom ?_ (S.q u20 (fun _ _ => rfl)) ?_
    · unfold FA_pull
      rw [k2, Option.bind_some, if_pos rfl]
    · show FM_pull _ _ _ = _
      unfold FM_pull
      rw [mp_20, k3, Option.bind_some, if_pos rfl]
end RD6
