section SM2
variable {Z n wd B : Nat} {h : Hp}
theorem m_abv {M q m n : Nat} {X : Nat → Int32} {A : Nat → Nat → Int32} {h : Hp} {c g o t : Nat → Nat} {es : Int32} {cn sg pa fs sn lf : Nat → Int32} {v : Nat} (hq : q < 12) (hm : m ≤ 64) (ho : ∀ k, k < m → o k < 2 * k + 1) (hT : MT A q m c g o t) (hC : CT n m c g o es cn sg pa fs sn lf) (hv : v < 2 * m + 1) : FM_above (om M X A h) M (nI q) (nI v) = some (pa v) := by
  by_cases z : v = 0
  · subst z; rw [m_above0, hC.2.1]
  · rw [m_above hq hm hT (fun k hk => by have := ho k hk; omega) (by omega) hv, hC.pa ho (by omega) hv]
/-- the model's test, from its loop on -/
theorem m_same_of {M t N : Nat} {X : Nat → Int32} {A : Nat → Nat → Int32} {h : Hp} {E : Nat → Prop} (ht : t < 4) (hN : N ≤ 2000) (hA : A 2 t = nI N)
    (hy : ∀ (K : Int32 → Option (Hp × Int32)) rec v, v < N → E v → LM_same_60 M (nI t) (om M X A h) K rec 1 (nI v) = rec 1 (nI (v + 1))) (hn : ∀ (K : Int32 → Option (Hp × Int32)) rec v, v < N → ¬ E v → LM_same_60 M (nI t) (om M X A h) K rec 1 (nI v) = rec 0 (nI (v + 1))) (K : Int32 → Option (Hp × Int32)) :
    ((∀ v, v < N → E v) → lpG (fun _ _ => none) fu (LM_same_60 M (nI t) (om M X A h) K) 1 0 = K 1) ∧ ((¬ ∀ v, v < N → E v) → lpG (fun _ _ => none) fu (LM_same_60 M (nI t) (om M X A h) K) 1 0 = K 0) := by
  have key := same_loop (Bd := LM_same_60 M (nI t) (om M X A h) K) (K := K) (E := E) (N := N) (fun rec x => by rw [LM_same_60.eq_1, mr_ma, ml_ma (by omega), hA, if_pos (nI_le (Nat.le_refl _) (by omega))]) (fun rec v hv => by
    rw [LM_same_60.eq_1, mr_ma, ml_ma (by omega), hA]
    by_cases z : nI N ≤ nI v
    · rw [if_pos z]
    · rw [if_neg z, if_pos rfl]) (hy K) (hn K) N 0 fu (by omega) (by show N + 1 < 100000; omega)
  exact ⟨fun z => key.1 (fun v _ h2 => z v h2), fun z => key.2 (fun y => z (fun v h2 => y v (Nat.zero_le _) h2))⟩
theorem m_same_0 {M t : Nat} {N : Int32} {X : Nat → Int32} {A : Nat → Nat → Int32} {h : Hp} (ht : t < 4) (hA : A 2 t = N) (K : Int32 → Option (Hp × Int32)) : lpG (fun _ _ => none) fu (LM_same_60 M (nI t) (om M X A h) K) 0 0 = K 0 := by
  rw [show fu = 99999 + 1 from rfl, lpG_s, LM_same_60.eq_1, mr_ma, ml_ma (by omega), hA]
  by_cases z : N ≤ 0
  · rw [if_pos z]
  · rw [if_neg z, if_pos rfl]
theorem FM_same_run {M t : Nat} {X : Nat → Int32} {A : Nat → Nat → Int32} {h : Hp} (ht : t < 4) (hin : ∀ h', FM_isIn h' (nI t) 0 3 = some 1) : FM_same (om M X A h) M (nI t) = lpG (fun _ _ => none) fu (LM_same_60 M (nI t) (om M (upd X 20 0) A h) (fun x9 => if x9 = 0 then some (om M (upd X 20 0) A h, 0) else some (om M (upd X 20 0) A h, 1))) (if A 1 t = A 1 (4 + t) ∧ A 2 t = A 2 (4 + t) then 1 else 0) 0 := by
  unfold FM_same
  rw [mp_20, hin, Option.bind_some, if_neg (by decide), mr_fo, ml_fo (by omega), mr_fo, q4, ml_fo (by omega), jn_eq]
  try dsimp only
  rw [jn_eq]
  try dsimp only
  by_cases e1 : A 1 t = A 1 (4 + t)
  · rw [if_pos e1, mr_ma, ml_ma (by omega), mr_ma, ml_ma (by omega)]
    by_cases e2 : A 2 t = A 2 (4 + t)
    · rw [if_pos e2, if_pos ⟨e1, e2⟩, jn_eq]
      rfl
    · rw [if_neg e2, if_neg (fun z => e2 z.2), jn_eq]
      rfl
  · rw [if_neg e1, if_neg (fun z => e1 z.1), jn_eq]
    rfl
theorem p_same (S : ST Z n wd B h) (hB : B < 2 ^ 27) {p1 : Int32} : OPQ Z n wd B h (FA_same h Z p1) (FM_same h (Z + 97) p1) := by
  obtain ⟨wb, tb, lm, hs, wr, tr, nd, nu, nb, X, A, S, hom⟩ := S
  have hK := S.2.1.1
  obtain ⟨n0, n1, w0, w1, w2⟩ := S.1
  rcases tr_cases p1 with ⟨t, ht, rfl, k2, k3⟩ | ⟨k2, k3⟩
  · have hTa := S.tre (q := t) (by omega)
    have hTb := S.tre (q := 4 + t) (by omega)
    have fin : ∀ b : Nat, b < 2 → FT_isLike h (ad Z t) (ad Z (4 + t)) = some (nI b) → FM_same (om (Z + 97) X A h) (Z + 97) (nI t) = some (om (Z + 97) (upd X 20 0) A h, nI b) → OPQ Z n wd B h (FA_same h Z (nI t)) (FM_same h (Z + 97) (nI t)) := by
      intro b hb e1 e2
      refine OPQ_of (m := fun h => FM_same h (Z + 97) (nI t)) (r := nI b) (X' := upd X 20 0) (A' := A) S hom ?_ u20 (fun _ _ => rfl) e2
      unfold FA_same
      rw [k2, Option.bind_some, jn_eq]
      try dsimp only
      rw [if_neg (by decide), hK.r2, hK.q1 ht, hK.r3, hK.q2 ht, ad_w ht, ad_r ht, gd_t hTa.o, e1, Option.bind_some, e_oneIf hb, Option.bind_some]
    have f1 : (fun x9 : Int32 => if x9 = 0 then some (om (Z + 97) (upd X 20 0) A h, (0 : Int32)) else some (om (Z + 97) (upd X 20 0) A h, 1)) 1 = some (om (Z + 97) (upd X 20 0) A h, 1) := if_neg (by decide)
    have f0 : (fun x9 : Int32 => if x9 = 0 then some (om (Z + 97) (upd X 20 0) A h, (0 : Int32)) else some (om (Z + 97) (upd X 20 0) A h, 1)) 0 = some (om (Z + 97) (upd X 20 0) A h, 0) := if_pos rfl
    obtain ⟨fm, N, es, hv, cn, sg, pa, fs, sn, lf, r1, r2, r3, r4, r5⟩ := hTa.sc
    obtain ⟨fm', N', es', hv', cn', sg', pa', fs', sn', lf', r1', r2', r3', r4', r5'⟩ := hTb.sc
    by_cases hfn : fm = fm' ∧ nI N = nI N'
    · -- the same form and size
      have hst : A 1 t = A 1 (4 + t) ∧ A 2 t = A 2 (4 + t) := by rw [r2, r2', r3, r3']; exact hfn
      have hrun := FM_same_run (M := Z + 97) (X := X) (A := A) (h := h) ht k3
      rw [if_pos hst] at hrun
      rcases hTa with ⟨m, c, g, o, hv1, es1, cn1, sg1, pa1, fs1, sn1, lf1, tt, h1, h2, h3, h4, h5, h6⟩ | ⟨u, d, hv1, es1, cn1, sg1, pa1, fs1, sn1, lf1, h1, h2, h3, h4, h5, h6⟩
      · rcases hTb with ⟨m', c', g', o', hv2, es2, cn2, sg2, pa2, fs2, sn2, lf2, tt', i1, i2, i3, i4, i5, i6⟩ | ⟨u', d', hv2, es2, cn2, sg2, pa2, fs2, sn2, lf2, i1, i2, i3, i4, i5, i6⟩
        · have hm := h1.m_le
          have hm' := i1.m_le
          have hmm : m = m' := by
            have e := hst.2
            rw [h4.1, i4.1, nI_eq (by omega) (by omega)] at e
            omega
          subst hmm
          have hcb : ∀ v, v < 2 * m + 1 → c v < 2 ^ 31 ∧ c' v < 2 ^ 31 := fun v hv => by
            have a1 := h1.1.bd hv
            have a2 := i1.1.bd hv
            have a3 := h1.2.2.2
            have a4 := i1.2.2.2
            omega
          have heq := like_cnt (by omega) n1 h1.2.1 i1.2.1 hcb h1.1.1 i1.1.1 h3 i3
          have hlk := e_isLike n1 (by omega) h2 i2
          have hms := m_same_of (M := Z + 97) (t := t) (N := 2 * m + 1) (X := upd X 20 0) (A := A) (h := h) (E := fun v => nI (c v) = nI (c' v) ∧ sI (g v) = sI (g' v) ∧ pa1 v = pa2 v) ht (by omega) h4.1 (fun K rec v hv e => by
            rw [LM_same_60.eq_1, mr_ma, ml_ma (by omega), h4.1, if_neg (nI_ge hv (by omega)), if_neg (by decide), mr_fo, ml_fo (by omega), h5, jn_eq]
            try dsimp only
            rw [if_pos rfl, gd_t o_om, m_countAt (by omega) (by omega) h4 hv, Option.bind_some, gd_t o_om, q4, m_countAt (by omega) (by omega) i4 hv, Option.bind_some, jn_eq]
            try dsimp only
            rw [jn_eq]
            try dsimp only
            rw [if_pos e.1, gd_t o_om, m_signAt (by omega) (by omega) h4 hv, Option.bind_some, gd_t o_om, m_signAt (by omega) (by omega) i4 hv, Option.bind_some, if_pos e.2.1, gd_t o_om, m_abv (by omega) (by omega) h1.1.1 h4 h3 hv, Option.bind_some, gd_t o_om, m_abv (by omega) (by omega) i1.1.1 i4 i3 hv, Option.bind_some, if_pos e.2.2, show nI v + 1 = nI (v + 1) from nI_add _ _]) (fun K rec v hv e => by
            rw [LM_same_60.eq_1, mr_ma, ml_ma (by omega), h4.1, if_neg (nI_ge hv (by omega)), if_neg (by decide), mr_fo, ml_fo (by omega), h5, jn_eq]
            try dsimp only
            rw [if_pos rfl, gd_t o_om, m_countAt (by omega) (by omega) h4 hv, Option.bind_some, gd_t o_om, q4, m_countAt (by omega) (by omega) i4 hv, Option.bind_some, jn_eq]
            try dsimp only
            rw [jn_eq]
            try dsimp only
            rw [show nI v + 1 = nI (v + 1) from nI_add _ _]
            by_cases e1 : nI (c v) = nI (c' v)
            · rw [if_pos e1, gd_t o_om, m_signAt (by omega) (by omega) h4 hv, Option.bind_some, gd_t o_om, m_signAt (by omega) (by omega) i4 hv, Option.bind_some]
              by_cases e2 : sI (g v) = sI (g' v)
              · rw [if_pos e2, gd_t o_om, m_abv (by omega) (by omega) h1.1.1 h4 h3 hv, Option.bind_some, gd_t o_om, m_abv (by omega) (by omega) i1.1.1 i4 i3 hv, Option.bind_some, if_neg (fun e3 => e ⟨e1, e2, e3⟩)]
              · rw [if_neg e2]
            · rw [if_neg e1]) (fun x9 => if x9 = 0 then some (om (Z + 97) (upd X 20 0) A h, 0) else some (om (Z + 97) (upd X 20 0) A h, 1))
          by_cases hall : ∀ v, v < 2 * m + 1 → nI (c v) = nI (c' v) ∧ sI (g v) = sI (g' v) ∧ pa1 v = pa2 v
          · exact fin 1 (by omega) (hlk.1 (heq.mpr hall)) (by rw [hrun, hms.1 hall]; exact f1)
          · exact fin 0 (by omega) (hlk.2 (fun y => hall (heq.mp y))) (by rw [hrun, hms.2 hall]; exact f0)
        · exfalso
          have := hst.1
          rw [h5, i5] at this
          exact absurd this (by decide)
      · rcases hTb with ⟨m', c', g', o', hv2, es2, cn2, sg2, pa2, fs2, sn2, lf2, tt', i1, i2, i3, i4, i5, i6⟩ | ⟨u', d', hv2, es2, cn2, sg2, pa2, fs2, sn2, lf2, i1, i2, i3, i4, i5, i6⟩
        · exfalso
          have := hst.1
          rw [h5, i5] at this
          exact absurd this (by decide)
        · have heq := like_spl n1 h1 i1 h3 i3
          have hlk := e_isLike n1 (by omega) h2 i2
          have hA9 : ∀ v, v < 2 * n - 1 → A 9 (129 * t + v) = (if v = 0 then (-1) else nI (u v)) ∧ A 10 (129 * t + v) = (if v = 0 then 0 else nI (d v)) ∧ A 9 (129 * (4 + t) + v) = (if v = 0 then (-1) else nI (u' v)) ∧ A 10 (129 * (4 + t) + v) = (if v = 0 then 0 else nI (d' v)) := fun v hv => by
            by_cases z : v = 0
            · subst z
              rw [if_pos rfl, if_pos rfl, if_pos rfl, if_pos rfl]
              exact ⟨h4.2.1, h4.2.2.1, i4.2.1, i4.2.2.1⟩
            · rw [if_neg z, if_neg z, if_neg z, if_neg z]
              exact ⟨(h4.2.2.2 v (by omega) hv).1, (h4.2.2.2 v (by omega) hv).2, (i4.2.2.2 v (by omega) hv).1, (i4.2.2.2 v (by omega) hv).2⟩
          have hE : ∀ v, v < 2 * n - 1 → ((A 9 (129 * t + v) = A 9 (129 * (4 + t) + v) ∧ A 10 (129 * t + v) = A 10 (129 * (4 + t) + v)) ↔ (0 < v → u v = u' v ∧ d v = d' v)) := fun v hv => by
            obtain ⟨a1, a2, a3, a4⟩ := hA9 v hv
            rw [a1, a2, a3, a4]
            by_cases z : v = 0
            · subst z
              rw [if_pos rfl, if_pos rfl, if_pos rfl, if_pos rfl]
              exact ⟨fun _ h => by omega, fun _ => ⟨rfl, rfl⟩⟩
            · rw [if_neg z, if_neg z, if_neg z, if_neg z]
              have b1 := h1.1 v (by omega) hv
              have b2 := i1.1 v (by omega) hv
              rw [nI_eq (by omega) (by omega), nI_eq (by omega) (by omega)]
              exact ⟨fun y _ => y, fun y => y (by omega)⟩
          have hms := m_same_of (M := Z + 97) (t := t) (N := 2 * n - 1) (X := upd X 20 0) (A := A) (h := h) (E := fun v => A 9 (129 * t + v) = A 9 (129 * (4 + t) + v) ∧ A 10 (129 * t + v) = A 10 (129 * (4 + t) + v)) ht (by omega) h4.1 (fun K rec v hv e => by
            rw [LM_same_60.eq_1, mr_ma, ml_ma (by omega), h4.1, if_neg (nI_ge hv (by omega)), if_neg (by decide), mr_fo, ml_fo (by omega), h5, jn_eq]
            try dsimp only
            rw [if_neg (by decide), mr_up, ix, ml_up (by omega), mr_up, q4, ix, ml_up (by omega), jn_eq]
            try dsimp only
            rw [jn_eq]
            try dsimp only
            rw [if_pos e.1, mr_se, ml_se (by omega), mr_se, ml_se (by omega), if_pos e.2, show nI v + 1 = nI (v + 1) from nI_add _ _]) (fun K rec v hv e => by
            rw [LM_same_60.eq_1, mr_ma, ml_ma (by omega), h4.1, if_neg (nI_ge hv (by omega)), if_neg (by decide), mr_fo, ml_fo (by omega), h5, jn_eq]
            try dsimp only
            rw [if_neg (by decide), mr_up, ix, ml_up (by omega), mr_up, q4, ix, ml_up (by omega), jn_eq]
            try dsimp only
            rw [jn_eq]
            try dsimp only
            rw [show nI v + 1 = nI (v + 1) from nI_add _ _]
            by_cases e1 : A 9 (129 * t + v) = A 9 (129 * (4 + t) + v)
            · rw [if_pos e1, mr_se, ml_se (by omega), mr_se, ml_se (by omega), if_neg (fun e2 => e ⟨e1, e2⟩)]
            · rw [if_neg e1]) (fun x9 => if x9 = 0 then some (om (Z + 97) (upd X 20 0) A h, 0) else some (om (Z + 97) (upd X 20 0) A h, 1))
          by_cases hall : ∀ v, v < 2 * n - 1 → A 9 (129 * t + v) = A 9 (129 * (4 + t) + v) ∧ A 10 (129 * t + v) = A 10 (129 * (4 + t) + v)
          · exact fin 1 (by omega) (hlk.1 (heq.mpr (fun v hv => (hE v hv).mp (hall v hv)))) (by rw [hrun, hms.1 hall]; exact f1)
          · exact fin 0 (by omega) (hlk.2 (fun y => hall (fun v hv => (hE v hv).mpr (heq.mp y v hv)))) (by rw [hrun, hms.2 hall]; exact f0)
    · refine fin 0 (by omega) (e_isLike_no r1 r1' hfn) ?_
      rw [FM_same_run ht k3, if_neg (fun z => hfn (by rw [r2, r2', r3, r3'] at z; exact z)), m_same_0 ht r3]
      exact f0
  · refine OPQ_of (m := fun h => FM_same h (Z + 97) p1) (X' := upd X 20 0) (A' := A) (r := (-2)) S hom ?_ u20 (fun _ _ => rfl) ?_
    · unfold FA_same
      rw [k2, Option.bind_some, jn_eq]
      try dsimp only
      rw [if_pos rfl]
    · show FM_same _ _ _ = _
      unfold FM_same
      rw [mp_20, k3, Option.bind_some, if_pos rfl]
end SM2
