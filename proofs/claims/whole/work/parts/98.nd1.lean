/-! NODE -/
def ndM (h1 : Hp) (a0 : Nat) (q p3 p4 : Int32) : Option (Hp × Int32) :=
  gR h1 a0 5 3 (fun a9 =>
        ldI h1 a9 0 q (fun x10 =>
        if x10 = 0 then
          (jn (fun (y19 : Int32) =>
          some (h1, y19))
          (fun (j20 : Int32 → Option (Hp × Int32)) =>
          if p4 = 0 then
            (gd (isO h1 a0 5 = true) ((FM_countAt h1 a0 q p3).bind (fun r28 =>
            j20 r28)))
          else
            (if p4 = 1 then
              (gd (isO h1 a0 5 = true) ((FM_signAt h1 a0 q p3).bind (fun r26 =>
              j20 r26)))
            else
              (if p4 = 2 then
                (gd (isO h1 a0 5 = true) ((FM_above h1 a0 q p3).bind (fun r24 =>
                j20 r24)))
              else
                (gd (isO h1 a0 5 = true) ((FM_below h1 a0 q p3).bind (fun r22 =>
                j20 r22)))))))
        else
          (jn (fun (y11 : Int32) =>
          some (h1, y11))
          (fun (j12 : Int32 → Option (Hp × Int32)) =>
          if p4 = 0 then
            (j12 0)
          else
            (if p4 = 1 then
              (gI h1 a0 5 0 (fun x17 =>
              if (x17 - 1) ≤ p3 then
                (gI h1 a0 5 0 (fun x18 =>
                j12 ((p3 - x18) + 1)))
              else
                (j12 (-1))))
            else
              (if p4 = 2 then
                (gR h1 a0 5 11 (fun a15 =>
                ldI h1 a15 0 ((129 * q) + p3) (fun x16 =>
                j12 x16)))
              else
                (gd (isO h1 a0 5 = true) ((FM_child h1 a0 q p3 0).bind (fun r14 =>
                j12 r14)))))))))
theorem FM_node_eq {h : Hp} {a : Nat} {p1 p2 p3 p4 : Int32} : FM_node h a p1 p2 p3 p4 = pF h a 5 20 (.int 0) (fun h1 => (FM_isTree h1 p1 p2).bind (fun r2 => if r2 = 0 then pF h1 a 5 20 (.int 1) (fun h4 => some (h4, 0)) else gR h1 a 5 4 (fun a5 => ldI h1 a5 0 ((4 * p1) + p2) (fun x6 => (FM_isIn h1 p3 0 (x6 - 1)).bind (fun r7 => if r7 = 0 then pF h1 a 5 20 (.int 1) (fun h4 => some (h4, 0)) else (FM_isIn h1 p4 0 3).bind (fun r8 => if r8 = 0 then pF h1 a 5 20 (.int 1) (fun h4 => some (h4, 0)) else ndM h1 a ((4 * p1) + p2) p3 p4)))))) := rfl
def pick (f : Nat) (c s p k : Int32) : Int32 := if f = 0 then c else if f = 1 then s else if f = 2 then p else k
theorem TR.node {n P B a q : Nat} {h : Hp} {A : Nat → Nat → Int32} (hT : TR n P B a q h A) (hn0 : 2 ≤ n) (hn : n ≤ 64) (hq : q < 12) : ∃ (fm : Int32) (N : Nat) (es hv : Int32) (cn sg pa fs sn lf : Nat → Int32), ov n P a fm (nI N) es hv cn sg pa fs sn lf h = h ∧ A 2 q = nI N ∧ N ≤ 2 * n + 1 ∧ ∀ v f M X h2, v < N → f < 4 → X 0 = nI n → ndM (om M X A h2) M (nI q) (nI v) (nI f) = some (om M X A h2, pick f (cn v) (sg v) (pa v) (fs v)) := by
  have f4 : ∀ f : Nat, f < 4 → f = 0 ∨ f = 1 ∨ f = 2 ∨ f = 3 := fun f hf => by omega
  rcases hT with ⟨m, c, g, o, hv, es, cn, sg, pa, fs, sn, lf, t, h1, h2, h3, h4, h5, h6⟩ | ⟨u, d, hv, es, cn, sg, pa, fs, sn, lf, h1, h2, h3, h4, h5, h6⟩
  · have hm := h1.m_le
    have ho := h1.1.1
    have hG := h1.2.1
    refine ⟨0, _, es, hv, cn, sg, pa, fs, sn, lf, h2, h4.1, by omega, fun v f M X h2' hv' hf hX => ?_⟩
    have hL := h3.1 v hv'
    unfold ndM
    rw [mr_fo, ml_fo hq, h5, if_pos rfl, jn_eq]
    try dsimp only
    rcases f4 f hf with rfl | rfl | rfl | rfl
    · rw [if_pos nI_0, gd_t o_om, m_countAt hq (by omega) h4 hv', Option.bind_some, ← hL.1]; rfl
    · rw [if_neg (by decide), if_pos (by rfl), gd_t o_om, m_signAt hq (by omega) h4 hv', Option.bind_some, ← hL.2.1]; rfl
    · rw [if_neg (by decide), if_neg (by decide), if_pos (by rfl), gd_t o_om]
      by_cases z : v = 0
      · subst z
        rw [m_above0, Option.bind_some, ← h3.2.1]; rfl
      · rw [m_above hq (by omega) h4 (fun k hk => by have := ho k hk; omega) (by omega) hv', Option.bind_some, ← h3.pa ho (by omega) hv']; rfl
    · rw [if_neg (by decide), if_neg (by decide), if_neg (by decide), gd_t o_om]
      by_cases z : g v = 0
      · obtain ⟨k, k1, k2⟩ := (hG.1 v hv').mp z
        rw [m_below hq (by omega) h4 hv' ho h1.1.2.1 k1 k2, Option.bind_some, ← (hL.2.2.1 k k1 k2).1]; rfl
      · rw [m_below_no hq (by omega) h4 hv' ho (fun k k1 k2 => z ((hG.1 v hv').mpr ⟨k, k1, k2⟩)), Option.bind_some, ← (hL.2.2.2.1 z).1]; rfl
  · refine ⟨1, _, es, hv, cn, sg, pa, fs, sn, lf, h2, h4.1, by omega, fun v f M X h2' hv' hf hX => ?_⟩
    have hL := h3.1 v hv'
    unfold ndM
    rw [mr_fo, ml_fo hq, h5, if_neg (by decide), jn_eq]
    try dsimp only
    rcases f4 f hf with rfl | rfl | rfl | rfl
    · rw [if_pos nI_0, ← hL.1]; rfl
    · rw [if_neg (by decide), if_pos (by rfl), mi_0, hX, show nI n - 1 = nI (n - 1) from pk_sub (a := n) (b := 1) (by omega)]
      by_cases z : v < n - 1
      · rw [if_neg (nI_ge z (by omega)), show pick 1 (cn v) (sg v) (pa v) (fs v) = sg v from rfl, hL.2, if_pos z]
      · obtain ⟨s, rfl⟩ : ∃ s, v = n - 1 + s := ⟨v - (n - 1), by omega⟩
        rw [if_pos (nI_le (by omega) (by omega)), mi_0, hX, off_s (by omega), show pick 1 (cn (n - 1 + s)) (sg (n - 1 + s)) (pa (n - 1 + s)) (fs (n - 1 + s)) = sg (n - 1 + s) from rfl, hL.2, if_neg z, show n - 1 + s - (n - 1) = s by omega]
    · rw [if_neg (by decide), if_neg (by decide), if_pos (by rfl), mr_up, ix, ml_up (by omega)]
      by_cases z : v = 0
      · subst z
        rw [Nat.add_zero, h4.2.1, ← h3.2.1]; rfl
      · rw [(h4.2.2.2 v (by omega) hv').1, ← (h3.2.2.1 v (by omega) hv').1]; rfl
    · rw [if_neg (by decide), if_neg (by decide), if_neg (by decide), gd_t o_om]
      by_cases z : v < n - 1
      · obtain ⟨x, x0, x1, x2, x3⟩ := h1.2.2.1 v z 0 (by omega)
        have hc := m_child (M := M) (X := X) (h := h2') hq hn h1 h4 x0 x1
        rw [x2, x3] at hc
        rw [show FM_child (om M X A h2') M (nI q) (nI v) 0 = _ from hc, Option.bind_some]
        have := (h3.2.2.1 x x0 x1).2.1 x3
        rw [x2] at this
        rw [← this]; rfl
      · rw [m_child_no hq (by omega) hn h1 h4 (by omega) (by omega), Option.bind_some, ← (h3.2.2.2.1 v (by omega) hv').1]; rfl
theorem stL_at {β : Type} {h : Hp} {a m : Nat} {f : Nat → Int64} {v : Int64} {K : Hp → Option β} (e : h a = some (.inl (2, m, .inr (.inl f)))) (hm : 0 < m) : stL h a 2 0 v K = K (va_up h a (some (.inl (2, m, .inr (.inl (vp_updL f 0 v)))))) := by
  simp only [stL, gL, e, if_true]
  rw [if_pos ⟨by decide, by show (0 : Int) < m; omega⟩]
  rfl
section NODE
variable {Z n wd B : Nat} {h : Hp}
theorem toI {p : Int32} {f : Nat} (hf : f < 2 ^ 31) : p.toInt = (f : Int) ↔ p = nI f := by
  constructor
  · intro e
    apply Int32.toInt_inj.mp
    rw [e, nI_toInt hf]
  · intro e; rw [e, nI_toInt hf]
theorem p_node (S : ST Z n wd B h) {p1 p2 p3 p4 : Int32} (z : Nat) : ∃ h1 z' r, FL_node h z Z p1 p2 p3 p4 (Z + 113) = some (h1, z', r) ∧ isO h1 (Z + 97) 5 = true ∧ ∃ h2 v, FM_node h1 (Z + 97) p1 p2 p3 p4 = some (h2, v) ∧ isO h2 (Z + 97) 5 = true ∧ FM_thrown h2 (Z + 97) = some r ∧ ST Z n wd (B + 1) h2 ∧ (r = 0 → ∃ f : Nat → Int64, h2 (Z + 113) = some (.inl (2, 1, .inr (.inl f))) ∧ f 0 = v.toInt64) := by
  obtain ⟨wb, tb, lm, hs, wr, tr, nd, nu, nb, X, A, S, hom⟩ := S
  have hK := S.2.1.1
  have hX0 : upd X 20 0 0 = nI n := S.2.2.1.1
  obtain ⟨n0, n1, w0, w1, w2⟩ := S.1
  have hu : ∀ (v : Int32) k, k ≠ 20 → k ≠ 25 → upd (upd X 20 0) 20 v k = X k := fun v k k1 k2 => by rw [upd_ne k1, upd_ne k1]
  -- where it throws
  have thr : FA_node h Z p1 p2 p3 p4 = some none → FM_node (om (Z + 97) X A h) (Z + 97) p1 p2 p3 p4 = some (om (Z + 97) (upd (upd X 20 0) 20 1) A h, 0) → ∃ h1 z' r, FL_node h z Z p1 p2 p3 p4 (Z + 113) = some (h1, z', r) ∧ isO h1 (Z + 97) 5 = true ∧ ∃ h2 v, FM_node h1 (Z + 97) p1 p2 p3 p4 = some (h2, v) ∧ isO h2 (Z + 97) 5 = true ∧ FM_thrown h2 (Z + 97) = some r ∧ ST Z n wd (B + 1) h2 ∧ (r = 0 → ∃ f : Nat → Int64, h2 (Z + 113) = some (.inl (2, 1, .inr (.inl f))) ∧ f 0 = v.toInt64) := by
    intro e1 e2
    refine ⟨h, z + 1, 1, ?_, by rw [← hom]; exact o_om, om (Z + 97) (upd (upd X 20 0) 20 1) A h, 0, ?_, o_om, ?_, (S.q (hu 1) (fun _ _ => rfl)).fin, fun e => absurd e (by decide)⟩
    · unfold FL_node
      rw [gd_t hK.o, e1, Option.bind_some]
    · rw [hom] at e2; exact e2
    · unfold FM_thrown
      rw [mi_20, updS]
  rcases et_cases p1 p2 with ⟨e, t, he, ht, rfl, rfl, k1, k2, k3⟩ | ⟨k1, k3⟩
  · have hT := S.tre (q := 4 * e + t) (by omega)
    obtain ⟨fm, N, es, hv, cn, sg, pa, fs, sn, lf, r1, r2, r3, r4⟩ := hT.node n0 n1 (by omega)
    have hr := e_range (p := p3) (k := N) (by omega)
    rcases m_isInZ (h := om (Z + 97) (upd X 20 0) A h) (p := p3) (k := N) (by omega) with ⟨b1, b2⟩ | ⟨b1, v, hv', rfl⟩
    · refine thr ?_ ?_
      · unfold FA_node
        rw [k1, Option.bind_some, jn_eq]
        try dsimp only
        have hno : FT_hasNode h (ad Z (4 * e + t)) p3 = some 0 := by
          unfold FT_hasNode
          rw [jn_eq]
          try dsimp only
          rw [jn_eq]
          try dsimp only
          by_cases z1 : p3 < 0
          · rw [if_pos z1]; rfl
          · rw [if_neg z1, gI_at (ov_hd r1) rfl, if_pos (Classical.byContradiction fun z2 => b2 (hr.mp ⟨z1, z2⟩))]; rfl
        rw [if_neg (by decide), k2, Option.bind_some, if_neg (by decide), gd_t hK.o, e_treeOf hK he ht, Option.bind_some, ad_et he ht, gd_t (isO_at (ov_hd r1)), hno, Option.bind_some, if_pos rfl]
      · rw [FM_node_eq, mp_20, k3, Option.bind_some, if_neg (by decide), mr_ma, qet, ml_ma (by omega), r2, b1, Option.bind_some, if_pos rfl, mp_20]
    · have hx := hr.mpr ⟨v, hv', rfl⟩
      rcases m_isIn3 (h := om (Z + 97) (upd X 20 0) A h) (p := p4) with ⟨c1, c2⟩ | ⟨c1, f, hf, rfl⟩
      · refine thr ?_ ?_
        · unfold FA_node
          rw [k1, Option.bind_some, jn_eq]
          try dsimp only
          rw [if_neg (by decide), k2, Option.bind_some, if_neg (by decide), gd_t hK.o, e_treeOf hK he ht, Option.bind_some, ad_et he ht, h_h1 r1 hv' r3 n1, if_neg (by decide)]
          have nt : ∀ k : Nat, k < 4 → ¬ p4.toInt = (k : Int) := fun k hk e => c2 ⟨k, hk, (toI (by omega)).mp e⟩
          rw [if_neg (show ¬ p4.toInt = 0 from nt 0 (by omega)), if_neg (show ¬ p4.toInt = 1 from nt 1 (by omega)), if_neg (show ¬ p4.toInt = 2 from nt 2 (by omega)), if_neg (show ¬ p4.toInt = 3 from nt 3 (by omega))]
        · rw [FM_node_eq, mp_20, k3, Option.bind_some, if_neg (by decide), mr_ma, qet, ml_ma (by omega), r2, b1, Option.bind_some, if_neg (by decide), c1, Option.bind_some, if_pos rfl, mp_20]
      · obtain ⟨fo, hfo⟩ := S.2.2.2.2.2
        have eA : FA_node h Z (nI e) (nI t) (nI v) (nI f) = some (some (pick f (cn v) (sg v) (pa v) (fs v))) := by
          unfold FA_node
          rw [k1, Option.bind_some, jn_eq]
          try dsimp only
          rw [if_neg (by decide), k2, Option.bind_some, if_neg (by decide), gd_t hK.o, e_treeOf hK he ht, Option.bind_some, ad_et he ht, h_h1 r1 hv' r3 n1, if_neg (by decide)]
          have f4 : f = 0 ∨ f = 1 ∨ f = 2 ∨ f = 3 := by omega
          rcases f4 with rfl | rfl | rfl | rfl
          · rw [if_pos (by decide), h_cn r1 hv' r3 n1]; rfl
          · rw [if_neg (by decide), if_pos (by decide), h_sg r1 hv' r3 n1]; rfl
          · rw [if_neg (by decide), if_neg (by decide), if_pos (by decide), h_pa r1 hv' r3 n1]; rfl
          · rw [if_neg (by decide), if_neg (by decide), if_neg (by decide), if_pos (by decide), h_fs r1 hv' r3 n1]; rfl
        obtain ⟨h1, hh1⟩ : ∃ h1, h1 = va_up h (Z + 113) (some (.inl (2, 1, .inr (.inl (vp_updL fo 0 (pick f (cn v) (sg v) (pa v) (fs v)).toInt64))))) := ⟨_, rfl⟩
        have cc : ∀ x, x ≠ Z + 113 → h1 x = h x := fun x hx => by rw [hh1]; exact va_up_ne _ _ hx
        have ho1 : h1 (Z + 113) = some (.inl (2, 1, .inr (.inl (vp_updL fo 0 (pick f (cn v) (sg v) (pa v) (fs v)).toInt64)))) := by rw [hh1, va_up_self]
        have hom1 : om (Z + 97) X A h1 = h1 := om_ag hom (fun x _ _ => cc x (by omega))
        have S1 : SS Z n wd B wb tb lm hs wr tr nd nu nb X A h1 := by
          obtain ⟨s1, s2, s3, s4, s5, s6⟩ := S
          refine ⟨s1, s2.ag (fun x _ _ => cc x (by omega)), s3, s4.ag ⟨rfl, rfl, rfl, rfl⟩ (fun t' ht' _ x x1 x2 => ?_), fun q hq => ?_, ⟨_, ho1⟩⟩
          · have := ad_bd (Z := Z) (show 4 + t' < 12 by omega)
            exact cc x (by omega)
          · have := ad_bd (Z := Z) hq
            exact (s5 q hq).ag (fun x _ _ => cc x (by omega))
        have eM : FM_node (om (Z + 97) X A h1) (Z + 97) (nI e) (nI t) (nI v) (nI f) = some (om (Z + 97) (upd X 20 0) A h1, pick f (cn v) (sg v) (pa v) (fs v)) := by
          have c1' : FM_isIn (om (Z + 97) (upd X 20 0) A h1) (nI f) 0 3 = some 1 := by
            rcases m_isIn3 (h := om (Z + 97) (upd X 20 0) A h1) (p := nI f) with ⟨_, y⟩ | ⟨y, _⟩
            · exact absurd ⟨f, hf, rfl⟩ y
            · exact y
          have b1' : FM_isIn (om (Z + 97) (upd X 20 0) A h1) (nI v) 0 (nI N - 1) = some 1 := by
            rcases m_isInZ (h := om (Z + 97) (upd X 20 0) A h1) (p := nI v) (k := N) (by omega) with ⟨_, y⟩ | ⟨y, _⟩
            · exact absurd ⟨v, hv', rfl⟩ y
            · exact y
          rw [FM_node_eq, mp_20, k3, Option.bind_some, if_neg (by decide), mr_ma, qet, ml_ma (by omega), r2, b1', Option.bind_some, if_neg (by decide), c1', Option.bind_some, if_neg (by decide), r4 v f _ _ _ hv' hf hX0]
        refine ⟨h1, z, 0, ?_, by rw [← hom1]; exact o_om, om (Z + 97) (upd X 20 0) A h1, pick f (cn v) (sg v) (pa v) (fs v), ?_, o_om, ?_, (S1.q u20 (fun _ _ => rfl)).fin, fun _ => ⟨_, by rw [om_out (by omega)]; exact ho1, ?_⟩⟩
        · unfold FL_node
          rw [gd_t hK.o, eA, Option.bind_some]
          try dsimp only
          rw [stL_at hfo (by omega), ← hh1]
        · rw [hom1] at eM; exact eM
        · unfold FM_thrown
          rw [mi_20, updS]
        · rfl
  · refine thr ?_ ?_
    · unfold FA_node
      rcases k1 with k1 | ⟨k1, k2⟩
      · rw [k1, Option.bind_some, jn_eq]
        try dsimp only
        rw [if_pos rfl]
      · rw [k1, Option.bind_some, jn_eq]
        try dsimp only
        rw [if_neg (by decide), k2, Option.bind_some, if_pos rfl]
    · rw [FM_node_eq, mp_20, k3, Option.bind_some, if_pos rfl, mp_20]
end NODE
