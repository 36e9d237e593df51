/-! THE CODE OF A SIGN: the class lays it, the model finds it, and both say the same -/
theorem WK_cnt {m : Nat} {o : Nat → Nat} (ho : ∀ k, k < m → o k < 2 * k + 1) : ∃ dp, WK (2 * m + 1) (prC o) sdC dp := by
  have hp : ∀ x, 0 < x → x < 2 * m + 1 → prC o x < x := fun x h0 h1 => by
    have := ho ((x - 1) / 2) (by omega)
    unfold prC; omega
  obtain ⟨dp, d1, d2⟩ := DP_of (n := m + 1) (u := prC o) (rk := fun x => x) (fun k h0 h1 => by have := hp k h0 (by omega); omega) (fun k h0 h1 => hp k h0 (by omega))
  have hb : ∀ x, x < 2 * m + 1 → dp x ≤ x := by
    intro x
    induction x using Nat.strongRecOn with
    | ind x ih =>
      intro hx
      by_cases e : x = 0
      · subst e; omega
      · rw [d2 x (by omega) (by omega)]
        have h1 := hp x (by omega) hx
        have := ih _ h1 (by omega)
        omega
  refine ⟨dp, d1, fun x h0 h1 => ⟨?_, Nat.mod_lt _ (by omega), d2 x h0 (by omega)⟩, fun x hx => ?_⟩
  · have := hp x h0 h1; omega
  · have := hb x hx; omega
theorem WK_spl {n : Nat} {u d : Nat → Nat} (hS : SI n u d) : ∃ dp, WK (2 * n - 1) u d dp := by
  obtain ⟨dp, hd⟩ := hS.2.2.2
  exact ⟨dp, hd.1, fun x h0 h1 => ⟨by have := (hS.1 x h0 h1).1; omega, (hS.1 x h0 h1).2, hd.2 x h0 h1⟩, fun x hx => DP_bd hS hd hx⟩
theorem CT.way {n m : Nat} {c g o : Nat → Nat} {es : Int32} {cn sg pa fs sn lf : Nat → Int32} (hm : m ≤ 64) (hT : CT n m c g o es cn sg pa fs sn lf) (ho : ∀ k, k < m → o k < 2 * k + 1) {x : Nat} (h0 : 0 < x) (hx : x < 2 * m + 1) : pa x = nI (prC o x) ∧ (fs (prC o x) = nI x ↔ sdC x = 0) := by
  refine ⟨hT.pa ho h0 hx, ?_⟩
  have hk : (x - 1) / 2 < m := by omega
  have hok := ho _ hk
  have := ((hT.1 (prC o x) (by unfold prC; omega)).2.2.1 ((x - 1) / 2) hk rfl).1
  rw [this, nI_eq (by omega) (by omega)]
  unfold sdC; omega
section COD
variable {Z n wd B wb tb a q : Nat} {lm : Int32} {hs wr : Nat → Int32} {X : Nat → Int32} {A : Nat → Nat → Int32} {h : Hp}
theorem TR.code {s : Nat} {r0 : Nat → Int32} {l0 : Int32} (hN : PN n wd) (hT : TR n (Z + 9) B a q h A) (hK : KA Z n wd wb tb lm hs wr h) (hoc : oc (Z + 7) (2 * n + 1 + wd) r0 l0 h = h) (ha : Z + 8 < a) (hq : q < 12) (hs : s < n) (hX0 : X 0 = nI n) (hX1 : X 1 = nI wd) :
    ∃ (len : Nat) (cb : Nat → Nat) (r : Nat → Int32), FA_layCode h Z a (nI s) = some (oc (Z + 7) (2 * n + 1 + wd) r (nI len) h) ∧ len ≤ 2 * n + wd ∧ (∀ j, j < len → cb j < 2 ∧ r j = nI (cb j)) ∧ ∀ M h2, ∃ A' : Nat → Nat → Int32, FM_find (om M X A h2) M (nI q) (nI s) = some (om M (upd X 25 (nI len)) A' h2) ∧ (∀ i, i ≠ 15 → A' i = A i) ∧ MB A' len cb := by
  obtain ⟨n0, n1, w0, w1, w2⟩ := hN
  have hp : ∀ K : Hp → Option Hp, pF h (Z + 7) 0 1 (.int 0) K = K (oc (Z + 7) (2 * n + 1 + wd) r0 0 h) := fun K => by
    have := c_p (C := Z + 7) (m := 2 * n + 1 + wd) (rw' := r0) (ln := l0) (h := h) (v := 0) (K := K)
    rw [hoc] at this; exact this
  rcases hT with ⟨m, c, g, o, hv, es, cn, sg, pa, fs, sn, lf, t, h1, h2, h3, h4, h5, h6⟩ | ⟨u, d, hv, es, cn, sg, pa, fs, sn, lf, h1, h2, h3, h4, h5, h6⟩
  · have hm := h1.m_le
    have ho := h1.1.1
    have hG := h1.2.1
    obtain ⟨dp, hW⟩ := WK_cnt ho
    have hl : FT_hasLeafOf (oc (Z + 7) (2 * n + 1 + wd) r0 0 h) a (nI s) = some (if lf s = (-1) then 0 else 1) := by
      exact hasLeaf_ov (ov_ag h2 (fun x x1 x2 => oc_out (by omega))) hs n1
    have hlo : FT_leafOf (oc (Z + 7) (2 * n + 1 + wd) r0 0 h) a (nI s) = some (lf s) := by
      rw [← ov_ag h2 (h' := oc (Z + 7) (2 * n + 1 + wd) r0 0 h) (fun x x1 x2 => oc_out (by omega))]
      exact e_leafOf hs n1
    have hoO : isO (oc (Z + 7) (2 * n + 1 + wd) r0 0 h) a 3 = true := by
      rw [isO_oc (by omega)]; exact isO_at (ov_hd h2)
    by_cases hk : HasS m g s
    · obtain ⟨p, hp', hg⟩ := hk
      have hlf : lf s = nI p := (h3.1 p hp').2.2.2.2.2 s hg
      obtain ⟨r', w1', w2'⟩ := e_way (n := n) (P := Z + 9) (a := a) (C := Z + 7) (mC := 2 * n + 1 + wd) (fm := 0) (es := es) (hv := hv) (cn := cn) (sg := sg) (sn := sn) (lf := lf) (pa := pa) (fs := fs) (h := h) (r := r0) (N := 2 * m + 1) (k := p) n1 (by omega) (by omega) (by omega) (by omega) hW h3.2.1 (fun x x0 x1 => h3.way (by omega) ho x0 x1) hp'
      rw [h2] at w1'
      have hdp := hW.2.2 p hp'
      refine ⟨dp p, fun j => wy (prC o) sdC p (dp p - 1 - j), r', ?_, by omega, fun j hj => ⟨Nat.mod_lt _ (by omega), w2' j hj⟩, fun M h2' => m_find_known hq n1 (by omega) h5 hG h4 (fun k hk => by have := ho k hk; omega) hW hp' hg⟩
      unfold FA_layCode
      rw [hK.r10, hp, gd_t hoO, hl, Option.bind_some, jn_eq]
      try dsimp only
      rw [hlf, if_neg (m1_nI (by omega)), if_neg (by decide), gd_t hoO, hlo, Option.bind_some, gR_oc (by omega), hK.r10, gd_t hoO, hlf, w1', Option.bind_some]
    · have hlf : lf s = (-1) := h3.2.2 s hs hk
      have hes : es = nI (2 * m) := (h3.1 (2 * m) (by omega)).2.2.2.2.1 hG.2.1
      obtain ⟨r', w1', w2'⟩ := e_way (n := n) (P := Z + 9) (a := a) (C := Z + 7) (mC := 2 * n + 1 + wd) (fm := 0) (es := es) (hv := hv) (cn := cn) (sg := sg) (sn := sn) (lf := lf) (pa := pa) (fs := fs) (h := h) (r := r0) (N := 2 * m + 1) (k := 2 * m) n1 (by omega) (by omega) (by omega) (by omega) hW h3.2.1 (fun x x0 x1 => h3.way (by omega) ho x0 x1) (by omega)
      rw [h2] at w1'
      have hdp := hW.2.2 (2 * m) (by omega)
      obtain ⟨r2, v1, v2, v3⟩ := e_appendNumber (C := Z + 7) (m := 2 * n + 1 + wd) (s := s) (L := dp (2 * m)) (wd := wd) (h := h) (r := r') (by omega) (by omega) w1 (by omega)
      refine ⟨dp (2 * m) + wd, fun j => if j < dp (2 * m) then wy (prC o) sdC (2 * m) (dp (2 * m) - 1 - j) else bt s (wd - 1 - (j - dp (2 * m))), r2, ?_, by omega, fun j hj => ?_, fun M h2' => m_find_new hq n1 (by omega) h5 hX1 w1 hG h4 (fun k hk => by have := ho k hk; omega) hW hs hk⟩
      · unfold FA_layCode
        rw [hK.r10, hp, gd_t hoO, hl, Option.bind_some, jn_eq]
        try dsimp only
        rw [if_pos hlf, if_pos rfl, gI_oc (by omega), gI_at (ov_hd h2) rfl, gR_oc (by omega), hK.r10, gd_t hoO, hes, w1', Option.bind_some, gR_oc (by omega), hK.r10, gI_oc (by omega), hK.i1, gd_t c_o, v1, Option.bind_some]
      · by_cases z : j < dp (2 * m)
        · try dsimp only
          rw [if_pos z, v2 j z, w2' j z]
          exact ⟨Nat.mod_lt _ (by omega), rfl⟩
        · try dsimp only
          rw [if_neg z]
          have := v3 (j - dp (2 * m)) (by omega)
          rw [show dp (2 * m) + (j - dp (2 * m)) = j from by omega] at this
          exact ⟨bt_lt _ _, this⟩
  · obtain ⟨dp, hW⟩ := WK_spl h1
    have hl : FT_hasLeafOf (oc (Z + 7) (2 * n + 1 + wd) r0 0 h) a (nI s) = some (if lf s = (-1) then 0 else 1) := by
      exact hasLeaf_ov (ov_ag h2 (fun x x1 x2 => oc_out (by omega))) hs n1
    have hlo : FT_leafOf (oc (Z + 7) (2 * n + 1 + wd) r0 0 h) a (nI s) = some (lf s) := by
      rw [← ov_ag h2 (h' := oc (Z + 7) (2 * n + 1 + wd) r0 0 h) (fun x x1 x2 => oc_out (by omega))]
      exact e_leafOf hs n1
    have hoO : isO (oc (Z + 7) (2 * n + 1 + wd) r0 0 h) a 3 = true := by
      rw [isO_oc (by omega)]; exact isO_at (ov_hd h2)
    have hlf : lf s = nI (n - 1 + s) := h3.2.2.2.2 s hs
    obtain ⟨r', w1', w2'⟩ := e_way (n := n) (P := Z + 9) (a := a) (C := Z + 7) (mC := 2 * n + 1 + wd) (fm := 1) (es := es) (hv := hv) (cn := cn) (sg := sg) (sn := sn) (lf := lf) (pa := pa) (fs := fs) (h := h) (r := r0) (N := 2 * n - 1) (k := n - 1 + s) n1 (by omega) (by omega) (by omega) (by omega) hW h3.2.1 (fun x x0 x1 => ⟨(h3.2.2.1 x x0 x1).1, h3.fs_iff n1 h1 x0 x1⟩) (by omega)
    rw [h2] at w1'
    have hdp := hW.2.2 (n - 1 + s) (by omega)
    have hsd : ∀ j, j < dp (n - 1 + s) → wy u d (n - 1 + s) j < 2 := by
      have key : ∀ j x, x < 2 * n - 1 → j < dp x → wy u d x j < 2 := by
        intro j
        induction j with
        | zero =>
          intro x hx hj
          have := WK_p hW (x := x) (by omega)
          exact (h1.1 x this hx).2
        | succ j ih =>
          intro x hx hj
          have h0 := WK_p hW (x := x) (by omega)
          rw [wy_s]
          refine ih (u x) (by have := (h1.1 x h0 hx).1; omega) ?_
          have := (hW.2.1 x h0 hx).2.2
          omega
      exact fun j hj => key j _ (by omega) hj
    refine ⟨dp (n - 1 + s), fun j => wy u d (n - 1 + s) (dp (n - 1 + s) - 1 - j), r', ?_, by omega, fun j hj => ⟨hsd _ (by omega), w2' j hj⟩, fun M h2' => m_find_splayed hq n0 n1 hX0 h5 h4 hW hs⟩
    unfold FA_layCode
    rw [hK.r10, hp, gd_t hoO, hl, Option.bind_some, jn_eq]
    try dsimp only
    rw [hlf, if_neg (m1_nI (by omega)), if_neg (by decide), gd_t hoO, hlo, Option.bind_some, gR_oc (by omega), hK.r10, gd_t hoO, hlf, w1', Option.bind_some]
end COD
