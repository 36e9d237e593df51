section RD4
variable {Z n wd B wb tb : Nat} {lm : Int32} {hs wr : Nat → Int32} {X : Nat → Int32} {A : Nat → Nat → Int32} {h : Hp} {t v w bb b : Nat}
theorem SS.rd (h2 : Hp) (S : SS Z n wd B wb tb lm hs wr (nI t) (nI v) (nI w) (nI bb) X A h) (ht : t < 4) (hb : b < 2) (hB : B < 2 ^ 27) (h16 : X 16 = nI (4 + t)) (h17 : X 17 = nI v) (h18 : X 18 = nI bb) (h19 : X 19 = nI w) (hr : RN n wd (ad Z (4 + t)) h v w bb) :
    RD Z n wd B wb tb lm hs wr t h (rdA h Z (ad Z (4 + t)) (nI b)) (tkM (om (Z + 97) X A h2) (Z + 97) (nI (4 + t)) (nI b)) h2 := by
  obtain ⟨n0, n1, w0, w1, w2⟩ := S.1
  have hX0 : X 0 = nI n := S.2.2.1.1
  have hbd := ad_bd (Z := Z) (show 4 + t < 12 by omega)
  obtain ⟨P', N', fm', es', hv', cn', sg', pa', fs', sn', lf', q1, q2, q3, q4⟩ := hr
  rcases S.tre (q := 4 + t) (by omega) with ⟨m, c, g, o, hv, es, cn, sg, pa, fs, sn, lf, tt, h1, h2', h3, h4, h5, h6⟩ | ⟨u, d, hv, es, cn, sg, pa, fs, sn, lf, h1, h2', h3, h4, h5, h6⟩
  · have hm := h1.m_le
    have ho := h1.1.1
    have hG := h1.2.1
    obtain ⟨r1, r2⟩ := ov_uni q1 h2'
    rw [← r1] at q4
    have hN : N' = 2 * m + 1 := ((nI_eq (by omega) (by omega)).mp r2).symm
    have hg : ∀ x, x < 2 * m + 1 → sg x = sI (g x) := fun x hx => (h3.1 x hx).2.1
    have hgl : ∀ x, x < 2 * m + 1 → g x < n + 2 := fun x hx => hG.lt hx
    rcases q4 with ⟨z1, z2, z3⟩ | ⟨z1, z2, z3⟩
    · subst z2; subst z3
      have hgv : g v = 0 := (sI_m1 (by have := hgl v (by omega); omega)).mp (by rw [← hg v (by omega)]; exact z1)
      obtain ⟨k, k1, k2⟩ := (hG.1 v (by omega)).mp hgv
      have hk := (h3.1 v (by omega)).2.2.1 k k1 k2
      have hx : 2 * k + 1 + b < 2 * m + 1 := by omega
      have hsv := m_signAt (M := Z + 97) (X := X) (h := h2) (p := v) (by omega) (by omega) h4 (by omega)
      have hbl := m_below (M := Z + 97) (X := X) (h := h2) (p := v) (k0 := k) (by omega) (by omega) h4 (by omega) ho h1.1.2.1 k1 k2
      have hsx := m_signAt (M := Z + 97) (X := upd X 17 (nI (2 * k + 1 + b))) (h := h2) (p := 2 * k + 1 + b) (by omega) (by omega) h4 hx
      have eM : tkM (om (Z + 97) X A h2) (Z + 97) (nI (4 + t)) (nI b) = if 0 ≤ sI (g (2 * k + 1 + b)) then (FM_ends (om (Z + 97) (upd X 17 (nI (2 * k + 1 + b))) A h2) (Z + 97) (nI (4 + t)) (sI (g (2 * k + 1 + b)))).bind (fun r47 => some (r47.1, r47.2)) else some (om (Z + 97) (upd X 17 (nI (2 * k + 1 + b))) A h2, (-1)) := by
        unfold tkM
        rw [mr_fo, ml_fo (by omega), h5]
        simp only [jn_eq]
        rw [if_neg (by decide), mi_18, h18, if_pos nI_0, mi_17, h17, gd_t o_om, hsv, Option.bind_some, hgv, if_pos (by rfl), if_neg (by decide), mr_fo, ml_fo (by omega), h5, if_neg (by decide), if_neg (by decide), mi_17, h17, gd_t o_om, hbl, Option.bind_some]
        have tail : ∀ y : Int32, y = nI b → (pF (om (Z + 97) X A h2) (Z + 97) 5 17 (.int (nI (2 * k + 1) + y)) (fun h36 =>
          gI h36 (Z + 97) 5 17 (fun x37 =>
          gd (isO h36 (Z + 97) 5 = true) ((FM_signAt h36 (Z + 97) (nI (4 + t)) x37).bind (fun r39 =>
          if 0 ≤ r39 then
            (gI h36 (Z + 97) 5 17 (fun x43 =>
            gd (isO h36 (Z + 97) 5 = true) ((FM_signAt h36 (Z + 97) (nI (4 + t)) x43).bind (fun r45 =>
            gd (isO h36 (Z + 97) 5 = true) ((FM_ends h36 (Z + 97) (nI (4 + t)) r45).bind (fun r47 =>
            some (r47.1, r47.2)))))))
          else
            (some (h36, (-1)))))))) = if 0 ≤ sI (g (2 * k + 1 + b)) then (FM_ends (om (Z + 97) (upd X 17 (nI (2 * k + 1 + b))) A h2) (Z + 97) (nI (4 + t)) (sI (g (2 * k + 1 + b)))).bind (fun r47 => some (r47.1, r47.2)) else some (om (Z + 97) (upd X 17 (nI (2 * k + 1 + b))) A h2, (-1)) := by
          intro y hy
          rw [hy, nI_add, mp_17, mi_17, updS, gd_t o_om, hsx, Option.bind_some]
          by_cases z : 0 ≤ sI (g (2 * k + 1 + b))
          · rw [if_pos z, if_pos z, mi_17, updS, gd_t o_om, hsx, Option.bind_some, gd_t o_om]
          · rw [if_neg z, if_neg z]
        by_cases z : b = 0
        · rw [if_pos (by rw [z]; exact nI_0)]
          exact tail 0 (by rw [z]; rfl)
        · rw [if_neg (fun e => z (by have := e; rw [show (0 : Int32) = nI 0 from rfl, nI_eq (by omega) (by omega)] at this; exact this))]
          exact tail 1 (by rw [show b = 1 by omega]; rfl)
      have hss : sg (2 * k + 1 + b) = sI (g (2 * k + 1 + b)) := hg _ hx
      refine rd_fin (x := 2 * k + 1 + b) h2 S ht hB h16 h18 h19 h2' (by omega) (by omega) (by omega) (by rw [z1]; decide) (e_child h2' (by omega) (by omega) n1 hb (fun e => by subst e; rw [hk.1]) (fun e => by subst e; rw [hk.2.1])) ?_ (fun z => ?_) (fun s s1 s2 => ?_)
      · rw [hss]
        have := hgl _ hx
        match g (2 * k + 1 + b), this with
        | 0, _ => exact Or.inl rfl
        | 1, _ => exact Or.inr (Or.inl rfl)
        | s + 2, e => exact Or.inr (Or.inr ⟨s, by omega, rfl⟩)
      · rw [eM, ← hss, if_neg (by rcases z with z | z <;> rw [z] <;> decide)]
      · rw [eM, ← hss, s2, if_pos (by rw [show (0 : Int32) = nI 0 from rfl]; exact nI_le (Nat.zero_le _) (by omega))]
        cases FM_ends (om (Z + 97) (upd X 17 (nI (2 * k + 1 + b))) A h2) (Z + 97) (nI (4 + t)) (nI s) <;> rfl
    · have hgv : g v = 1 := (sI_m2 (by have := hgl v (by omega); omega)).mp (by rw [← hg v (by omega)]; exact z1)
      have hsv := m_signAt (M := Z + 97) (X := X) (h := h2) (p := v) (by omega) (by omega) h4 (by omega)
      rw [hgv] at hsv
      exact S.rdn h2 ht hb hB h16 h17 h18 h19 h2' (by omega) (by omega) z1 z2 z3 h5 hsv
  · obtain ⟨r1, r2⟩ := ov_uni q1 h2'
    rw [← r1] at q4
    have hN : N' = 2 * n - 1 := ((nI_eq (by omega) (by omega)).mp r2).symm
    have hs0 : sg v = if v < n - 1 then (-1) else nI (v - (n - 1)) := (h3.1 v (by omega)).2
    have hvn : v < n - 1 ∧ w = 0 ∧ bb = 0 := by
      by_cases z : v < n - 1
      · rw [if_pos z] at hs0
        rcases q4 with ⟨z1, z2, z3⟩ | ⟨z1, z2, z3⟩
        · exact ⟨z, z2, z3⟩
        · rw [hs0] at z1; exact absurd z1 (by decide)
      · rw [if_neg z] at hs0
        exfalso
        rcases q4 with ⟨z1, _⟩ | ⟨z1, _⟩
        · rw [hs0] at z1; exact m1_nI (by omega) z1
        · rw [hs0] at z1
          exact nI_pos (n := v - (n - 1)) (by omega) (by rw [z1]; decide)
    obtain ⟨hvn, rfl, rfl⟩ := hvn
    obtain ⟨x, x0, x1, x2, x3⟩ := h1.2.2.1 v hvn b hb
    have hk := h3.2.2.1 x x0 x1
    rw [x2] at hk
    have hch := m_child (M := Z + 97) (X := X) (h := h2) (by omega) n1 h1 h4 x0 x1
    rw [x2, x3] at hch
    have hsx : sg x = if x < n - 1 then (-1) else nI (x - (n - 1)) := (h3.1 x x1).2
    have eM : tkM (om (Z + 97) X A h2) (Z + 97) (nI (4 + t)) (nI b) = if nI (n - 1) ≤ nI x then (FM_ends (om (Z + 97) (upd X 17 (nI x)) A h2) (Z + 97) (nI (4 + t)) ((nI x - nI n) + 1)).bind (fun r62 => some (r62.1, r62.2)) else some (om (Z + 97) (upd X 17 (nI x)) A h2, (-1)) := by
      unfold tkM
      rw [mr_fo, ml_fo (by omega), h5]
      simp only [jn_eq]
      rw [if_pos trivial, if_neg (by decide), mr_fo, ml_fo (by omega), h5, if_pos rfl, mi_17, h17, gd_t o_om, hch, Option.bind_some, mp_17, mi_17, updS, mi_0, show upd X 17 (nI x) 0 = X 0 from rfl, hX0, show nI n - 1 = nI (n - 1) from pk_sub (a := n) (b := 1) (by omega)]
      by_cases z : nI (n - 1) ≤ nI x
      · rw [if_pos z, if_pos z, mi_17, updS, mi_0, show upd X 17 (nI x) 0 = X 0 from rfl, hX0, gd_t o_om]
      · rw [if_neg z, if_neg z]
    have hlt : nI (n - 1) ≤ nI x ↔ ¬ x < n - 1 := by
      constructor
      · intro z y; exact nI_ge y (by omega) z
      · intro z; exact nI_le (by omega) (by omega)
    refine rd_fin (x := x) h2 S ht hB h16 h18 h19 h2' (by omega) (by omega) (by omega) (by rw [hs0, if_pos hvn]; decide) (e_child h2' (by omega) (by omega) n1 hb (fun e => hk.2.1 (by omega)) (fun e => hk.2.2 (by omega))) ?_ (fun z => ?_) (fun s s1 s2 => ?_)
    · rw [hsx]
      by_cases z : x < n - 1
      · rw [if_pos z]; exact Or.inl rfl
      · rw [if_neg z]; exact Or.inr (Or.inr ⟨x - (n - 1), by omega, rfl⟩)
    · have hxl : x < n - 1 := by
        by_cases y : x < n - 1
        · exact y
        · exfalso
          rw [hsx, if_neg y] at z
          rcases z with z | z
          · exact m1_nI (by omega) z
          · exact nI_pos (n := x - (n - 1)) (by omega) (by rw [z]; decide)
      rw [eM, if_neg (fun y => hlt.mp y hxl)]
    · have hxl : ¬ x < n - 1 := by
        intro y
        rw [hsx, if_pos y] at s2
        exact m1_nI (by omega) s2.symm
      rw [hsx, if_neg hxl, nI_eq (by omega) (by omega)] at s2
      rw [eM, if_pos (hlt.mpr hxl), show x = n - 1 + s by omega, off_s (by omega)]
      cases FM_ends (om (Z + 97) (upd X 17 (nI (n - 1 + s))) A h2) (Z + 97) (nI (4 + t)) (nI s) <;> rfl
end RD4
