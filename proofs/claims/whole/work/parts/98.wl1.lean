/-! WELL: both sides always find their trees well -/
section WL1
variable {n P a N : Nat} {fm es hv : Int32} {cn sg pa fs sn lf : Nat → Int32} {h : Hp}
theorem e_isLeaf {v : Nat} (hn : n ≤ 64) (hN : N ≤ 2 * n + 1) (hov : ov n P a fm (nI N) es hv cn sg pa fs sn lf h = h) (hv' : v < N) : FT_isLeaf h a (nI v) = some (if fs v = (-1) then 1 else 0) := by
  unfold FT_isLeaf
  rw [h_fs hov hv' hN hn, jn_eq]
  try dsimp only
  by_cases e : fs v = (-1)
  · rw [if_pos e, if_pos e]; rfl
  · rw [if_neg e, if_neg e]; rfl
theorem e_isWell (hn : n ≤ 64) (hN : N ≤ 2 * n + 1) (hov : ov n P a fm (nI N) es hv cn sg pa fs sn lf h = h)
    (H1 : ∀ v, v < N → fs v = (-1) ∨ ∃ x y : Nat, fs v = nI x ∧ sn v = nI y ∧ x < N ∧ y < N ∧ pa x = nI v ∧ pa y = nI v)
    (H2 : ∀ v, v < N → sg v < 0 ∨ ∃ s, s < n ∧ sg v = nI s ∧ lf s = nI v)
    (H3 : fm = 0 → ∀ v, v < N → (v = 0 ∨ cn v ≤ cn (v - 1)) ∧ (fs v = (-1) ∨ ∃ x y : Nat, fs v = nI x ∧ sn v = nI y ∧ x < N ∧ y < N ∧ cn v = cn x + cn y))
    (H4 : ∀ s, s < n → lf s = (-1) ∨ ∃ v, v < N ∧ lf s = nI v ∧ sg v = nI s) : FT_isWell h a = some 1 := by
  have hda := ov_hd hov
  have ho : isO h a 3 = true := isO_at hda
  have ch : ∀ v, v < N → FT_areChildrenWell h a (nI v) = some 1 := fun v hv' => by
    unfold FT_areChildrenWell
    rw [gd_t ho, e_isLeaf hn hN hov hv', Option.bind_some, jn_eq]
    try dsimp only
    rw [jn_eq]
    try dsimp only
    rcases H1 v hv' with e | ⟨x, y, e1, e2, x1, y1, e3, e4⟩
    · rw [if_pos e, if_neg (by decide), gd_t (Or.inr rfl)]
    · rw [if_neg (show ¬ fs v = (-1) by rw [e1]; exact m1_nI (by omega)), if_pos rfl, h_fs hov hv' hN hn, e1, h_pa hov x1 hN hn, jn_eq]
      try dsimp only
      rw [if_pos e3, h_sn hov hv' hN hn, e2, h_pa hov y1 hN hn, if_pos e4, gd_t (Or.inr rfl)]
  have ol : ∀ v, v < N → FT_isOnlyLeafOfItsSign h a (nI v) = some 1 := fun v hv' => by
    unfold FT_isOnlyLeafOfItsSign
    rw [h_sg hov hv' hN hn, jn_eq]
    try dsimp only
    rw [jn_eq]
    try dsimp only
    rcases H2 v hv' with e | ⟨s, s1, e1, e2⟩
    · rw [if_pos e, gd_t (Or.inr rfl)]
    · rw [e1, if_neg (nI_pos (by omega)), h_sg hov hv' hN hn, e1, h_lf hov s1 hn, if_pos e2, gd_t (Or.inr rfl)]
  have cw : fm = 0 → ∀ v, v < N → FT_isCountWell h a (nI v) = some 1 := fun hfm v hv' => by
    obtain ⟨h1, h2⟩ := H3 hfm v hv'
    have tail : (gd (isO h a 3 = true) ((FT_isLeaf h a (nI v)).bind (fun r3 =>
      if r3 = 0 then
        (gd (isO h a 3 = true) ((FT_countAt h a (nI v)).bind (fun r8 =>
        gd (isO h a 3 = true) ((FT_childOf h a (nI v) 0).bind (fun r10 =>
        gd (isO h a 3 = true) ((FT_countAt h a r10).bind (fun r12 =>
        gd (isO h a 3 = true) ((FT_childOf h a (nI v) 1).bind (fun r14 =>
        gd (isO h a 3 = true) ((FT_countAt h a r14).bind (fun r16 =>
        if r8 = (r12 + r16) then
          (gd ((1 : Int32) = 0 ∨ (1 : Int32) = 1) (some 1))
        else
          (gd ((0 : Int32) = 0 ∨ (0 : Int32) = 1) (some (0 : Int32))))))))))))))
      else
        (gd ((1 : Int32) = 0 ∨ (1 : Int32) = 1) (some 1))))) = some 1 := by
      rw [gd_t ho, e_isLeaf hn hN hov hv', Option.bind_some]
      rcases h2 with e | ⟨x, y, e1, e2, x1, y1, e3⟩
      · rw [if_pos e, if_neg (by decide), gd_t (Or.inr rfl)]
      · rw [if_neg (show ¬ fs v = (-1) by rw [e1]; exact m1_nI (by omega)), if_pos rfl, h_cn hov hv' hN hn, h_fs hov hv' hN hn, e1, h_cn hov x1 hN hn, h_sn hov hv' hN hn, e2, h_cn hov y1 hN hn, if_pos e3, gd_t (Or.inr rfl)]
    unfold FT_isCountWell
    rw [jn_eq]
    try dsimp only
    by_cases z : v = 0
    · subst z
      rw [if_pos (by decide)]
      exact tail
    · obtain ⟨v', rfl⟩ : ∃ v', v = v' + 1 := ⟨v - 1, by omega⟩
      have h1' : cn (v' + 1) ≤ cn v' := by
        rcases h1 with e | e
        · omega
        · exact e
      rw [if_neg (show ¬ nI (v' + 1) ≤ 0 from fun e => nI_ge (a := 0) (b := v' + 1) (by omega) (by omega) e), h_cn hov hv' hN hn, nI_s1, h_cn hov (by omega) hN hn, if_pos h1']
      exact tail
  have l2 := like_loop (Bd := LT_isWell_53 h a (some 1) (some 0)) (K6 := some 1) (K7 := some 0) (E := fun _ => True) (N := n) (fun rec => by rw [LT_isWell_53.eq_1, gI_at hda rfl, if_pos (nI_le (Nat.le_refl _) (by omega))]) (fun rec s hs _ => by
    have hl := hasLeaf_ov (s := s) hov hs hn
    rw [LT_isWell_53.eq_1, gI_at hda rfl, if_neg (nI_ge hs (by omega)), gd_t ho, hl, Option.bind_some, jn_eq]
    try dsimp only
    rw [show nI s + 1 = nI (s + 1) from nI_add _ _]
    rcases H4 s hs with e | ⟨v, v1, e1, e2⟩
    · rw [if_pos e, if_pos rfl]
    · rw [e1, if_neg (m1_nI (by omega)), if_neg (by decide), h_lf hov hs hn, e1, h_sg hov v1 hN hn, if_pos e2]) (fun rec v _ e => absurd trivial e) n 0 fu (by omega) (by show n < 100000; omega)
  have l1 := like_loop (Bd := LT_isWell_2 h a (lpG (fun _ => none) fu (LT_isWell_53 h a (some 1) (some 0)) (nI 0)) (some 0) (some 0)) (K6 := lpG (fun _ => none) fu (LT_isWell_53 h a (some 1) (some 0)) (nI 0)) (K7 := some 0) (E := fun _ => True) (N := N) (fun rec => by rw [LT_isWell_2.eq_1, gI_at hda rfl, if_pos (nI_le (Nat.le_refl _) (by omega))]) (fun rec v hv' _ => by
    rw [LT_isWell_2.eq_1, gI_at hda rfl, if_neg (nI_ge hv' (by omega)), gd_t ho, ch v hv', Option.bind_some, if_neg (by decide), gd_t ho, ol v hv', Option.bind_some, if_neg (by decide), gI_at hda rfl, jn_eq]
    try dsimp only
    rw [show nI v + 1 = nI (v + 1) from nI_add _ _]
    by_cases z : fm = 0
    · rw [if_pos z, gd_t ho, cw z v hv', Option.bind_some, if_neg (by decide)]
    · rw [if_neg z]) (fun rec v _ e => absurd trivial e) N 0 fu (by omega) (by show N < 100000; omega)
  unfold FT_isWell
  rw [jn_eq]
  try dsimp only
  rw [jn_eq]
  try dsimp only
  rw [jn_eq]
  try dsimp only
  rw [jn_eq]
  try dsimp only
  rw [jn_eq]
  try dsimp only
  rw [gd_t (Or.inr rfl), gd_t (Or.inl rfl)]
  exact (l1.1 (fun _ _ _ => trivial)).trans (l2.1 (fun _ _ _ => trivial))
end WL1
