/-! A TREE IS COPIED: save and restore -/
theorem cpy0 {f g : Nat → Int32} {n j : Nat} (h : j < n) : va_cpy f g 0 0 n j = f j := by
  unfold va_cpy
  rw [if_pos ⟨Nat.zero_le _, by omega⟩, Nat.sub_zero, Nat.zero_add]
theorem cpI_at {β : Type} {h : Hp} {a1 a2 m1 m2 N : Nat} {f g : Nat → Int32} {K : Hp → Option β} (e1 : h a1 = some (.inl (0, m1, .inl f))) (e2 : h a2 = some (.inl (0, m2, .inl g))) (h1 : N ≤ m1) (h2 : N ≤ m2) (hm : N < 2 ^ 31) : cpI h a1 0 0 a2 0 (nI N) K = K (va_up h a2 (some (.inl (0, m2, .inl (va_cpy f g 0 0 N))))) := by
  have hN : (nI N).toInt = N := nI_toInt hm
  have hc : (nI N).toNatClampNeg = N := nI_clamp hm
  simp only [cpI, gA, e1, e2, if_true]
  rw [if_pos (by rw [hN]; refine ⟨⟨⟨by decide, by decide⟩, by omega⟩, ?_, ?_⟩ <;> (rw [show (0 : Int32).toInt = 0 from rfl]; omega)), hc]
  rfl
theorem CT.cong {n m : Nat} {c g o : Nat → Nat} {es : Int32} {cn sg pa fs sn lf cn' sg' pa' fs' sn' lf' : Nat → Int32} (hG : GI n m g o) (hT : CT n m c g o es cn sg pa fs sn lf) (hc : ∀ j, j < 2 * m + 1 → cn' j = cn j ∧ sg' j = sg j ∧ pa' j = pa j ∧ fs' j = fs j ∧ sn' j = sn j) (hl : ∀ s, s < n → lf' s = lf s) : CT n m c g o es cn' sg' pa' fs' sn' lf' := by
  obtain ⟨t1, t2, t3⟩ := hT
  refine ⟨fun x hx => ?_, ?_, fun s hs hn => by rw [hl s hs]; exact t3 s hs hn⟩
  · obtain ⟨a1, a2, a3, a4, a5, a6⟩ := t1 x hx
    obtain ⟨c1, c2, c3, c4, c5⟩ := hc x hx
    refine ⟨by rw [c1]; exact a1, by rw [c2]; exact a2, fun j hj hx' => ?_, fun hg => by rw [c4, c5]; exact a4 hg, a5, fun s hs => ?_⟩
    · rw [c4, c5, (hc (2 * j + 1) (by omega)).2.2.1, (hc (2 * j + 2) (by omega)).2.2.1]
      exact a3 j hj hx'
    · have := hG.lt hx
      rw [hl s (by omega)]; exact a6 s hs
  · rw [(hc 0 (by omega)).2.2.1]; exact t2
theorem CS.cong {n : Nat} {u d : Nat → Nat} {cn sg pa fs sn lf cn' sg' pa' fs' sn' lf' : Nat → Int32} (hn : 1 ≤ n) (hS : SI n u d) (hT : CS n u d cn sg pa fs sn lf) (hc : ∀ j, j < 2 * n - 1 → cn' j = cn j ∧ sg' j = sg j ∧ pa' j = pa j ∧ fs' j = fs j ∧ sn' j = sn j) (hl : ∀ s, s < n → lf' s = lf s) : CS n u d cn' sg' pa' fs' sn' lf' := by
  obtain ⟨t1, t2, t3, t4, t5⟩ := hT
  refine ⟨fun k hk => ?_, ?_, fun k k0 hk => ?_, fun k k1 k2 => ?_, fun s hs => by rw [hl s hs]; exact t5 s hs⟩
  · rw [(hc k hk).1, (hc k hk).2.1]; exact t1 k hk
  · rw [(hc 0 (by omega)).2.2.1]; exact t2
  · have := (hS.1 k k0 hk).1
    rw [(hc k hk).2.2.1, (hc (u k) (by omega)).2.2.2.1, (hc (u k) (by omega)).2.2.2.2]
    exact t3 k k0 hk
  · rw [(hc k k2).2.2.2.1, (hc k k2).2.2.2.2]; exact t4 k k1 k2
theorem e_becomeLike {n P a b N : Nat} {fm es hv fm' sz' es' hv' : Int32} {cn sg pa fs sn lf cn' sg' pa' fs' sn' lf' : Nat → Int32} {h : Hp} (hn : n ≤ 64) (hN : N ≤ 2 * n + 1) (hb : ov n P b fm (nI N) es hv cn sg pa fs sn lf h = h) (ha : ov n P a fm' sz' es' hv' cn' sg' pa' fs' sn' lf' h = h) (hd : a + 6 < b ∨ b + 6 < a) : FT_becomeLike h a b = some (ov n P a fm (nI N) es hv (va_cpy cn cn' 0 0 N) (va_cpy sg sg' 0 0 N) (va_cpy pa pa' 0 0 N) (va_cpy fs fs' 0 0 N) (va_cpy sn sn' 0 0 N) (va_cpy lf lf' 0 0 n) h) := by
  have hhd := ov_hd hb
  have k1 : h (b + 1) = some (.inl (0, 2 * n + 1, .inl cn)) := by rw [← hb, ov_cn]
  have k2 : h (b + 2) = some (.inl (0, 2 * n + 1, .inl sg)) := by rw [← hb, ov_sg]
  have k3 : h (b + 3) = some (.inl (0, 2 * n + 1, .inl pa)) := by rw [← hb, ov_pa]
  have k4 : h (b + 4) = some (.inl (0, 2 * n + 1, .inl fs)) := by rw [← hb, ov_fs]
  have k5 : h (b + 5) = some (.inl (0, 2 * n + 1, .inl sn)) := by rw [← hb, ov_sn]
  have k6 : h (b + 6) = some (.inl (0, n, .inl lf)) := by rw [← hb, ov_lf]
  have e0 : FT_becomeLike h a b = FT_becomeLike (ov n P a fm' sz' es' hv' cn' sg' pa' fs' sn' lf' h) a b := by rw [ha]
  rw [e0]
  unfold FT_becomeLike
  rw [gI_out (by omega), gI_at hhd rfl, r_sg, al_sg, jn_eq]
  try dsimp only
  rw [if_neg (nI_nlt hN (by omega)), gI_out (by omega), gI_at hhd rfl, i_n, if_pos rfl]
  rw [gI_out (by omega), gI_at hhd rfl, p_fm, gI_out (by omega), gI_at hhd rfl, p_sz, gI_out (by omega), gI_at hhd rfl, p_es, gI_out (by omega), gI_at hhd rfl, p_hv]
  rw [gR_out (by omega), gR_at hhd rfl, r_cn, i_sz, cpI_at (by rw [ov_out (by omega)]; exact k1) ov_cn hN hN (by omega), up_cn]
  rw [gR_out (by omega), gR_at hhd rfl, r_sg, i_sz, cpI_at (by rw [ov_out (by omega)]; exact k2) ov_sg hN hN (by omega), up_sg]
  rw [gR_out (by omega), gR_at hhd rfl, r_pa, i_sz, cpI_at (by rw [ov_out (by omega)]; exact k3) ov_pa hN hN (by omega), up_pa]
  rw [gR_out (by omega), gR_at hhd rfl, r_fs, i_sz, cpI_at (by rw [ov_out (by omega)]; exact k4) ov_fs hN hN (by omega), up_fs]
  rw [gR_out (by omega), gR_at hhd rfl, r_sn, i_sz, cpI_at (by rw [ov_out (by omega)]; exact k5) ov_sn hN hN (by omega), up_sn]
  rw [gR_out (by omega), gR_at hhd rfl, r_lf, i_n, cpI_at (by rw [ov_out (by omega)]; exact k6) ov_lf (Nat.le_refl _) (Nat.le_refl _) (by omega), up_lf]
/-! the model's copy -/
section MC
variable {M q1 q2 : Nat} {X : Nat → Int32}
theorem m_copy_a (hq1 : q1 < 12) (hq2 : q2 < 12) (hne : q1 ≠ q2) : ∀ (k i w : Nat) (A : Nat → Nat → Int32), i + k = 129 → k < w →
    ∃ A' : Nat → Nat → Int32, (∀ (h : Hp) (K : Hp → Option Hp), lpG (fun _ _ => none) w (LM_copy_38 M (nI q1) (nI q2) K) (om M X A h) (nI i) = K (om M X A' h)) ∧ fr q2 A A' ∧ A' 1 = A 1 ∧ A' 2 = A 2 ∧ A' 3 = A 3 ∧ A' 8 = A 8 ∧ (∀ j, j < i → A' 5 (129 * q2 + j) = A 5 (129 * q2 + j) ∧ A' 6 (129 * q2 + j) = A 6 (129 * q2 + j) ∧ A' 7 (129 * q2 + j) = A 7 (129 * q2 + j) ∧ A' 9 (129 * q2 + j) = A 9 (129 * q2 + j) ∧ A' 10 (129 * q2 + j) = A 10 (129 * q2 + j)) ∧ ∀ j, i ≤ j → j < 129 → A' 5 (129 * q2 + j) = A 5 (129 * q1 + j) ∧ A' 6 (129 * q2 + j) = A 6 (129 * q1 + j) ∧ A' 7 (129 * q2 + j) = A 7 (129 * q1 + j) ∧ A' 9 (129 * q2 + j) = A 9 (129 * q1 + j) ∧ A' 10 (129 * q2 + j) = vp_nar .boolean (A 10 (129 * q1 + j))
  | 0, i, w, A, hk, hw => by
    obtain ⟨w', rfl⟩ : ∃ w', w = w' + 1 := ⟨w - 1, by omega⟩
    have hi : i = 129 := by omega
    subst hi
    refine ⟨A, fun h K => ?_, fr.refl, rfl, rfl, rfl, rfl, fun _ _ => ⟨rfl, rfl, rfl, rfl, rfl⟩, fun j _ _ => by omega⟩
    rw [lpG_s, LM_copy_38.eq_1, if_pos (by decide)]
  | k + 1, i, w, A, hk, hw => by
    obtain ⟨w', rfl⟩ : ∃ w', w = w' + 1 := ⟨w - 1, by omega⟩
    have hi : i < 129 := by omega
    obtain ⟨A1, hA1⟩ : ∃ A1, A1 = u2 (u2 (u2 (u2 (u2 A 5 (129 * q2 + i) (A 5 (129 * q1 + i))) 6 (129 * q2 + i) (A 6 (129 * q1 + i))) 7 (129 * q2 + i) (A 7 (129 * q1 + i))) 9 (129 * q2 + i) (A 9 (129 * q1 + i))) 10 (129 * q2 + i) (vp_nar .boolean (A 10 (129 * q1 + i))) := ⟨_, rfl⟩
    have hne1 : ∀ r l, l ≠ 129 * q2 + i → A1 r l = A r l := fun r l hl => by
      rw [hA1, u2_at (Or.inr hl), u2_at (Or.inr hl), u2_at (Or.inr hl), u2_at (Or.inr hl), u2_at (Or.inr hl)]
    have f1 : fr q2 A A1 := by
      rw [hA1]
      refine fr.st (fr.st (fr.st (fr.st (fr.st fr.refl ?_) ?_) ?_) ?_) ?_ <;> exact ⟨by omega, fun _ => by omega, by omega, by omega, by omega⟩
    obtain ⟨A', d1, d2, d3, d4, d5, d6, d7, d8⟩ := m_copy_a hq1 hq2 hne k (i + 1) w' A1 (by omega) (by omega)
    have g5 : A1 5 (129 * q2 + i) = A 5 (129 * q1 + i) := by rw [hA1]; show upd _ _ _ _ = _; exact updS
    have g6 : A1 6 (129 * q2 + i) = A 6 (129 * q1 + i) := by rw [hA1]; show upd _ _ _ _ = _; exact updS
    have g7 : A1 7 (129 * q2 + i) = A 7 (129 * q1 + i) := by rw [hA1]; show upd _ _ _ _ = _; exact updS
    have g9 : A1 9 (129 * q2 + i) = A 9 (129 * q1 + i) := by rw [hA1]; show upd _ _ _ _ = _; exact updS
    have g10 : A1 10 (129 * q2 + i) = vp_nar .boolean (A 10 (129 * q1 + i)) := by rw [hA1]; show upd _ _ _ _ = _; exact updS
    refine ⟨A', fun h K => ?_, f1.trans d2, by rw [d3, hA1]; rfl, by rw [d4, hA1]; rfl, by rw [d5, hA1]; rfl, by rw [d6, hA1]; rfl, fun j hj => ?_, fun j j1 j2 => ?_⟩
    · rw [lpG_s, LM_copy_38.eq_1, if_neg (by rw [show (129 : Int32) = nI 129 from rfl]; exact nI_ge hi (by omega)), mr_at, mr_at, ix, ml_at (by omega), ix, ms_at (by omega), mr_cn, mr_cn, ml_cn (by omega), ms_cn (by omega), mr_sg, mr_sg, ml_sg (by omega), ms_sg (by omega), mr_up, mr_up, ml_up (by omega), ms_up (by omega), mr_se, mr_se, ml_se (by omega), ms_se (by omega), show nI i + 1 = nI (i + 1) from nI_add _ _]
      rw [← d1 h K, hA1]
      rfl
    · have := d7 j (by omega)
      rw [hne1 5 _ (by omega), hne1 6 _ (by omega), hne1 7 _ (by omega), hne1 9 _ (by omega), hne1 10 _ (by omega)] at this
      exact this
    · by_cases z : j = i
      · subst z
        have := d7 j (by omega)
        rw [g5, g6, g7, g9, g10] at this
        exact this
      · have := d8 j (by omega) j2
        rw [hne1 5 _ (by omega), hne1 6 _ (by omega), hne1 7 _ (by omega), hne1 9 _ (by omega), hne1 10 _ (by omega)] at this
        exact this
theorem m_copy_b (hq1 : q1 < 12) (hq2 : q2 < 12) (hne : q1 ≠ q2) : ∀ (k i w : Nat) (A : Nat → Nat → Int32), i + k = 64 → k < w →
    ∃ A' : Nat → Nat → Int32, (∀ (h : Hp) (K : Hp → Option Hp), lpG (fun _ _ => none) w (LM_copy_173 M (nI q1) (nI q2) K) (om M X A h) (nI i) = K (om M X A' h)) ∧ fr q2 A A' ∧ (∀ r, r ≠ 8 → A' r = A r) ∧ (∀ j, j < i → A' 8 (64 * q2 + j) = A 8 (64 * q2 + j)) ∧ ∀ j, i ≤ j → j < 64 → A' 8 (64 * q2 + j) = A 8 (64 * q1 + j)
  | 0, i, w, A, hk, hw => by
    obtain ⟨w', rfl⟩ : ∃ w', w = w' + 1 := ⟨w - 1, by omega⟩
    have hi : i = 64 := by omega
    subst hi
    refine ⟨A, fun h K => ?_, fr.refl, fun _ _ => rfl, fun _ _ => rfl, fun j _ _ => by omega⟩
    rw [lpG_s, LM_copy_173.eq_1, if_pos (by decide)]
  | k + 1, i, w, A, hk, hw => by
    obtain ⟨w', rfl⟩ : ∃ w', w = w' + 1 := ⟨w - 1, by omega⟩
    have hi : i < 64 := by omega
    obtain ⟨A', d1, d2, d3, d4, d5⟩ := m_copy_b hq1 hq2 hne k (i + 1) w' (u2 A 8 (64 * q2 + i) (A 8 (64 * q1 + i))) (by omega) (by omega)
    refine ⟨A', fun h K => ?_, (fr.st fr.refl ⟨by omega, by omega, fun _ => by omega, by omega, by omega⟩).trans d2, fun r hr => by rw [d3 r hr, u2_n hr], fun j hj => ?_, fun j j1 j2 => ?_⟩
    · rw [lpG_s, LM_copy_173.eq_1, if_neg (by rw [show (64 : Int32) = nI 64 from rfl]; exact nI_ge hi (by omega)), mr_ow, mr_ow, iw, ml_ow (by omega), iw, ms_ow (by omega), show nI i + 1 = nI (i + 1) from nI_add _ _, d1]
    · rw [d4 j (by omega), u2_at (Or.inr (by omega))]
    · by_cases z : j = i
      · subst z
        rw [d4 j (by omega), u2_e]; exact updS
      · rw [d5 j (by omega) j2, u2_at (Or.inr (by omega))]
theorem m_copy {A : Nat → Nat → Int32} (hq1 : q1 < 12) (hq2 : q2 < 12) (hne : q1 ≠ q2) : ∃ A' : Nat → Nat → Int32, (∀ h, FM_copy (om M X A h) M (nI q1) (nI q2) = some (om M X A' h)) ∧ fr q2 A A' ∧ A' 1 q2 = A 1 q1 ∧ A' 2 q2 = A 2 q1 ∧ A' 3 q2 = A 3 q1 ∧ (∀ j, j < 129 → A' 5 (129 * q2 + j) = A 5 (129 * q1 + j) ∧ A' 6 (129 * q2 + j) = A 6 (129 * q1 + j) ∧ A' 7 (129 * q2 + j) = A 7 (129 * q1 + j) ∧ A' 9 (129 * q2 + j) = A 9 (129 * q1 + j) ∧ A' 10 (129 * q2 + j) = vp_nar .boolean (A 10 (129 * q1 + j))) ∧ ∀ j, j < 64 → A' 8 (64 * q2 + j) = A 8 (64 * q1 + j) := by
  obtain ⟨A1, hA1⟩ : ∃ A1, A1 = u2 (u2 (u2 A 1 q2 (A 1 q1)) 2 q2 (A 2 q1)) 3 q2 (A 3 q1) := ⟨_, rfl⟩
  have f1 : fr q2 A A1 := by
    rw [hA1]
    refine fr.st (fr.st (fr.st fr.refl ?_) ?_) ?_ <;> exact ⟨fun _ => rfl, by omega, by omega, by omega, by omega⟩
  obtain ⟨A2, d1, d2, d3, d4, d5, d6, d7, d8⟩ := m_copy_a (M := M) (X := X) hq1 hq2 hne 129 0 fu A1 (by omega) (by show 129 < 100000; omega)
  obtain ⟨A3, e1, e2, e3, e4, e5⟩ := m_copy_b (M := M) (X := X) hq1 hq2 hne 64 0 fu A2 (by omega) (by show 64 < 100000; omega)
  refine ⟨A3, fun h => ?_, (f1.trans d2).trans e2, ?_, ?_, ?_, fun j hj => ?_, fun j hj => ?_⟩
  · unfold FM_copy
    rw [mr_fo, mr_fo, ml_fo hq1, ms_fo hq2, mr_ma, mr_ma, ml_ma hq1, ms_ma hq2, mr_ha, mr_ha, ml_ha hq1, ms_ha hq2, jn_eq]
    try dsimp only
    have := d1 h (fun h13 => jn (fun (h15 : Hp) => some h15) (fun (K16 : Hp → Option Hp) => lpG (fun _ _ => none) fu (LM_copy_173 M (nI q1) (nI q2) K16) h13 0))
    rw [hA1] at this
    refine Eq.trans this ?_
    rw [jn_eq]
    exact e1 h _
  · rw [e3 1 (by decide), d3, hA1]; show upd _ _ _ _ = _; exact updS
  · rw [e3 2 (by decide), d4, hA1]; show upd _ _ _ _ = _; exact updS
  · rw [e3 3 (by decide), d5, hA1]; show upd _ _ _ _ = _; exact updS
  · have := d8 j (by omega) hj
    rw [e3 5 (by decide), e3 6 (by decide), e3 7 (by decide), e3 9 (by decide), e3 10 (by decide)]
    rw [hA1] at this
    exact this
  · rw [e5 j (by omega) hj, d6, hA1]; rfl
end MC
