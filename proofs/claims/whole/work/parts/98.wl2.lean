section WL2
variable {M q : Nat} {X : Nat → Int32} {A : Nat → Nat → Int32} {h : Hp}
/-- no earlier leaf has the sign of the place i -/
theorem m_wc_in {n m : Nat} {c g o t : Nat → Nat} {i : Nat} {K : Int32 → Option Int32} (hq : q < 12) (hn : n ≤ 64) (hm : m ≤ 64) (hG : GI n m g o) (hT : MT A q m c g o t) (hi : i < 2 * m + 1) : ∀ (k j w : Nat), j + k = i → k < w → lpG (fun _ _ => none) w (LM_isWellCounted_227 (om M X A h) M (nI q) (nI i) K) 1 (nI j) = K 1
  | 0, j, w, hk, hw => by
    obtain ⟨w', rfl⟩ : ∃ w', w = w' + 1 := ⟨w - 1, by omega⟩
    rw [lpG_s, LM_isWellCounted_227.eq_1, if_pos (nI_le (by omega) (by omega))]
  | k + 1, j, w, hk, hw => by
    obtain ⟨w', rfl⟩ : ∃ w', w = w' + 1 := ⟨w - 1, by omega⟩
    have ih := m_wc_in (K := K) hq hn hm hG hT hi k (j + 1) w' (by omega) (by omega)
    have g1 := hG.lt hi
    have g2 := hG.lt (show j < 2 * m + 1 by omega)
    rw [lpG_s, LM_isWellCounted_227.eq_1, if_neg (nI_ge (by omega) (by omega)), jn_eq]
    try dsimp only
    rw [jn_eq]
    try dsimp only
    rw [if_neg (by decide), gd_t o_om, m_signAt hq hm hT hi, Option.bind_some, jn_eq]
    try dsimp only
    rw [show nI j + 1 = nI (j + 1) from nI_add _ _]
    by_cases z : sI (g i) = (-1)
    · rw [if_pos z]; exact ih
    · rw [if_neg z, gd_t o_om, m_signAt hq hm hT (by omega), Option.bind_some, gd_t o_om, Option.bind_some, if_neg ?_]
      · exact ih
      · intro e
        have e2 := (sI_inj (by omega) (by omega)).mp e
        have hz : g j ≠ 0 := fun y => z (by rw [← e2, y]; rfl)
        have := hG.2.2.2 j i (by omega) hi e2 hz
        omega
theorem m_wc_loop {n m : Nat} {c g o t : Nat → Nat} {K : Int32 → Int32 → Option Int32} (hq : q < 12) (hn : n ≤ 64) (hm : m ≤ 64) (hP : PI m c o (2 * m + 1)) (hc0 : c 0 < 2 ^ 29) (hG : GI n m g o) (hT : MT A q m c g o t) : ∀ (k i w : Nat), i + k = 2 * m + 1 → k < w → lpG (fun _ _ _ => none) w (LM_isWellCounted_24 (om M X A h) M (nI q) K) 1 (nI (nl g i)) (nI i) = K 1 (nI (nl g (2 * m + 1)))
  | 0, i, w, hk, hw => by
    obtain ⟨w', rfl⟩ : ∃ w', w = w' + 1 := ⟨w - 1, by omega⟩
    have : i = 2 * m + 1 := by omega
    subst this
    rw [lpG_s, LM_isWellCounted_24.eq_1, mr_ma, ml_ma hq, hT.1, if_pos (nI_le (Nat.le_refl _) (by omega))]
  | k + 1, i, w, hk, hw => by
    obtain ⟨w', rfl⟩ : ∃ w', w = w' + 1 := ⟨w - 1, by omega⟩
    have hi : i < 2 * m + 1 := by omega
    have ho := hP.1
    have ho' : ∀ k, k < m → o k < 2 * m + 1 := fun k hk => by have := ho k hk; omega
    have ih := m_wc_loop (K := K) hq hn hm hP hc0 hG hT k (i + 1) w' (by omega) (by omega)
    have hcb : ∀ v, v < 2 * m + 1 → c v < 2 ^ 30 := fun v hv => by have := hP.bd hv; omega
    have hin := m_wc_in (M := M) (X := X) (h := h) (K := fun x30 => lpG (fun _ _ _ => none) w' (LM_isWellCounted_24 (om M X A h) M (nI q) K) x30 (nI (nl g (i + 1))) (nI (i + 1))) hq hn hm hG hT hi i 0 fu (by omega) (by show i < 100000; omega)
    have hpl := m_placeOf (M := M) (X := X) (h := h) (p := i) hq hm hT hi
    have hat : A 5 (129 * q + i) = nI (t i) := (hT.2.1 i hi).2.1
    -- sorted
    have hs : i ≠ 0 → ¬ nI (c (i - 1)) < nI (c i) := fun z e => by
      have := hP.2.2.2.1 (i - 1) i (by omega) hi
      have hle : c i ≤ c (i - 1) := by
        rcases this with y | ⟨y, _⟩
        · exact y
        · omega
      exact nI_nlt hle (by have := hcb (i - 1) (by omega); omega) e
    have fin : lpG (fun _ _ => none) fu (LM_isWellCounted_227 (om M X A h) M (nI q) (nI i) (fun x30 => lpG (fun _ _ _ => none) w' (LM_isWellCounted_24 (om M X A h) M (nI q) K) x30 (nI (nl g (i + 1))) (nI (i + 1)))) 1 0 = K 1 (nI (nl g (2 * m + 1))) := by
      refine Eq.trans hin ?_
      exact ih
    -- from the place's own test on
    rw [lpG_s, LM_isWellCounted_24.eq_1, mr_ma, ml_ma hq, hT.1, if_neg (nI_ge hi (by omega))]
    simp only [jn_eq]
    rw [show nI i + 1 = nI (i + 1) from nI_add _ _]
    have first : ∀ T U : Option Int32, (if (1 : Int32) = 0 then T else if nI i = 0 then U else gd (isO (om M X A h) M 5 = true) ((FM_countAt (om M X A h) M (nI q) (nI i)).bind (fun r73 => gd (isO (om M X A h) M 5 = true) ((FM_countAt (om M X A h) M (nI q) (nI i - 1)).bind (fun r75 => if r75 < r73 then T else U))))) = U := by
      intro T U
      rw [if_neg (by decide)]
      by_cases z : i = 0
      · subst z; rw [if_pos nI_0]
      · rw [if_neg (nI_ne0 (by omega) (by omega)), gd_t o_om, m_countAt hq hm hT hi, Option.bind_some, gd_t o_om, show nI i - 1 = nI (i - 1) from pk_sub (a := i) (b := 1) (by omega), m_countAt hq hm hT (by omega), Option.bind_some, if_neg (hs z)]
    rw [first, gd_t o_om]
    by_cases z : g i = 0
    · obtain ⟨k0, k1, k2⟩ := (hG.1 i hi).mp z
      have hsum := hP.2.2.1 k0 k1
      rw [k2, if_neg (by omega), Nat.add_zero] at hsum
      have hnl : nl g (i + 1) = nl g i := by rw [nl_s, if_pos z]; omega
      rw [m_below hq hm hT hi ho hP.2.1 k1 k2, Option.bind_some, if_neg (m1_nI (by omega)), if_neg (by decide), if_neg (m1_nI (by omega)), gd_t o_om, m_signAt hq hm hT hi, Option.bind_some, z, if_pos (by rfl), if_pos trivial, mr_at, ix, ml_at (by omega), hat, gd_t o_om, hpl, Option.bind_some, if_pos rfl, if_neg (m1_nI (by omega)), if_neg (by decide), gd_t o_om, m_countAt hq hm hT hi, Option.bind_some, gd_t o_om, m_countAt hq hm hT (by omega), Option.bind_some, gd_t o_om, show nI (2 * k0 + 1) + 1 = nI (2 * k0 + 2) from nI_add _ _, m_countAt hq hm hT (by omega), Option.bind_some, nI_add, hsum, if_pos rfl, gd_t o_om, m_above hq hm hT ho' (by omega) (by omega), Option.bind_some, show (2 * k0 + 1 - 1) / 2 = k0 by omega, k2, if_pos rfl, gd_t o_om, m_above hq hm hT ho' (by omega) (by omega), Option.bind_some, show (2 * k0 + 2 - 1) / 2 = k0 by omega, k2, if_pos rfl]
      rw [hnl] at fin
      rw [show nI (nl g i) + 0 = nI (nl g i) from by rw [show (0 : Int32) = nI 0 from rfl, nI_add]; rfl]
      exact fin
    · have hgl := hG.lt hi
      have hnl : nl g (i + 1) = nl g i + 1 := by rw [nl_s, if_neg z]
      have hsn : ¬ sI (g i) = (-1) := fun e => z ((sI_m1 (by omega)).mp e)
      rw [m_below_no hq hm hT hi ho (fun k k1 k2 => z ((hG.1 i hi).mpr ⟨k, k1, k2⟩)), Option.bind_some, if_pos rfl, if_neg (by decide), if_pos rfl, gd_t o_om, m_signAt hq hm hT hi, Option.bind_some, if_neg hsn, if_pos rfl, mr_at, ix, ml_at (by omega), hat, gd_t o_om, hpl, Option.bind_some, if_pos rfl, if_pos rfl]
      rw [hnl] at fin
      rw [show nI (nl g i) + 1 = nI (nl g i + 1) from nI_add _ _]
      exact fin
end WL2
