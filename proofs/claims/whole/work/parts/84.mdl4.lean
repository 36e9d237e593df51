/-! the model's HALVING, whole, and its step of a COUNTED tree -/
section MG
variable {M : Nat} {X : Nat → Int32} {h : Hp} {q m : Nat}
theorem MT_eq {A B : Nat → Nat → Int32} {c g o t : Nat → Nat} (hT : MT A q m c g o t) (hB : ∀ i, i ≠ 12 → i ≠ 13 → i ≠ 14 → B i = A i) : MT B q m c g o t := by
  unfold MT
  rw [hB 2 (by decide) (by decide) (by decide), hB 5 (by decide) (by decide) (by decide), hB 6 (by decide) (by decide) (by decide), hB 7 (by decide) (by decide) (by decide), hB 8 (by decide) (by decide) (by decide)]
  exact hT
theorem m_gather_loop {A : Nat → Nat → Int32} {c g o t : Nat → Nat} {K : Hp → Int32 → Option Hp} (hq : q < 12) (hm : m ≤ 64) (hT : MT A q m c g o t) (hcb : ∀ x, x < 2 * m + 1 → c x < 2 ^ 30 ∧ g x < 100) (hnl : nl g (2 * m + 1) ≤ 129) : ∀ (k x w : Nat) (B : Nat → Nat → Int32), x + k = 2 * m + 1 → k < w → (∀ i, i ≠ 12 → i ≠ 13 → i ≠ 14 → B i = A i) → (∀ z, z < nl g x → B 12 z = nI z ∧ B 13 z = nI ((c (rl g x z) + 1) / 2) ∧ B 14 z = sI (g (rl g x z))) →
    ∃ B' : Nat → Nat → Int32, lpG (fun _ _ _ => none) w (LM_halve_4 M (nI q) K) (om M X B h) (nI (nl g x)) (nI x) = K (om M X B' h) (nI (nl g (2 * m + 1))) ∧ (∀ i, i ≠ 12 → i ≠ 13 → i ≠ 14 → B' i = A i) ∧ (∀ z, z < nl g (2 * m + 1) → B' 12 z = nI z ∧ B' 13 z = nI ((c (rl g (2 * m + 1) z) + 1) / 2) ∧ B' 14 z = sI (g (rl g (2 * m + 1) z)))
  | k, x, 0, B, _, hw, _, _ => absurd hw (by omega)
  | 0, x, w + 1, B, hx, hw, hB, hI => by
    have e : x = 2 * m + 1 := by omega
    subst e
    have TB := MT_eq hT hB
    rw [lpG_s, LM_halve_4.eq_1, mr_ma, ml_ma hq, TB.1, if_pos (nI_le (Nat.le_refl _) (by omega))]
    exact ⟨B, rfl, hB, hI⟩
  | k + 1, x, w + 1, B, hx, hw, hB, hI => by
    have TB := MT_eq hT hB
    obtain ⟨b3, b4⟩ := hcb x (by omega)
    have mono : nl g (x + 1) ≤ nl g (2 * m + 1) := by
      have : ∀ d y, nl g y ≤ nl g (y + d) := fun d => by
        induction d with
        | zero => intro y; exact Nat.le_refl _
        | succ d ih => intro y; exact Nat.le_trans (ih y) (by show nl g (y + d) ≤ nl g (y + d + 1); rw [nl_s]; omega)
      have := this k (x + 1)
      rw [show x + 1 + k = 2 * m + 1 by omega] at this
      exact this
    rw [lpG_s, LM_halve_4.eq_1, mr_ma, ml_ma hq, TB.1, if_neg (nI_ge (show x < 2 * m + 1 by omega) (by omega)), gd_t o_om, m_signAt hq hm TB (show x < 2 * m + 1 by omega), Option.bind_some, jn_eq]
    try dsimp only
    by_cases e : g x = 0
    · rw [if_pos (by rw [e]; rfl), nI_1]
      have e1 : nl g (x + 1) = nl g x := by rw [nl_s, if_pos e]; rfl
      have e2 : ∀ z, rl g (x + 1) z = rl g x z := fun z => by rw [rl_s, if_pos e]
      have := m_gather_loop (K := K) hq hm hT hcb hnl k (x + 1) w B (by omega) (by omega) hB (fun z hz => by rw [e2]; exact hI z (by omega))
      rw [e1] at this
      exact this
    · rw [if_neg (fun z => e ((sI_m1 (by omega)).mp z))]
      have e1 : nl g (x + 1) = nl g x + 1 := by rw [nl_s, if_neg e]
      have e2 : ∀ z, rl g (x + 1) z = if z = nl g x then x else rl g x z := fun z => by rw [rl_s, if_neg e]
      have e3 : (nI (c x) + 1) / 2 = nI ((c x + 1) / 2) := by rw [nI_1]; exact pk_div (d := 2) (by omega) (by omega) (by omega)
      have h1 : ∀ i, i ≠ 12 → i ≠ 13 → i ≠ 14 → u2 B 13 (nl g x) (nI ((c x + 1) / 2)) i = A i := fun i i1 i2 i3 => by rw [u2_n i2]; exact hB i i1 i2 i3
      rw [mr_nc, gd_t o_om, m_countAt hq hm TB (show x < 2 * m + 1 by omega), Option.bind_some, gd_t (by decide), e3, ms_nc (by omega), mr_ns, gd_t o_om, m_signAt hq hm (MT_eq hT h1) (show x < 2 * m + 1 by omega), Option.bind_some, ms_ns (by omega), mr_pi, ms_pi (by omega), nI_1, nI_1, ← e1]
      refine m_gather_loop (K := K) hq hm hT hcb hnl k (x + 1) w _ (by omega) (by omega) (fun i i1 i2 i3 => by rw [u2_n i1, u2_n i3]; exact h1 i i1 i2 i3) (fun z hz => ?_)
      rw [e2]
      by_cases e4 : z = nl g x
      · subst e4
        rw [if_pos rfl, u2_hit, u2_at (by omega), u2_at (by omega), u2_hit, u2_at (by omega), u2_hit]
        exact ⟨rfl, rfl, rfl⟩
      · rw [if_neg e4, u2_at (by omega), u2_at (by omega), u2_at (by omega), u2_at (by omega), u2_at (by omega), u2_at (by omega), u2_at (by omega), u2_at (by omega), u2_at (by omega)]
        exact hI z (by omega)
theorem m_copy_loop {K : Hp → Option Hp} {N : Nat} (hq : q < 12) (hN : N ≤ 129) : ∀ (k x w : Nat) (A : Nat → Nat → Int32), x + k = N → k < w → A 2 q = nI N →
    ∃ A' : Nat → Nat → Int32, lpG (fun _ _ => none) w (LM_halve_281 M (nI q) K) (om M X A h) (nI x) = K (om M X A' h) ∧ (∀ i, i ≠ 6 → i ≠ 7 → A' i = A i) ∧ (∀ z, x ≤ z → z < N → A' 6 (129 * q + z) = A 13 z ∧ A' 7 (129 * q + z) = A 14 z) ∧ (∀ z, z < x → A' 6 (129 * q + z) = A 6 (129 * q + z) ∧ A' 7 (129 * q + z) = A 7 (129 * q + z)) ∧ fr q A A'
  | k, x, 0, A, _, hw, _ => absurd hw (by omega)
  | 0, x, w + 1, A, hx, hw, hA => by
    have e : x = N := by omega
    subst e
    rw [lpG_s, LM_halve_281.eq_1, mr_ma, ml_ma hq, hA, if_pos (nI_le (Nat.le_refl _) (by omega))]
    exact ⟨A, rfl, fun _ _ _ => rfl, fun z h1 h2 => absurd h2 (by omega), fun _ _ => ⟨rfl, rfl⟩, fr.refl⟩
  | k + 1, x, w + 1, A, hx, hw, hA => by
    rw [lpG_s, LM_halve_281.eq_1, mr_ma, ml_ma hq, hA, if_neg (nI_ge (show x < N by omega) (by omega)), mr_cn, mr_nc, ml_nc (by omega), ix, ms_cn (by omega), mr_sg, mr_ns, ml_ns (by omega), ms_sg (by omega), nI_1]
    have d : u2 A 6 (129 * q + x) (A 13 x) 14 x = A 14 x := u2_at (by omega)
    rw [d]
    obtain ⟨A', r1, r2, r3, r4, r5⟩ := m_copy_loop (K := K) hq hN k (x + 1) w (u2 (u2 A 6 (129 * q + x) (A 13 x)) 7 (129 * q + x) (A 14 x)) (by omega) (by omega) (by rw [u2_at (by omega), u2_at (by omega)]; exact hA)
    refine ⟨A', r1, fun i i1 i2 => by rw [r2 i i1 i2, u2_n i2, u2_n i1], fun z h1 h2 => ?_, fun z hz => ?_, ((fr.refl.st (by unfold fw; omega)).st (by unfold fw; omega)).trans r5⟩
    · rcases Nat.lt_or_ge x z with l | l
      · have := r3 z (by omega) h2
        rw [u2_at (by omega), u2_at (by omega), u2_at (by omega), u2_at (by omega)] at this
        exact this
      · have e : z = x := by omega
        subst e
        have := r4 z (by omega)
        rw [u2_at (by omega), u2_hit, u2_hit] at this
        exact this
    · have := r4 z (by omega)
      rw [u2_at (by omega), u2_at (by omega), u2_at (by omega), u2_at (by omega)] at this
      exact this
theorem m_halve {n B : Nat} {A : Nat → Nat → Int32} {c g o t : Nat → Nat} (hq : q < 12) (hn : n ≤ 64) (hC : CI n B m c g o) (hB : B < 2 ^ 28) (hT : MT A q m c g o t) :
    ∃ (A' : Nat → Nat → Int32) (t' : Nat → Nat), FM_halve (om M X A h) M (nI q) = some (om M X A' h) ∧ MT A' q m (hvT m c g o).1 (hvT m c g o).2.1 (hvT m c g o).2.2 t' ∧ fr q A A' ∧ A' 1 q = A 1 q ∧ A' 3 q = A 3 q + 1 := by
  obtain ⟨H0, hle, hN⟩ := HV_init hC
  have hm : m ≤ 64 := by have := hC.m_le; omega
  have hG := hC.2.1
  have hPI := hC.1
  have hB0 := hC.2.2.2
  obtain ⟨B1, g1, g2, g3⟩ := m_gather_loop (M := M) (X := X) (h := h) (K := fun (h1 : Hp) (x2 : Int32) =>
    gR h1 M 5 4 (fun a4 =>
    ldI h1 a4 0 (nI q) (fun x5 =>
    jn (fun (h6 : Hp) =>
    gR h6 M 5 7 (fun a8 =>
    gR h6 M 5 21 (fun a9 =>
    ldI h6 a9 0 0 (fun x10 =>
    stI h6 a8 0 (129 * nI q) x10 (fun h11 =>
    jn (fun (h12 : Hp) =>
    gR h12 M 5 5 (fun a14 =>
    ldI h12 a14 0 (nI q) (fun x15 =>
    stI h12 a14 0 (nI q) (x15 + 1) (fun h16 =>
    some h16))))
    (fun (K13 : Hp → Option Hp) =>
    lpG (fun _ _ => none) fu (LM_halve_281 M (nI q) K13) h11 0))))))
    (fun (K7 : Hp → Option Hp) =>
    lpG (fun _ _ _ _ => none) fu (LM_halve_80 M (nI q) K7) h1 x2 x2 (x5 - 1))))) hq hm hT (fun x hx => ⟨by have := hPI.bd hx; omega, by have := hG.lt hx; omega⟩) (by omega) (2 * m + 1) 0 fu A (by omega) (by show 2 * m + 1 < 100000; omega) (fun _ _ _ _ => rfl) (fun z hz => absurd hz (Nat.not_lt_zero _))
  have TB := MT_eq hT g2
  rw [hN] at g1 g3
  unfold FM_halve
  rw [jn_eq]
  try dsimp only
  rw [show nI (nl g 0) = (0 : Int32) from rfl, show nI 0 = (0 : Int32) from rfl] at g1
  rw [g1]
  try dsimp only
  rw [mr_ma, ml_ma hq, TB.1, jn_eq]
  try dsimp only
  have MH0 : MH B1 q m m (hvC c g m) (hvG g m) o (fun x => x) := by
    refine ⟨TB.1, fun x hx => (g3 x (by omega)).1, fun x x1 x2 => absurd x2 (by omega), fun x hx => ?_, fun x y _ _ e => e, fun k hk => ⟨k, Or.inl (by omega), rfl⟩, fun i i1 i2 => absurd i2 (by omega)⟩
    have : x ≤ m := by unfold Vs at hx; omega
    exact ⟨by show x < _; omega, (g3 x (by omega)).2.1, (g3 x (by omega)).2.2⟩
  obtain ⟨A2, e2, s1, s2, s3, s4⟩ := m_halve_loop (M := M) (X := X) (h := h) (K := fun (h6 : Hp) =>
    gR h6 M 5 7 (fun a8 =>
    gR h6 M 5 21 (fun a9 =>
    ldI h6 a9 0 0 (fun x10 =>
    stI h6 a8 0 (129 * nI q) x10 (fun h11 =>
    jn (fun (h12 : Hp) =>
    gR h12 M 5 5 (fun a14 =>
    ldI h12 a14 0 (nI q) (fun x15 =>
    stI h12 a14 0 (nI q) (x15 + 1) (fun h16 =>
    some h16))))
    (fun (K13 : Hp → Option Hp) =>
    lpG (fun _ _ => none) fu (LM_halve_281 M (nI q) K13) h11 0)))))) hq hm (show sm (m + 1) (hvC c g m) < 2 ^ 28 by omega) m fu _ _ _ _ B1 (Nat.le_refl _) (by show m < 100000; omega) H0 MH0
  have e1 : nI (2 * m + 1) - 1 = nI (2 * m) := nI_s1
  have e3 : 2 * m + 1 - m = m + 1 := by omega
  rw [e3] at s1
  rw [e1, s1]
  try dsimp only
  obtain ⟨m1, m2, m3, m4, m5, m6, m7⟩ := s2
  rw [mr_at, mr_pi, show (0 : Int32) = nI 0 from rfl, ml_pi (by omega), m2 0 (by omega), ix0, ms_at (by omega), jn_eq]
  try dsimp only
  obtain ⟨A4, c1, c2, c3, c4, c5⟩ := m_copy_loop (M := M) (X := X) (h := h) (N := 2 * m + 1) (K := fun (h12 : Hp) =>
    gR h12 M 5 5 (fun a14 =>
    ldI h12 a14 0 (nI q) (fun x15 =>
    stI h12 a14 0 (nI q) (x15 + 1) (fun h16 =>
    some h16)))) hq (by omega) (2 * m + 1) 0 fu (u2 A2 5 (129 * q) (nI (e2 0))) (by omega) (by show 2 * m + 1 < 100000; omega) (by rw [u2_at (by omega)]; exact m1)
  rw [c1]
  try dsimp only
  rw [mr_ha, ml_ha hq, ms_ha hq]
  have c2' : ∀ i l, i ≠ 6 → i ≠ 7 → A4 i l = u2 A2 5 (129 * q) (nI (e2 0)) i l := fun i l i1 i2 => by rw [c2 i i1 i2]
  have v0 : ∀ x, x < 2 * m + 1 → Vs m 0 x := fun x hx => by unfold Vs; omega
  have v1 : ∀ x, Vs m 0 x → x < 2 * m + 1 := fun x hx => by unfold Vs at hx; omega
  refine ⟨_, e2, rfl, ?_, ?_, ?_, ?_⟩
  · unfold hvT
    refine ⟨?_, fun p hp => ?_, fun p p' hp hp' e => m5 p p' (v0 _ hp) (v0 _ hp') e, fun k hk => ?_, fun k hk => ?_⟩
    · rw [u2_at (by omega), c2' 2 _ (by omega) (by omega), u2_at (by omega)]; exact m1
    · obtain ⟨x1, x2, x3⟩ := m4 p (v0 _ hp)
      have x1' : e2 p < 2 * m + 1 := by omega
      refine ⟨x1', ?_, ?_, ?_⟩
      · rw [u2_at (by omega), c2' 5 _ (by omega) (by omega)]
        rcases Nat.eq_zero_or_pos p with z | z
        · subst z; rw [Nat.add_zero, u2_hit]
        · rw [u2_at (by omega)]; exact m3 p (by omega) (by omega)
      · rw [u2_at (by omega), (c3 (e2 p) (by omega) x1').1, u2_at (by omega)]; exact x2
      · rw [u2_at (by omega), (c3 (e2 p) (by omega) x1').2, u2_at (by omega)]; exact x3
    · obtain ⟨x, x1, x2⟩ := m6 k (by omega)
      exact ⟨x, v1 _ x1, x2⟩
    · rw [u2_at (by omega), c2' 8 _ (by omega) (by omega), u2_at (by omega)]
      exact m7 k (by omega) hk
  · refine fr.st (fr.trans (fr.trans ?_ s3) ((fr.refl.st (by unfold fw; omega)).trans c5)) (by unfold fw; omega)
    refine ⟨fun j hj => ?_, fun j hj => ?_, fun j hj => ?_, g2 4 (by decide) (by decide) (by decide), g2 11 (by decide) (by decide) (by decide)⟩
    · rw [g2 1 (by decide) (by decide) (by decide), g2 2 (by decide) (by decide) (by decide), g2 3 (by decide) (by decide) (by decide)]; exact ⟨rfl, rfl, rfl⟩
    · rw [g2 5 (by decide) (by decide) (by decide), g2 6 (by decide) (by decide) (by decide), g2 7 (by decide) (by decide) (by decide), g2 9 (by decide) (by decide) (by decide), g2 10 (by decide) (by decide) (by decide)]; exact ⟨rfl, rfl, rfl, rfl, rfl⟩
    · rw [g2 8 (by decide) (by decide) (by decide)]
  · rw [u2_at (by omega), c2' 1 _ (by omega) (by omega), u2_at (by omega), s4.1, g2 1 (by decide) (by decide) (by decide)]
  · rw [u2_hit, c2' 3 _ (by omega) (by omega), u2_at (by omega), s4.2, g2 3 (by decide) (by decide) (by decide)]
end MG
