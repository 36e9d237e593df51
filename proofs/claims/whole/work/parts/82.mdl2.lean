/-! the walk up in the model's COUNTED tree -/
theorem u2_hit {A : Nat → Nat → Int32} {i j : Nat} {v : Int32} : u2 A i j v i j = v := by rw [u2_e, updE]
theorem nI_pm {k : Nat} : nI k + (-1) = nI k - 1 := (Int32.sub_eq_add_neg _ _).symm
def fk (q : Nat) (A A' : Nat → Nat → Int32) : Prop := A' 1 q = A 1 q ∧ A' 3 q = A 3 q
theorem fk.refl {q : Nat} {A : Nat → Nat → Int32} : fk q A A := ⟨rfl, rfl⟩
theorem fk.trans {q : Nat} {A B C : Nat → Nat → Int32} (h1 : fk q A B) (h2 : fk q B C) : fk q A C := ⟨h2.1.trans h1.1, h2.2.trans h1.2⟩
theorem fk.st {q : Nat} {A B : Nat → Nat → Int32} (h : fk q A B) {i j : Nat} {v : Int32} (hi : i ≠ 1 ∧ i ≠ 3) : fk q A (u2 B i j v) := ⟨by rw [u2_at (Or.inl (Ne.symm hi.1))]; exact h.1, by rw [u2_at (Or.inl (Ne.symm hi.2))]; exact h.2⟩
section MC
variable {M : Nat} {X : Nat → Int32} {h : Hp} {q m : Nat}
theorem m_least_loop {A : Nat → Nat → Int32} {c g o t : Nat → Nat} {K : Int32 → Option Hp} {p q' : Nat} {r : Int32} (hq : q < 12) (hm : m ≤ 64) (hT : MT A q m c g o t) (hp : p < 2 * m + 1) (hcb : ∀ j, j < 2 * m + 1 → c j < 2 ^ 30) (hr : 0 < p → r = nI q' ∧ q' < 1000) : ∀ (k w : Nat), k ≤ p → k < w → lpG (fun _ _ => none) w (LM_counts_108 M (nI q) (om M X A h) (nI p) r K) (nI (lsN c q' p k (p - k))) (nI k - 1) = K (nI (lsN c q' p 0 p))
  | k, 0, _, hw => absurd hw (by omega)
  | 0, w + 1, hk, hw => by
    rw [lpG_s, LM_counts_108.eq_1, if_pos (by decide), Nat.sub_zero]
  | k + 1, w + 1, hk, hw => by
    have ih := m_least_loop (K := K) hq hm hT hp hcb hr k w (by omega) (by omega)
    rw [lpG_s, LM_counts_108.eq_1, nI_s1, if_neg (nI_pos (by omega)), jn_eq]
    try dsimp only
    rw [jn_eq]
    try dsimp only
    obtain ⟨hr1, hr2⟩ := hr (by omega)
    have es : lsN c q' p k (p - k) = if c k = c p ∧ ¬ k = q' then k else lsN c q' p (k + 1) (p - (k + 1)) := by
      have : p - k = (p - (k + 1)) + 1 := by omega
      rw [this, lsN_s]
    rw [nI_pm, hr1]
    rw [hr1] at ih
    by_cases e1 : k = q'
    · rw [if_pos (by rw [e1]), ← ih, es, if_neg (fun z => z.2 e1)]
    · rw [if_neg (by rw [nI_eq (by omega) (by omega)]; exact e1), gd_t o_om, m_countAt hq hm hT (show k < 2 * m + 1 by omega), Option.bind_some, gd_t o_om, m_countAt hq hm hT hp, Option.bind_some]
      have b1 := hcb k (by omega)
      have b2 := hcb p hp
      by_cases e2 : c k = c p
      · rw [if_pos (by rw [e2]), ← ih, es, if_pos ⟨e2, e1⟩]
      · rw [if_neg (by rw [nI_eq (by omega) (by omega)]; exact e2), ← ih, es, if_neg (fun z => e2 z.1)]
theorem MT_swap {A : Nat → Nat → Int32} {c g o t : Nat → Nat} {i p : Nat} (hT : MT A q m c g o t) (hi : i < 2 * m + 1) (hp : p < 2 * m + 1) (hc : c i = c p) (hb : ∀ k, k < m → o k < 2 * m + 1) :
    MT (u2 (u2 (u2 A 5 (129 * q + p) (nI (t i))) 5 (129 * q + i) (nI (t p))) 6 (129 * q + t p) (nI (c p) + 1)) q m (inc c i) (fun j => g (trp i p j)) (fun k => trp i p (o k)) (fun j => t (trp i p j)) := by
  obtain ⟨h1, h2, h3, h4, h5⟩ := hT
  have tb : ∀ x, x < 2 * m + 1 → trp i p x < 2 * m + 1 := fun x hx => trp_bd hi hp hx
  refine ⟨?_, fun x hx => ⟨(h2 _ (tb x hx)).1, ?_, ?_, ?_⟩, fun x x' hx hx' e => trp_inj (h3 _ _ (tb x hx) (tb x' hx') e), fun k hk => ?_, fun k hk => ?_⟩
  · rw [u2_at (by omega), u2_at (by omega), u2_at (by omega)]; exact h1
  · rw [u2_at (by omega)]
    by_cases e1 : x = i
    · subst e1
      rw [u2_hit]
      show nI (t p) = nI (t (trp x p x))
      unfold trp; rw [if_pos rfl]
    · rw [u2_at (by omega)]
      by_cases e2 : x = p
      · subst e2
        rw [u2_hit]
        show nI (t i) = nI (t (trp i x x))
        unfold trp; rw [if_neg e1, if_pos rfl]
      · rw [u2_at (by omega), (h2 x hx).2.1]
        show nI (t x) = nI (t (trp i p x))
        unfold trp; rw [if_neg e1, if_neg e2]
  · show u2 _ 6 (129 * q + t p) (nI (c p) + 1) 6 (129 * q + t (trp i p x)) = nI (inc c i x)
    by_cases e1 : x = i
    · subst e1
      have : trp x p x = p := by unfold trp; rw [if_pos rfl]
      rw [this, u2_hit, nI_1]
      unfold inc; rw [if_pos rfl, hc]
    · have hne : t (trp i p x) ≠ t p := fun e => by
        have e3 := h3 _ _ (tb x hx) hp e
        have e4 : trp i p i = p := by unfold trp; rw [if_pos rfl]
        exact e1 (trp_inj (e3.trans e4.symm))
      rw [u2_at (by omega), u2_at (by omega), u2_at (by omega), (h2 _ (tb x hx)).2.2.1]
      unfold inc; rw [if_neg e1]
      have : c (trp i p x) = c x := by
        unfold trp; rw [if_neg e1]
        by_cases e2 : x = p
        · rw [if_pos e2, e2, hc]
        · rw [if_neg e2]
      rw [this]
  · rw [u2_at (by omega), u2_at (by omega), u2_at (by omega)]
    exact (h2 _ (tb x hx)).2.2.2
  · obtain ⟨x, hx, e⟩ := h4 k hk
    exact ⟨trp i p x, tb x hx, by show t (trp i p (trp i p x)) = k; rw [trp_trp]; exact e⟩
  · rw [u2_at (by omega), u2_at (by omega), u2_at (by omega), h5 k hk]
    show nI (t (o k)) = nI (t (trp i p (trp i p (o k))))
    rw [trp_trp]
theorem m_ct_one {A : Nat → Nat → Int32} {c g o t : Nat → Nat} {K : Hp → Option Hp} {rec : Hp → Int32 → Option Hp} {p : Nat} (hq : q < 12) (hm : m ≤ 64) (hT : MT A q m c g o t) (hp : p < 2 * m + 1) (ho : ∀ k, k < m → o k < 2 * k + 1) (hcb : ∀ j, j < 2 * m + 1 → c j < 2 ^ 30) :
    ∃ (A' : Nat → Nat → Int32) (t' : Nat → Nat), LM_counts_87 M (nI q) K rec (om M X A h) (nI p) = rec (om M X A' h) (if lsN c (o ((p - 1) / 2)) p 0 p = 0 then (-1) else nI (o ((lsN c (o ((p - 1) / 2)) p 0 p - 1) / 2))) ∧ MT A' q m (inc c (lsN c (o ((p - 1) / 2)) p 0 p)) (fun j => g (trp (lsN c (o ((p - 1) / 2)) p 0 p) p j)) (fun k => trp (lsN c (o ((p - 1) / 2)) p 0 p) p (o k)) t' ∧ fr q A A' ∧ fk q A A' := by
  obtain ⟨hL1, hL2, -⟩ := lsN_IsL c (o ((p - 1) / 2)) p
  have hb : ∀ k, k < m → o k < 2 * m + 1 := fun k hk => by have := ho k hk; omega
  obtain ⟨r, hr, hr2⟩ : ∃ r, FM_above (om M X A h) M (nI q) (nI p) = some r ∧ (0 < p → r = nI (o ((p - 1) / 2)) ∧ o ((p - 1) / 2) < 1000) := by
    rcases Nat.eq_zero_or_pos p with e | e
    · subst e; exact ⟨_, m_above0, fun z => absurd z (by omega)⟩
    · exact ⟨_, m_above hq hm hT hb e hp, fun _ => ⟨rfl, by have := hb ((p - 1) / 2) (by omega); omega⟩⟩
  have hL := m_least_loop (M := M) (X := X) (h := h) (K := fun (x23 : Int32) =>
    gR (om M X A h) M 5 7 (fun a25 =>
    ldI (om M X A h) a25 0 ((129 * nI q) + nI p) (fun x26 =>
    gR (om M X A h) M 5 7 (fun a27 =>
    gR (om M X A h) M 5 7 (fun a28 =>
    ldI (om M X A h) a28 0 ((129 * nI q) + x23) (fun x29 =>
    stI (om M X A h) a27 0 ((129 * nI q) + nI p) x29 (fun h30 =>
    gR h30 M 5 7 (fun a31 =>
    stI h30 a31 0 ((129 * nI q) + x23) x26 (fun h32 =>
    gR h32 M 5 8 (fun a33 =>
    ldI h32 a33 0 ((129 * nI q) + x26) (fun x34 =>
    stI h32 a33 0 ((129 * nI q) + x26) (x34 + 1) (fun h35 =>
    gd (isO h35 M 5 = true) ((FM_above h35 M (nI q) x23).bind (fun r37 =>
    rec h35 r37)))))))))))))) hq hm hT hp hcb hr2 p fu (Nat.le_refl _) (by show p < 100000; omega)
  rw [LM_counts_87.eq_1, if_neg (m1_nI (by omega)), gd_t o_om, hr, Option.bind_some, jn_eq]
  try dsimp only
  rw [Nat.sub_self, show lsN c (o ((p - 1) / 2)) p p 0 = p from rfl] at hL
  rw [hL]
  try dsimp only
  generalize lsN c (o ((p - 1) / 2)) p 0 p = i at hL1 hL2
  have tp := (hT.2.1 p hp).1
  have S := MT_swap hT (show i < 2 * m + 1 by omega) hp hL2 hb
  have eA : u2 (u2 A 5 (129 * q + p) (nI (t i))) 5 (129 * q + i) (nI (t p)) 6 (129 * q + t p) = nI (c p) := by
    rw [u2_at (by omega), u2_at (by omega)]; exact (hT.2.1 p hp).2.2.1
  rw [mr_at, ix, ml_at (by omega), (hT.2.1 p hp).2.1, mr_at, mr_at, ix, ml_at (by omega), (hT.2.1 i (by omega)).2.1, ms_at (by omega), mr_at, ms_at (by omega), mr_cn, ix, ml_cn (by omega), eA, ms_cn (by omega), gd_t o_om]
  refine ⟨_, _, ?_, S, ?_, ?_⟩
  · by_cases e : i = 0
    · subst e
      rw [m_above0, Option.bind_some, if_pos rfl]
    · have hk : (i - 1) / 2 < m := by omega
      have := ho _ hk
      rw [m_above hq hm S (fun k hk => trp_bd (by omega) hp (hb k hk)) (by omega) (by omega), Option.bind_some, if_neg e, trp_lt (by omega) hL1]
  · exact ((fr.refl.st (by unfold fw; omega)).st (by unfold fw; omega)).st (by unfold fw; omega)
  · exact ((fk.refl.st (by decide)).st (by decide)).st (by decide)
theorem m_ct_loop {K : Hp → Option Hp} (hq : q < 12) (hm : m ≤ 64) : ∀ (f : Nat) (c g o t : Nat → Nat) (p w : Nat) (A : Nat → Nat → Int32), MT A q m c g o t → PI m c o p → p < f → p < 2 * m → p + 1 < w → c 0 < 2 ^ 29 →
    ∃ (A' : Nat → Nat → Int32) (t' : Nat → Nat), lpG (fun _ _ => none) w (LM_counts_87 M (nI q) K) (om M X A h) (nI p) = K (om M X A' h) ∧ MT A' q m (stW f c g o p).1 (stW f c g o p).2.1 (stW f c g o p).2.2 t' ∧ fr q A A' ∧ fk q A A'
  | 0, c, g, o, t, p, w, A, hT, hP, hf, hp, hw, hc => absurd hf (by omega)
  | f + 1, c, g, o, t, p, 0, A, hT, hP, hf, hp, hw, hc => absurd hw (by omega)
  | f + 1, c, g, o, t, p, w + 1, A, hT, hP, hf, hp, hw, hc => by
    have hL := lsN_IsL c (o ((p - 1) / 2)) p
    obtain ⟨A1, t1, q1, q2, q3, q4⟩ := m_ct_one (M := M) (X := X) (h := h) (K := K) (rec := lpG (fun _ _ => none) w (LM_counts_87 M (nI q) K)) hq hm hT (show p < 2 * m + 1 by omega) hP.1 (fun j hj => by have := hP.bd hj; omega)
    rw [lpG_s, q1, stW_s]
    generalize lsN c (o ((p - 1) / 2)) p 0 p = i at hL q2
    have hip := hL.1
    have P1 := PI_step hP hp (fun _ => rfl) hL
    by_cases e : i = 0
    · subst e
      rw [if_pos rfl, if_pos rfl]
      refine ⟨A1, t1, ?_, q2, q3, q4⟩
      obtain ⟨w', rfl⟩ : ∃ w', w = w' + 1 := ⟨w - 1, by omega⟩
      rw [lpG_s, LM_counts_87.eq_1, if_pos rfl]
    · rw [if_neg e, if_neg e]
      rw [if_neg e] at P1
      have hk : (i - 1) / 2 < m := by omega
      have hd2 := hP.1 _ hk
      obtain ⟨A2, t2, r1, r2, r3, r4⟩ := m_ct_loop (K := K) hq hm f (inc c i) _ _ t1 (o ((i - 1) / 2)) w A1 q2 P1 (by omega) (by omega) (by omega) (by simp [inc, Ne.symm e]; exact hc)
      exact ⟨A2, t2, r1, r2, q3.trans r3, q4.trans r4⟩
end MC
