/-! HALVING, abstractly. The pieces are the places 0 .. j, what is settled stands at 2 j + 1 .. 2 m; w i: where the owner of the pair i stands. -/
def inP (c : Nat → Nat) (t : Nat) : Nat → Nat
  | 0 => 0
  | k + 1 => if c k < t then inP c t k else k + 1
def ph (a j : Nat) (f : Nat → Nat) (v : Nat) : Nat → Nat := fun x => if x < a then f x else if x = a then v else if x ≤ j then f (x - 1) else if x = 2 * j + 1 then f j else if x = 2 * j + 2 then f (j + 1) else f x
def fi (a j : Nat) (x : Nat) : Nat := if x < a then x else if x < j then x + 1 else if x = j then 2 * j + 1 else if x = j + 1 then 2 * j + 2 else x
def wn (a j : Nat) (w : Nat → Nat) : Nat → Nat := fun i => if i = j then a else fi a j (w i)
def hvL : Nat → (Nat → Nat) → (Nat → Nat) → (Nat → Nat) → CGO
  | 0, c, g, w => (c, g, w)
  | j + 1, c, g, w => hvL j (ph (inP c (c j + c (j + 1)) j) j c (c j + c (j + 1))) (ph (inP c (c j + c (j + 1)) j) j g 0) (wn (inP c (c j + c (j + 1)) j) j w)
theorem hvL_s (j : Nat) (c g w : Nat → Nat) : hvL (j + 1) c g w = hvL j (ph (inP c (c j + c (j + 1)) j) j c (c j + c (j + 1))) (ph (inP c (c j + c (j + 1)) j) j g 0) (wn (inP c (c j + c (j + 1)) j) j w) := rfl
def Vs (m j x : Nat) : Prop := x ≤ j ∨ (2 * j + 1 ≤ x ∧ x ≤ 2 * m)
theorem inP_le (c : Nat → Nat) (t : Nat) : ∀ k, inP c t k ≤ k
  | 0 => Nat.le_refl _
  | k + 1 => by
    rw [inP]
    have := inP_le c t k
    split <;> omega
theorem inP_lt (c : Nat → Nat) (t : Nat) : ∀ k x, inP c t k ≤ x → x < k → c x < t
  | 0, x, _, h => absurd h (by omega)
  | k + 1, x, h1, h2 => by
    rw [inP] at h1
    by_cases e : c k < t
    · rw [if_pos e] at h1
      rcases Nat.lt_or_ge x k with g | g
      · exact inP_lt c t k x h1 g
      · have : x = k := by omega
        rw [this]; exact e
    · rw [if_neg e] at h1; omega
theorem inP_ge (c : Nat → Nat) (t : Nat) : ∀ k x, (∀ a b, a < b → b < k → c b ≤ c a) → x < inP c t k → t ≤ c x
  | 0, x, _, h => absurd h (Nat.not_lt_zero _)
  | k + 1, x, hs, h2 => by
    rw [inP] at h2
    by_cases e : c k < t
    · rw [if_pos e] at h2
      exact inP_ge c t k x (fun a b h1 h3 => hs a b h1 (by omega)) h2
    · rw [if_neg e] at h2
      rcases Nat.lt_or_ge x k with g | g
      · have := hs x k g (by omega)
        omega
      · have : x = k := by omega
        rw [this]; omega
theorem ph_fi {a j m : Nat} {f : Nat → Nat} {v : Nat} (ha : a ≤ j) {y : Nat} (hy : Vs m (j + 1) y) (hj : j < m) : ph a j f v (fi a j y) = f y ∧ Vs m j (fi a j y) ∧ fi a j y ≠ a := by
  unfold Vs at hy
  have h1 : y < a ∨ (a ≤ y ∧ y < j) ∨ y = j ∨ y = j + 1 ∨ (2 * j + 3 ≤ y ∧ y ≤ 2 * m) := by omega
  rcases h1 with h | h | h | h | h
  · have e : fi a j y = y := by unfold fi; rw [if_pos h]
    rw [e]
    refine ⟨by unfold ph; rw [if_pos h], by unfold Vs; omega, by omega⟩
  · have e : fi a j y = y + 1 := by unfold fi; rw [if_neg (by omega), if_pos (by omega)]
    rw [e]
    refine ⟨by unfold ph; rw [if_neg (by omega), if_neg (by omega), if_pos (by omega)]; rfl, by unfold Vs; omega, by omega⟩
  · have e : fi a j y = 2 * j + 1 := by unfold fi; rw [if_neg (by omega), if_neg (by omega), if_pos h]
    rw [e]
    refine ⟨by unfold ph; rw [if_neg (by omega), if_neg (by omega), if_neg (by omega), if_pos rfl, h], by unfold Vs; omega, by omega⟩
  · have e : fi a j y = 2 * j + 2 := by unfold fi; rw [if_neg (by omega), if_neg (by omega), if_neg (by omega), if_pos h]
    rw [e]
    refine ⟨by unfold ph; rw [if_neg (by omega), if_neg (by omega), if_neg (by omega), if_neg (by omega), if_pos rfl, h], by unfold Vs; omega, by omega⟩
  · have e : fi a j y = y := by unfold fi; rw [if_neg (by omega), if_neg (by omega), if_neg (by omega), if_neg (by omega)]
    rw [e]
    refine ⟨by unfold ph; rw [if_neg (by omega), if_neg (by omega), if_neg (by omega), if_neg (by omega), if_neg (by omega)], by unfold Vs; omega, by omega⟩
theorem ph_at {a j : Nat} {f : Nat → Nat} {v : Nat} : ph a j f v a = v := by unfold ph; rw [if_neg (by omega), if_pos rfl]
theorem fi_sur {a j m : Nat} (ha : a ≤ j) {x : Nat} (hx : Vs m j x) (hj : j < m) (hne : x ≠ a) : ∃ y, Vs m (j + 1) y ∧ fi a j y = x := by
  unfold Vs at hx
  have h1 : x < a ∨ (a < x ∧ x ≤ j) ∨ x = 2 * j + 1 ∨ x = 2 * j + 2 ∨ (2 * j + 3 ≤ x ∧ x ≤ 2 * m) := by omega
  rcases h1 with h | h | h | h | h
  · exact ⟨x, by unfold Vs; omega, by unfold fi; rw [if_pos h]⟩
  · exact ⟨x - 1, by unfold Vs; omega, by unfold fi; rw [if_neg (by omega), if_pos (by omega)]; omega⟩
  · exact ⟨j, by unfold Vs; omega, by unfold fi; rw [if_neg (by omega), if_neg (by omega), if_pos rfl]; omega⟩
  · exact ⟨j + 1, by unfold Vs; omega, by unfold fi; rw [if_neg (by omega), if_neg (by omega), if_neg (by omega), if_pos rfl]; omega⟩
  · exact ⟨x, by unfold Vs; omega, by unfold fi; rw [if_neg (by omega), if_neg (by omega), if_neg (by omega), if_neg (by omega)]⟩
theorem fi_inj {a j m : Nat} (ha : a ≤ j) {x y : Nat} (hx : Vs m (j + 1) x) (hy : Vs m (j + 1) y) (e : fi a j x = fi a j y) : x = y := by
  unfold Vs at hx hy
  unfold fi at e
  grind
def HV (n m S0 : Nat) (S : Nat → Prop) (j : Nat) (c g w : Nat → Nat) : Prop :=
  (∀ i, j ≤ i → i < m → Vs m j (w i) ∧ w i < 2 * i + 1) ∧ (∀ i i', j ≤ i → i < m → j ≤ i' → i' < m → w i = w i' → i = i') ∧ (∀ i, j ≤ i → i < m → c (w i) = c (2 * i + 1) + c (2 * i + 2)) ∧
  (∀ x y, x < y → Vs m j x → Vs m j y → c y ≤ c x) ∧ (∀ x, Vs m j x → (g x = 0 ↔ ∃ i, j ≤ i ∧ i < m ∧ w i = x)) ∧
  (g (if j = m then m else 2 * m) = 1 ∧ c (if j = m then m else 2 * m) = 0) ∧ (∀ x, Vs m j x → x ≠ (if j = m then m else 2 * m) → g x ≠ 1 ∧ g x < n + 2 ∧ 1 ≤ c x) ∧
  (∀ x y, Vs m j x → Vs m j y → g x = g y → g x ≠ 0 → x = y) ∧ (∀ s, (∃ x, Vs m j x ∧ g x = s + 2) ↔ S s) ∧ (j < m → w (m - 1) = if j = m - 1 then j else 2 * m - 2) ∧ sm (j + 1) c = S0
theorem sm_ph {c : Nat → Nat} {a t : Nat} : ∀ (j J : Nat), a ≤ j → j ≤ J → sm (j + 1) (ph a J c t) = sm j c + t
  | j, J, h1, h2 => by
    rw [sm]
    rcases Nat.lt_or_ge a j with g | g
    · have e1 : ph a J c t j = c (j - 1) := by unfold ph; rw [if_neg (by omega), if_neg (by omega), if_pos (by omega)]
      have e2 := sm_ph (c := c) (a := a) (t := t) (j - 1) J (by omega) (by omega)
      have e3 : j - 1 + 1 = j := by omega
      rw [e3] at e2
      rw [e1, e2]
      have e4 : sm j c = sm (j - 1) c + c (j - 1) := by
        conv => lhs; rw [← e3]
        rfl
      omega
    · have : a = j := by omega
      subst this
      rw [ph_at, sm_congr a (f := ph a J c t) (g := c) (fun i hi => by unfold ph; rw [if_pos hi])]
  termination_by j => j
theorem HV_step {n m S0 j : Nat} {S : Nat → Prop} {c g w : Nat → Nat} (hj : j < m) (h : HV n m S0 S (j + 1) c g w) : HV n m S0 S j (ph (inP c (c j + c (j + 1)) j) j c (c j + c (j + 1))) (ph (inP c (c j + c (j + 1)) j) j g 0) (wn (inP c (c j + c (j + 1)) j) j w) := by
  obtain ⟨h1, h2, h3, h4, h5, h6, h7, h8, h9, h10, h11⟩ := h
  have a1 := inP_le c (c j + c (j + 1)) j
  have a2 := inP_lt c (c j + c (j + 1)) j
  have a3 := inP_ge c (c j + c (j + 1)) j
  have vp : ∀ x, x ≤ j + 1 → Vs m (j + 1) x := fun x hx => Or.inl hx
  have a4 : ∀ x, x < inP c (c j + c (j + 1)) j → c j + c (j + 1) ≤ c x := fun x hx => a3 x (fun a b e1 e2 => h4 a b e1 (vp _ (by omega)) (vp _ (by omega))) hx
  have a5 : j + 1 = m → inP c (c j + c (j + 1)) j = j := by
    intro e
    have e0 : c (j + 1) = 0 := by have := h6.2; rw [if_pos e] at this; rw [e]; exact this
    rcases Nat.lt_or_ge (inP c (c j + c (j + 1)) j) j with g | g
    · have := a2 (j - 1) (by omega) (by omega)
      have := h4 (j - 1) j (by omega) (vp _ (by omega)) (vp _ (by omega))
      omega
    · omega
  generalize inP c (c j + c (j + 1)) j = a at a1 a2 a4 a5
  clear a3
  have t0 : c (j + 1) ≤ c j := h4 j (j + 1) (by omega) (vp _ (by omega)) (vp _ (by omega))
  have F : ∀ (f : Nat → Nat) (v : Nat) {y : Nat}, Vs m (j + 1) y → ph a j f v (fi a j y) = f y ∧ Vs m j (fi a j y) ∧ fi a j y ≠ a := fun f v y hy => ph_fi a1 hy hj
  have w1 : ∀ i, j ≤ i → i < m → i ≠ j → wn a j w i = fi a j (w i) ∧ Vs m (j + 1) (w i) := fun i e1 e2 e3 => ⟨by unfold wn; rw [if_neg e3], (h1 i (by omega) e2).1⟩
  have w2 : wn a j w j = a := by unfold wn; rw [if_pos rfl]
  have va : Vs m j a := Or.inl a1
  have f1 : fi a j j = 2 * j + 1 := by unfold fi; rw [if_neg (by omega), if_neg (by omega), if_pos rfl]
  have f2 : fi a j (j + 1) = 2 * j + 2 := by unfold fi; rw [if_neg (by omega), if_neg (by omega), if_neg (by omega), if_pos rfl]
  have f3 : ∀ y, 2 * j + 3 ≤ y → fi a j y = y := fun y hy => by unfold fi; rw [if_neg (by omega), if_neg (by omega), if_neg (by omega), if_neg (by omega)]
  have fe : fi a j (if j + 1 = m then m else 2 * m) = 2 * m ∧ Vs m (j + 1) (if j + 1 = m then m else 2 * m) := by
    by_cases e : j + 1 = m
    · rw [if_pos e, ← e, f2]; exact ⟨by omega, Or.inl (by omega)⟩
    · rw [if_neg e, f3 _ (by omega)]; exact ⟨rfl, Or.inr (by omega)⟩
  have ej : ¬ j = m := by omega
  refine ⟨fun i e1 e2 => ?_, fun i i' e1 e2 e3 e4 e5 => ?_, fun i e1 e2 => ?_, fun x y e1 e2 e3 => ?_, fun x hx => ?_, ?_, fun x hx hne => ?_, fun x y hx hy e1 e2 => ?_, fun s => ?_, fun _ => ?_, ?_⟩
  · by_cases e : i = j
    · subst e; rw [w2]; exact ⟨va, by omega⟩
    · obtain ⟨q1, q2⟩ := w1 i e1 e2 e
      rw [q1]
      refine ⟨(F w 0 q2).2.1, ?_⟩
      have := (h1 i (by omega) e2).2
      unfold fi
      split
      · omega
      · split
        · omega
        · split
          · omega
          · split <;> omega
  · by_cases q1 : i = j <;> by_cases q2 : i' = j
    · omega
    · exfalso
      subst q1
      obtain ⟨r1, r2⟩ := w1 i' e3 e4 q2
      rw [w2, r1] at e5
      exact (F w 0 r2).2.2 e5.symm
    · exfalso
      subst q2
      obtain ⟨r1, r2⟩ := w1 i e1 e2 q1
      rw [w2, r1] at e5
      exact (F w 0 r2).2.2 e5
    · obtain ⟨r1, r2⟩ := w1 i e1 e2 q1
      obtain ⟨r3, r4⟩ := w1 i' e3 e4 q2
      rw [r1, r3] at e5
      exact h2 i i' (by omega) e2 (by omega) e4 (fi_inj a1 r2 r4 e5)
  · by_cases e : i = j
    · subst e
      rw [w2, ph_at]
      have p1 := (F c (c i + c (i + 1)) (vp i (by omega))).1
      have p2 := (F c (c i + c (i + 1)) (vp (i + 1) (by omega))).1
      rw [f1] at p1
      rw [f2] at p2
      rw [p1, p2]
    · obtain ⟨r1, r2⟩ := w1 i e1 e2 e
      rw [r1, (F c _ r2).1, h3 i (by omega) e2]
      have p1 := (F c (c j + c (j + 1)) (y := 2 * i + 1) (Or.inr (by omega))).1
      have p2 := (F c (c j + c (j + 1)) (y := 2 * i + 2) (Or.inr (by omega))).1
      rw [f3 _ (by omega)] at p1
      rw [f3 _ (by omega)] at p2
      rw [p1, p2]
  · -- the order
    by_cases q1 : x = a
    · subst q1
      rw [ph_at]
      obtain ⟨y', v1, v2⟩ := fi_sur a1 e3 hj (by omega)
      rw [← v2, (F c _ v1).1]
      rw [← v2] at e1
      have : ¬ y' < x := by intro q; unfold fi at e1; rw [if_pos q] at e1; omega
      rcases Nat.lt_or_ge y' j with g | g
      · have := a2 y' (by omega) g; omega
      · rcases Nat.lt_or_ge j y' with g2 | g2
        · have := h4 j y' g2 (vp _ (by omega)) v1; omega
        · have : y' = j := by omega
          subst this; omega
    · by_cases q2 : y = a
      · subst q2
        rw [ph_at]
        have e4 : x < y := e1
        have : ph y j c (c j + c (j + 1)) x = c x := by unfold ph; rw [if_pos e4]
        rw [this]
        exact a4 x e4
      · obtain ⟨x', u1, u2⟩ := fi_sur a1 e2 hj q1
        obtain ⟨y', v1, v2⟩ := fi_sur a1 e3 hj q2
        rw [← u2, ← v2, (F c _ u1).1, (F c _ v1).1]
        rw [← u2, ← v2] at e1
        rcases Nat.lt_or_ge x' y' with g | g
        · exact h4 x' y' g u1 v1
        · exfalso
          rcases Nat.lt_or_ge y' x' with g2 | g2
          · unfold Vs at u1 v1
            unfold fi at e1
            grind
          · have : x' = y' := by omega
            subst this; omega
  · by_cases q1 : x = a
    · subst q1
      rw [ph_at]
      exact ⟨fun _ => ⟨j, Nat.le_refl _, hj, w2⟩, fun _ => rfl⟩
    · obtain ⟨x', u1, u2⟩ := fi_sur a1 hx hj q1
      rw [← u2, (F g 0 u1).1, h5 x' u1]
      constructor
      · rintro ⟨i, r1, r2, r3⟩
        exact ⟨i, by omega, r2, by rw [(w1 i (by omega) r2 (by omega)).1, r3]⟩
      · rintro ⟨i, r1, r2, r3⟩
        by_cases e : i = j
        · subst e
          rw [w2] at r3
          exact absurd (r3.trans u2).symm q1
        · obtain ⟨t1, t2⟩ := w1 i r1 r2 e
          rw [t1] at r3
          exact ⟨i, by omega, r2, fi_inj a1 t2 u1 r3⟩
  · rw [if_neg ej, ← fe.1, (F g 0 fe.2).1, (F c _ fe.2).1]
    exact h6
  · rw [if_neg ej] at hne
    by_cases q1 : x = a
    · subst q1
      rw [ph_at, ph_at]
      refine ⟨by omega, by omega, ?_⟩
      have := (h7 j (vp _ (by omega)) (by split <;> omega)).2.2
      omega
    · obtain ⟨x', u1, u2⟩ := fi_sur a1 hx hj q1
      rw [← u2, (F g 0 u1).1, (F c _ u1).1]
      refine h7 x' u1 (fun e => ?_)
      rw [← u2, e] at hne
      exact hne fe.1
  · by_cases q1 : x = a
    · subst q1; rw [ph_at] at e2; omega
    · by_cases q2 : y = a
      · subst q2; rw [e1, ph_at] at e2; omega
      · obtain ⟨x', u1, u2⟩ := fi_sur a1 hx hj q1
        obtain ⟨y', v1, v2⟩ := fi_sur a1 hy hj q2
        rw [← u2, (F g 0 u1).1] at e1 e2
        rw [← v2, (F g 0 v1).1] at e1
        rw [← u2, ← v2, h8 x' y' u1 v1 e1 e2]
  · rw [← h9 s]
    constructor
    · rintro ⟨x, hx, e⟩
      by_cases q1 : x = a
      · subst q1; rw [ph_at] at e; omega
      · obtain ⟨x', u1, u2⟩ := fi_sur a1 hx hj q1
        rw [← u2, (F g 0 u1).1] at e
        exact ⟨x', u1, e⟩
    · rintro ⟨x, hx, e⟩
      exact ⟨fi a j x, (F g 0 hx).2.1, by rw [(F g 0 hx).1]; exact e⟩
  · by_cases q1 : j = m - 1
    · rw [if_pos q1, ← q1, w2]
      exact a5 (by omega)
    · rw [if_neg q1]
      rw [(w1 (m - 1) (by omega) (by omega) (by omega)).1, h10 (by omega)]
      by_cases q2 : j + 1 = m - 1
      · rw [if_pos q2, f2]; omega
      · rw [if_neg q2, f3 _ (by omega)]
  · rw [sm_ph j j a1 (Nat.le_refl _), ← h11, sm, sm]
    omega
theorem hvL_ok {n m S0 : Nat} {S : Nat → Prop} : ∀ (j : Nat) (c g w : Nat → Nat), j ≤ m → HV n m S0 S j c g w → HV n m S0 S 0 (hvL j c g w).1 (hvL j c g w).2.1 (hvL j c g w).2.2
  | 0, c, g, w, _, h => h
  | j + 1, c, g, w, hj, h => by
    rw [hvL_s]
    exact hvL_ok j _ _ _ (by omega) (HV_step (by omega) h)
/-- the leaves in their order -/
def nl (g : Nat → Nat) (p : Nat) : Nat := sm p (fun q => if g q = 0 then 0 else 1)
def rl (g : Nat → Nat) : Nat → Nat → Nat
  | 0, _ => 0
  | p + 1, k => if g p = 0 then rl g p k else if k = nl g p then p else rl g p k
theorem nl_s (g : Nat → Nat) (p : Nat) : nl g (p + 1) = nl g p + (if g p = 0 then 0 else 1) := rfl
theorem rl_s (g : Nat → Nat) (p k : Nat) : rl g (p + 1) k = if g p = 0 then rl g p k else if k = nl g p then p else rl g p k := rfl
theorem rl_ok (g : Nat → Nat) : ∀ (p : Nat), (∀ k, k < nl g p → rl g p k < p ∧ g (rl g p k) ≠ 0) ∧ (∀ k k', k < k' → k' < nl g p → rl g p k < rl g p k') ∧ (∀ q, q < p → g q ≠ 0 → ∃ k, k < nl g p ∧ rl g p k = q)
  | 0 => ⟨fun k h => absurd h (Nat.not_lt_zero _), fun k k' _ h => absurd h (Nat.not_lt_zero _), fun q h => absurd h (Nat.not_lt_zero _)⟩
  | p + 1 => by
    obtain ⟨h1, h2, h3⟩ := rl_ok g p
    by_cases e : g p = 0
    · have e1 : nl g (p + 1) = nl g p := by rw [nl_s, if_pos e]; rfl
      have e2 : ∀ k, rl g (p + 1) k = rl g p k := fun k => by rw [rl_s, if_pos e]
      refine ⟨fun k h => ?_, fun k k' q h => ?_, fun q h q2 => ?_⟩
      · rw [e2]; rw [e1] at h; have := h1 k h; exact ⟨by omega, this.2⟩
      · rw [e2, e2]; rw [e1] at h; exact h2 k k' q h
      · have : q ≠ p := fun q3 => q2 (by rw [q3]; exact e)
        obtain ⟨k, r1, r2⟩ := h3 q (by omega) q2
        exact ⟨k, by omega, by rw [e2]; exact r2⟩
    · have e1 : nl g (p + 1) = nl g p + 1 := by rw [nl_s, if_neg e]
      have e2 : ∀ k, rl g (p + 1) k = if k = nl g p then p else rl g p k := fun k => by rw [rl_s, if_neg e]
      refine ⟨fun k h => ?_, fun k k' q h => ?_, fun q h q2 => ?_⟩
      · rw [e2]
        by_cases e3 : k = nl g p
        · rw [if_pos e3]; exact ⟨by omega, e⟩
        · rw [if_neg e3]; have := h1 k (by omega); exact ⟨by omega, this.2⟩
      · rw [e2, e2, if_neg (by omega)]
        by_cases e3 : k' = nl g p
        · rw [if_pos e3]; exact (h1 k (by omega)).1
        · rw [if_neg e3]; exact h2 k k' q (by omega)
      · by_cases e3 : q = p
        · exact ⟨nl g p, by omega, by rw [e2, if_pos rfl, e3]⟩
        · obtain ⟨k, r1, r2⟩ := h3 q (by omega) q2
          exact ⟨k, by omega, by rw [e2, if_neg (by omega)]; exact r2⟩
theorem rl_sum (g f : Nat → Nat) : ∀ (p : Nat), sm (nl g p) (fun k => f (rl g p k)) = sm p (fun q => if g q = 0 then 0 else f q)
  | 0 => rfl
  | p + 1 => by
    rw [nl_s, sm]
    by_cases e : g p = 0
    · rw [if_pos e, if_pos e, Nat.add_zero, ← rl_sum g f p]
      refine (sm_congr _ fun k hk => ?_)
      rw [rl_s, if_pos e]
    · rw [if_neg e, if_neg e, sm, ← rl_sum g f p, rl_s, if_neg e, if_pos rfl]
      congr 1
      refine sm_congr _ fun k hk => ?_
      rw [rl_s, if_neg e, if_neg (by omega)]
def hvC (c g : Nat → Nat) (m : Nat) : Nat → Nat := fun k => (c (rl g (2 * m + 1) k) + 1) / 2
def hvG (g : Nat → Nat) (m : Nat) : Nat → Nat := fun k => g (rl g (2 * m + 1) k)
def hvT (m : Nat) (c g o : Nat → Nat) : CGO := hvL m (hvC c g m) (hvG g m) o
theorem HV_init {n B m : Nat} {c g o : Nat → Nat} (h : CI n B m c g o) : HV n m (sm (m + 1) (hvC c g m)) (HasS m g) m (hvC c g m) (hvG g m) o ∧ sm (m + 1) (hvC c g m) ≤ c 0 ∧ nl g (2 * m + 1) = m + 1 := by
  obtain ⟨hP, hG, ⟨kn, k1, k2⟩, hB⟩ := h
  have hN : nl g (2 * m + 1) = m + 1 := leaf_many hP hG
  have hS := leaf_sum hP hG
  obtain ⟨r1, r2, r3⟩ := rl_ok g (2 * m + 1)
  rw [hN] at r1 r2 r3
  obtain ⟨hD, hI, hSu, hO, hH, hZ, hP1⟩ := hP
  obtain ⟨g1, g2, g3, g4⟩ := hG
  have rm : rl g (2 * m + 1) m = 2 * m := by
    obtain ⟨k, q1, q2⟩ := r3 (2 * m) (by omega) (by omega)
    rcases Nat.lt_or_ge k m with e | e
    · have := r2 k m e (by omega)
      have := r1 m (by omega)
      omega
    · have : k = m := by omega
      rw [this] at q2; exact q2
  have rne : ∀ k, k < m → rl g (2 * m + 1) k < 2 * m := fun k hk => by have := r2 k m hk (by omega); omega
  have rinj : ∀ k k', k ≤ m → k' ≤ m → rl g (2 * m + 1) k = rl g (2 * m + 1) k' → k = k' := fun k k' a b e => by
    rcases Nat.lt_or_ge k k' with q | q
    · have := r2 k k' q (by omega); omega
    · rcases Nat.lt_or_ge k' k with q2 | q2
      · have := r2 k' k q2 (by omega); omega
      · omega
  have vs : ∀ x, Vs m m x → x ≤ m := fun x hx => by unfold Vs at hx; omega
  have H0 : HV n m (sm (m + 1) (hvC c g m)) (HasS m g) m (hvC c g m) (hvG g m) o := by
    refine ⟨fun i a b => absurd b (by omega), fun i i' a b => absurd b (by omega), fun i a b => absurd b (by omega), fun x y e1 e2 e3 => ?_, fun x hx => ?_, ?_, fun x hx hne => ?_, fun x y hx hy e1 e2 => ?_, fun s => ?_, fun e => absurd e (by omega), rfl⟩
    · have := r2 x y e1 (by have := vs y e3; omega)
      have := r1 y (by have := vs y e3; omega)
      unfold hvC
      rcases hO _ _ (r2 x y e1 (by have := vs y e3; omega)) (by omega) with q | ⟨q, -⟩
      · omega
      · omega
    · constructor
      · intro e
        exact absurd e (r1 x (by have := vs x hx; omega)).2
      · rintro ⟨i, a, b, -⟩
        omega
    · rw [if_pos rfl]
      unfold hvG hvC
      rw [rm]
      exact ⟨g2, by rw [hZ]⟩
    · rw [if_pos rfl] at hne
      have h1 := rne x (by have := vs x hx; omega)
      have h2 := g3 _ h1
      have h3 := hP1 _ h1
      unfold hvG hvC
      exact ⟨h2.1, h2.2, by omega⟩
    · have h1 := r1 x (by have := vs x hx; omega)
      have h2 := r1 y (by have := vs y hy; omega)
      exact rinj x y (vs x hx) (vs y hy) (g4 _ _ h1.1 h2.1 e1 h1.2)
    · constructor
      · rintro ⟨x, hx, e⟩
        exact ⟨_, (r1 x (by have := vs x hx; omega)).1, e⟩
      · rintro ⟨p, hp, e⟩
        obtain ⟨k, q1, q2⟩ := r3 p hp (by omega)
        exact ⟨k, Or.inl (by omega), by unfold hvG; rw [q2]; exact e⟩
  have hle : sm (m + 1) (hvC c g m) ≤ c 0 := by
    have e1 := rl_sum g c (2 * m + 1)
    rw [hN, hS] at e1
    rw [← e1]
    refine sm_le _ fun k hk => ?_
    unfold hvC
    rcases Nat.lt_or_ge k m with q | q
    · have := hP1 _ (rne k q); omega
    · have : k = m := by omega
      subst this
      rw [rm, hZ]
      omega
  exact ⟨H0, hle, hN⟩
theorem CI.halve {n B m : Nat} {c g o : Nat → Nat} (h : CI n B m c g o) : CI n B m (hvT m c g o).1 (hvT m c g o).2.1 (hvT m c g o).2.2 := by
  obtain ⟨H0, hle, hN⟩ := HV_init h
  obtain ⟨hP, hG, ⟨kn, k1, k2⟩, hB⟩ := h
  have H1 := hvL_ok m _ _ _ (Nat.le_refl _) H0
  unfold hvT
  generalize hvL m (hvC c g m) (hvG g m) o = T at H1
  obtain ⟨h1, h2, h3, h4, h5, h6, h7, h8, h9, h10, h11⟩ := H1
  have v0 : ∀ x, x < 2 * m + 1 → Vs m 0 x := fun x hx => by unfold Vs; omega
  have v1 : ∀ x, Vs m 0 x → x < 2 * m + 1 := fun x hx => by unfold Vs at hx; omega
  have ee : (if 0 = m then m else 2 * m) = 2 * m := by split <;> omega
  rw [ee] at h6 h7
  refine ⟨⟨fun k hk => (h1 k (by omega) hk).2, fun k k' a b e => h2 k k' (by omega) a (by omega) b e, fun k hk => ?_, fun i j a b => Or.inl (h4 i j a (v0 _ (by omega)) (v0 _ b)), fun hm => ?_, h6.2, fun j hj => (h7 j (v0 _ (by omega)) (by omega)).2.2⟩, ⟨fun p hp => ?_, h6.1, fun p hp => ?_, fun p q hp hq => h8 p q (v0 _ hp) (v0 _ hq)⟩, ⟨kn, fun s hs => (k1 s hs).trans ?_, k2⟩, ?_⟩
  · have := (h1 k (by omega) hk).2
    rw [if_neg (by omega), h3 k (by omega) hk, Nat.add_zero]
  · rw [h10 (by omega)]
    split <;> omega
  · rw [h5 p (v0 _ hp)]
    constructor
    · rintro ⟨i, a, b, e⟩
      exact ⟨i, b, e⟩
    · rintro ⟨i, b, e⟩
      exact ⟨i, by omega, b, e⟩
  · have := h7 p (v0 _ (by omega)) (by omega)
    exact ⟨this.1, this.2.1⟩
  · rw [← h9 s]
    constructor
    · rintro ⟨x, hx, e⟩
      exact ⟨x, v1 _ hx, e⟩
    · rintro ⟨x, hx, e⟩
      exact ⟨x, v0 _ hx, e⟩
  · have : sm (0 + 1) T.1 = T.1 0 := by simp [sm]
    omega
