/-! THE COUNTED TREE, abstractly: m pairs, 2 m + 1 places; c: counts by place; o k: the place of the owner of places 2 k + 1 and 2 k + 2. PI .. p: all is well but that p still waits for its one (p past the end: nobody waits). -/
def trp (i p q : Nat) : Nat := if q = i then p else if q = p then i else q
def inc (c : Nat → Nat) (i : Nat) : Nat → Nat := fun j => if j = i then c j + 1 else c j
def PI (m : Nat) (c o : Nat → Nat) (p : Nat) : Prop :=
  (∀ k, k < m → o k < 2 * k + 1) ∧ (∀ k k', k < m → k' < m → o k = o k' → k = k') ∧ (∀ k, k < m → c (o k) + (if o k = p then 1 else 0) = c (2 * k + 1) + c (2 * k + 2)) ∧
  (∀ i j, i < j → j < 2 * m + 1 → c j ≤ c i ∨ (i = p ∧ c j = c p + 1 ∧ ∀ l, l < p → c p < c l)) ∧ (1 ≤ m → o (m - 1) = 2 * m - 2) ∧ c (2 * m) = 0 ∧ ∀ j, j < 2 * m → 1 ≤ c j
/-- i is where p goes: the least place with p's count that isn't q (p's parent), or p itself -/
def IsL (c : Nat → Nat) (q p i : Nat) : Prop := i ≤ p ∧ c i = c p ∧ (i < p → i ≠ q) ∧ ∀ l, l < i → c l = c p → l = q
theorem trp_lt {i p q : Nat} (h1 : q < i) (h2 : i ≤ p) : trp i p q = q := by
  unfold trp; rw [if_neg (by omega), if_neg (by omega)]
theorem trp_inj {i p a b : Nat} (h : trp i p a = trp i p b) : a = b := by
  unfold trp at h
  grind
theorem PI_step {m : Nat} {c o : Nat → Nat} {p i q : Nat} (h : PI m c o p) (hp : p < 2 * m) (hq : 0 < p → q = o ((p - 1) / 2)) (hL : IsL c q p i) :
    PI m (inc c i) (fun k => trp i p (o k)) (if i = 0 then 2 * m + 1 else o ((i - 1) / 2)) := by
  obtain ⟨hD, hI, hS, hO, hH, hZ, hP⟩ := h
  obtain ⟨hip, hc, hne, hleast⟩ := hL
  -- the parent has the node's own count only where the sibling is the escape
  have hpar : 0 < p → c q = c p → p = 2 * m - 1 ∧ q = 2 * m - 2 := by
    intro hp0 he
    have hk : (p - 1) / 2 < m := by omega
    have hs := hS _ hk
    have hd := hD _ hk
    rw [← hq hp0] at hs hd
    rw [if_neg (by omega)] at hs
    have hsib : p = 2 * ((p - 1) / 2) + 1 ∨ p = 2 * ((p - 1) / 2) + 2 := by omega
    rcases hsib with e | e
    · have h2 : 2 * ((p - 1) / 2) + 2 = 2 * m := by
        rcases Nat.lt_or_ge (2 * ((p - 1) / 2) + 2) (2 * m) with g | g
        · have := hP _ g
          rw [← e] at hs
          omega
        · omega
      have h3 : (p - 1) / 2 = m - 1 := by omega
      refine ⟨by omega, ?_⟩
      rw [hq hp0, h3]
      exact hH (by omega)
    · have := hP (2 * ((p - 1) / 2) + 1) (by omega)
      rw [← e] at hs
      omega
  -- who waits with a child that has already got its one stays where it is
  have hexc : (∀ l, l < p → c p < c l) → i = p := by
    intro hx
    rcases Nat.lt_or_ge i p with g | g
    · have := hx i g
      omega
    · omega
  have hbetween : ∀ j, i < j → j < p → c j = c p := by
    intro j h1 h2
    have e1 := hO j p h2 (by omega)
    have e2 := hO i j h1 (by omega)
    rcases e1 with e1 | ⟨e1, -⟩
    · rcases e2 with e2 | ⟨e2, -⟩ <;> omega
    · omega
  have hwait : ∀ k, k < m → o k = p → p = 2 * m - 2 → i = p := by
    intro k hk he h2
    have e1 : k = m - 1 := hI k (m - 1) hk (by omega) (by rw [he, hH (by omega)]; exact h2)
    have hs := hS k hk
    rw [if_pos he, he] at hs
    have h3 : 2 * k + 2 = 2 * m := by omega
    rw [h3, hZ] at hs
    have e2 := hO p (2 * k + 1) (by omega) (by omega)
    rcases e2 with e2 | ⟨-, -, e2⟩
    · omega
    · exact hexc e2
  have hi2 : i = 2 * m - 2 → i = p := by
    intro e
    rcases Nat.lt_or_ge i p with g | g
    · have hp1 : p = 2 * m - 1 := by omega
      have hk : (p - 1) / 2 = m - 1 := by omega
      have := hq (by omega)
      rw [hk, hH (by omega)] at this
      exact absurd (by omega) (hne g)
    · omega
  have hp2 : p = 2 * m - 2 → 1 ≤ m → i = p := by
    intro e h1
    exact hwait (m - 1) (by omega) (by rw [hH h1]; exact e.symm) e
  refine ⟨fun k hk => ?_, fun k k' hk hk' he => ?_, fun k hk => ?_, fun a b hab hb => ?_, fun h1 => ?_, ?_, fun j hj => ?_⟩
  · -- the owner stays ahead of its children
    have hd := hD k hk
    show trp i p (o k) < 2 * k + 1
    unfold trp
    by_cases e1 : o k = i
    · rw [if_pos e1]
      rcases Nat.lt_or_ge i p with g | g
      · rcases Nat.lt_or_ge p (2 * k + 1) with g2 | g2
        · exact g2
        · exfalso
          have hs := hS k hk
          rw [e1, if_neg (by omega)] at hs
          have e3 : c (2 * k + 1) = c p := by
            rcases Nat.lt_or_ge (2 * k + 1) p with g3 | g3
            · exact hbetween _ (by omega) g3
            · have : 2 * k + 1 = p := by omega
              rw [this]
          have e4 : 2 * k + 2 = 2 * m := by
            rcases Nat.lt_or_ge (2 * k + 2) (2 * m) with g4 | g4
            · have := hP _ g4
              omega
            · omega
          have e5 : k = m - 1 := by omega
          rw [e5, hH (by omega)] at e1
          have := hi2 e1.symm
          omega
      · omega
    · rw [if_neg e1]
      by_cases e2 : o k = p
      · rw [if_pos e2]; omega
      · rw [if_neg e2]; exact hd
  · -- one pair an owner
    exact hI k k' hk hk' (trp_inj he)
  · -- the sums
    have hs := hS k hk
    have hd := hD k hk
    have e0 : c (trp i p (o k)) = c (o k) := by
      unfold trp
      by_cases e1 : o k = i
      · rw [if_pos e1, e1]; exact hc.symm
      · rw [if_neg e1]
        by_cases e2 : o k = p
        · rw [if_pos e2, e2]; exact hc
        · rw [if_neg e2]
    have e5 : trp i p (o k) = i ↔ o k = p := by
      unfold trp
      by_cases e1 : o k = i
      · rw [if_pos e1]; omega
      · rw [if_neg e1]
        by_cases e2 : o k = p
        · rw [if_pos e2]; omega
        · rw [if_neg e2]; omega
    have L1 : inc c i (trp i p (o k)) = c (o k) + (if o k = p then 1 else 0) := by
      unfold inc
      by_cases e2 : o k = p
      · rw [if_pos (e5.mpr e2), if_pos e2, e0]
      · rw [if_neg (fun q => e2 (e5.mp q)), if_neg e2, e0]
        rfl
    show inc c i (trp i p (o k)) + (if trp i p (o k) = (if i = 0 then 2 * m + 1 else o ((i - 1) / 2)) then 1 else 0) = _
    rw [L1, hs]
    -- is i in this pair?
    by_cases e3 : i = 2 * k + 1 ∨ i = 2 * k + 2
    · have hk2 : (i - 1) / 2 = k := by omega
      have hi0 : i ≠ 0 := by omega
      rw [if_neg hi0, hk2]
      have e6 : trp i p (o k) = o k := trp_lt (by omega) hip
      rw [e6, if_pos rfl]
      unfold inc
      rcases e3 with e3 | e3
      · rw [if_pos e3.symm, if_neg (by omega)]; omega
      · rw [if_neg (by omega), if_pos e3.symm]; omega
    · have e7 : ¬ trp i p (o k) = (if i = 0 then 2 * m + 1 else o ((i - 1) / 2)) := by
        intro e8
        by_cases hi0 : i = 0
        · rw [if_pos hi0] at e8
          have : trp i p (o k) < 2 * m + 1 := by
            unfold trp
            by_cases e1 : o k = i
            · rw [if_pos e1]; omega
            · rw [if_neg e1]
              by_cases e2 : o k = p
              · rw [if_pos e2]; omega
              · rw [if_neg e2]; omega
          omega
        · rw [if_neg hi0] at e8
          have hk3 : (i - 1) / 2 < m := by omega
          have e9 : trp i p (o ((i - 1) / 2)) = o ((i - 1) / 2) := trp_lt (by have := hD _ hk3; omega) hip
          have e10 : o k = o ((i - 1) / 2) := by
            rw [← e9] at e8
            exact trp_inj e8
          have := hI k _ hk hk3 e10
          omega
      rw [if_neg e7]
      unfold inc
      rw [if_neg (by omega), if_neg (by omega)]
      rfl
  · -- the order
    by_cases e1 : b = i
    · subst e1
      have hca : c p ≤ c a := by
        rcases hO a b hab hb with g | ⟨g, -⟩ <;> omega
      rcases Nat.lt_or_ge (c p) (c a) with g | g
      · left
        unfold inc
        rw [if_pos rfl, if_neg (by omega)]
        omega
      · right
        have hca' : c a = c p := by omega
        have haq := hleast a hab hca'
        have hp0 : 0 < p := by omega
        obtain ⟨g1, g2⟩ := hpar hp0 (by rw [← haq]; exact hca')
        have hbp : b = p := by omega
        subst hbp
        have hb0 : b ≠ 0 := by omega
        rw [if_neg hb0, ← hq hp0]
        have hqa : c q = c a := by rw [← haq]
        refine ⟨haq, ?_, fun l hl => ?_⟩
        · unfold inc
          rw [if_pos rfl, if_neg (by omega)]
          omega
        · unfold inc
          rw [if_neg (by omega), if_neg (by omega)]
          have h3 : c b ≤ c l := by
            rcases hO l b (by omega) hb with g | ⟨g, -⟩ <;> omega
          rcases Nat.lt_or_ge (c b) (c l) with g4 | g4
          · omega
          · have := hleast l (by omega) (by omega)
            omega
    · by_cases e2 : a = i
      · subst e2
        left
        unfold inc
        rw [if_neg e1, if_pos rfl]
        rcases hO a b hab hb with g | ⟨g, g2, -⟩
        · omega
        · rw [g]; omega
      · rcases hO a b hab hb with g | ⟨g, g2, g3⟩
        · left
          unfold inc
          rw [if_neg e1, if_neg e2]
          exact g
        · exact absurd (by rw [hexc g3, g]) e2
  · have hb : trp i p (2 * m - 2) = 2 * m - 2 := by
      unfold trp
      by_cases e1 : 2 * m - 2 = i
      · rw [if_pos e1]; exact (hi2 e1.symm).symm.trans e1.symm
      · rw [if_neg e1]
        by_cases e2 : 2 * m - 2 = p
        · rw [if_pos e2]; exact (hp2 e2.symm h1).trans e2.symm
        · rw [if_neg e2]
    show trp i p (o (m - 1)) = _
    rw [hH h1]
    exact hb
  · unfold inc
    rw [if_neg (by omega)]
    exact hZ
  · unfold inc
    have := hP j hj
    by_cases e1 : j = i
    · rw [if_pos e1]; omega
    · rw [if_neg e1]; exact this
