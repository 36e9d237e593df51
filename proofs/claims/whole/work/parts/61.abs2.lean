/-! the walk up of a COUNTED tree, as a function; signs are coded 0 inner, 1 the escape, s + 2 the sign s -/
def lsN (c : Nat → Nat) (q p : Nat) : Nat → Nat → Nat
  | _, 0 => p
  | i, k + 1 => if c i = c p ∧ ¬ i = q then i else lsN c q p (i + 1) k
theorem lsN_s (c : Nat → Nat) (q p i k : Nat) : lsN c q p i (k + 1) = if c i = c p ∧ ¬ i = q then i else lsN c q p (i + 1) k := rfl
theorem lsN_ok (c : Nat → Nat) (q p : Nat) : ∀ (k i : Nat), i + k = p → i ≤ lsN c q p i k ∧ lsN c q p i k ≤ p ∧ c (lsN c q p i k) = c p ∧ (lsN c q p i k < p → lsN c q p i k ≠ q) ∧ ∀ l, i ≤ l → l < lsN c q p i k → c l = c p → l = q
  | 0, i, h => by
    show i ≤ p ∧ p ≤ p ∧ c p = c p ∧ (p < p → p ≠ q) ∧ ∀ l, i ≤ l → l < p → c l = c p → l = q
    exact ⟨by omega, by omega, rfl, fun h => absurd h (by omega), fun l h1 h2 => absurd h2 (by omega)⟩
  | k + 1, i, h => by
    have ih := lsN_ok c q p k (i + 1) (by omega)
    rw [lsN_s]
    by_cases e : c i = c p ∧ ¬ i = q
    · rw [if_pos e]
      exact ⟨by omega, by omega, e.1, fun _ => e.2, fun l h1 h2 => absurd h2 (by omega)⟩
    · rw [if_neg e]
      obtain ⟨h1, h2, h3, h4, h5⟩ := ih
      refine ⟨by omega, h2, h3, h4, fun l g1 g2 g3 => ?_⟩
      rcases Nat.lt_or_ge i l with g | g
      · exact h5 l g g2 g3
      · have : l = i := by omega
        subst this
        rcases Nat.lt_or_ge 0 0 with _ | _
        · omega
        · exact Classical.byContradiction fun q => e ⟨g3, q⟩
theorem lsN_IsL (c : Nat → Nat) (q p : Nat) : IsL c q p (lsN c q p 0 p) := by
  obtain ⟨-, h2, h3, h4, h5⟩ := lsN_ok c q p p 0 (by omega)
  exact ⟨h2, h3, h4, fun l h => h5 l (by omega) h⟩
abbrev CGO : Type := (Nat → Nat) × (Nat → Nat) × (Nat → Nat)
def stW : Nat → (Nat → Nat) → (Nat → Nat) → (Nat → Nat) → Nat → CGO
  | 0, c, g, o, _ => (c, g, o)
  | f + 1, c, g, o, p =>
    if lsN c (o ((p - 1) / 2)) p 0 p = 0 then (inc c 0, fun j => g (trp 0 p j), fun k => trp 0 p (o k))
    else stW f (inc c (lsN c (o ((p - 1) / 2)) p 0 p)) (fun j => g (trp (lsN c (o ((p - 1) / 2)) p 0 p) p j)) (fun k => trp (lsN c (o ((p - 1) / 2)) p 0 p) p (o k)) (o ((lsN c (o ((p - 1) / 2)) p 0 p - 1) / 2))
theorem stW_s (f : Nat) (c g o : Nat → Nat) (p : Nat) : stW (f + 1) c g o p = if lsN c (o ((p - 1) / 2)) p 0 p = 0 then (inc c 0, fun j => g (trp 0 p j), fun k => trp 0 p (o k))
    else stW f (inc c (lsN c (o ((p - 1) / 2)) p 0 p)) (fun j => g (trp (lsN c (o ((p - 1) / 2)) p 0 p) p j)) (fun k => trp (lsN c (o ((p - 1) / 2)) p 0 p) p (o k)) (o ((lsN c (o ((p - 1) / 2)) p 0 p - 1) / 2)) := rfl
def GI (n m : Nat) (g o : Nat → Nat) : Prop := (∀ p, p < 2 * m + 1 → (g p = 0 ↔ ∃ k, k < m ∧ o k = p)) ∧ g (2 * m) = 1 ∧ (∀ p, p < 2 * m → g p ≠ 1 ∧ g p < n + 2) ∧ ∀ p q, p < 2 * m + 1 → q < 2 * m + 1 → g p = g q → g p ≠ 0 → p = q
/-- the sign s is at some place -/
def HasS (m : Nat) (g : Nat → Nat) (s : Nat) : Prop := ∃ p, p < 2 * m + 1 ∧ g p = s + 2
theorem trp_trp {i p a : Nat} : trp i p (trp i p a) = a := by unfold trp; grind
theorem trp_bd {i p a b : Nat} (hi : i < b) (hp : p < b) (ha : a < b) : trp i p a < b := by unfold trp; grind
theorem trp_fix {i p a : Nat} (hi : i ≠ a) (hp : p ≠ a) : trp i p a = a := by unfold trp; grind
theorem trp_self {p a : Nat} : trp p p a = a := by unfold trp; grind
theorem GI_step {n m : Nat} {g o : Nat → Nat} {i p : Nat} (h : GI n m g o) (hi : i ≤ p) (hp : p < 2 * m) : GI n m (fun j => g (trp i p j)) (fun k => trp i p (o k)) := by
  obtain ⟨h1, h2, h3, h4⟩ := h
  refine ⟨fun q hq => ?_, ?_, fun q hq => ?_, fun q r hq hr e1 e2 => ?_⟩
  · show g (trp i p q) = 0 ↔ ∃ k, k < m ∧ trp i p (o k) = q
    rw [h1 _ (trp_bd (by omega) (by omega) hq)]
    constructor
    · rintro ⟨k, hk, e⟩
      exact ⟨k, hk, by rw [e, trp_trp]⟩
    · rintro ⟨k, hk, e⟩
      exact ⟨k, hk, by rw [← e, trp_trp]⟩
  · show g (trp i p (2 * m)) = 1
    rw [trp_fix (by omega) (by omega)]
    exact h2
  · exact h3 _ (trp_bd (by omega) (by omega) hq)
  · exact trp_inj (h4 _ _ (trp_bd (by omega) (by omega) hq) (trp_bd (by omega) (by omega) hr) e1 e2)
theorem HasS_step {m : Nat} {g : Nat → Nat} {i p s : Nat} (hi : i ≤ p) (hp : p < 2 * m) : HasS m (fun j => g (trp i p j)) s ↔ HasS m g s := by
  constructor
  · rintro ⟨q, hq, e⟩
    exact ⟨_, trp_bd (by omega) (by omega) hq, e⟩
  · rintro ⟨q, hq, e⟩
    exact ⟨trp i p q, trp_bd (by omega) (by omega) hq, by show g _ = _; rw [trp_trp]; exact e⟩
theorem stW_ok {n m : Nat} : ∀ (f : Nat) (c g o : Nat → Nat) (p : Nat), p < f → p < 2 * m → PI m c o p → GI n m g o → PI m (stW f c g o p).1 (stW f c g o p).2.2 (2 * m + 1) ∧ GI n m (stW f c g o p).2.1 (stW f c g o p).2.2 ∧ (∀ s, HasS m (stW f c g o p).2.1 s ↔ HasS m g s) ∧ (stW f c g o p).1 0 = c 0 + 1
  | 0, c, g, o, p, hf, hp, hP, hG => absurd hf (by omega)
  | f + 1, c, g, o, p, hf, hp, hP, hG => by
    have hL := lsN_IsL c (o ((p - 1) / 2)) p
    rw [stW_s]
    generalize lsN c (o ((p - 1) / 2)) p 0 p = i at hL
    have hip := hL.1
    have P1 := PI_step hP hp (fun _ => rfl) hL
    have G1 := GI_step hG hip hp
    have S1 : ∀ s, HasS m (fun j => g (trp i p j)) s ↔ HasS m g s := fun s => HasS_step hip hp
    by_cases e : i = 0
    · subst e
      rw [if_pos rfl]
      rw [if_pos rfl] at P1
      refine ⟨P1, G1, S1, ?_⟩
      show inc c 0 0 = _
      simp [inc]
    · rw [if_neg e]
      rw [if_neg e] at P1
      have hk : (i - 1) / 2 < m := by omega
      have hd := hP.1 _ hk
      have ih := stW_ok f (inc c i) (fun j => g (trp i p j)) (fun k => trp i p (o k)) (o ((i - 1) / 2)) (by omega) (by omega) P1 G1
      refine ⟨ih.1, ih.2.1, fun s => (ih.2.2.1 s).trans (S1 s), ?_⟩
      rw [ih.2.2.2]
      simp [inc, Ne.symm e]
/-- the steady tree, as one waits at a leaf -/
theorem PI_leaf {m : Nat} {c o : Nat → Nat} {p : Nat} (h : PI m c o (2 * m + 1)) (hl : ∀ k, k < m → o k ≠ p) : PI m c o p := by
  obtain ⟨hD, hI, hS, hO, hH, hZ, hP⟩ := h
  refine ⟨hD, hI, fun k hk => ?_, fun i j h1 h2 => ?_, hH, hZ, hP⟩
  · have hs := hS k hk
    have hd := hD k hk
    rw [if_neg (by omega)] at hs
    rw [if_neg (hl k hk)]
    exact hs
  · rcases hO i j h1 h2 with g | ⟨g, -⟩
    · exact Or.inl g
    · omega
/-- a new pair behind: the escape's place is split, and the new leaf and its parent have got their one -/
def spC (c : Nat → Nat) (m : Nat) : Nat → Nat := fun j => if j < 2 * m then c j else if j < 2 * m + 2 then 1 else 0
def spG (g : Nat → Nat) (m s : Nat) : Nat → Nat := fun j => if j < 2 * m then g j else if j = 2 * m then 0 else if j = 2 * m + 1 then s + 2 else 1
def spO (o : Nat → Nat) (m : Nat) : Nat → Nat := fun k => if k < m then o k else 2 * m
theorem PI_split {m : Nat} {c o : Nat → Nat} (h : PI m c o (2 * m + 1)) : PI (m + 1) (spC c m) (spO o m) (if m = 0 then 2 * m + 3 else 2 * m - 2) := by
  obtain ⟨hD, hI, hS, hO, hH, hZ, hP⟩ := h
  refine ⟨fun k hk => ?_, fun k k' hk hk' => ?_, fun k hk => ?_, fun i j h1 h2 => ?_, fun _ => ?_, ?_, fun j hj => ?_⟩
  · unfold spO
    by_cases e : k < m
    · rw [if_pos e]; exact hD k e
    · rw [if_neg e]; omega
  · unfold spO
    by_cases e : k < m <;> by_cases e' : k' < m
    · rw [if_pos e, if_pos e']; exact hI k k' e e'
    · rw [if_pos e, if_neg e']; have := hD k e; omega
    · rw [if_neg e, if_pos e']; have := hD k' e'; omega
    · omega
  · by_cases e : k < m
    · have hs := hS k e
      have hd := hD k e
      rw [if_neg (by omega)] at hs
      have e1 : spO o m k = o k := by unfold spO; rw [if_pos e]
      have e2 : spC c m (o k) = c (o k) := by unfold spC; rw [if_pos (by omega)]
      have e3 : spC c m (2 * k + 1) = c (2 * k + 1) := by unfold spC; rw [if_pos (by omega)]
      rw [e1, e2, e3]
      have e0 : ¬ m = 0 := by omega
      rw [if_neg e0]
      by_cases e4 : k = m - 1
      · have e5 : 2 * k + 2 = 2 * m := by omega
        have e6 : spC c m (2 * k + 2) = 1 := by unfold spC; rw [if_neg (by omega), if_pos (by omega)]
        have e7 : o k = 2 * m - 2 := by rw [e4]; exact hH (by omega)
        rw [e6, if_pos e7]
        rw [e5, hZ] at hs
        omega
      · have e6 : spC c m (2 * k + 2) = c (2 * k + 2) := by unfold spC; rw [if_pos (by omega)]
        have e7 : ¬ o k = 2 * m - 2 := by
          intro e8
          have := hI k (m - 1) e (by omega) (by rw [hH (by omega)]; exact e8)
          omega
        rw [e6, if_neg e7, hs]
    · have : k = m := by omega
      subst this
      have q1 : spO o k k = 2 * k := by unfold spO; rw [if_neg (by omega)]
      have q2 : spC c k (2 * k) = 1 := by unfold spC; rw [if_neg (by omega), if_pos (by omega)]
      have q3 : spC c k (2 * k + 1) = 1 := by unfold spC; rw [if_neg (by omega), if_pos (by omega)]
      have q4 : spC c k (2 * k + 2) = 0 := by unfold spC; rw [if_neg (by omega), if_neg (by omega)]
      rw [q1, q2, q3, q4, if_neg (by split <;> omega)]
  · left
    have a1 : ∀ x, x < 2 * m → 1 ≤ c x := hP
    unfold spC
    by_cases e1 : j < 2 * m
    · rw [if_pos e1, if_pos (by omega)]
      rcases hO i j h1 (by omega) with g | ⟨g, -⟩
      · exact g
      · omega
    · by_cases e2 : i < 2 * m
      · rw [if_neg e1, if_pos e2]
        have := a1 i e2
        split <;> omega
      · rw [if_neg e1, if_neg e2]
        split <;> split <;> omega
  · unfold spO
    rw [if_neg (by omega)]
    omega
  · unfold spC
    rw [if_neg (by omega), if_neg (by omega)]
  · unfold spC
    by_cases e1 : j < 2 * m
    · rw [if_pos e1]; exact hP j e1
    · rw [if_neg e1, if_pos (by omega)]; omega
theorem GI_split {n m s : Nat} {g o : Nat → Nat} (h : GI n m g o) (hD : ∀ k, k < m → o k < 2 * k + 1) (hs : s < n) (hn : ¬ HasS m g s) : GI n (m + 1) (spG g m s) (spO o m) := by
  obtain ⟨h1, h2, h3, h4⟩ := h
  have hns : ∀ p, p < 2 * m + 1 → g p ≠ s + 2 := fun p hp e => hn ⟨p, hp, e⟩
  refine ⟨fun q hq => ?_, ?_, fun q hq => ?_, fun q r hq hr e1 e2 => ?_⟩
  · unfold spG
    by_cases e : q < 2 * m
    · rw [if_pos e, h1 q (by omega)]
      constructor
      · rintro ⟨k, hk, e⟩
        exact ⟨k, by omega, by unfold spO; rw [if_pos hk]; exact e⟩
      · rintro ⟨k, hk, e⟩
        unfold spO at e
        by_cases e3 : k < m
        · rw [if_pos e3] at e; exact ⟨k, e3, e⟩
        · rw [if_neg e3] at e; omega
    · rw [if_neg e]
      by_cases e2 : q = 2 * m
      · rw [if_pos e2]
        exact ⟨fun _ => ⟨m, by omega, by unfold spO; rw [if_neg (by omega)]; omega⟩, fun _ => rfl⟩
      · rw [if_neg e2]
        constructor
        · intro e3
          split at e3 <;> omega
        · rintro ⟨k, hk, e3⟩
          unfold spO at e3
          by_cases e4 : k < m
          · rw [if_pos e4] at e3; have := hD k e4; omega
          · rw [if_neg e4] at e3; omega
  · unfold spG; rw [if_neg (by omega), if_neg (by omega), if_neg (by omega)]
  · unfold spG
    by_cases e : q < 2 * m
    · rw [if_pos e]; exact h3 q e
    · rw [if_neg e]
      split
      · omega
      · rw [if_pos (by omega)]; omega
  · unfold spG at e1 e2
    have k1 : ∀ x, x < 2 * m → g x ≠ 1 := fun x hx => (h3 x hx).1
    by_cases e3 : q < 2 * m <;> by_cases e4 : r < 2 * m
    · rw [if_pos e3] at e2
      rw [if_pos e3, if_pos e4] at e1
      exact h4 q r (by omega) (by omega) e1 e2
    · rw [if_pos e3] at e2
      rw [if_pos e3, if_neg e4] at e1
      have := k1 q e3
      have := hns q (by omega)
      grind
    · rw [if_neg e3, if_pos e4] at e1
      have := k1 r e4
      have := hns r (by omega)
      grind
    · rw [if_neg e3, if_neg e4] at e1
      rw [if_neg e3] at e2
      grind
theorem HasS_split {m s s' : Nat} {g : Nat → Nat} (he : g (2 * m) = 1) : HasS (m + 1) (spG g m s) s' ↔ (HasS m g s' ∨ s' = s) := by
  constructor
  · rintro ⟨p, hp, e⟩
    unfold spG at e
    by_cases e1 : p < 2 * m
    · rw [if_pos e1] at e; exact Or.inl ⟨p, by omega, e⟩
    · rw [if_neg e1] at e; grind
  · rintro (⟨p, hp, e⟩ | rfl)
    · refine ⟨p, by omega, ?_⟩
      unfold spG
      have : p ≠ 2 * m := fun q => by subst q; omega
      rw [if_pos (by omega)]; exact e
    · refine ⟨2 * m + 1, by omega, ?_⟩
      unfold spG; rw [if_neg (by omega), if_neg (by omega), if_pos rfl]
/-- sums, and how many there are -/
def sm : Nat → (Nat → Nat) → Nat
  | 0, _ => 0
  | k + 1, f => sm k f + f k
theorem sm_congr {f g : Nat → Nat} : ∀ (k : Nat), (∀ i, i < k → f i = g i) → sm k f = sm k g
  | 0, _ => rfl
  | k + 1, h => by rw [sm, sm, sm_congr k (fun i hi => h i (by omega)), h k (by omega)]
theorem sm_le {f g : Nat → Nat} : ∀ (k : Nat), (∀ i, i < k → f i ≤ g i) → sm k f ≤ sm k g
  | 0, _ => Nat.le_refl _
  | k + 1, h => by rw [sm, sm]; exact Nat.add_le_add (sm_le k (fun i hi => h i (by omega))) (h k (by omega))
theorem sm_one {f : Nat → Nat} {a : Nat} : ∀ (k : Nat), a < k → sm k (fun i => if i = a then 0 else f i) + f a = sm k f
  | 0, h => absurd h (by omega)
  | k + 1, h => by
    rw [sm, sm]
    by_cases e : a = k
    · subst e
      rw [if_pos rfl, sm_congr a (g := f) (fun i hi => by rw [if_neg (by omega)])]
      omega
    · rw [if_neg (by omega)]
      have := sm_one (f := f) (a := a) k (by omega)
      omega
theorem sm_re {N : Nat} {o f : Nat → Nat} : ∀ (m : Nat) (d : Nat → Nat), (∀ k, k < m → o k < N) → (∀ k k', k < m → k' < m → o k = o k' → k = k') → (∀ p, p < N → (d p = 0 ↔ ∃ k, k < m ∧ o k = p)) → sm N (fun p => if d p = 0 then 0 else f p) + sm m (fun k => f (o k)) = sm N f
  | 0, d, _, _, hd => by
    rw [sm, Nat.add_zero]
    refine sm_congr N (fun i hi => ?_)
    rw [if_neg]
    intro e
    obtain ⟨k, hk, -⟩ := (hd i hi).mp e
    omega
  | m + 1, d, ho, hi, hd => by
    have ih := sm_re (f := f) m (fun p => if p = o m then 1 else d p) (fun k hk => ho k (by omega)) (fun k k' hk hk' => hi k k' (by omega) (by omega)) (fun p hp => by
      show (if p = o m then 1 else d p) = 0 ↔ _
      by_cases e : p = o m
      · rw [if_pos e]
        constructor
        · intro h; omega
        · rintro ⟨k, hk, e2⟩
          have := hi k m (by omega) (by omega) (by omega)
          omega
      · rw [if_neg e, hd p hp]
        constructor
        · rintro ⟨k, hk, e2⟩
          refine ⟨k, ?_, e2⟩
          have : k ≠ m := fun q => e (by rw [← e2, q])
          omega
        · rintro ⟨k, hk, e2⟩
          exact ⟨k, by omega, e2⟩)
    rw [sm, ← ih]
    have h1 := sm_one (f := fun p => if (if p = o m then 1 else d p) = 0 then 0 else f p) (a := o m) N (ho m (by omega))
    have h2 : sm N (fun i => if i = o m then 0 else (fun p => if (if p = o m then 1 else d p) = 0 then 0 else f p) i) = sm N (fun p => if d p = 0 then 0 else f p) := sm_congr N (fun i hi' => by
      show (if i = o m then 0 else if (if i = o m then 1 else d i) = 0 then 0 else f i) = _
      by_cases e : i = o m
      · rw [if_pos e]
        have : d i = 0 := (hd i hi').mpr ⟨m, by omega, e.symm⟩
        rw [if_pos this]
      · rw [if_neg e, if_neg e])
    rw [h2] at h1
    have h3 : (if (if o m = o m then 1 else d (o m)) = 0 then 0 else f (o m)) = f (o m) := by
      rw [if_pos rfl, if_neg (by omega)]
    have h4 := h1.symm.trans (congrArg (fun x => sm N (fun p => if d p = 0 then 0 else f p) + x) h3)
    omega
theorem sm_pairs {c : Nat → Nat} : ∀ (m : Nat), sm (2 * m + 1) c = c 0 + sm m (fun k => c (2 * k + 1) + c (2 * k + 2))
  | 0 => by simp [sm]
  | m + 1 => by
    have e : 2 * (m + 1) + 1 = 2 * m + 1 + 1 + 1 := by omega
    rw [e, sm, sm, sm_pairs m, sm]
    show _ + c (2 * m + 1) + c (2 * m + 2) = _
    omega
/-- the leaves' counts together are the root's; there are m + 1 leaves -/
theorem leaf_sum {n m : Nat} {c g o : Nat → Nat} (h : PI m c o (2 * m + 1)) (hG : GI n m g o) : sm (2 * m + 1) (fun p => if g p = 0 then 0 else c p) = c 0 := by
  obtain ⟨hD, hI, hS, -⟩ := h
  have h1 := sm_re (N := 2 * m + 1) (o := o) (f := c) m g (fun k hk => by have := hD k hk; omega) hI hG.1
  have h0 := sm_pairs (c := c) m
  have h2 : sm m (fun k => c (o k)) = sm m (fun k => c (2 * k + 1) + c (2 * k + 2)) := sm_congr m (fun k hk => by
    have hs := hS k hk
    have hd := hD k hk
    rw [if_neg (by omega)] at hs
    exact hs)
  omega
theorem sm_const : ∀ (m : Nat), sm m (fun _ => 1) = m
  | 0 => rfl
  | m + 1 => by rw [sm, sm_const m]
theorem leaf_many {n m : Nat} {c g o : Nat → Nat} (h : PI m c o (2 * m + 1)) (hG : GI n m g o) : sm (2 * m + 1) (fun p => if g p = 0 then 0 else 1) = m + 1 := by
  obtain ⟨hD, hI, -⟩ := h
  have h1 := sm_re (N := 2 * m + 1) (o := o) (f := fun _ => 1) m g (fun k hk => by have := hD k hk; omega) hI hG.1
  rw [sm_const, sm_const] at h1
  omega
/-- all in order: steady, m signs are known, and the count of the root is at most B -/
def CI (n B m : Nat) (c g o : Nat → Nat) : Prop := PI m c o (2 * m + 1) ∧ GI n m g o ∧ (∃ kn : Nat → Bool, (∀ s, s < n → (kn s = true ↔ HasS m g s)) ∧ sm n (fun s => if kn s = true then 1 else 0) = m) ∧ c 0 ≤ B
theorem CI.m_le {n B m : Nat} {c g o : Nat → Nat} (h : CI n B m c g o) : m ≤ n := by
  obtain ⟨-, -, ⟨kn, -, h2⟩, -⟩ := h
  have := sm_le (f := fun s => if kn s = true then 1 else 0) (g := fun _ => 1) n (fun i _ => by split <;> omega)
  rw [h2, sm_const] at this
  exact this
theorem CI.m_lt {n B m s : Nat} {c g o : Nat → Nat} (h : CI n B m c g o) (hs : s < n) (hn : ¬ HasS m g s) : m < n := by
  obtain ⟨-, -, ⟨kn, h1, h2⟩, -⟩ := h
  have h3 := sm_one (f := fun _ => 1) (a := s) n hs
  have h4 := sm_le (f := fun s => if kn s = true then 1 else 0) (g := fun i => if i = s then 0 else 1) n (fun i hi => by
    by_cases e : i = s
    · subst e
      rw [if_neg (fun q => hn ((h1 i hi).mp q))]; omega
    · rw [if_neg e]; split <;> omega)
  rw [h2] at h4
  rw [sm_const] at h3
  omega
/-- what a call's step does: split if the sign is new, then the walk up -/
theorem CI.step {n B m p s f : Nat} {c g o : Nat → Nat} (h : CI n B m c g o) (hp : p < 2 * m + 1) (hg : g p = s + 2) (hf : p < f) : CI n (B + 1) m (stW f c g o p).1 (stW f c g o p).2.1 (stW f c g o p).2.2 := by
  obtain ⟨hP, hG, ⟨kn, h1, h2⟩, hB⟩ := h
  have hlt : p < 2 * m := by
    have : p ≠ 2 * m := fun e => by have := hG.2.1; rw [← e] at this; omega
    omega
  have hl : ∀ k, k < m → o k ≠ p := fun k hk e => by
    have := (hG.1 p hp).mpr ⟨k, hk, e⟩
    omega
  obtain ⟨r1, r2, r3, r4⟩ := stW_ok f c g o p hf hlt (PI_leaf hP hl) hG
  exact ⟨r1, r2, ⟨kn, fun s hs => (h1 s hs).trans (r3 s).symm, h2⟩, by omega⟩
theorem sm_kn {n s : Nat} {kn : Nat → Bool} (hs : s < n) (hk : kn s = false) : sm n (fun i => if (if i = s then true else kn i) = true then 1 else 0) = sm n (fun i => if kn i = true then 1 else 0) + 1 := by
  have h1 := sm_one (f := fun i => if (if i = s then true else kn i) = true then 1 else 0) (a := s) n hs
  have h2 : sm n (fun i => if i = s then 0 else (fun i => if (if i = s then true else kn i) = true then 1 else 0) i) = sm n (fun i => if kn i = true then 1 else 0) := sm_congr n (fun i _ => by
    show (if i = s then 0 else if (if i = s then true else kn i) = true then 1 else 0) = _
    by_cases e : i = s
    · subst e; simp [hk]
    · rw [if_neg e, if_neg e])
  rw [h2] at h1
  simp at h1
  simp
  omega
theorem CI.split {n B m s f : Nat} {c g o : Nat → Nat} (h : CI n B m c g o) (hs : s < n) (hn : ¬ HasS m g s) (hf : 2 * m < f) :
    if m = 0 then CI n (B + 1) (m + 1) (spC c m) (spG g m s) (spO o m) else CI n (B + 1) (m + 1) (stW f (spC c m) (spG g m s) (spO o m) (2 * m - 2)).1 (stW f (spC c m) (spG g m s) (spO o m) (2 * m - 2)).2.1 (stW f (spC c m) (spG g m s) (spO o m) (2 * m - 2)).2.2 := by
  obtain ⟨hP, hG, ⟨kn, h1, h2⟩, hB⟩ := h
  have P1 := PI_split hP
  have G1 := GI_split hG hP.1 hs hn
  have hk : kn s = false := by
    cases e : kn s
    · rfl
    · exact absurd ((h1 s hs).mp e) hn
  have K1 : ∀ s', s' < n → ((if s' = s then true else kn s') = true ↔ HasS (m + 1) (spG g m s) s') := fun s' hs' => by
    rw [HasS_split hG.2.1]
    by_cases e : s' = s
    · simp [e]
    · rw [if_neg e, h1 s' hs']
      simp [e]
  have K2 := sm_kn (kn := kn) hs hk
  by_cases e : m = 0
  · rw [if_pos e]
    rw [if_pos e] at P1
    refine ⟨P1, G1, ⟨_, K1, by rw [K2, h2]⟩, ?_⟩
    subst e
    unfold spC
    simp
  · rw [if_neg e]
    rw [if_neg e] at P1
    obtain ⟨r1, r2, r3, r4⟩ := stW_ok f _ _ _ _ (by omega) (by omega) P1 G1
    refine ⟨r1, r2, ⟨_, fun s' hs' => (K1 s' hs').trans (r3 s').symm, by rw [K2, h2]⟩, ?_⟩
    rw [r4]
    have : spC c m 0 = c 0 := by unfold spC; rw [if_pos (by omega)]
    omega
