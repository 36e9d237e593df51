/-! THE SPLAYED TREE, abstractly: u k the parent, d k the side (0 first, 1 second); nodes below 2 n - 1, those below n - 1 are inner -/
def DP (n : Nat) (u dp : Nat → Nat) : Prop := dp 0 = 0 ∧ ∀ k, 0 < k → k < 2 * n - 1 → dp k = dp (u k) + 1
def SI (n : Nat) (u d : Nat → Nat) : Prop := (∀ k, 0 < k → k < 2 * n - 1 → u k < n - 1 ∧ d k < 2) ∧ (∀ k k', 0 < k → k < 2 * n - 1 → 0 < k' → k' < 2 * n - 1 → u k = u k' → d k = d k' → k = k') ∧ (∀ k, k < n - 1 → ∀ b, b < 2 → ∃ a, 0 < a ∧ a < 2 * n - 1 ∧ u a = k ∧ d a = b) ∧ ∃ dp, DP n u dp
/-- an exact depth out of a rank -/
def dpt (u : Nat → Nat) : Nat → Nat → Nat
  | 0, _ => 0
  | f + 1, k => if k = 0 then 0 else dpt u f (u k) + 1
theorem dpt_ind {n : Nat} {u rk : Nat → Nat} (hu : ∀ k, 0 < k → k < 2 * n - 1 → u k < 2 * n - 1) (hr : ∀ k, 0 < k → k < 2 * n - 1 → rk (u k) < rk k) : ∀ (r f f' k : Nat), k < 2 * n - 1 → rk k ≤ r → rk k < f → rk k < f' → dpt u f k = dpt u f' k
  | r, 0, f', k, _, _, h, _ => absurd h (by omega)
  | r, f + 1, 0, k, _, _, _, h => absurd h (by omega)
  | 0, f + 1, f' + 1, k, hk, h0, h1, h2 => by
    rw [dpt, dpt]
    by_cases e : k = 0
    · rw [if_pos e, if_pos e]
    · have := hr k (by omega) hk; omega
  | r + 1, f + 1, f' + 1, k, hk, h0, h1, h2 => by
    rw [dpt, dpt]
    by_cases e : k = 0
    · rw [if_pos e, if_pos e]
    · have := hr k (by omega) hk
      rw [if_neg e, if_neg e, dpt_ind hu hr r f f' (u k) (hu k (by omega) hk) (by omega) (by omega) (by omega)]
theorem DP_of {n : Nat} {u rk : Nat → Nat} (hu : ∀ k, 0 < k → k < 2 * n - 1 → u k < 2 * n - 1) (hr : ∀ k, 0 < k → k < 2 * n - 1 → rk (u k) < rk k) : ∃ dp, DP n u dp := by
  refine ⟨fun k => dpt u (rk k + 1) k, by show dpt u (rk 0 + 1) 0 = 0; rw [dpt, if_pos rfl], fun k h0 hk => ?_⟩
  show dpt u (rk k + 1) k = dpt u (rk (u k) + 1) (u k) + 1
  rw [dpt, if_neg (by omega), dpt_ind hu hr (rk (u k)) (rk k) (rk (u k) + 1) (u k) (hu k h0 hk) (Nat.le_refl _) (hr k h0 hk) (by omega)]
/-- pigeons -/
theorem pig : ∀ (N K : Nat) (f : Nat → Nat), (∀ i, i < K → f i < N) → (∀ i j, i < K → j < K → f i = f j → i = j) → K ≤ N
  | 0, 0, f, _, _ => Nat.le_refl _
  | 0, K + 1, f, h, _ => absurd (h 0 (by omega)) (by omega)
  | N + 1, 0, f, _, _ => by omega
  | N + 1, K + 1, f, h, hi => by
    have := pig N K (fun i => if f i = N then f K else f i) (fun i hi' => by
      show (if f i = N then f K else f i) < N
      by_cases e : f i = N
      · rw [if_pos e]
        have h1 := h K (by omega)
        have : f K ≠ N := fun q => by have := hi i K (by omega) (by omega) (by omega); omega
        omega
      · rw [if_neg e]
        have h1 := h i (by omega)
        omega) (fun i j hi' hj' e => by
      have e : (if f i = N then f K else f i) = (if f j = N then f K else f j) := e
      by_cases e1 : f i = N <;> by_cases e2 : f j = N
      · exact hi i j (by omega) (by omega) (by omega)
      · rw [if_pos e1, if_neg e2] at e
        have := hi K j (by omega) (by omega) e; omega
      · rw [if_neg e1, if_pos e2] at e
        have := hi i K (by omega) (by omega) e; omega
      · rw [if_neg e1, if_neg e2] at e
        exact hi i j (by omega) (by omega) e)
    omega
def itN (u : Nat → Nat) : Nat → Nat → Nat
  | 0, k => k
  | j + 1, k => itN u j (u k)
theorem DP_bd {n : Nat} {u d dp : Nat → Nat} (hS : SI n u d) (hd : DP n u dp) {k : Nat} (hk : k < 2 * n - 1) : dp k < 2 * n - 1 := by
  have H : ∀ (j x : Nat), x < 2 * n - 1 → j ≤ dp x → itN u j x < 2 * n - 1 ∧ dp (itN u j x) + j = dp x := by
    intro j
    induction j with
    | zero => intro x hx _; exact ⟨hx, rfl⟩
    | succ j ih =>
      intro x hx hj
      have h0 : 0 < x := by
        rcases Nat.eq_zero_or_pos x with e | e
        · subst e; have := hd.1; omega
        · exact e
      have h1 := hd.2 x h0 hx
      have h2 := (hS.1 x h0 hx).1
      have := ih (u x) (by omega) (by omega)
      exact ⟨this.1, by show dp (itN u j (u x)) + (j + 1) = dp x; omega⟩
  have := pig (2 * n - 1) (dp k + 1) (fun j => itN u j k) (fun j hj => (H j k hk (by omega)).1) (fun i j hi hj e => by
    have h1 := (H i k hk (by omega)).2
    have h2 := (H j k hk (by omega)).2
    have e : itN u i k = itN u j k := e
    rw [e] at h1
    omega)
  omega
/-- the child of k on the side b, sought below N -/
def chd (u d : Nat → Nat) (k b : Nat) : Nat → Nat
  | 0 => 0
  | x + 1 => if 0 < x ∧ u x = k ∧ d x = b then x else chd u d k b x
theorem chd_eq {n : Nat} {u d : Nat → Nat} (hS : SI n u d) {v : Nat} (h0 : 0 < v) (hv : v < 2 * n - 1) : ∀ N, v < N → N ≤ 2 * n - 1 → chd u d (u v) (d v) N = v
  | 0, h, _ => absurd h (by omega)
  | x + 1, h, hN => by
    rw [chd]
    by_cases e : 0 < x ∧ u x = u v ∧ d x = d v
    · rw [if_pos e]
      exact hS.2.1 x v e.1 (by omega) h0 hv e.2.1 e.2.2
    · rw [if_neg e]
      have : v ≠ x := fun q => e (by subst q; exact ⟨h0, rfl, rfl⟩)
      exact chd_eq hS h0 hv x (by omega) (by omega)
theorem chd_ok {n : Nat} {u d : Nat → Nat} (hS : SI n u d) {k b : Nat} (hk : k < n - 1) (hb : b < 2) : 0 < chd u d k b (2 * n - 1) ∧ chd u d k b (2 * n - 1) < 2 * n - 1 ∧ u (chd u d k b (2 * n - 1)) = k ∧ d (chd u d k b (2 * n - 1)) = b := by
  obtain ⟨a, a1, a2, a3, a4⟩ := hS.2.2.1 k hk b hb
  have := chd_eq hS a1 a2 (2 * n - 1) a2 (Nat.le_refl _)
  rw [a3, a4] at this
  rw [this]
  exact ⟨a1, a2, a3, a4⟩
/-- one turn: a changes with its parent's sibling -/
theorem SI_swap {n : Nat} {u d dp : Nat → Nat} {a v : Nat} (hS : SI n u d) (hd : DP n u dp) (ha : 0 < a) (ha2 : a < 2 * n - 1) (hp : 0 < u a) (hv : 0 < v) (hv2 : v < 2 * n - 1) (hvu : u v = u (u a)) (hvd : d v ≠ d (u a)) :
    SI n (fun k => u (trp a v k)) (fun k => d (trp a v k)) ∧ ∃ dp', DP n (fun k => u (trp a v k)) dp' ∧ ∀ x, x < 2 * n - 1 → dp x ≤ dp (u (u a)) → dp' x = dp x := by
  obtain ⟨s1, s2, s3, -⟩ := hS
  have t0 : ∀ k, 0 < k → 0 < trp a v k := fun k hk => by unfold trp; grind
  have t1 : ∀ k, k < 2 * n - 1 → trp a v k < 2 * n - 1 := fun k hk => trp_bd ha2 hv2 hk
  have ua := (s1 a ha ha2).1
  have hpv : u a ≠ v := fun e => hvd (by rw [e])
  have hpa : u a ≠ a := fun e => by have := hd.2 a ha ha2; rw [e] at this; omega
  have hav : a ≠ v := fun e => by
    have h1 := hd.2 a ha ha2
    have h2 := hd.2 (u a) hp (by omega)
    have h3 := hd.2 v hv hv2
    rw [hvu] at h3
    rw [e] at h1 h2 h3
    omega
  have d1 := hd.2 a ha ha2
  have d2 := hd.2 (u a) hp (by omega)
  have d3 := hd.2 v hv hv2
  rw [hvu] at d3
  have hu' : ∀ k, 0 < k → k < 2 * n - 1 → u (trp a v k) < 2 * n - 1 := fun k h0 hk => by have := (s1 _ (t0 k h0) (t1 k hk)).1; omega
  have ta : trp a v a = v := by unfold trp; rw [if_pos rfl]
  have tv : trp a v v = a := by unfold trp; rw [if_neg (Ne.symm hav), if_pos rfl]
  have ex : ∃ dp', DP n (fun k => u (trp a v k)) dp' := by
    refine DP_of (rk := fun k => if k = v then 2 * dp k + 1 else 2 * dp k) hu' (fun k h0 hk => ?_)
    show (if u (trp a v k) = v then 2 * dp (u (trp a v k)) + 1 else 2 * dp (u (trp a v k))) < (if k = v then 2 * dp k + 1 else 2 * dp k)
    by_cases e1 : k = a
    · subst e1
      rw [ta, hvu, if_neg hav]
      split <;> omega
    · by_cases e2 : k = v
      · subst e2
        rw [tv, if_neg hpv, if_pos rfl]
        omega
      · rw [trp_fix (Ne.symm e1) (Ne.symm e2), if_neg e2]
        have := hd.2 k h0 hk
        split <;> omega
  refine ⟨⟨fun k h0 hk => s1 _ (t0 k h0) (t1 k hk), fun k k' h0 hk h0' hk' e1 e2 => trp_inj (s2 _ _ (t0 k h0) (t1 k hk) (t0 k' h0') (t1 k' hk') e1 e2), fun k hk b hb => ?_, ex⟩, ?_⟩
  · obtain ⟨x, x1, x2, x3, x4⟩ := s3 k hk b hb
    exact ⟨trp a v x, t0 x x1, t1 x x2, by show u (trp a v (trp a v x)) = k; rw [trp_trp]; exact x3, by show d (trp a v (trp a v x)) = b; rw [trp_trp]; exact x4⟩
  · obtain ⟨dp', h'⟩ := ex
    refine ⟨dp', h', ?_⟩
    have : ∀ (r x : Nat), x < 2 * n - 1 → dp x = r → dp x ≤ dp (u (u a)) → dp' x = dp x := by
      intro r
      induction r with
      | zero =>
        intro x hx e _
        have : x = 0 := by
          rcases Nat.eq_zero_or_pos x with z | z
          · exact z
          · have := hd.2 x z hx; omega
        rw [this, h'.1, hd.1]
      | succ r ih =>
        intro x hx e hle
        have h0 : 0 < x := by
          rcases Nat.eq_zero_or_pos x with z | z
          · subst z; have := hd.1; omega
          · exact z
        have x1 : x ≠ a := fun z => by rw [z] at hle; omega
        have x2 : x ≠ v := fun z => by rw [z] at hle; omega
        have h1 := h'.2 x h0 hx
        have h2 := hd.2 x h0 hx
        have h1' : dp' x = dp' (u x) + 1 := by
          have : trp a v x = x := trp_fix (Ne.symm x1) (Ne.symm x2)
          dsimp only at h1
          rw [this] at h1
          exact h1
        rw [h1', ih (u x) (by have := (s1 x h0 hx).1; omega) (by omega) (by omega), h2]
    exact fun x hx hle => this (dp x) x hx rfl hle
def unc (n : Nat) (u d : Nat → Nat) (a : Nat) : Nat := chd u d (u (u a)) (1 - d (u a)) (2 * n - 1)
def spS (n : Nat) : Nat → (Nat → Nat) → (Nat → Nat) → Nat → (Nat → Nat) × (Nat → Nat)
  | 0, u, d, _ => (u, d)
  | f + 1, u, d, a => if a = 0 ∨ u a = 0 then (u, d) else spS n f (fun k => u (trp a (unc n u d a) k)) (fun k => d (trp a (unc n u d a) k)) (u (u a))
theorem spS_s (n f : Nat) (u d : Nat → Nat) (a : Nat) : spS n (f + 1) u d a = if a = 0 ∨ u a = 0 then (u, d) else spS n f (fun k => u (trp a (unc n u d a) k)) (fun k => d (trp a (unc n u d a) k)) (u (u a)) := rfl
theorem unc_ok {n : Nat} {u d : Nat → Nat} {a : Nat} (hS : SI n u d) (ha : 0 < a) (ha2 : a < 2 * n - 1) (hp : 0 < u a) : 0 < unc n u d a ∧ unc n u d a < 2 * n - 1 ∧ u (unc n u d a) = u (u a) ∧ d (unc n u d a) = 1 - d (u a) ∧ d (u a) < 2 := by
  have h1 := (hS.1 a ha ha2).1
  have h2 := hS.1 (u a) hp (by omega)
  have := chd_ok hS h2.1 (show 1 - d (u a) < 2 by omega)
  exact ⟨this.1, this.2.1, this.2.2.1, this.2.2.2, h2.2⟩
theorem spS_ok {n : Nat} : ∀ (f : Nat) (u d dp : Nat → Nat) (a : Nat), SI n u d → DP n u dp → a < 2 * n - 1 → SI n (spS n f u d a).1 (spS n f u d a).2
  | 0, u, d, dp, a, hS, hd, ha => hS
  | f + 1, u, d, dp, a, hS, hd, ha => by
    rw [spS_s]
    by_cases e : a = 0 ∨ u a = 0
    · rw [if_pos e]; exact hS
    · rw [if_neg e]
      have a0 : 0 < a := by omega
      have u0 : 0 < u a := by omega
      obtain ⟨v1, v2, v3, v4, v5⟩ := unc_ok hS a0 ha u0
      obtain ⟨S', dp', h', -⟩ := SI_swap hS hd a0 ha u0 v1 v2 v3 (by omega)
      have h1 := (hS.1 a a0 ha).1
      have h2 := hS.1 (u a) u0 (by omega)
      exact spS_ok f _ _ dp' _ S' h' (by omega)
