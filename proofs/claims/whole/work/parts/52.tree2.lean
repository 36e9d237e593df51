/-! a node is filled, two change places, the least place is sought: over the rows of ints -/
def okF (n M : Nat) (s f g : Int32) : Prop := (∃ f' g' : Nat, f = nI f' ∧ g = nI g' ∧ f' < M ∧ g' < M) ∨ (f = (-1) ∧ (s = (-2) ∨ ∃ s' : Nat, s = nI s' ∧ s' < n))
def fEs (es : Int32) (i : Nat) (s f : Int32) : Int32 := if f = (-1) ∧ s = (-2) then nI i else es
def fPa (pa : Nat → Int32) (i : Nat) (f g : Int32) : Nat → Int32 := if f = (-1) then pa else upd (upd pa f.toNatClampNeg (nI i)) g.toNatClampNeg (nI i)
def fLf (lf : Nat → Int32) (i : Nat) (s f : Int32) : Nat → Int32 := if f = (-1) ∧ ¬ s = (-2) then upd lf s.toNatClampNeg (nI i) else lf
theorem lpG_s {X : Type} {bot : X} {B : X → X} (w : Nat) : lpG bot (w + 1) B = B (lpG bot w B) := rfl
section TR2
variable {n P a M : Nat} {fm es hv : Int32} {cn sg pa fs sn lf : Nat → Int32} {h : Hp}
theorem e_fill {i : Nat} {c s f g : Int32} (hi : i < M) (hM : M ≤ 2 * n + 1) (hn : n ≤ 64) (hk : okF n M s f g) : FT_fill (ov n P a fm (nI M) es hv cn sg pa fs sn lf h) a (nI i) c s f g = some (ov n P a fm (nI M) (fEs es i s f) hv (upd cn i c) (upd sg i s) (fPa pa i f g) (upd fs i f) (upd sn i g) (fLf lf i s f) h) := by
  rcases hk with ⟨f', g', rfl, rfl, hf, hg⟩ | ⟨rfl, rfl | ⟨s', rfl, hs⟩⟩
  · have e1 : ¬ nI f' = (-1) := m1_nI (by omega)
    rw [e_fill_in hi hf hg hM hn]
    simp only [fEs, fPa, fLf, e1, false_and, if_false]
    rw [nI_clamp (by omega), nI_clamp (by omega)]
  · rw [e_fill_esc hi hM hn]
    simp [fEs, fPa, fLf]
  · have e1 : ¬ nI s' = (-2) := m2_nI (by omega)
    rw [e_fill_leaf hi hs hM hn]
    simp only [fEs, fPa, fLf, e1, and_false, if_false, if_true, not_false_eq_true, and_self]
    rw [nI_clamp (by omega)]
theorem e_changePlaces {i j : Nat} (hi : i < M) (hj : j < M) (hM : M ≤ 2 * n + 1) (hn : n ≤ 64) (ki : okF n M (sg i) (fs i) (sn i)) (kj : okF n M (sg j) (fs j) (sn j)) : FT_changePlaces (ov n P a fm (nI M) es hv cn sg pa fs sn lf h) a (nI i) (nI j) = some (ov n P a fm (nI M) (fEs (fEs es i (sg j) (fs j)) j (sg i) (fs i)) hv (upd (upd cn i (cn j)) j (cn i)) (upd (upd sg i (sg j)) j (sg i)) (fPa (fPa pa i (fs j) (sn j)) j (fs i) (sn i)) (upd (upd fs i (fs j)) j (fs i)) (upd (upd sn i (sn j)) j (sn i)) (fLf (fLf lf i (sg j) (fs j)) j (sg i) (fs i)) h) := by
  have hi' : i < 2 * n + 1 := by omega
  have hj' : j < 2 * n + 1 := by omega
  unfold FT_changePlaces
  rw [q_h1 hi hM hn, jn_eq]
  try dsimp only
  rw [if_neg (by decide), q_h1 hj hM hn, if_neg (by decide), r_cn, ld_cn hi' hn, r_sg, ld_sg hi' hn, r_fs, ld_fs hi' hn, r_sn, ld_sn hi' hn, r_cn, ld_cn hj' hn, r_sg, ld_sg hj' hn, r_fs, ld_fs hj' hn, r_sn, ld_sn hj' hn, gd_t o_ov, e_fill hi hM hn kj, Option.bind_some, gd_t o_ov, e_fill hj hM hn ki, Option.bind_some]
/-- from i on, k places up to p: the first with p's count that isn't p's parent; else p -/
def lsA (cn pa : Nat → Int32) (p : Nat) : Nat → Nat → Nat
  | _, 0 => p
  | i, k + 1 => if cn i = cn p ∧ ¬ nI i = pa p then i else lsA cn pa p (i + 1) k
theorem e_least_loop {p : Nat} (hp : p < M) (hM : M ≤ 2 * n + 1) (hn : n ≤ 64) : ∀ (k i w : Nat), i + k = p → k < w → lpG (fun _ => none) w (LT_leastPlaceToChange_15 (ov n P a fm (nI M) es hv cn sg pa fs sn lf h) a (nI p) (cn p) (pa p) (some (nI p)) (fun x => some x)) (nI i) = some (nI (lsA cn pa p i k))
  | 0, i, 0, _, hw => absurd hw (by omega)
  | 0, i, w + 1, hik, _ => by
    have e : i = p := by omega
    subst e
    rw [lpG_s, LT_leastPlaceToChange_15.eq_1]
    rw [if_pos (nI_le (Nat.le_refl _) (by omega))]
    rfl
  | k + 1, i, 0, _, hw => absurd hw (by omega)
  | k + 1, i, w + 1, hik, hw => by
    have ih := e_least_loop hp hM hn k (i + 1) w (by omega) (by omega)
    rw [lpG_s, LT_leastPlaceToChange_15.eq_1]
    rw [if_neg (nI_ge (show i < p by omega) (by omega)), q_cn (show i < M by omega) hM hn, jn_eq]
    try dsimp only
    rw [nI_1, ih]
    rw [show lsA cn pa p i (k + 1) = if cn i = cn p ∧ ¬ nI i = pa p then i else lsA cn pa p (i + 1) k from rfl]
    by_cases e1 : cn i = cn p
    · rw [if_pos e1]
      by_cases e2 : nI i = pa p
      · rw [if_pos e2, if_neg (fun q => q.2 e2)]
      · rw [if_neg e2, if_pos ⟨e1, e2⟩]
    · rw [if_neg e1, if_neg (fun q => e1 q.1)]
theorem e_least {p : Nat} (hp : p < M) (hM : M ≤ 2 * n + 1) (hn : n ≤ 64) : FT_leastPlaceToChange (ov n P a fm (nI M) es hv cn sg pa fs sn lf h) a (nI p) = some (nI (lsA cn pa p 0 p)) := by
  unfold FT_leastPlaceToChange
  rw [q_cn hp hM hn, q_pa hp hM hn, jn_eq]
  try dsimp only
  rw [jn_eq]
  try dsimp only
  exact e_least_loop hp hM hn p 0 fu (by omega) (by show p < 100000; omega)
end TR2
