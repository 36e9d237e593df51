/-! a node is filled, two change places, the least place is sought: over the rows of ints -/
def okF (n : Nat) (s f g : Int32) : Prop := (∃ f' g' : Nat, f = nI f' ∧ g = nI g' ∧ f' < 2 * n + 1 ∧ g' < 2 * n + 1) ∨ (f = (-1) ∧ (s = (-2) ∨ ∃ s' : Nat, s = nI s' ∧ s' < n))
def fEs (es : Int32) (i : Nat) (s f : Int32) : Int32 := if f = (-1) ∧ s = (-2) then nI i else es
def fPa (pa : Nat → Int32) (i : Nat) (f g : Int32) : Nat → Int32 := if f = (-1) then pa else upd (upd pa f.toNatClampNeg (nI i)) g.toNatClampNeg (nI i)
def fLf (lf : Nat → Int32) (i : Nat) (s f : Int32) : Nat → Int32 := if f = (-1) ∧ ¬ s = (-2) then upd lf s.toNatClampNeg (nI i) else lf
theorem lpG_s {X : Type} {bot : X} {B : X → X} (w : Nat) : lpG bot (w + 1) B = B (lpG bot w B) := rfl
section TR2
variable {n P a : Nat} {fm sz es hv : Int32} {cn sg pa fs sn lf : Nat → Int32} {h : Hp}
theorem e_fill {i : Nat} {c s f g : Int32} (hi : i < 2 * n + 1) (hn : n ≤ 64) (hk : okF n s f g) : FT_fill (ov n P a fm sz es hv cn sg pa fs sn lf h) a (nI i) c s f g = some (ov n P a fm sz (fEs es i s f) hv (upd cn i c) (upd sg i s) (fPa pa i f g) (upd fs i f) (upd sn i g) (fLf lf i s f) h) := by
  rcases hk with ⟨f', g', rfl, rfl, hf, hg⟩ | ⟨rfl, rfl | ⟨s', rfl, hs⟩⟩
  · have e1 : ¬ nI f' = (-1) := m1_nI (by omega)
    rw [e_fill_in hi hf hg hn]
    simp only [fEs, fPa, fLf, e1, false_and, if_false]
    rw [nI_clamp (by omega), nI_clamp (by omega)]
  · rw [e_fill_esc hi hn]
    simp [fEs, fPa, fLf]
  · have e1 : ¬ nI s' = (-2) := m2_nI (by omega)
    rw [e_fill_leaf hi hs hn]
    simp only [fEs, fPa, fLf, e1, and_false, if_false, if_true, not_false_eq_true, and_self]
    rw [nI_clamp (by omega)]
theorem e_changePlaces {i j : Nat} (hi : i < 2 * n + 1) (hj : j < 2 * n + 1) (hn : n ≤ 64) (ki : okF n (sg i) (fs i) (sn i)) (kj : okF n (sg j) (fs j) (sn j)) : FT_changePlaces (ov n P a fm sz es hv cn sg pa fs sn lf h) a (nI i) (nI j) = some (ov n P a fm sz (fEs (fEs es i (sg j) (fs j)) j (sg i) (fs i)) hv (upd (upd cn i (cn j)) j (cn i)) (upd (upd sg i (sg j)) j (sg i)) (fPa (fPa pa i (fs j) (sn j)) j (fs i) (sn i)) (upd (upd fs i (fs j)) j (fs i)) (upd (upd sn i (sn j)) j (sn i)) (fLf (fLf lf i (sg j) (fs j)) j (sg i) (fs i)) h) := by
  unfold FT_changePlaces
  rw [r_cn, ld_cn hi hn, r_sg, ld_sg hi hn, r_fs, ld_fs hi hn, r_sn, ld_sn hi hn, r_cn, ld_cn hj hn, r_sg, ld_sg hj hn, r_fs, ld_fs hj hn, r_sn, ld_sn hj hn, gd_t o_ov, e_fill hi hn kj, Option.bind_some, gd_t o_ov, e_fill hj hn ki, Option.bind_some]
/-- from i on, k places up to p: the first with p's count that isn't p's parent; else p -/
def lsA (cn pa : Nat → Int32) (p : Nat) : Nat → Nat → Nat
  | _, 0 => p
  | i, k + 1 => if cn i = cn p ∧ ¬ nI i = pa p then i else lsA cn pa p (i + 1) k
theorem e_least_loop {p : Nat} (hp : p < 2 * n + 1) (hn : n ≤ 64) : ∀ (k i w : Nat), i + k = p → k < w → lpG (fun _ => none) w (LT_leastPlaceToChange_2 (ov n P a fm sz es hv cn sg pa fs sn lf h) a (nI p) (some (nI p)) (fun x => some x)) (nI i) = some (nI (lsA cn pa p i k))
  | 0, i, 0, _, hw => absurd hw (by omega)
  | 0, i, w + 1, hik, _ => by
    have e : i = p := by omega
    subst e
    rw [lpG_s, LT_leastPlaceToChange_2.eq_1]
    rw [if_pos (nI_le (Nat.le_refl _) (by omega))]
    rfl
  | k + 1, i, 0, _, hw => absurd hw (by omega)
  | k + 1, i, w + 1, hik, hw => by
    have ih := e_least_loop hp hn k (i + 1) w (by omega) (by omega)
    rw [lpG_s, LT_leastPlaceToChange_2.eq_1]
    rw [if_neg (nI_ge (show i < p by omega) (by omega)), r_cn, ld_cn (show i < 2 * n + 1 by omega) hn, r_cn, ld_cn hp hn, jn_eq]
    try dsimp only
    rw [nI_1, ih]
    rw [show lsA cn pa p i (k + 1) = if cn i = cn p ∧ ¬ nI i = pa p then i else lsA cn pa p (i + 1) k from rfl]
    by_cases e1 : cn i = cn p
    · rw [if_pos e1, r_pa, ld_pa hp hn]
      by_cases e2 : nI i = pa p
      · rw [if_pos e2, if_neg (fun q => q.2 e2)]
      · rw [if_neg e2, if_pos ⟨e1, e2⟩]
    · rw [if_neg e1, if_neg (fun q => e1 q.1)]
theorem e_least {p : Nat} (hp : p < 2 * n + 1) (hn : n ≤ 64) : FT_leastPlaceToChange (ov n P a fm sz es hv cn sg pa fs sn lf h) a (nI p) = some (nI (lsA cn pa p 0 p)) := by
  unfold FT_leastPlaceToChange
  rw [jn_eq]
  try dsimp only
  rw [jn_eq]
  try dsimp only
  exact e_least_loop hp hn p 0 fu (by omega) (by show p < 100000; omega)
theorem e_depth_loop {hn : n ≤ 64} {K : Int32 → Option Int32} (dp : Nat → Nat) (pr : Nat → Nat) (m : Nat) (hmn : m ≤ 2 * n + 1) (h0 : pa 0 = (-1)) (hp : ∀ q, 0 < q → q < m → pa q = nI (pr q) ∧ pr q < m ∧ dp q = dp (pr q) + 1) (hd0 : dp 0 = 0) : ∀ (k q d w : Nat), q < m → dp q = k → d + k < m → k < w →
    lpG (fun _ _ => none) w (LT_depthOf_9 (ov n P a fm (nI m) es hv cn sg pa fs sn lf h) a K) (nI d) (pa q) = K (nI (d + k))
  | k, q, d, 0, _, _, _, hw => absurd hw (by omega)
  | 0, q, d, w + 1, hq, hk, hd, _ => by
    have hq0 : q = 0 := by
      rcases Nat.eq_zero_or_pos q with e | e
      · exact e
      · have := (hp q e hq).2.2
        omega
    subst hq0
    rw [lpG_s, LT_depthOf_9.eq_1]
    rw [h0, if_pos rfl]
    rfl
  | k + 1, q, d, w + 1, hq, hk, hd, hw => by
    have hq0 : 0 < q := by
      rcases Nat.eq_zero_or_pos q with e | e
      · subst e; omega
      · exact e
    obtain ⟨e1, e2, e3⟩ := hp q hq0 hq
    have ih := e_depth_loop (hn := hn) (K := K) dp pr m hmn h0 hp hd0 k (pr q) (d + 1) w e2 (by omega) (by omega) (by omega)
    rw [lpG_s, LT_depthOf_9.eq_1]
    rw [e1, if_neg (m1_nI (by omega)), i_sz, if_neg (nI_ge (show d < m by omega) (by omega)), r_pa, ld_pa (show pr q < 2 * n + 1 by omega) hn, nI_1, ih]
    congr 2
    omega
end TR2
