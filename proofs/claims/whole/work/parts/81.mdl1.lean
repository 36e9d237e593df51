/-! THE MODEL'S COUNTED TREE q: t p is the node at the place p -/
theorem ix {q p : Nat} : (129 : Int32) * nI q + nI p = nI (129 * q + p) := by
  rw [show (129 : Int32) = nI 129 from rfl, pk_mul, nI_add]
theorem ix0 {q : Nat} : (129 : Int32) * nI q = nI (129 * q) := by
  rw [show (129 : Int32) = nI 129 from rfl, pk_mul]
theorem iw {q p : Nat} : (64 : Int32) * nI q + nI p = nI (64 * q + p) := by
  rw [show (64 : Int32) = nI 64 from rfl, pk_mul, nI_add]
theorem half {p : Nat} (h : 0 < p) (hp : p < 2 ^ 30) : (nI p - 1) / 2 = nI ((p - 1) / 2) := by
  obtain ⟨k, rfl⟩ : ∃ k, p = k + 1 := ⟨p - 1, by omega⟩
  rw [nI_s1]
  exact pk_div (d := 2) (by omega) (by omega) (by omega)
def MT (A : Nat → Nat → Int32) (q m : Nat) (c g o t : Nat → Nat) : Prop :=
  A 2 q = nI (2 * m + 1) ∧ (∀ p, p < 2 * m + 1 → t p < 2 * m + 1 ∧ A 5 (129 * q + p) = nI (t p) ∧ A 6 (129 * q + t p) = nI (c p) ∧ A 7 (129 * q + t p) = sI (g p)) ∧ (∀ p p', p < 2 * m + 1 → p' < 2 * m + 1 → t p = t p' → p = p') ∧ (∀ k, k < 2 * m + 1 → ∃ p, p < 2 * m + 1 ∧ t p = k) ∧ ∀ k, k < m → A 8 (64 * q + k) = nI (t (o k))
section Q
variable {M : Nat} {X : Nat → Int32} {A : Nat → Nat → Int32} {h : Hp} {q m : Nat} {c g o t : Nat → Nat}
theorem m_placeOf_loop {K : Int32 → Option Int32} {p : Nat} (hq : q < 12) (hm : m ≤ 64) (hT : MT A q m c g o t) (hp : p < 2 * m + 1) : ∀ (k i w : Nat), i + k = p → k < w → lpG (fun _ => none) w (LM_placeOf_2 (om M X A h) M (nI q) (nI (t p)) K) (nI i) = K (nI p)
  | k, i, 0, _, hw => absurd hw (by omega)
  | 0, i, w + 1, hi, _ => by
    have e : i = p := by omega
    subst e
    rw [lpG_s, LM_placeOf_2.eq_1, mr_ma, ml_ma hq, hT.1, if_neg (nI_ge (show i < 2 * m + 1 by omega) (by omega)), mr_at, ix, ml_at (by omega), (hT.2.1 i hp).2.1, if_pos rfl]
  | k + 1, i, w + 1, hi, hw => by
    have ih := m_placeOf_loop (K := K) hq hm hT hp k (i + 1) w (by omega) (by omega)
    have hne : ¬ nI (t i) = nI (t p) := fun e => by
      rw [nI_eq (by have := (hT.2.1 i (by omega)).1; omega) (by have := (hT.2.1 p hp).1; omega)] at e
      have := hT.2.2.1 i p (by omega) hp e
      omega
    rw [lpG_s, LM_placeOf_2.eq_1, mr_ma, ml_ma hq, hT.1, if_neg (nI_ge (show i < 2 * m + 1 by omega) (by omega)), mr_at, ix, ml_at (by omega), (hT.2.1 i (by omega)).2.1, if_neg hne, nI_1, ih]
theorem m_placeOf {p : Nat} (hq : q < 12) (hm : m ≤ 64) (hT : MT A q m c g o t) (hp : p < 2 * m + 1) : FM_placeOf (om M X A h) M (nI q) (nI (t p)) = some (nI p) := by
  unfold FM_placeOf
  rw [jn_eq]
  try dsimp only
  exact m_placeOf_loop hq hm hT hp p 0 fu (by omega) (by show p < 100000; omega)
theorem m_nodeOf_hit {N k0 : Nat} {s : Int32} {K : Int32 → Option Int32} (hq : q < 12) (hN : N ≤ 129) (hA : A 2 q = nI N) (hu : ∀ k, k < N → (A 7 (129 * q + k) = s ↔ k = k0)) (hk : k0 < N) : ∀ (d i w : Nat), i + d = N → d < w → lpG (fun _ _ => none) w (LM_nodeOf_5 (om M X A h) M (nI q) s K) (if k0 < i then nI k0 else (-1)) (nI i) = K (nI k0)
  | d, i, 0, _, hw => absurd hw (by omega)
  | 0, i, w + 1, hi, _ => by
    have e : i = N := by omega
    subst e
    rw [lpG_s, LM_nodeOf_5.eq_1, mr_ma, ml_ma hq, hA, if_pos (nI_le (Nat.le_refl _) (by omega)), if_pos hk]
  | d + 1, i, w + 1, hi, hw => by
    have ih := m_nodeOf_hit (K := K) hq hN hA hu hk d (i + 1) w (by omega) (by omega)
    rw [lpG_s, LM_nodeOf_5.eq_1, mr_ma, ml_ma hq, hA, if_neg (nI_ge (show i < N by omega) (by omega)), mr_sg, ix, ml_sg (by omega), jn_eq]
    try dsimp only
    by_cases e : i = k0
    · rw [if_pos ((hu i (by omega)).mpr e), nI_1, ← ih, if_pos (show k0 < i + 1 by omega), e]
    · rw [if_neg (fun z => e ((hu i (by omega)).mp z)), nI_1, ← ih]
      by_cases e2 : k0 < i
      · rw [if_pos e2, if_pos (by omega)]
      · rw [if_neg e2, if_neg (by omega)]
theorem m_nodeOf_miss {N : Nat} {s : Int32} {K : Int32 → Option Int32} (hq : q < 12) (hN : N ≤ 129) (hA : A 2 q = nI N) (hu : ∀ k, k < N → ¬ A 7 (129 * q + k) = s) : ∀ (d i w : Nat), i + d = N → d < w → lpG (fun _ _ => none) w (LM_nodeOf_5 (om M X A h) M (nI q) s K) (-1) (nI i) = K (-1)
  | d, i, 0, _, hw => absurd hw (by omega)
  | 0, i, w + 1, hi, _ => by
    have e : i = N := by omega
    subst e
    rw [lpG_s, LM_nodeOf_5.eq_1, mr_ma, ml_ma hq, hA, if_pos (nI_le (Nat.le_refl _) (by omega))]
  | d + 1, i, w + 1, hi, hw => by
    have ih := m_nodeOf_miss (K := K) hq hN hA hu d (i + 1) w (by omega) (by omega)
    rw [lpG_s, LM_nodeOf_5.eq_1, mr_ma, ml_ma hq, hA, if_neg (nI_ge (show i < N by omega) (by omega)), mr_sg, ix, ml_sg (by omega), jn_eq]
    try dsimp only
    rw [if_neg (hu i (by omega)), nI_1, ih]
theorem m_nodeOf {n p : Nat} (hq : q < 12) (hn : n ≤ 64) (hm : m ≤ 64) (hG : GI n m g o) (hT : MT A q m c g o t) (hp : p < 2 * m + 1) (h0 : g p ≠ 0) : FM_nodeOf (om M X A h) M (nI q) (sI (g p)) = some (nI (t p)) := by
  unfold FM_nodeOf
  rw [jn_eq]
  try dsimp only
  refine m_nodeOf_hit (k0 := t p) hq (show 2 * m + 1 ≤ 129 by omega) hT.1 (fun k hk => ?_) (hT.2.1 p hp).1 (2 * m + 1) 0 fu (by omega) (by show 2 * m + 1 < 100000; omega)
  obtain ⟨p', hp', rfl⟩ := hT.2.2.2.1 k hk
  rw [(hT.2.1 p' hp').2.2.2, sI_inj (by have := hG.lt hp'; omega) (by have := hG.lt hp; omega)]
  constructor
  · intro e
    rw [hG.2.2.2 p p' hp hp' e.symm h0]
  · intro e
    rw [hT.2.2.1 p' p hp' hp e]
theorem m_nodeOf_none {n s : Nat} (hq : q < 12) (hn : n ≤ 64) (hm : m ≤ 64) (hG : GI n m g o) (hT : MT A q m c g o t) (hs : s < 100) (hns : ¬ HasS m g s) : FM_nodeOf (om M X A h) M (nI q) (nI s) = some (-1) := by
  unfold FM_nodeOf
  rw [jn_eq]
  try dsimp only
  refine m_nodeOf_miss hq (show 2 * m + 1 ≤ 129 by omega) hT.1 (fun k hk => ?_) (2 * m + 1) 0 fu (by omega) (by show 2 * m + 1 < 100000; omega)
  obtain ⟨p', hp', rfl⟩ := hT.2.2.2.1 k hk
  rw [(hT.2.1 p' hp').2.2.2, show nI s = sI (s + 2) from rfl, sI_inj (by have := hG.lt hp'; omega) (by omega)]
  exact fun e => hns ⟨p', hp', e⟩
theorem m_above0 : FM_above (om M X A h) M (nI q) (nI 0) = some (-1) := by
  unfold FM_above
  rw [jn_eq]
  try dsimp only
  rw [if_pos nI_0]
theorem m_above {p : Nat} (hq : q < 12) (hm : m ≤ 64) (hT : MT A q m c g o t) (ho : ∀ k, k < m → o k < 2 * m + 1) (h0 : 0 < p) (hp : p < 2 * m + 1) : FM_above (om M X A h) M (nI q) (nI p) = some (nI (o ((p - 1) / 2))) := by
  have hk : (p - 1) / 2 < m := by omega
  have := ho _ hk
  unfold FM_above
  rw [jn_eq]
  try dsimp only
  rw [if_neg (nI_ne0 h0 (by omega)), mr_ow, gd_t (by decide), half h0 (by omega), iw, ml_ow (by omega), hT.2.2.2.2 _ hk, gd_t o_om, m_placeOf hq hm hT (by omega), Option.bind_some]
theorem m_countAt {p : Nat} (hq : q < 12) (hm : m ≤ 64) (hT : MT A q m c g o t) (hp : p < 2 * m + 1) : FM_countAt (om M X A h) M (nI q) (nI p) = some (nI (c p)) := by
  obtain ⟨h1, h2, h3, h4⟩ := hT.2.1 p hp
  unfold FM_countAt
  rw [mr_cn, mr_at, ix, ml_at (by omega), h2, ix, ml_cn (by omega), h3]
theorem m_signAt {p : Nat} (hq : q < 12) (hm : m ≤ 64) (hT : MT A q m c g o t) (hp : p < 2 * m + 1) : FM_signAt (om M X A h) M (nI q) (nI p) = some (sI (g p)) := by
  obtain ⟨h1, h2, h3, h4⟩ := hT.2.1 p hp
  unfold FM_signAt
  rw [mr_sg, mr_at, ix, ml_at (by omega), h2, ix, ml_sg (by omega), h4]
/-- the pair that p owns, from the k-th on -/
theorem m_below_hit {K : Int32 → Option Int32} {p k0 : Nat} (hq : q < 12) (hm : m ≤ 64) (hT : MT A q m c g o t) (hp : p < 2 * m + 1) (hb : ∀ k, k < m → o k < 2 * m + 1) (hI : ∀ k k', k < m → k' < m → o k = o k' → k = k') (hk0 : k0 < m) (hk : o k0 = p) : ∀ (d i w : Nat), i + d = m → d < w → lpG (fun _ _ => none) w (LM_below_5 (om M X A h) M (nI q) (nI p) K) (if k0 < i then nI (2 * k0 + 1) else (-1)) (nI i) = K (nI (2 * k0 + 1))
  | d, i, 0, _, hw => absurd hw (by omega)
  | 0, i, w + 1, hi, _ => by
    have e : i = m := by omega
    subst e
    have e1 : (2 : Int32) * nI i + 2 = nI (2 * i + 2) := by rw [show (2 : Int32) = nI 2 from rfl, pk_mul, nI_add]
    rw [lpG_s, LM_below_5.eq_1, mr_ma, ml_ma hq, hT.1, e1, if_pos (nI_le (by omega) (by omega)), if_pos hk0]
  | d + 1, i, w + 1, hi, hw => by
    have ih := m_below_hit (K := K) hq hm hT hp hb hI hk0 hk d (i + 1) w (by omega) (by omega)
    have e1 : (2 : Int32) * nI i + 2 = nI (2 * i + 2) := by rw [show (2 : Int32) = nI 2 from rfl, pk_mul, nI_add]
    have e2 : (2 : Int32) * nI i + 1 = nI (2 * i + 1) := by rw [show (2 : Int32) = nI 2 from rfl, pk_mul, nI_1]
    have b1 := (hT.2.1 _ (hb i (by omega))).1
    have b2 := (hT.2.1 p hp).1
    rw [lpG_s, LM_below_5.eq_1, mr_ma, ml_ma hq, hT.1, e1, if_neg (nI_ge (show 2 * i + 2 < 2 * m + 1 by omega) (by omega)), mr_ow, iw, ml_ow (by omega), mr_at, ix, ml_at (by omega), hT.2.2.2.2 i (by omega), (hT.2.1 p hp).2.1, jn_eq]
    try dsimp only
    have hiff : nI (t (o i)) = nI (t p) ↔ i = k0 := by
      rw [nI_eq (by omega) (by omega)]
      constructor
      · intro e
        exact hI i k0 (by omega) hk0 ((hT.2.2.1 _ _ (hb i (by omega)) hp e).trans hk.symm)
      · intro e
        rw [e, hk]
    by_cases e : i = k0
    · rw [if_pos (hiff.mpr e), nI_1, e2, ← ih, if_pos (show k0 < i + 1 by omega), e]
    · rw [if_neg (fun z => e (hiff.mp z)), nI_1, ← ih]
      by_cases e3 : k0 < i
      · rw [if_pos e3, if_pos (by omega)]
      · rw [if_neg e3, if_neg (by omega)]
theorem m_below_miss {K : Int32 → Option Int32} {p : Nat} (hq : q < 12) (hm : m ≤ 64) (hT : MT A q m c g o t) (hp : p < 2 * m + 1) (hb : ∀ k, k < m → o k < 2 * m + 1) (hk : ∀ k, k < m → o k ≠ p) : ∀ (d i w : Nat), i + d = m → d < w → lpG (fun _ _ => none) w (LM_below_5 (om M X A h) M (nI q) (nI p) K) (-1) (nI i) = K (-1)
  | d, i, 0, _, hw => absurd hw (by omega)
  | 0, i, w + 1, hi, _ => by
    have e : i = m := by omega
    subst e
    have e1 : (2 : Int32) * nI i + 2 = nI (2 * i + 2) := by rw [show (2 : Int32) = nI 2 from rfl, pk_mul, nI_add]
    rw [lpG_s, LM_below_5.eq_1, mr_ma, ml_ma hq, hT.1, e1, if_pos (nI_le (by omega) (by omega))]
  | d + 1, i, w + 1, hi, hw => by
    have ih := m_below_miss (K := K) hq hm hT hp hb hk d (i + 1) w (by omega) (by omega)
    have e1 : (2 : Int32) * nI i + 2 = nI (2 * i + 2) := by rw [show (2 : Int32) = nI 2 from rfl, pk_mul, nI_add]
    have b1 := (hT.2.1 _ (hb i (by omega))).1
    have b2 := (hT.2.1 p hp).1
    rw [lpG_s, LM_below_5.eq_1, mr_ma, ml_ma hq, hT.1, e1, if_neg (nI_ge (show 2 * i + 2 < 2 * m + 1 by omega) (by omega)), mr_ow, iw, ml_ow (by omega), mr_at, ix, ml_at (by omega), hT.2.2.2.2 i (by omega), (hT.2.1 p hp).2.1, jn_eq]
    try dsimp only
    rw [if_neg, nI_1, ih]
    rw [nI_eq (by omega) (by omega)]
    exact fun e => hk i (by omega) (hT.2.2.1 _ _ (hb i (by omega)) hp e)
theorem m_below {p k0 : Nat} (hq : q < 12) (hm : m ≤ 64) (hT : MT A q m c g o t) (hp : p < 2 * m + 1) (ho : ∀ k, k < m → o k < 2 * k + 1) (hI : ∀ k k', k < m → k' < m → o k = o k' → k = k') (hk0 : k0 < m) (hk : o k0 = p) : FM_below (om M X A h) M (nI q) (nI p) = some (nI (2 * k0 + 1)) := by
  unfold FM_below
  rw [jn_eq]
  try dsimp only
  exact m_below_hit hq hm hT hp (fun k hk => by have := ho k hk; omega) hI hk0 hk m 0 fu (by omega) (by show m < 100000; omega)
theorem m_below_no {p : Nat} (hq : q < 12) (hm : m ≤ 64) (hT : MT A q m c g o t) (hp : p < 2 * m + 1) (ho : ∀ k, k < m → o k < 2 * k + 1) (hk : ∀ k, k < m → o k ≠ p) : FM_below (om M X A h) M (nI q) (nI p) = some (-1) := by
  unfold FM_below
  rw [jn_eq]
  try dsimp only
  exact m_below_miss hq hm hT hp (fun k hk => by have := ho k hk; omega) hk m 0 fu (by omega) (by show m < 100000; omega)
end Q
/-- what a step of the tree q leaves alone -/
def fr (q : Nat) (A A' : Nat → Nat → Int32) : Prop := (∀ j, j ≠ q → A' 1 j = A 1 j ∧ A' 2 j = A 2 j ∧ A' 3 j = A 3 j) ∧ (∀ j, (j < 129 * q ∨ 129 * q + 129 ≤ j) → A' 5 j = A 5 j ∧ A' 6 j = A 6 j ∧ A' 7 j = A 7 j ∧ A' 9 j = A 9 j ∧ A' 10 j = A 10 j) ∧ (∀ j, (j < 64 * q ∨ 64 * q + 64 ≤ j) → A' 8 j = A 8 j) ∧ A' 4 = A 4 ∧ A' 11 = A 11
def fw (q i j : Nat) : Prop := (i = 1 ∨ i = 2 ∨ i = 3 → j = q) ∧ (i = 5 ∨ i = 6 ∨ i = 7 ∨ i = 9 ∨ i = 10 → 129 * q ≤ j ∧ j < 129 * q + 129) ∧ (i = 8 → 64 * q ≤ j ∧ j < 64 * q + 64) ∧ i ≠ 4 ∧ i ≠ 11
theorem fr.refl {q : Nat} {A : Nat → Nat → Int32} : fr q A A := ⟨fun _ _ => ⟨rfl, rfl, rfl⟩, fun _ _ => ⟨rfl, rfl, rfl, rfl, rfl⟩, fun _ _ => rfl, rfl, rfl⟩
theorem fr.trans {q : Nat} {A B C : Nat → Nat → Int32} (h1 : fr q A B) (h2 : fr q B C) : fr q A C := by
  obtain ⟨a1, a2, a3, a4, a5⟩ := h1
  obtain ⟨b1, b2, b3, b4, b5⟩ := h2
  refine ⟨fun j hj => ?_, fun j hj => ?_, fun j hj => (b3 j hj).trans (a3 j hj), b4.trans a4, b5.trans a5⟩
  · have x := a1 j hj
    have y := b1 j hj
    exact ⟨y.1.trans x.1, y.2.1.trans x.2.1, y.2.2.trans x.2.2⟩
  · have x := a2 j hj
    have y := b2 j hj
    exact ⟨y.1.trans x.1, y.2.1.trans x.2.1, y.2.2.1.trans x.2.2.1, y.2.2.2.1.trans x.2.2.2.1, y.2.2.2.2.trans x.2.2.2.2⟩
theorem u2_at {A : Nat → Nat → Int32} {i j : Nat} {v : Int32} {k l : Nat} (h : k ≠ i ∨ l ≠ j) : u2 A i j v k l = A k l := by
  unfold u2
  by_cases e : k = i
  · rw [if_pos e, updN (by rcases h with h | h; exact absurd e h; exact h), e]
  · rw [if_neg e]
theorem fr.st {q : Nat} {A B : Nat → Nat → Int32} (h : fr q A B) {i j : Nat} {v : Int32} (hw : fw q i j) : fr q A (u2 B i j v) := by
  refine h.trans ?_
  obtain ⟨w1, w2, w3, w4, w5⟩ := hw
  refine ⟨fun l hl => ?_, fun l hl => ?_, fun l hl => ?_, ?_, ?_⟩
  · exact ⟨u2_at (by omega), u2_at (by omega), u2_at (by omega)⟩
  · exact ⟨u2_at (by omega), u2_at (by omega), u2_at (by omega), u2_at (by omega), u2_at (by omega)⟩
  · exact u2_at (by omega)
  · exact u2_n (Ne.symm w4)
  · exact u2_n (Ne.symm w5)
