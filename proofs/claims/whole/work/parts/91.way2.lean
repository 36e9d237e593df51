/-! the model's ways up and its code -/
theorem updU {X : Nat → Int32} {k : Nat} {a b : Int32} : upd (upd X k a) k b = upd X k b := by
  funext j
  by_cases e : j = k
  · subst e; rw [updE, updE]
  · rw [updN e, updN e, updN e]
section MW
variable {M : Nat} {X : Nat → Int32} {h : Hp} {q : Nat}
theorem m_adds {A : Nat → Nat → Int32} {L b : Nat} (hL : L < 200) (hb : b < 2) : FM_adds (om M (upd X 25 (nI L)) A h) M (nI b) = some (om M (upd X 25 (nI (L + 1))) (u2 A 15 L (nI b)) h) := by
  unfold FM_adds
  rw [mr_bk, mi_25, updE, nar_d hb, ms_bk hL, mi_25, updE, mp_25, nI_1, updU]
theorem MT_back {A B : Nat → Nat → Int32} {m : Nat} {c g o t : Nat → Nat} (hT : MT A q m c g o t) (hB : ∀ i, i ≠ 15 → B i = A i) : MT B q m c g o t := by
  unfold MT
  rw [hB 2 (by decide), hB 5 (by decide), hB 6 (by decide), hB 7 (by decide), hB 8 (by decide)]
  exact hT
theorem MS_back {A B : Nat → Nat → Int32} {n : Nat} {u d : Nat → Nat} (hT : MS A q n u d) (hB : ∀ i, i ≠ 15 → B i = A i) : MS B q n u d := by
  unfold MS
  rw [hB 2 (by decide), hB 9 (by decide), hB 10 (by decide)]
  exact hT
def prC (o : Nat → Nat) : Nat → Nat := fun p => o ((p - 1) / 2)
def sdC : Nat → Nat := fun p => (p + 1) % 2
theorem m_wayUp_loop {A : Nat → Nat → Int32} {m : Nat} {c g o t dp : Nat → Nat} {K : Hp → Option Hp} (hq : q < 12) (hm : m ≤ 64) (hT : MT A q m c g o t) (ho : ∀ k, k < m → o k < 2 * m + 1) (hW : WK (2 * m + 1) (prC o) sdC dp) : ∀ (e k L w : Nat) (B : Nat → Nat → Int32), k < 2 * m + 1 → dp k = e → L + e < 200 → e < w → (∀ i, i ≠ 15 → B i = A i) →
    ∃ B' : Nat → Nat → Int32, lpG (fun _ _ => none) w (LM_wayUp_2 M (nI q) K) (om M (upd X 25 (nI L)) B h) (nI k) = K (om M (upd X 25 (nI (L + e))) B' h) ∧ (∀ i, i ≠ 15 → B' i = A i) ∧ (∀ j, j < L → B' 15 j = B 15 j) ∧ ∀ j, j < e → B' 15 (L + j) = nI (wy (prC o) sdC k j)
  | e, k, L, 0, B, _, _, _, hw, _ => absurd hw (by omega)
  | 0, k, L, w + 1, B, hk, he, hL, hw, hB => by
    have : k = 0 := WK_0 hW hk he
    subst this
    rw [lpG_s, LM_wayUp_2.eq_1, if_pos nI_0]
    exact ⟨B, rfl, hB, fun _ _ => rfl, fun j hj => absurd hj (by omega)⟩
  | e + 1, k, L, w + 1, B, hk, he, hL, hw, hB => by
    have k0 : 0 < k := WK_p hW (by omega)
    obtain ⟨w1, w2, w3⟩ := hW.2.1 k k0 hk
    have hB2 : ∀ i, i ≠ 15 → u2 B 15 L (nI (sdC k)) i = A i := fun i hi => by rw [u2_n hi]; exact hB i hi
    obtain ⟨B', r1, r2, r3, r4⟩ := m_wayUp_loop (K := K) hq hm hT ho hW e (prC o k) (L + 1) w (u2 B 15 L (nI (sdC k))) w1 (by omega) (by omega) (by omega) hB2
    refine ⟨B', ?_, r2, fun j hj => by rw [r3 j (by omega), u2_at (by omega)], fun j hj => ?_⟩
    · have core : ∀ y : Int32, y = nI (sdC k) → (gd (isO (om M (upd X 25 (nI L)) B h) M 5 = true) ((FM_adds (om M (upd X 25 (nI L)) B h) M y).bind (fun r10 => gd (isO r10 M 5 = true) ((FM_above r10 M (nI q) (nI k)).bind (fun r12 => lpG (fun _ _ => none) w (LM_wayUp_2 M (nI q) K) r10 r12))))) = K (om M (upd X 25 (nI (L + (e + 1)))) B' h) := by
        intro y hy
        subst hy
        rw [gd_t o_om, m_adds (by omega) w2, Option.bind_some, gd_t o_om, m_above hq hm (MT_back hT hB2) ho k0 hk, Option.bind_some]
        exact r1.trans (by rw [show L + 1 + e = L + (e + 1) by omega])
      have e5 : nI k - nI k / 2 * 2 = nI (k % 2) := by
        have : nI k / 2 = nI (k / 2) := pk_div (d := 2) (by omega) (by omega) (by omega)
        rw [this, show (2 : Int32) = nI 2 from rfl, pk_mul, pk_sub (by omega)]
        congr 1; omega
      rw [lpG_s, LM_wayUp_2.eq_1, if_neg (nI_ne0 k0 (by omega)), gd_t (by decide), jn_eq, e5]
      try dsimp only
      by_cases z : k % 2 = 0
      · rw [if_pos (by rw [z]; rfl)]; exact core 1 (by unfold sdC; rw [show (k + 1) % 2 = 1 by omega]; rfl)
      · rw [if_neg (nI_ne0 (by omega) (by omega))]; exact core 0 (by unfold sdC; rw [show (k + 1) % 2 = 0 by omega]; rfl)
    · rcases Nat.eq_zero_or_pos j with z | z
      · subst z
        rw [Nat.add_zero, r3 L (by omega), u2_hit]
        rfl
      · have := r4 (j - 1) (by omega)
        rw [show L + 1 + (j - 1) = L + j by omega, ← wy_s, show j - 1 + 1 = j by omega] at this
        exact this
theorem m_wayUp {A : Nat → Nat → Int32} {m : Nat} {c g o t dp : Nat → Nat} {k L : Nat} {B : Nat → Nat → Int32} (hq : q < 12) (hm : m ≤ 64) (hT : MT A q m c g o t) (ho : ∀ k, k < m → o k < 2 * m + 1) (hW : WK (2 * m + 1) (prC o) sdC dp) (hk : k < 2 * m + 1) (hL : L ≤ 6) (hB : ∀ i, i ≠ 15 → B i = A i) :
    ∃ B' : Nat → Nat → Int32, FM_wayUp (om M (upd X 25 (nI L)) B h) M (nI q) (nI k) = some (om M (upd X 25 (nI (L + dp k))) B' h) ∧ (∀ i, i ≠ 15 → B' i = A i) ∧ (∀ j, j < L → B' 15 j = B 15 j) ∧ ∀ j, j < dp k → B' 15 (L + j) = nI (wy (prC o) sdC k j) := by
  have := hW.2.2 k hk
  unfold FM_wayUp
  rw [jn_eq]
  try dsimp only
  exact m_wayUp_loop hq hm hT ho hW (dp k) k L fu B hk rfl (by omega) (by show dp k < 100000; omega) hB
theorem m_find_sp {A : Nat → Nat → Int32} {n : Nat} {u d dp : Nat → Nat} {K : Hp → Option Hp} (hq : q < 12) (hn : n ≤ 64) (hT : MS A q n u d) (hW : WK (2 * n - 1) u d dp) : ∀ (e k L w : Nat) (B : Nat → Nat → Int32), k < 2 * n - 1 → dp k = e → L + e < 200 → e < w → (∀ i, i ≠ 15 → B i = A i) →
    ∃ B' : Nat → Nat → Int32, lpG (fun _ _ => none) w (LM_find_24 M (nI q) K) (om M (upd X 25 (nI L)) B h) (nI k) = K (om M (upd X 25 (nI (L + e))) B' h) ∧ (∀ i, i ≠ 15 → B' i = A i) ∧ (∀ j, j < L → B' 15 j = B 15 j) ∧ ∀ j, j < e → B' 15 (L + j) = nI (wy u d k j)
  | e, k, L, 0, B, _, _, _, hw, _ => absurd hw (by omega)
  | 0, k, L, w + 1, B, hk, he, hL, hw, hB => by
    have : k = 0 := WK_0 hW hk he
    subst this
    rw [lpG_s, LM_find_24.eq_1, if_pos nI_0]
    exact ⟨B, rfl, hB, fun _ _ => rfl, fun j hj => absurd hj (by omega)⟩
  | e + 1, k, L, w + 1, B, hk, he, hL, hw, hB => by
    have k0 : 0 < k := WK_p hW (by omega)
    obtain ⟨w1, w2, w3⟩ := hW.2.1 k k0 hk
    have hB2 : ∀ i, i ≠ 15 → u2 B 15 L (nI (d k)) i = A i := fun i hi => by rw [u2_n hi]; exact hB i hi
    obtain ⟨B', r1, r2, r3, r4⟩ := m_find_sp (K := K) hq hn hT hW e (u k) (L + 1) w (u2 B 15 L (nI (d k))) w1 (by omega) (by omega) (by omega) hB2
    refine ⟨B', ?_, r2, fun j hj => by rw [r3 j (by omega), u2_at (by omega)], fun j hj => ?_⟩
    · rw [lpG_s, LM_find_24.eq_1, if_neg (nI_ne0 k0 (by omega)), mr_se, ix, ml_se (by omega), ((MS_back hT hB).2.2.2 k k0 hk).2, gd_t o_om, m_adds (by omega) w2, Option.bind_some, mr_up, ml_up (by omega), ((MS_back hT hB2).2.2.2 k k0 hk).1, r1, show L + 1 + e = L + (e + 1) by omega]
    · rcases Nat.eq_zero_or_pos j with z | z
      · subst z
        rw [Nat.add_zero, r3 L (by omega), u2_hit]
        rfl
      · have := r4 (j - 1) (by omega)
        rw [show L + 1 + (j - 1) = L + j by omega, ← wy_s, show j - 1 + 1 = j by omega] at this
        exact this
theorem m_find_num {A : Nat → Nat → Int32} {s wd : Nat} {K : Hp → Option Hp} (hs : s < 64) (hwd : wd ≤ 6) (hX : X 1 = nI wd) : ∀ (e L w : Nat) (B : Nat → Nat → Int32), L + e = wd → e < w → (∀ i, i ≠ 15 → B i = A i) → (∀ j, j < L → B 15 j = nI (bt s j)) →
    ∃ B' : Nat → Nat → Int32, lpG (fun _ _ => none) w (LM_find_93 M (nI s) K) (om M (upd X 25 (nI L)) B h) (nI L) = K (om M (upd X 25 (nI wd)) B' h) ∧ (∀ i, i ≠ 15 → B' i = A i) ∧ ∀ j, j < wd → B' 15 j = nI (bt s j)
  | e, L, 0, B, _, hw, _, _ => absurd hw (by omega)
  | 0, L, w + 1, B, hL, hw, hB, hI => by
    have e : L = wd := by omega
    subst e
    rw [lpG_s, LM_find_93.eq_1, mi_1, updN (by decide), hX, if_pos (nI_le (Nat.le_refl _) (by omega))]
    exact ⟨B, rfl, hB, hI⟩
  | e + 1, L, w + 1, B, hL, hw, hB, hI => by
    obtain ⟨B', r1, r2, r3⟩ := m_find_num (A := A) (K := K) hs hwd hX e (L + 1) w (u2 B 15 L (nI (bt s L))) (by omega) (by omega) (fun i hi => by rw [u2_n hi]; exact hB i hi) (fun j hj => by
      by_cases z : j = L
      · subst z; rw [u2_hit]
      · rw [u2_at (by omega)]; exact hI j (by omega))
    refine ⟨B', ?_, r2, r3⟩
    have core : ∀ y : Int32, y = nI (bt s L) → (gd (isO (om M (upd X 25 (nI L)) B h) M 5 = true) ((FM_adds (om M (upd X 25 (nI L)) B h) M y).bind (fun r24 => lpG (fun _ _ => none) w (LM_find_93 M (nI s) K) r24 (nI L + 1)))) = K (om M (upd X 25 (nI wd)) B' h) := by
      intro y hy
      subst hy
      rw [gd_t o_om, m_adds (by omega) (bt_lt _ _), Option.bind_some, nI_1, r1]
    rw [lpG_s, LM_find_93.eq_1, mi_1, updN (by decide), hX, if_neg (nI_ge (show L < wd by omega) (by omega)), jn_eq, bt_I s hs L (by omega)]
    try dsimp only
    have := bt_lt s L
    by_cases z : bt s L = 1
    · rw [if_pos (by rw [z]; rfl)]; exact core 1 (by rw [z]; rfl)
    · rw [if_neg (by rw [show bt s L = 0 by omega]; decide)]; exact core 0 (by rw [show bt s L = 0 by omega]; rfl)
theorem m_isKnown_sp {A : Nat → Nat → Int32} {s : Int32} (hq : q < 12) (h1 : A 1 q = 1) : FM_isKnown (om M X A h) M (nI q) s = some 1 := by
  unfold FM_isKnown
  rw [mr_fo, ml_fo hq, h1, jn_eq]
  try dsimp only
  rw [jn_eq]
  try dsimp only
  rw [if_pos rfl, gd_t (Or.inr rfl)]
theorem m_isKnown_y {A : Nat → Nat → Int32} {m n p : Nat} {c g o t : Nat → Nat} {s : Nat} (hq : q < 12) (hn : n ≤ 64) (hm : m ≤ 64) (h1 : A 1 q = 0) (hG : GI n m g o) (hT : MT A q m c g o t) (hp : p < 2 * m + 1) (hg : g p = s + 2) : FM_isKnown (om M X A h) M (nI q) (nI s) = some 1 := by
  have hno := m_nodeOf (M := M) (X := X) (h := h) hq hn hm hG hT hp (by omega)
  rw [hg, show sI (s + 2) = nI s from rfl] at hno
  unfold FM_isKnown
  rw [mr_fo, ml_fo hq, h1, jn_eq]
  try dsimp only
  rw [jn_eq]
  try dsimp only
  rw [if_neg (by decide), gd_t o_om, hno, Option.bind_some, if_neg (m1_nI (by have := (hT.2.1 p hp).1; omega)), gd_t (Or.inr rfl)]
theorem m_isKnown_n {A : Nat → Nat → Int32} {m n : Nat} {c g o t : Nat → Nat} {s : Nat} (hq : q < 12) (hn : n ≤ 64) (hm : m ≤ 64) (h1 : A 1 q = 0) (hG : GI n m g o) (hT : MT A q m c g o t) (hs : s < 100) (hns : ¬ HasS m g s) : FM_isKnown (om M X A h) M (nI q) (nI s) = some 0 := by
  unfold FM_isKnown
  rw [mr_fo, ml_fo hq, h1, jn_eq]
  try dsimp only
  rw [jn_eq]
  try dsimp only
  rw [if_neg (by decide), gd_t o_om, m_nodeOf_none hq hn hm hG hT hs hns, Option.bind_some, if_pos rfl, gd_t (Or.inl rfl)]
/-- what the model has laid: len bits, cb j the j-th -/
def MB (A' : Nat → Nat → Int32) (len : Nat) (cb : Nat → Nat) : Prop := ∀ j, j < len → A' 15 (len - 1 - j) = nI (cb j)
theorem m_find_splayed {A : Nat → Nat → Int32} {n s : Nat} {u d dp : Nat → Nat} (hq : q < 12) (hn0 : 2 ≤ n) (hn : n ≤ 64) (hX : X 0 = nI n) (h1 : A 1 q = 1) (hT : MS A q n u d) (hW : WK (2 * n - 1) u d dp) (hs : s < n) :
    ∃ A' : Nat → Nat → Int32, FM_find (om M X A h) M (nI q) (nI s) = some (om M (upd X 25 (nI (dp (n - 1 + s)))) A' h) ∧ (∀ i, i ≠ 15 → A' i = A i) ∧ MB A' (dp (n - 1 + s)) (fun j => wy u d (n - 1 + s) (dp (n - 1 + s) - 1 - j)) := by
  have hd := hW.2.2 (n - 1 + s) (by omega)
  have e : nI n - 1 + nI s = nI (n - 1 + s) := by rw [show nI n - 1 = nI (n - 1) from pk_sub (b := 1) (by omega), nI_add]
  obtain ⟨B', r1, r2, r3, r4⟩ := m_find_sp (M := M) (X := X) (h := h) (K := fun h32 => some h32) hq hn hT hW (dp (n - 1 + s)) (n - 1 + s) 0 fu A (by omega) rfl (by omega) (by show dp (n - 1 + s) < 100000; omega) (fun _ _ => rfl)
  rw [Nat.zero_add] at r1
  refine ⟨B', ?_, r2, fun j hj => ?_⟩
  · unfold FM_find
    rw [mp_25, mr_fo, ml_fo hq, h1, jn_eq]
    try dsimp only
    rw [if_pos rfl, mi_0, updN (by decide), hX, jn_eq, e]
    exact r1
  · have := r4 (dp (n - 1 + s) - 1 - j) (by omega)
    rw [Nat.zero_add] at this
    exact this
theorem m_find_known {A : Nat → Nat → Int32} {n m s p : Nat} {c g o t dp : Nat → Nat} (hq : q < 12) (hn : n ≤ 64) (hm : m ≤ 64) (h1 : A 1 q = 0) (hG : GI n m g o) (hT : MT A q m c g o t) (ho : ∀ k, k < m → o k < 2 * m + 1) (hW : WK (2 * m + 1) (prC o) sdC dp) (hp : p < 2 * m + 1) (hg : g p = s + 2) :
    ∃ A' : Nat → Nat → Int32, FM_find (om M X A h) M (nI q) (nI s) = some (om M (upd X 25 (nI (dp p))) A' h) ∧ (∀ i, i ≠ 15 → A' i = A i) ∧ MB A' (dp p) (fun j => wy (prC o) sdC p (dp p - 1 - j)) := by
  have hno := m_nodeOf (M := M) (X := upd X 25 0) (h := h) hq hn hm hG hT hp (by omega)
  rw [hg, show sI (s + 2) = nI s from rfl] at hno
  obtain ⟨B', r1, r2, r3, r4⟩ := m_wayUp (M := M) (X := X) (h := h) (L := 0) (B := A) hq hm hT ho hW hp (by omega) (fun _ _ => rfl)
  rw [Nat.zero_add] at r1
  refine ⟨B', ?_, r2, fun j hj => ?_⟩
  · unfold FM_find
    rw [mp_25, mr_fo, ml_fo hq, h1, jn_eq]
    try dsimp only
    rw [if_neg (by decide), gd_t o_om, m_isKnown_y hq hn hm h1 hG hT hp hg, Option.bind_some, if_neg (by decide), gd_t o_om, hno, Option.bind_some, gd_t o_om, m_placeOf hq hm hT hp, Option.bind_some, gd_t o_om, show (upd X 25 0) = upd X 25 (nI 0) from rfl, r1, Option.bind_some]
  · have := r4 (dp p - 1 - j) (by omega)
    rw [Nat.zero_add] at this
    exact this
theorem m_find_new {A : Nat → Nat → Int32} {n m s wd : Nat} {c g o t dp : Nat → Nat} (hq : q < 12) (hn : n ≤ 64) (hm : m ≤ 64) (h1 : A 1 q = 0) (hX : X 1 = nI wd) (hwd : wd ≤ 6) (hG : GI n m g o) (hT : MT A q m c g o t) (ho : ∀ k, k < m → o k < 2 * m + 1) (hW : WK (2 * m + 1) (prC o) sdC dp) (hs : s < n) (hns : ¬ HasS m g s) :
    ∃ A' : Nat → Nat → Int32, FM_find (om M X A h) M (nI q) (nI s) = some (om M (upd X 25 (nI (dp (2 * m) + wd))) A' h) ∧ (∀ i, i ≠ 15 → A' i = A i) ∧ MB A' (dp (2 * m) + wd) (fun j => if j < dp (2 * m) then wy (prC o) sdC (2 * m) (dp (2 * m) - 1 - j) else bt s (wd - 1 - (j - dp (2 * m)))) := by
  obtain ⟨B1, r1, r2, r3⟩ := m_find_num (M := M) (X := X) (h := h) (A := A) (s := s) (K := fun (h8 : Hp) =>
      gd (isO h8 M 5 = true) ((FM_nodeOf h8 M (nI q) (-2)).bind (fun r11 =>
      gd (isO h8 M 5 = true) ((FM_placeOf h8 M (nI q) r11).bind (fun r13 =>
      gd (isO h8 M 5 = true) ((FM_wayUp h8 M (nI q) r13).bind (fun r15 =>
      some r15))))))) (by omega) hwd hX wd 0 fu A (by omega) (by show wd < 100000; omega) (fun _ _ => rfl) (fun j hj => absurd hj (by omega))
  have T1 := MT_back hT r2
  have hno := m_nodeOf (M := M) (X := upd X 25 (nI wd)) (h := h) hq hn hm hG T1 (show 2 * m < 2 * m + 1 by omega) (by rw [hG.2.1]; omega)
  rw [hG.2.1, show sI 1 = (-2) from rfl] at hno
  obtain ⟨B', q1, q2, q3, q4⟩ := m_wayUp (M := M) (X := X) (h := h) (L := wd) (B := B1) hq hm T1 ho hW (show 2 * m < 2 * m + 1 by omega) hwd (fun _ _ => rfl)
  refine ⟨B', ?_, fun i hi => by rw [q2 i hi, r2 i hi], fun j hj => ?_⟩
  · unfold FM_find
    rw [mp_25, mr_fo, ml_fo hq, h1, jn_eq]
    try dsimp only
    rw [if_neg (by decide), gd_t o_om, m_isKnown_n hq hn hm h1 hG hT (by omega) hns, Option.bind_some, if_pos rfl, jn_eq]
    rw [show (upd X 25 0) = upd X 25 (nI 0) from rfl, show (0 : Int32) = nI 0 from rfl]
    refine r1.trans ?_
    try dsimp only
    rw [gd_t o_om, hno, Option.bind_some, gd_t o_om, m_placeOf hq hm T1 (by omega), Option.bind_some, gd_t o_om, q1, Option.bind_some, Nat.add_comm]
  · dsimp only
    by_cases z : j < dp (2 * m)
    · rw [if_pos z]
      have := q4 (dp (2 * m) - 1 - j) (by omega)
      rw [show wd + (dp (2 * m) - 1 - j) = dp (2 * m) + wd - 1 - j by omega] at this
      exact this
    · rw [if_neg z, show dp (2 * m) + wd - 1 - j = wd - 1 - (j - dp (2 * m)) by omega, q3 _ (by omega)]
      exact r3 _ (by omega)
end MW
