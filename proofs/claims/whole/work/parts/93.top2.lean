/-! THE CLASS'S OBJECT: its cells Z .. Z + 12, and the rows that read and write them -/
def qF (Z k e : Nat) : Nat → Option Nat := fun t => if t < 4 then some (Z + 13 + 7 * (k * t + e)) else none
def KA (Z n wd wb tb : Nat) (lm : Int32) (hs wr : Nat → Int32) (h : Hp) : Prop :=
  h Z = some (.inr (4, [.int (nI n), .int (nI wd), .ref (Z + 1), .ref (Z + 2), .ref (Z + 3), .ref (Z + 4), .ref (Z + 5), .int (nI wb), .int (nI tb), .int lm, .ref (Z + 7), .ref (Z + 6)])) ∧
  (∃ f : Nat → Option Nat, h (Z + 1) = some (.inl (3, 4, .inr (.inr (.inr (.inr f))))) ∧ ∀ t, t < 4 → f t = some (Z + 13 + 7 * (2 * t))) ∧ (∃ f : Nat → Option Nat, h (Z + 2) = some (.inl (3, 4, .inr (.inr (.inr (.inr f))))) ∧ ∀ t, t < 4 → f t = some (Z + 13 + 7 * (2 * t + 1))) ∧ (∃ f : Nat → Option Nat, h (Z + 3) = some (.inl (3, 4, .inr (.inr (.inr (.inr f))))) ∧ ∀ t, t < 4 → f t = some (Z + 13 + 7 * (8 + t))) ∧
  h (Z + 4) = some (.inl (1, 4, .inl hs)) ∧ h (Z + 5) = some (.inl (0, 1000, .inl wr))
def KG (Z : Nat) (tr nd nu nb : Int32) (h : Hp) : Prop := h (Z + 6) = some (.inr (2, [.int tr, .int nd, .int nu, .int nb]))
theorem ldQ_at {β : Type} {h : Hp} {a ti m j v : Nat} {f : Nat → Option Nat} {K : Nat → Option β} (e : h a = some (.inl (ti, m, .inr (.inr (.inr (.inr f)))))) (hf : f j = some v) (hj : j < m) (hm : m < 2 ^ 31) : ldQ h a ti (nI j) K = K v := by
  simp only [ldQ, gQ, e, if_true]
  rw [if_pos (inN hj hm), clN hj hm, hf]
section KAR
variable {β : Type} {Z n wd wb tb : Nat} {lm : Int32} {hs wr : Nat → Int32} {h h' : Hp}
theorem KA.ag (k : KA Z n wd wb tb lm hs wr h) (hh : ∀ x, Z ≤ x → x ≤ Z + 5 → h' x = h x) : KA Z n wd wb tb lm hs wr h' := by
  unfold KA
  rw [hh Z (by omega) (by omega), hh (Z + 1) (by omega) (by omega), hh (Z + 2) (by omega) (by omega), hh (Z + 3) (by omega) (by omega), hh (Z + 4) (by omega) (by omega), hh (Z + 5) (by omega) (by omega)]
  exact k
theorem KA.o (k : KA Z n wd wb tb lm hs wr h) : isO h Z 4 = true := isO_at k.1
theorem KA.i0 (k : KA Z n wd wb tb lm hs wr h) {K : Int32 → Option β} : gI h Z 4 0 K = K (nI n) := gI_at k.1 rfl
theorem KA.i1 (k : KA Z n wd wb tb lm hs wr h) {K : Int32 → Option β} : gI h Z 4 1 K = K (nI wd) := gI_at k.1 rfl
theorem KA.i7 (k : KA Z n wd wb tb lm hs wr h) {K : Int32 → Option β} : gI h Z 4 7 K = K (nI wb) := gI_at k.1 rfl
theorem KA.i8 (k : KA Z n wd wb tb lm hs wr h) {K : Int32 → Option β} : gI h Z 4 8 K = K (nI tb) := gI_at k.1 rfl
theorem KA.i9 (k : KA Z n wd wb tb lm hs wr h) {K : Int32 → Option β} : gI h Z 4 9 K = K lm := gI_at k.1 rfl
theorem KA.r2 (k : KA Z n wd wb tb lm hs wr h) {K : Nat → Option β} : gR h Z 4 2 K = K (Z + 1) := gR_at k.1 rfl
theorem KA.r3 (k : KA Z n wd wb tb lm hs wr h) {K : Nat → Option β} : gR h Z 4 3 K = K (Z + 2) := gR_at k.1 rfl
theorem KA.r4 (k : KA Z n wd wb tb lm hs wr h) {K : Nat → Option β} : gR h Z 4 4 K = K (Z + 3) := gR_at k.1 rfl
theorem KA.r5 (k : KA Z n wd wb tb lm hs wr h) {K : Nat → Option β} : gR h Z 4 5 K = K (Z + 4) := gR_at k.1 rfl
theorem KA.r6 (k : KA Z n wd wb tb lm hs wr h) {K : Nat → Option β} : gR h Z 4 6 K = K (Z + 5) := gR_at k.1 rfl
theorem KA.r10 (k : KA Z n wd wb tb lm hs wr h) {K : Nat → Option β} : gR h Z 4 10 K = K (Z + 7) := gR_at k.1 rfl
theorem KA.r11 (k : KA Z n wd wb tb lm hs wr h) {K : Nat → Option β} : gR h Z 4 11 K = K (Z + 6) := gR_at k.1 rfl
theorem KA.q1 (k : KA Z n wd wb tb lm hs wr h) {t : Nat} {K : Nat → Option β} (ht : t < 4) : ldQ h (Z + 1) 3 (nI t) K = K (Z + 13 + 7 * (2 * t)) := by
  obtain ⟨f, f1, f2⟩ := k.2.1
  exact ldQ_at f1 (f2 t ht) ht (by omega)
theorem KA.q2 (k : KA Z n wd wb tb lm hs wr h) {t : Nat} {K : Nat → Option β} (ht : t < 4) : ldQ h (Z + 2) 3 (nI t) K = K (Z + 13 + 7 * (2 * t + 1)) := by
  obtain ⟨f, f1, f2⟩ := k.2.2.1
  exact ldQ_at f1 (f2 t ht) ht (by omega)
theorem KA.q3 (k : KA Z n wd wb tb lm hs wr h) {t : Nat} {K : Nat → Option β} (ht : t < 4) : ldQ h (Z + 3) 3 (nI t) K = K (Z + 13 + 7 * (8 + t)) := by
  obtain ⟨f, f1, f2⟩ := k.2.2.2.1
  exact ldQ_at f1 (f2 t ht) ht (by omega)
theorem KA.lh (k : KA Z n wd wb tb lm hs wr h) {t : Nat} {K : Int32 → Option β} (ht : t < 4) : ldI h (Z + 4) 1 (nI t) K = K (hs t) := ldI_at k.2.2.2.2.1 ht (by omega)
theorem KA.lw (k : KA Z n wd wb tb lm hs wr h) {t : Nat} {K : Int32 → Option β} (ht : t < 1000) : ldI h (Z + 5) 0 (nI t) K = K (wr t) := ldI_at k.2.2.2.2.2 ht (by omega)
/-- writing: what comes of it is again such an object -/
theorem KA.p7 (k : KA Z n wd wb tb lm hs wr h) {v : Nat} {K : Hp → Option β} : ∃ h', pF h Z 4 7 (.int (nI v)) K = K h' ∧ KA Z n wd v tb lm hs wr h' ∧ ∀ x, x ≠ Z → h' x = h x := by
  refine ⟨_, pF_at k.1 (Nat.le_of_ble_eq_true rfl), ⟨by rw [va_up_self]; rfl, ?_⟩, fun x hx => va_up_ne _ _ hx⟩
  rw [va_up_ne _ _ (by omega), va_up_ne _ _ (by omega), va_up_ne _ _ (by omega), va_up_ne _ _ (by omega), va_up_ne _ _ (by omega)]
  exact k.2
theorem KA.p8 (k : KA Z n wd wb tb lm hs wr h) {v : Nat} {K : Hp → Option β} : ∃ h', pF h Z 4 8 (.int (nI v)) K = K h' ∧ KA Z n wd wb v lm hs wr h' ∧ ∀ x, x ≠ Z → h' x = h x := by
  refine ⟨_, pF_at k.1 (Nat.le_of_ble_eq_true rfl), ⟨by rw [va_up_self]; rfl, ?_⟩, fun x hx => va_up_ne _ _ hx⟩
  rw [va_up_ne _ _ (by omega), va_up_ne _ _ (by omega), va_up_ne _ _ (by omega), va_up_ne _ _ (by omega), va_up_ne _ _ (by omega)]
  exact k.2
theorem KA.p9 (k : KA Z n wd wb tb lm hs wr h) {v : Int32} {K : Hp → Option β} : ∃ h', pF h Z 4 9 (.int v) K = K h' ∧ KA Z n wd wb tb v hs wr h' ∧ ∀ x, x ≠ Z → h' x = h x := by
  refine ⟨_, pF_at k.1 (Nat.le_of_ble_eq_true rfl), ⟨by rw [va_up_self]; rfl, ?_⟩, fun x hx => va_up_ne _ _ hx⟩
  rw [va_up_ne _ _ (by omega), va_up_ne _ _ (by omega), va_up_ne _ _ (by omega), va_up_ne _ _ (by omega), va_up_ne _ _ (by omega)]
  exact k.2
theorem KA.sw (k : KA Z n wd wb tb lm hs wr h) {t : Nat} {v : Int32} {K : Hp → Option β} (ht : t < 1000) : ∃ h', stI h (Z + 5) 0 (nI t) v K = K h' ∧ KA Z n wd wb tb lm hs (upd wr t v) h' ∧ ∀ x, x ≠ Z + 5 → h' x = h x := by
  refine ⟨_, stI_at k.2.2.2.2.2 ht (by omega), ?_, fun x hx => va_up_ne _ _ hx⟩
  unfold KA
  rw [va_up_self, va_up_ne _ _ (by omega), va_up_ne _ _ (by omega), va_up_ne _ _ (by omega), va_up_ne _ _ (by omega), va_up_ne _ _ (by omega)]
  exact ⟨k.1, k.2.1, k.2.2.1, k.2.2.2.1, k.2.2.2.2.1, rfl⟩
theorem KA.sh (k : KA Z n wd wb tb lm hs wr h) {t : Nat} {v : Int32} {K : Hp → Option β} (ht : t < 4) : ∃ h', stI h (Z + 4) 1 (nI t) v K = K h' ∧ KA Z n wd wb tb lm (upd hs t v) wr h' ∧ ∀ x, x ≠ Z + 4 → h' x = h x := by
  refine ⟨_, stI_at k.2.2.2.2.1 ht (by omega), ?_, fun x hx => va_up_ne _ _ hx⟩
  unfold KA
  rw [va_up_self, va_up_ne _ _ (by omega), va_up_ne _ _ (by omega), va_up_ne _ _ (by omega), va_up_ne _ _ (by omega), va_up_ne _ _ (by omega)]
  exact ⟨k.1, k.2.1, k.2.2.1, k.2.2.2.1, rfl, k.2.2.2.2.2⟩
end KAR
section KGR
variable {β : Type} {Z : Nat} {tr nd nu nb : Int32} {h h' : Hp}
theorem KG.ag (k : KG Z tr nd nu nb h) (hh : h' (Z + 6) = h (Z + 6)) : KG Z tr nd nu nb h' := by unfold KG; rw [hh]; exact k
theorem KG.o (k : KG Z tr nd nu nb h) : isO h (Z + 6) 2 = true := isO_at k
theorem KG.i0 (k : KG Z tr nd nu nb h) {K : Int32 → Option β} : gI h (Z + 6) 2 0 K = K tr := gI_at k rfl
theorem KG.i1 (k : KG Z tr nd nu nb h) {K : Int32 → Option β} : gI h (Z + 6) 2 1 K = K nd := gI_at k rfl
theorem KG.i2 (k : KG Z tr nd nu nb h) {K : Int32 → Option β} : gI h (Z + 6) 2 2 K = K nu := gI_at k rfl
theorem KG.i3 (k : KG Z tr nd nu nb h) {K : Int32 → Option β} : gI h (Z + 6) 2 3 K = K nb := gI_at k rfl
theorem KG.p0 (k : KG Z tr nd nu nb h) {v : Int32} {K : Hp → Option β} : ∃ h', pF h (Z + 6) 2 0 (.int v) K = K h' ∧ KG Z v nd nu nb h' ∧ ∀ x, x ≠ Z + 6 → h' x = h x := ⟨_, pF_at k (Nat.le_of_ble_eq_true rfl), by unfold KG; rw [va_up_self]; rfl, fun x hx => va_up_ne _ _ hx⟩
theorem KG.p1 (k : KG Z tr nd nu nb h) {v : Int32} {K : Hp → Option β} : ∃ h', pF h (Z + 6) 2 1 (.int v) K = K h' ∧ KG Z tr v nu nb h' ∧ ∀ x, x ≠ Z + 6 → h' x = h x := ⟨_, pF_at k (Nat.le_of_ble_eq_true rfl), by unfold KG; rw [va_up_self]; rfl, fun x hx => va_up_ne _ _ hx⟩
theorem KG.p2 (k : KG Z tr nd nu nb h) {v : Int32} {K : Hp → Option β} : ∃ h', pF h (Z + 6) 2 2 (.int v) K = K h' ∧ KG Z tr nd v nb h' ∧ ∀ x, x ≠ Z + 6 → h' x = h x := ⟨_, pF_at k (Nat.le_of_ble_eq_true rfl), by unfold KG; rw [va_up_self]; rfl, fun x hx => va_up_ne _ _ hx⟩
theorem KG.p3 (k : KG Z tr nd nu nb h) {v : Int32} {K : Hp → Option β} : ∃ h', pF h (Z + 6) 2 3 (.int v) K = K h' ∧ KG Z tr nd nu v h' ∧ ∀ x, x ≠ Z + 6 → h' x = h x := ⟨_, pF_at k (Nat.le_of_ble_eq_true rfl), by unfold KG; rw [va_up_self]; rfl, fun x hx => va_up_ne _ _ hx⟩
theorem e_Rbegin (k : KG Z tr nd nu nb h) : ∃ h', FR_begin h (Z + 6) = some h' ∧ KG Z (-1) 0 0 0 h' ∧ ∀ x, x ≠ Z + 6 → h' x = h x := by
  unfold FR_begin
  obtain ⟨h1, a1, b1, c1⟩ := k.p0 (v := -1) (K := fun h1 => pF h1 (Z + 6) 2 1 (.int 0) (fun h2 => pF h2 (Z + 6) 2 2 (.int 0) (fun h3 => pF h3 (Z + 6) 2 3 (.int 0) (fun h4 => some h4))))
  rw [a1]
  obtain ⟨h2, a2, b2, c2⟩ := b1.p1 (v := 0) (K := fun h2 => pF h2 (Z + 6) 2 2 (.int 0) (fun h3 => pF h3 (Z + 6) 2 3 (.int 0) (fun h4 => some h4)))
  rw [a2]
  obtain ⟨h3, a3, b3, c3⟩ := b2.p2 (v := 0) (K := fun h3 => pF h3 (Z + 6) 2 3 (.int 0) (fun h4 => some h4))
  rw [a3]
  obtain ⟨h4, a4, b4, c4⟩ := b3.p3 (v := 0) (K := fun h4 => some h4)
  rw [a4]
  exact ⟨h4, rfl, b4, fun x hx => by rw [c4 x hx, c3 x hx, c2 x hx, c1 x hx]⟩
theorem e_Rleave (k : KG Z tr nd nu nb h) {t : Int32} : ∃ h', FR_leaveCodeOf h (Z + 6) t = some h' ∧ (if tr = t then KG Z (-1) 0 0 0 h' else h' = h) ∧ ∀ x, x ≠ Z + 6 → h' x = h x := by
  unfold FR_leaveCodeOf
  rw [k.i0, jn_eq]
  try dsimp only
  by_cases e : tr = t
  · obtain ⟨h1, a1, b1, c1⟩ := e_Rbegin k
    rw [if_pos e, gd_t k.o, a1, Option.bind_some]
    exact ⟨h1, rfl, by rw [if_pos e]; exact b1, c1⟩
  · rw [if_neg e]
    exact ⟨h, rfl, by rw [if_neg e], fun _ _ => rfl⟩
theorem e_Rother (k : KG Z tr nd nu nb h) {t : Int32} : FR_isInCodeOfOtherThan h (Z + 6) t = some (if tr = (-1) ∨ tr = t then 0 else 1) := by
  unfold FR_isInCodeOfOtherThan
  rw [k.i0, jn_eq]
  try dsimp only
  rw [jn_eq]
  try dsimp only
  by_cases e : tr = (-1)
  · rw [if_pos e, if_pos (Or.inl e), gd_t (Or.inl rfl)]
  · rw [if_neg e, k.i0]
    by_cases e2 : tr = t
    · rw [if_pos e2, if_pos (Or.inr e2), gd_t (Or.inl rfl)]
    · rw [if_neg e2, if_neg (fun z => by rcases z with z | z; exact e z; exact e2 z), gd_t (Or.inr rfl)]
end KGR
/-! the small tests -/
theorem e_range {p : Int32} {k : Nat} (hk : k < 2 ^ 31) : (¬ p < 0 ∧ ¬ nI k ≤ p) ↔ ∃ j : Nat, j < k ∧ p = nI j := by
  constructor
  · rintro ⟨h1, h2⟩
    obtain ⟨j, j1, j2⟩ := nI_of h1
    refine ⟨j, ?_, j2⟩
    rcases Nat.lt_or_ge j k with z | z
    · exact z
    · exact absurd (by rw [j2]; exact nI_le z j1) h2
  · rintro ⟨j, j1, rfl⟩
    exact ⟨nI_pos (by omega), nI_ge j1 hk⟩
theorem e_isTree {h : Hp} {p : Int32} : (FA_isTree h p = some 0 ∧ ¬ ∃ t : Nat, t < 4 ∧ p = nI t) ∨ (FA_isTree h p = some 1 ∧ ∃ t : Nat, t < 4 ∧ p = nI t) := by
  have hr := e_range (p := p) (k := 4) (by omega)
  unfold FA_isTree
  rw [jn_eq]
  try dsimp only
  rw [jn_eq]
  try dsimp only
  by_cases e1 : p < 0
  · left; rw [if_pos e1, gd_t (Or.inl rfl)]; exact ⟨rfl, fun z => (hr.mpr z).1 e1⟩
  · by_cases e2 : (4 : Int32) ≤ p
    · left; rw [if_neg e1, if_pos e2, gd_t (Or.inl rfl)]; exact ⟨rfl, fun z => (hr.mpr z).2 e2⟩
    · right; rw [if_neg e1, if_neg e2, gd_t (Or.inr rfl)]; exact ⟨rfl, hr.mp ⟨e1, e2⟩⟩
theorem e_isSlot {h : Hp} {p : Int32} : FA_isSlot h p = FA_isTree h p := rfl
theorem e_isEnd {h : Hp} {p : Int32} : (FA_isEnd h p = some 0 ∧ ¬ ∃ t : Nat, t < 2 ∧ p = nI t) ∨ (FA_isEnd h p = some 1 ∧ ∃ t : Nat, t < 2 ∧ p = nI t) := by
  have hr := e_range (p := p) (k := 2) (by omega)
  unfold FA_isEnd
  rw [jn_eq]
  try dsimp only
  rw [jn_eq]
  try dsimp only
  by_cases e1 : p < 0
  · left; rw [if_pos e1, gd_t (Or.inl rfl)]; exact ⟨rfl, fun z => (hr.mpr z).1 e1⟩
  · by_cases e2 : (2 : Int32) ≤ p
    · left; rw [if_neg e1, if_pos e2, gd_t (Or.inl rfl)]; exact ⟨rfl, fun z => (hr.mpr z).2 e2⟩
    · right; rw [if_neg e1, if_neg e2, gd_t (Or.inr rfl)]; exact ⟨rfl, hr.mp ⟨e1, e2⟩⟩
theorem e_isSign {Z n wd wb tb : Nat} {lm : Int32} {hs wr : Nat → Int32} {h : Hp} (k : KA Z n wd wb tb lm hs wr h) (hn : n ≤ 64) {p : Int32} : (FA_isSign h Z p = some 0 ∧ ¬ ∃ t : Nat, t < n ∧ p = nI t) ∨ (FA_isSign h Z p = some 1 ∧ ∃ t : Nat, t < n ∧ p = nI t) := by
  have hr := e_range (p := p) (k := n) (by omega)
  unfold FA_isSign
  rw [jn_eq]
  try dsimp only
  rw [jn_eq]
  try dsimp only
  rw [k.i0]
  by_cases e1 : p < 0
  · left; rw [if_pos e1, gd_t (Or.inl rfl)]; exact ⟨rfl, fun z => (hr.mpr z).1 e1⟩
  · by_cases e2 : nI n ≤ p
    · left; rw [if_neg e1, if_pos e2, gd_t (Or.inl rfl)]; exact ⟨rfl, fun z => (hr.mpr z).2 e2⟩
    · right; rw [if_neg e1, if_neg e2, gd_t (Or.inr rfl)]; exact ⟨rfl, hr.mp ⟨e1, e2⟩⟩
/-- the model's range test against 0 .. k - 1 -/
theorem m_isIn {h : Hp} {p : Int32} {k : Nat} (hk0 : 0 < k) (hk : k < 2 ^ 31) : (FM_isIn h p 0 (nI k - 1) = some 0 ∧ ¬ ∃ t : Nat, t < k ∧ p = nI t) ∨ (FM_isIn h p 0 (nI k - 1) = some 1 ∧ ∃ t : Nat, t < k ∧ p = nI t) := by
  obtain ⟨j, rfl⟩ : ∃ j, k = j + 1 := ⟨k - 1, by omega⟩
  rw [nI_s1]
  unfold FM_isIn
  rw [jn_eq]
  try dsimp only
  rw [jn_eq]
  try dsimp only
  by_cases e1 : p < 0
  · left; rw [if_pos e1, gd_t (Or.inl rfl)]
    exact ⟨rfl, fun ⟨t, t1, t2⟩ => by rw [t2] at e1; exact nI_pos (by omega) e1⟩
  · obtain ⟨i, i1, i2⟩ := nI_of e1
    subst i2
    by_cases e2 : nI j < nI i
    · left; rw [if_neg e1, if_pos e2, gd_t (Or.inl rfl)]
      refine ⟨rfl, fun ⟨t, t1, t2⟩ => ?_⟩
      rw [nI_eq i1 (by omega)] at t2
      exact nI_nlt (by omega) (by omega) e2
    · right; rw [if_neg e1, if_neg e2, gd_t (Or.inr rfl)]
      refine ⟨rfl, i, ?_, rfl⟩
      rcases Nat.lt_or_ge j i with z | z
      · exact absurd (nI_lt z i1) e2
      · omega
theorem m_isIn3 {h : Hp} {p : Int32} : (FM_isIn h p 0 3 = some 0 ∧ ¬ ∃ t : Nat, t < 4 ∧ p = nI t) ∨ (FM_isIn h p 0 3 = some 1 ∧ ∃ t : Nat, t < 4 ∧ p = nI t) := m_isIn (k := 4) (by omega) (by omega)
theorem m_isIn1 {h : Hp} {p : Int32} : (FM_isIn h p 0 1 = some 0 ∧ ¬ ∃ t : Nat, t < 2 ∧ p = nI t) ∨ (FM_isIn h p 0 1 = some 1 ∧ ∃ t : Nat, t < 2 ∧ p = nI t) := m_isIn (k := 2) (by omega) (by omega)
theorem m_isTree {h : Hp} {p r : Int32} : (FM_isTree h p r = some 0 ∧ ¬ ((∃ t : Nat, t < 2 ∧ p = nI t) ∧ ∃ t : Nat, t < 4 ∧ r = nI t)) ∨ (FM_isTree h p r = some 1 ∧ (∃ t : Nat, t < 2 ∧ p = nI t) ∧ ∃ t : Nat, t < 4 ∧ r = nI t) := by
  unfold FM_isTree
  rcases m_isIn1 (h := h) (p := p) with ⟨a1, a2⟩ | ⟨a1, a2⟩
  · left
    rw [a1, Option.bind_some, jn_eq]
    try dsimp only
    rw [jn_eq]
    try dsimp only
    rw [if_pos rfl, gd_t (Or.inl rfl)]
    exact ⟨rfl, fun z => a2 z.1⟩
  · rw [a1, Option.bind_some, jn_eq]
    try dsimp only
    rw [jn_eq]
    try dsimp only
    rw [if_neg (by decide)]
    rcases m_isIn3 (h := h) (p := r) with ⟨b1, b2⟩ | ⟨b1, b2⟩
    · left
      rw [b1, Option.bind_some, if_pos rfl, gd_t (Or.inl rfl)]
      exact ⟨rfl, fun z => b2 z.2⟩
    · right
      rw [b1, Option.bind_some, if_neg (by decide), gd_t (Or.inr rfl)]
      exact ⟨rfl, a2, b2⟩
theorem e_treeOf {Z n wd wb tb : Nat} {lm : Int32} {hs wr : Nat → Int32} {h : Hp} (k : KA Z n wd wb tb lm hs wr h) {e t : Nat} (he : e < 2) (ht : t < 4) : FA_treeOf h Z (nI e) (nI t) = some (Z + 13 + 7 * (2 * t + e)) := by
  unfold FA_treeOf
  rw [jn_eq]
  try dsimp only
  by_cases z : e = 0
  · subst z; rw [if_pos nI_0, k.r2, k.q1 ht]; rfl
  · have : e = 1 := by omega
    subst this
    rw [if_neg (by decide), k.r3, k.q2 ht]
theorem e_oneIf {h : Hp} {b : Nat} (hb : b < 2) : FA_oneIf h (nI b) = some (nI b) := by
  unfold FA_oneIf
  rw [jn_eq]
  try dsimp only
  by_cases z : b = 0
  · subst z; rw [if_pos nI_0]; rfl
  · have : b = 1 := by omega
    subst this; rw [if_neg (by decide)]; rfl
