/-! the CODE's row, and ways up -/
section OC
variable {β : Type} {C m : Nat} {rw' : Nat → Int32} {ln : Int32} {h : Hp}
theorem oc_0 : oc C m rw' ln h C = some (.inr (0, [.ref (C + 1), .int ln])) := if_pos rfl
theorem oc_1 : oc C m rw' ln h (C + 1) = some (.inl (0, m, .inl rw')) := by simp [oc]
theorem oc_out {q : Nat} (hq : q < C ∨ C + 1 < q) : oc C m rw' ln h q = h q := by
  unfold oc
  rw [if_neg (by omega), if_neg (by omega)]
theorem oc_up1 {f : Nat → Int32} : va_up (oc C m rw' ln h) (C + 1) (some (.inl (0, m, .inl f))) = oc C m f ln h := by
  funext q
  by_cases e : q = C + 1
  · subst e; rw [va_up_self, oc_1]
  · rw [va_up_ne _ _ e]; simp [oc, e]
theorem oc_up0 {v : Int32} : va_up (oc C m rw' ln h) C (some (.inr (0, [.ref (C + 1), .int ln].set 1 (.int v)))) = oc C m rw' v h := by
  funext q
  by_cases e : q = C
  · subst e; rw [va_up_self, oc_0]; rfl
  · rw [va_up_ne _ _ e]; simp [oc, e]
theorem oc_oc {m2 : Nat} {r2 : Nat → Int32} {l2 : Int32} : oc C m rw' ln (oc C m2 r2 l2 h) = oc C m rw' ln h := by
  funext q
  unfold oc
  by_cases e : q = C
  · rw [if_pos e, if_pos e]
  · rw [if_neg e, if_neg e]
    by_cases e2 : q = C + 1
    · simp [e, e2]
    · simp [e, e2]
theorem c_r {K : Nat → Option β} : gR (oc C m rw' ln h) C 0 0 K = K (C + 1) := gR_at oc_0 rfl
theorem c_i {K : Int32 → Option β} : gI (oc C m rw' ln h) C 0 1 K = K ln := gI_at oc_0 rfl
theorem c_p {v : Int32} {K : Hp → Option β} : pF (oc C m rw' ln h) C 0 1 (.int v) K = K (oc C m rw' v h) := by rw [pF_at oc_0 (Nat.le_of_ble_eq_true rfl), oc_up0]
theorem c_al {K : Int32 → Option β} : alen (oc C m rw' ln h) (C + 1) 0 K = K (nI m) := alen_at oc_1
theorem c_l {j : Nat} {K : Int32 → Option β} (hj : j < m) (hm : m < 2 ^ 31) : ldI (oc C m rw' ln h) (C + 1) 0 (nI j) K = K (rw' j) := ldI_at oc_1 hj hm
theorem c_s {j : Nat} {v : Int32} {K : Hp → Option β} (hj : j < m) (hm : m < 2 ^ 31) : stI (oc C m rw' ln h) (C + 1) 0 (nI j) v K = K (oc C m (upd rw' j v) ln h) := by rw [stI_at oc_1 hj hm, oc_up1]
theorem c_o : isO (oc C m rw' ln h) C 0 = true := isO_at oc_0
theorem gR_oc {q ci k : Nat} {K : Nat → Option β} (hq : q < C ∨ C + 1 < q) : gR (oc C m rw' ln h) q ci k K = gR h q ci k K := by simp only [gR, gF, oc_out hq]
theorem gI_oc {q ci k : Nat} {K : Int32 → Option β} (hq : q < C ∨ C + 1 < q) : gI (oc C m rw' ln h) q ci k K = gI h q ci k K := by simp only [gI, gF, oc_out hq]
theorem ldI_oc {q ti : Nat} {i : Int32} {K : Int32 → Option β} (hq : q < C ∨ C + 1 < q) : ldI (oc C m rw' ln h) q ti i K = ldI h q ti i K := by simp only [ldI, gA, oc_out hq]
theorem isO_oc {q ci : Nat} (hq : q < C ∨ C + 1 < q) : isO (oc C m rw' ln h) q ci = isO h q ci := by simp only [isO, oc_out hq]
theorem e_cappend {L : Nat} {v : Int32} (hL : L < m) (hm : m < 2 ^ 31) : FC_append (oc C m rw' (nI L) h) C v = some (oc C m (upd rw' L v) (nI (L + 1)) h) := by
  unfold FC_append
  rw [c_i, c_r, c_al, jn_eq]
  try dsimp only
  rw [if_neg (nI_ge hL hm), c_r, c_i, c_s hL hm, c_i, nI_1, c_p]
/-- turning round: what was at j stands at L - 1 - j -/
theorem e_rev_loop {L : Nat} {r0 : Nat → Int32} {K : Hp → Option Hp} (hL : L ≤ m) (hm : m < 1000) (hL0 : 0 < L) : ∀ (k lo w : Nat) (r : Nat → Int32), L ≤ 2 * lo + k + 1 → k < w → lo < L → (∀ j, j < lo → r j = r0 (L - 1 - j) ∧ r (L - 1 - j) = r0 j) → (∀ j, lo ≤ j → j < L - lo → r j = r0 j) →
    ∃ r' : Nat → Int32, lpG (fun _ _ _ => none) w (LC_reverse_9 C K) (oc C m r ln h) (nI lo) (nI (L - 1 - lo)) = K (oc C m r' ln h) ∧ ∀ j, j < L → r' j = r0 (L - 1 - j)
  | k, lo, 0, r, _, hw, _, _, _ => absurd hw (by omega)
  | k, lo, w + 1, r, hk, hw, hlo, h1, h2 => by
    rw [lpG_s, LC_reverse_9.eq_1]
    by_cases e : L - 1 - lo ≤ lo
    · rw [if_pos (nI_le e (by omega))]
      refine ⟨r, rfl, fun j hj => ?_⟩
      rcases Nat.lt_or_ge j lo with z | z
      · exact (h1 j z).1
      · rcases Nat.lt_or_ge j (L - lo) with z2 | z2
        · have : L - 1 - j = j := by omega
          rw [this]; exact h2 j z z2
        · have := (h1 (L - 1 - j) (by omega)).2
          rw [show L - 1 - (L - 1 - j) = j by omega] at this
          exact this
    · match k, hk, hw with
      | 0, hk, hw => exact absurd hk (by omega)
      | k + 1, hk, hw =>
        rw [if_neg (nI_ge (show lo < L - 1 - lo by omega) (by omega)), c_r, c_l (show lo < m by omega) (by omega), c_r, c_r, c_l (show L - 1 - lo < m by omega) (by omega), c_s (show lo < m by omega) (by omega), c_r, c_s (show L - 1 - lo < m by omega) (by omega), nI_1]
        have e3 : nI (L - 1 - lo) + (-1) = nI (L - 1 - (lo + 1)) := by
          have : L - 1 - lo = (L - 1 - (lo + 1)) + 1 := by omega
          rw [this]; exact nI_m1
        rw [e3]
        refine e_rev_loop hL hm hL0 k (lo + 1) w _ (by omega) (by omega) (by omega) (fun j hj => ?_) (fun j hj1 hj2 => ?_)
        · rcases Nat.lt_or_ge j lo with z | z
          · have := h1 j z
            rw [updN (by omega), updN (by omega), updN (by omega), updN (by omega)]
            exact this
          · have : j = lo := by omega
            subst this
            rw [updN (by omega), updE, updE]
            exact ⟨h2 _ (by omega) (by omega), h2 _ (by omega) (by omega)⟩
        · rw [updN (by omega), updN (by omega)]
          exact h2 j (by omega) (by omega)
theorem e_reverse {L : Nat} {r : Nat → Int32} (hL : L ≤ m) (hm : m < 1000) : ∃ r' : Nat → Int32, FC_reverse (oc C m r (nI L) h) C = some (oc C m r' (nI L) h) ∧ ∀ j, j < L → r' j = r (L - 1 - j) := by
  unfold FC_reverse
  rw [c_i, jn_eq]
  try dsimp only
  rcases Nat.eq_zero_or_pos L with e | e
  · subst e
    refine ⟨r, ?_, fun j hj => absurd hj (by omega)⟩
    rw [show fu = 99999 + 1 from rfl, lpG_s, LC_reverse_9.eq_1, if_pos (by decide)]
  · have e1 : nI L - 1 = nI (L - 1 - 0) := by
      obtain ⟨k, rfl⟩ : ∃ k, L = k + 1 := ⟨L - 1, by omega⟩
      exact nI_s1
    rw [e1]
    exact e_rev_loop hL hm e L 0 fu r (by omega) (by show L < 100000; omega) e (fun j hj => absurd hj (by omega)) (fun j _ _ => rfl)
end OC
/-- bit i of s -/
def bt (s i : Nat) : Nat := (s / 2 ^ i) % 2
theorem bt_I : ∀ s, s < 64 → ∀ i, i < 6 → (nI s >>> (nI i &&& 31)) &&& 1 = nI (bt s i) := by decide +kernel
theorem bt_lt (s i : Nat) : bt s i < 2 := Nat.mod_lt _ (by omega)
theorem e_num_loop {C m s : Nat} {h : Hp} {K : Hp → Option Hp} (hm : m < 1000) (hs : s < 64) : ∀ (k L w : Nat) (r : Nat → Int32), k ≤ 6 → k < w → L + k ≤ m →
    ∃ r' : Nat → Int32, lpG (fun _ _ => none) w (LC_appendNumber_4 C (nI s) K) (oc C m r (nI L) h) (nI k - 1) = K (oc C m r' (nI (L + k)) h) ∧ (∀ j, j < L → r' j = r j) ∧ ∀ j, j < k → r' (L + j) = nI (bt s (k - 1 - j))
  | k, L, 0, r, _, hw, _ => absurd hw (by omega)
  | 0, L, w + 1, r, hk, hw, hL => by
    rw [lpG_s, LC_appendNumber_4.eq_1, if_pos (by decide)]
    exact ⟨r, rfl, fun _ _ => rfl, fun j hj => absurd hj (by omega)⟩
  | k + 1, L, w + 1, r, hk, hw, hL => by
    rw [lpG_s, LC_appendNumber_4.eq_1, nI_s1, if_neg (nI_pos (by omega)), gd_t c_o, bt_I s hs k (by omega), e_cappend (show L < m by omega) (by omega), Option.bind_some, nI_pm]
    obtain ⟨r', r1, r2, r3⟩ := e_num_loop (K := K) (h := h) hm hs k (L + 1) w (upd r L (nI (bt s k))) (by omega) (by omega) (by omega)
    refine ⟨r', ?_, fun j hj => ?_, fun j hj => ?_⟩
    · rw [r1, show L + 1 + k = L + (k + 1) by omega]
    · rw [r2 j (by omega), updN (by omega)]
    · rcases Nat.eq_zero_or_pos j with z | z
      · subst z
        rw [Nat.add_zero, r2 L (by omega), updE]
        rfl
      · have := r3 (j - 1) (by omega)
        rw [show L + 1 + (j - 1) = L + j by omega, show k - 1 - (j - 1) = k + 1 - 1 - j by omega] at this
        exact this
theorem e_appendNumber {C m s L wd : Nat} {h : Hp} {r : Nat → Int32} (hm : m < 1000) (hs : s < 64) (hw : wd ≤ 6) (hL : L + wd ≤ m) : ∃ r' : Nat → Int32, FC_appendNumber (oc C m r (nI L) h) C (nI s) (nI wd) = some (oc C m r' (nI (L + wd)) h) ∧ (∀ j, j < L → r' j = r j) ∧ ∀ j, j < wd → r' (L + j) = nI (bt s (wd - 1 - j)) := by
  unfold FC_appendNumber
  rw [jn_eq]
  try dsimp only
  exact e_num_loop hm hs wd L fu r hw (by show wd < 100000; omega) hL
/-- a way up: pr the parent, sd the side, dp how far -/
def WK (N : Nat) (pr sd dp : Nat → Nat) : Prop := dp 0 = 0 ∧ (∀ x, 0 < x → x < N → pr x < N ∧ sd x < 2 ∧ dp x = dp (pr x) + 1) ∧ ∀ x, x < N → dp x < N
def wy (pr sd : Nat → Nat) (k : Nat) (j : Nat) : Nat := sd (itN pr j k)
theorem WK_0 {N : Nat} {pr sd dp : Nat → Nat} (h : WK N pr sd dp) {x : Nat} (hx : x < N) (e : dp x = 0) : x = 0 := by
  rcases Nat.eq_zero_or_pos x with z | z
  · exact z
  · have := (h.2.1 x z hx).2.2; omega
theorem WK_p {N : Nat} {pr sd dp : Nat → Nat} (h : WK N pr sd dp) {x : Nat} (e : 0 < dp x) : 0 < x := by
  rcases Nat.eq_zero_or_pos x with z | z
  · subst z; have := h.1; omega
  · exact z
theorem wy_s {pr sd : Nat → Nat} {k j : Nat} : wy pr sd k (j + 1) = wy pr sd (pr k) j := rfl
section WAY
variable {n P a C mC : Nat} {fm es hv : Int32} {cn sg pa fs sn lf : Nat → Int32} {h : Hp}
theorem e_way_loop {N : Nat} {pr sd dp : Nat → Nat} {K : Hp → Option Hp} (hn : n ≤ 64) (hN : N ≤ 2 * n + 1) (hC : C + 1 < a) (hm : mC < 1000) (hmN : N ≤ mC) (hW : WK N pr sd dp) (h0 : pa 0 = (-1)) (hp : ∀ x, 0 < x → x < N → pa x = nI (pr x) ∧ (fs (pr x) = nI x ↔ sd x = 0)) : ∀ (e k L w : Nat) (r : Nat → Int32), k < N → dp k = e → L + e < N → e < w →
    ∃ r' : Nat → Int32, lpG (fun _ _ _ => none) w (LT_layWayTo_5 a C K) (oc C mC r (nI L) (ov n P a fm (nI N) es hv cn sg pa fs sn lf h)) (nI k) (nI L) = K (oc C mC r' (nI (L + e)) (ov n P a fm (nI N) es hv cn sg pa fs sn lf h)) ∧ (∀ j, j < L → r' j = r j) ∧ ∀ j, j < e → r' (L + j) = nI (wy pr sd k j)
  | e, k, L, 0, r, _, _, _, hw => absurd hw (by omega)
  | 0, k, L, w + 1, r, hk, he, hL, hw => by
    have : k = 0 := WK_0 hW hk he
    subst this
    have oe : ov n P a fm (nI N) es hv cn sg pa fs sn lf (oc C mC r (nI L) (ov n P a fm (nI N) es hv cn sg pa fs sn lf h)) = oc C mC r (nI L) (ov n P a fm (nI N) es hv cn sg pa fs sn lf h) := ov_ag ov_idem (fun x x1 x2 => oc_out (by omega))
    rw [lpG_s, LT_layWayTo_5.eq_1, h_pa oe hk hN hn, h0, if_pos rfl]
    exact ⟨r, rfl, fun _ _ => rfl, fun j hj => absurd hj (by omega)⟩
  | e + 1, k, L, w + 1, r, hk, he, hL, hw => by
    have k0 : 0 < k := WK_p hW (by omega)
    obtain ⟨w1, w2, w3⟩ := hW.2.1 k k0 hk
    obtain ⟨p1, p2⟩ := hp k k0 hk
    have oe : ov n P a fm (nI N) es hv cn sg pa fs sn lf (oc C mC r (nI L) (ov n P a fm (nI N) es hv cn sg pa fs sn lf h)) = oc C mC r (nI L) (ov n P a fm (nI N) es hv cn sg pa fs sn lf h) := ov_ag ov_idem (fun x x1 x2 => oc_out (by omega))
    obtain ⟨r', r1, r2, r3⟩ := e_way_loop (K := K) hn hN hC hm hmN hW h0 hp e (pr k) (L + 1) w (upd r L (nI (sd k))) w1 (by omega) (by omega) (by omega)
    refine ⟨r', ?_, fun j hj => by rw [r2 j (by omega), updN (by omega)], fun j hj => ?_⟩
    · rw [lpG_s, LT_layWayTo_5.eq_1, h_pa oe hk hN hn, p1, if_neg (m1_nI (by omega)), gI_oc (Or.inr (by omega)), i_sz, if_neg (nI_ge (show L < N by omega) (by omega)), h_pa oe hk hN hn, p1, h_fs oe w1 hN hn, jn_eq]
      try dsimp only
      have core : ∀ y : Int32, y = nI (sd k) → (gd (isO (oc C mC r (nI L) (ov n P a fm (nI N) es hv cn sg pa fs sn lf h)) C 0 = true) ((FC_append (oc C mC r (nI L) (ov n P a fm (nI N) es hv cn sg pa fs sn lf h)) C y).bind (fun r20 => lpG (fun _ _ _ => none) w (LT_layWayTo_5 a C K) r20 (nI (pr k)) (nI L + 1)))) = K (oc C mC r' (nI (L + (e + 1))) (ov n P a fm (nI N) es hv cn sg pa fs sn lf h)) := by
        intro y hy
        subst hy
        rw [gd_t c_o, e_cappend (show L < mC by omega) (by omega), Option.bind_some, nI_1, r1, show L + 1 + e = L + (e + 1) by omega]
      by_cases z : sd k = 0
      · rw [if_pos (p2.mpr z)]; exact core 0 (by rw [z]; rfl)
      · rw [if_neg (fun q => z (p2.mp q))]; exact core 1 (by rw [show sd k = 1 by omega]; rfl)
    · rcases Nat.eq_zero_or_pos j with z | z
      · subst z
        rw [Nat.add_zero, r2 L (by omega), updE]
        rfl
      · have := r3 (j - 1) (by omega)
        rw [show L + 1 + (j - 1) = L + j by omega, ← wy_s, show j - 1 + 1 = j by omega] at this
        exact this
theorem e_way {N k : Nat} {pr sd dp : Nat → Nat} {r : Nat → Int32} (hn : n ≤ 64) (hN : N ≤ 2 * n + 1) (hC : C + 1 < a) (hm : mC < 1000) (hmN : N ≤ mC) (hW : WK N pr sd dp) (h0 : pa 0 = (-1)) (hp : ∀ x, 0 < x → x < N → pa x = nI (pr x) ∧ (fs (pr x) = nI x ↔ sd x = 0)) (hk : k < N) :
    ∃ r' : Nat → Int32, FT_layWayTo (oc C mC r 0 (ov n P a fm (nI N) es hv cn sg pa fs sn lf h)) a (nI k) C = some (oc C mC r' (nI (dp k)) (ov n P a fm (nI N) es hv cn sg pa fs sn lf h)) ∧ ∀ j, j < dp k → r' j = nI (wy pr sd k (dp k - 1 - j)) := by
  have hd := hW.2.2 k hk
  obtain ⟨r1, q1, -, q2⟩ := e_way_loop (n := n) (P := P) (a := a) (C := C) (mC := mC) (fm := fm) (es := es) (hv := hv) (cn := cn) (sg := sg) (sn := sn) (lf := lf) (h := h) (K := fun h1 => gd (isO h1 C 0 = true) ((FC_reverse h1 C).bind (fun r4 => some r4))) hn hN hC hm hmN hW h0 hp (dp k) k 0 fu r hk rfl (by omega) (by show dp k < 100000; omega)
  rw [Nat.zero_add] at q1
  obtain ⟨r2, s1, s2⟩ := e_reverse (C := C) (m := mC) (h := ov n P a fm (nI N) es hv cn sg pa fs sn lf h) (L := dp k) (r := r1) (by omega) hm
  refine ⟨r2, ?_, fun j hj => ?_⟩
  · unfold FT_layWayTo
    rw [jn_eq]
    try dsimp only
    rw [show (0 : Int32) = nI 0 from rfl, q1]
    try dsimp only
    rw [gd_t c_o, s1, Option.bind_some]
  · rw [s2 j hj]
    have := q2 (dp k - 1 - j) (by omega)
    rw [Nat.zero_add] at this
    exact this
end WAY
