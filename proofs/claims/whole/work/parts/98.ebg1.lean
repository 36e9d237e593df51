/-! A TREE BEGINS ANEW, counted or splayed -/
theorem upd_ne {f : Nat → Int32} {k j : Nat} {v : Int32} (h : j ≠ k) : upd f k v j = f j := if_neg h
section BG
variable {n P a : Nat} {h : Hp}
theorem e_bc_loop {K : Hp → Option Hp} {fm sz es hv : Int32} {cn sg pa fs sn : Nat → Int32} (hn : n ≤ 64) : ∀ (k i w : Nat) (lf : Nat → Int32), i + k = n → k < w → (∀ s, s < i → lf s = (-1)) → ∃ lf' : Nat → Int32, lpG (fun _ _ => none) w (LT_beginCounted_12 a K) (ov n P a fm sz es hv cn sg pa fs sn lf h) (nI i) = K (ov n P a fm sz es hv cn sg pa fs sn lf' h) ∧ ∀ s, s < n → lf' s = (-1)
  | 0, i, w, lf, hk, hw, hl => by
    obtain ⟨w', rfl⟩ : ∃ w', w = w' + 1 := ⟨w - 1, by omega⟩
    refine ⟨lf, ?_, fun s hs => hl s (by omega)⟩
    rw [lpG_s, LT_beginCounted_12.eq_1, i_n, if_pos (nI_le (by omega) (by omega))]
  | k + 1, i, w, lf, hk, hw, hl => by
    obtain ⟨w', rfl⟩ : ∃ w', w = w' + 1 := ⟨w - 1, by omega⟩
    obtain ⟨lf', r1, r2⟩ := e_bc_loop (K := K) (fm := fm) (sz := sz) (es := es) (hv := hv) (cn := cn) (sg := sg) (pa := pa) (fs := fs) (sn := sn) hn k (i + 1) w' (upd lf i (-1)) (by omega) (by omega) (fun s hs => by
      by_cases z : s = i
      · subst z; exact updS
      · rw [upd_ne z]; exact hl s (by omega))
    refine ⟨lf', ?_, r2⟩
    rw [lpG_s, LT_beginCounted_12.eq_1, i_n, if_neg (nI_ge (by omega) (by omega)), r_lf, st_lf (by omega) hn, show nI i + 1 = nI (i + 1) from nI_add _ _, r1]
/-- the empty counted tree -/
def c0 : Nat → Nat := fun _ => 0
def g0 : Nat → Nat := fun _ => 1
theorem CI0 {B : Nat} {o : Nat → Nat} : CI n B 0 c0 g0 o := by
  refine ⟨⟨by omega, by omega, by omega, fun i j _ _ => by omega, by omega, rfl, by omega⟩, ⟨fun p _ => ⟨fun e => by simp [g0] at e, fun ⟨k, k1, _⟩ => by omega⟩, rfl, by omega, fun p q _ _ _ _ => by omega⟩, ⟨fun _ => false, fun s _ => ⟨fun e => by simp at e, fun ⟨p, _, e⟩ => by simp [g0] at e⟩, ?_⟩, Nat.zero_le _⟩
  have : ∀ k, sm k (fun s => if (fun _ : Nat => false) s = true then 1 else 0) = 0 := by
    intro k
    induction k with
    | zero => rfl
    | succ k ih => show sm k _ + _ = 0; rw [ih]; rfl
  exact this n
theorem e_beginCounted {fm sz es hv : Int32} {cn sg pa fs sn lf : Nat → Int32} (hn : n ≤ 64) : ∃ (es' : Int32) (cn' sg' pa' fs' sn' lf' : Nat → Int32), FT_beginCounted (ov n P a fm sz es hv cn sg pa fs sn lf h) a = some (ov n P a 0 (nI 1) es' 0 cn' sg' pa' fs' sn' lf' h) ∧ CT n 0 c0 g0 (fun _ => 0) es' cn' sg' pa' fs' sn' lf' := by
  obtain ⟨lf', r1, r2⟩ := e_bc_loop (n := n) (P := P) (a := a) (h := h) (fm := 0) (sz := sz) (es := es) (hv := 0) (cn := cn) (sg := sg) (pa := pa) (fs := fs) (sn := sn) (K := fun (h3 : Hp) => pF h3 a 3 9 (.int 1) (fun h5 => gR h5 a 3 4 (fun a6 => stI h5 a6 0 0 (-1) (fun h7 => gd (isO h7 a 3 = true) ((FT_fill h7 a 0 0 (-2) (-1) (-1)).bind (fun r9 => some r9)))))) hn n 0 fu lf (by omega) (by show n < 100000; omega) (fun s hs => by omega)
  have hf := e_fill_esc (n := n) (P := P) (a := a) (fm := 0) (M := 1) (es := es) (hv := 0) (cn := cn) (sg := sg) (pa := upd pa 0 (-1)) (fs := fs) (sn := sn) (lf := lf') (h := h) (i := 0) (c := 0) (g := (-1)) (by omega) (by omega) hn
  refine ⟨nI 0, upd cn 0 0, upd sg 0 (-2), upd pa 0 (-1), upd fs 0 (-1), upd sn 0 (-1), lf', ?_, ?_⟩
  · unfold FT_beginCounted
    rw [p_fm, p_hv, jn_eq]
    try dsimp only
    refine Eq.trans r1 ?_
    try dsimp only
    rw [p_sz, r_pa, show (0 : Int32) = nI 0 from rfl, st_pa (by omega) hn, gd_t o_ov]
    exact (congrArg (fun x => x.bind (fun r9 => some r9)) hf).trans rfl
  · refine ⟨fun x hx => ?_, updS, fun s hs _ => r2 s hs⟩
    have : x = 0 := by omega
    subst this
    exact ⟨updS, updS, fun j hj _ => by omega, fun _ => ⟨updS, updS⟩, fun _ => rfl, fun s hs => by simp [g0] at hs⟩
/-- the splayed tree as it begins -/
def uB : Nat → Nat := fun k => (k - 1) / 2
def dB : Nat → Nat := fun k => (k + 1) % 2
theorem SI0 : SI n uB dB := by
  refine ⟨fun k h0 h1 => ⟨by unfold uB; omega, Nat.mod_lt _ (by omega)⟩, fun k k' h0 h1 h0' h1' e1 e2 => by unfold uB at e1; unfold dB at e2; omega, fun k hk b hb => ⟨2 * k + 1 + b, by omega, by omega, by unfold uB; omega, by unfold dB; omega⟩, DP_of (rk := fun x => x) (fun k h0 h1 => by unfold uB; omega) (fun k h0 h1 => by unfold uB; omega)⟩
theorem e_bs_loop1 {K : Hp → Option Hp} {fm es hv : Int32} {lf : Nat → Int32} (hn : n ≤ 64) : ∀ (k i w : Nat) (cn sg pa fs sn : Nat → Int32), i + k = n - 1 → k < w → pa 0 = (-1) → (∀ j, j < i → cn j = 0 ∧ sg j = (-1) ∧ fs j = nI (2 * j + 1) ∧ sn j = nI (2 * j + 2) ∧ pa (2 * j + 1) = nI j ∧ pa (2 * j + 2) = nI j) →
    ∃ (cn' sg' pa' fs' sn' : Nat → Int32), lpG (fun _ _ => none) w (LT_beginSplayed_36 a K) (ov n P a fm (nI (2 * n - 1)) es hv cn sg pa fs sn lf h) (nI i) = K (ov n P a fm (nI (2 * n - 1)) es hv cn' sg' pa' fs' sn' lf h) ∧ pa' 0 = (-1) ∧ ∀ j, j < n - 1 → cn' j = 0 ∧ sg' j = (-1) ∧ fs' j = nI (2 * j + 1) ∧ sn' j = nI (2 * j + 2) ∧ pa' (2 * j + 1) = nI j ∧ pa' (2 * j + 2) = nI j
  | 0, i, w, cn, sg, pa, fs, sn, hk, hw, h0, hl => by
    obtain ⟨w', rfl⟩ : ∃ w', w = w' + 1 := ⟨w - 1, by omega⟩
    refine ⟨cn, sg, pa, fs, sn, ?_, h0, fun j hj => hl j (by omega)⟩
    by_cases z : n = 0
    · subst z
      have hi : i = 0 := by omega
      subst hi
      rw [lpG_s, LT_beginSplayed_36.eq_1, i_n, if_pos (by decide)]
    · rw [lpG_s, LT_beginSplayed_36.eq_1, i_n, show nI n - 1 = nI (n - 1) from pk_sub (a := n) (b := 1) (by omega), if_pos (nI_le (by omega) (by omega))]
  | k + 1, i, w, cn, sg, pa, fs, sn, hk, hw, h0, hl => by
    obtain ⟨w', rfl⟩ : ∃ w', w = w' + 1 := ⟨w - 1, by omega⟩
    obtain ⟨cn', sg', pa', fs', sn', r1, r2, r3⟩ := e_bs_loop1 (K := K) (fm := fm) (es := es) (hv := hv) (lf := lf) hn k (i + 1) w' (upd cn i 0) (upd sg i (-1)) (upd (upd pa (2 * i + 1) (nI i)) (2 * i + 2) (nI i)) (upd fs i (nI (2 * i + 1))) (upd sn i (nI (2 * i + 2))) (by omega) (by omega) (by rw [upd_ne (by omega), upd_ne (by omega)]; exact h0) (fun j hj => by
      by_cases z : j = i
      · subst z
        exact ⟨updS, updS, updS, updS, by rw [upd_ne (by omega), updS], updS⟩
      · rw [upd_ne z, upd_ne z, upd_ne z, upd_ne z, upd_ne (show 2 * j + 1 ≠ 2 * i + 2 by omega), upd_ne (show 2 * j + 1 ≠ 2 * i + 1 by omega), upd_ne (show 2 * j + 2 ≠ 2 * i + 2 by omega), upd_ne (show 2 * j + 2 ≠ 2 * i + 1 by omega)]
        exact hl j (by omega))
    refine ⟨cn', sg', pa', fs', sn', ?_, r2, r3⟩
    rw [lpG_s, LT_beginSplayed_36.eq_1, i_n, show nI n - 1 = nI (n - 1) from pk_sub (a := n) (b := 1) (by omega), if_neg (nI_ge (by omega) (by omega)), gd_t o_ov, show (2 : Int32) * nI i + 1 = nI (2 * i + 1) from by rw [show (2 : Int32) = nI 2 from rfl, pk_mul, show (1 : Int32) = nI 1 from rfl, nI_add], show (2 : Int32) * nI i + 2 = nI (2 * i + 2) from by rw [show (2 : Int32) = nI 2 from rfl, pk_mul, nI_add], e_fill_in (by omega) (by omega) (by omega) (by omega) hn, Option.bind_some, show nI i + 1 = nI (i + 1) from nI_add _ _, r1]
theorem e_bs_loop2 {K : Hp → Option Hp} {fm es hv : Int32} {pa : Nat → Int32} (hn0 : 1 ≤ n) (hn : n ≤ 64) : ∀ (k i w : Nat) (cn sg fs sn lf : Nat → Int32), i + k = n → k < w → (∀ j, j < n - 1 → cn j = 0 ∧ sg j = (-1) ∧ fs j = nI (2 * j + 1) ∧ sn j = nI (2 * j + 2)) → (∀ s, s < i → cn (n - 1 + s) = 0 ∧ sg (n - 1 + s) = nI s ∧ fs (n - 1 + s) = (-1) ∧ sn (n - 1 + s) = (-1) ∧ lf s = nI (n - 1 + s)) →
    ∃ (cn' sg' fs' sn' lf' : Nat → Int32), lpG (fun _ _ => none) w (LT_beginSplayed_71 a K) (ov n P a fm (nI (2 * n - 1)) es hv cn sg pa fs sn lf h) (nI i) = K (ov n P a fm (nI (2 * n - 1)) es hv cn' sg' pa fs' sn' lf' h) ∧ (∀ j, j < n - 1 → cn' j = 0 ∧ sg' j = (-1) ∧ fs' j = nI (2 * j + 1) ∧ sn' j = nI (2 * j + 2)) ∧ ∀ s, s < n → cn' (n - 1 + s) = 0 ∧ sg' (n - 1 + s) = nI s ∧ fs' (n - 1 + s) = (-1) ∧ sn' (n - 1 + s) = (-1) ∧ lf' s = nI (n - 1 + s)
  | 0, i, w, cn, sg, fs, sn, lf, hk, hw, h0, hl => by
    obtain ⟨w', rfl⟩ : ∃ w', w = w' + 1 := ⟨w - 1, by omega⟩
    refine ⟨cn, sg, fs, sn, lf, ?_, h0, fun j hj => hl j (by omega)⟩
    rw [lpG_s, LT_beginSplayed_71.eq_1, i_n, if_pos (nI_le (by omega) (by omega))]
  | k + 1, i, w, cn, sg, fs, sn, lf, hk, hw, h0, hl => by
    obtain ⟨w', rfl⟩ : ∃ w', w = w' + 1 := ⟨w - 1, by omega⟩
    obtain ⟨cn', sg', fs', sn', lf', r1, r2, r3⟩ := e_bs_loop2 (K := K) (fm := fm) (es := es) (hv := hv) (pa := pa) hn0 hn k (i + 1) w' (upd cn (n - 1 + i) 0) (upd sg (n - 1 + i) (nI i)) (upd fs (n - 1 + i) (-1)) (upd sn (n - 1 + i) (-1)) (upd lf i (nI (n - 1 + i))) (by omega) (by omega) (fun j hj => by
      rw [upd_ne (by omega), upd_ne (by omega), upd_ne (by omega), upd_ne (by omega)]; exact h0 j hj) (fun s hs => by
      by_cases z : s = i
      · subst z
        exact ⟨updS, updS, updS, updS, updS⟩
      · rw [upd_ne (by omega), upd_ne (by omega), upd_ne (by omega), upd_ne (by omega), upd_ne z]
        exact hl s (by omega))
    refine ⟨cn', sg', fs', sn', lf', ?_, r2, r3⟩
    rw [lpG_s, LT_beginSplayed_71.eq_1, i_n, if_neg (nI_ge (by omega) (by omega)), i_n, gd_t o_ov, show nI n - 1 = nI (n - 1) from pk_sub (a := n) (b := 1) (by omega), nI_add, e_fill_leaf (by omega) (by omega) (by omega) hn, Option.bind_some, show nI i + 1 = nI (i + 1) from nI_add _ _, r1]
theorem e_beginSplayed {fm sz es hv : Int32} {cn sg pa fs sn lf : Nat → Int32} (hn0 : 1 ≤ n) (hn : n ≤ 64) : ∃ (cn' sg' pa' fs' sn' lf' : Nat → Int32), FT_beginSplayed (ov n P a fm sz es hv cn sg pa fs sn lf h) a = some (ov n P a 1 (nI (2 * n - 1)) (-1) 0 cn' sg' pa' fs' sn' lf' h) ∧ CS n uB dB cn' sg' pa' fs' sn' lf' := by
  obtain ⟨cn1, sg1, pa1, fs1, sn1, r1, r2, r3⟩ := e_bs_loop1 (n := n) (P := P) (a := a) (h := h) (fm := 1) (es := (-1)) (hv := 0) (lf := lf) (K := fun (h8 : Hp) => jn (fun (h10 : Hp) => some h10) (fun (K11 : Hp → Option Hp) => lpG (fun _ _ => none) fu (LT_beginSplayed_71 a K11) h8 0)) hn (n - 1) 0 fu cn sg (upd pa 0 (-1)) fs sn (by omega) (by show n - 1 < 100000; omega) updS (fun j hj => by omega)
  obtain ⟨cn2, sg2, fs2, sn2, lf2, q1, q2, q3⟩ := e_bs_loop2 (n := n) (P := P) (a := a) (h := h) (fm := 1) (es := (-1)) (hv := 0) (pa := pa1) (K := fun (h10 : Hp) => some h10) hn0 hn n 0 fu cn1 sg1 fs1 sn1 lf (by omega) (by show n < 100000; omega) (fun j hj => ⟨(r3 j hj).1, (r3 j hj).2.1, (r3 j hj).2.2.1, (r3 j hj).2.2.2.1⟩) (fun s hs => by omega)
  refine ⟨cn2, sg2, pa1, fs2, sn2, lf2, ?_, ?_⟩
  · unfold FT_beginSplayed
    rw [p_fm, p_hv, p_es, i_n, show (2 : Int32) * nI n - 1 = nI (2 * n - 1) from by rw [show (2 : Int32) = nI 2 from rfl, pk_mul, show (1 : Int32) = nI 1 from rfl, pk_sub (by omega)], p_sz, r_pa, show stI (ov n P a 1 (nI (2 * n - 1)) (-1) 0 cn sg pa fs sn lf h) (a + 3) 0 0 (-1) = stI (ov n P a 1 (nI (2 * n - 1)) (-1) 0 cn sg pa fs sn lf h) (a + 3) 0 (nI 0) (-1) from rfl, st_pa (by omega) hn, jn_eq]
    try dsimp only
    refine Eq.trans r1 ?_
    rw [jn_eq]
    exact q1
  · refine ⟨fun k hk => ?_, r2, fun k k0 hk => ?_, fun k k1 k2 => ?_, fun s hs => (q3 s hs).2.2.2.2⟩
    · by_cases z : k < n - 1
      · rw [if_pos z]; exact ⟨(q2 k z).1, (q2 k z).2.1⟩
      · rw [if_neg z]
        have := q3 (k - (n - 1)) (by omega)
        rw [show n - 1 + (k - (n - 1)) = k by omega] at this
        exact ⟨this.1, this.2.1⟩
    · have hu : (k - 1) / 2 < n - 1 := by omega
      have h3 := r3 ((k - 1) / 2) hu
      have h2 := q2 ((k - 1) / 2) hu
      unfold uB dB
      by_cases z : k % 2 = 1
      · have e : 2 * ((k - 1) / 2) + 1 = k := by omega
        rw [e] at h3 h2
        exact ⟨h3.2.2.2.2.1, fun _ => h2.2.2.1, fun y => by omega⟩
      · have e : 2 * ((k - 1) / 2) + 2 = k := by omega
        rw [e] at h3 h2
        exact ⟨h3.2.2.2.2.2, fun y => by omega, fun _ => h2.2.2.2⟩
    · have := q3 (k - (n - 1)) (by omega)
      rw [show n - 1 + (k - (n - 1)) = k by omega] at this
      exact ⟨this.2.2.1, this.2.2.2.1⟩
end BG
/-! the model's -/
section MBG
variable {M q : Nat} {X : Nat → Int32}
theorem m_begin0 {A : Nat → Nat → Int32} (hq : q < 12) : ∃ A' : Nat → Nat → Int32, (∀ h, FM_begin (om M X A h) M (nI q) (nI 0) = some (om M X A' h)) ∧ fr q A A' ∧ A' 1 q = 0 ∧ A' 3 q = 0 ∧ MT A' q 0 c0 g0 (fun _ => 0) (fun _ => 0) := by
  refine ⟨u2 (u2 (u2 (u2 (u2 (u2 A 1 q 0) 3 q 0) 2 q 1) 5 (129 * q) 0) 6 (129 * q) 0) 7 (129 * q) (-2), fun h => ?_, ?_, ?_, ?_, ?_⟩
  · unfold FM_begin
    rw [mr_fo, ms_fo hq, mr_ha, ms_ha hq, if_pos nI_0, mr_ma, ms_ma hq, mr_at, ix0, ms_at (by omega), mr_cn, ms_cn (by omega), mr_sg, ms_sg (by omega)]
    rfl
  · refine fr.st (fr.st (fr.st (fr.st (fr.st (fr.st fr.refl ?_) ?_) ?_) ?_) ?_) ?_ <;> exact ⟨by omega, by omega, by omega, by omega, by omega⟩
  · show upd _ _ _ _ = _; exact updS
  · show upd _ _ _ _ = _; exact updS
  · refine ⟨by show upd _ _ _ _ = _; exact updS, fun p hp => ?_, fun p p' _ _ _ => by omega, fun k hk => ⟨0, by omega, by show 0 = k; omega⟩, fun k hk => by omega⟩
    have : p = 0 := by omega
    subst this
    refine ⟨by omega, ?_, ?_, ?_⟩
    · show upd _ _ _ (129 * q) = _; exact updS
    · show upd _ _ _ (129 * q) = _; exact updS
    · show upd _ _ _ (129 * q) = _; exact updS
theorem m_bs_loop {n : Nat} (hq : q < 12) (hn0 : 1 ≤ n) (hn : n ≤ 64) (hX : X 0 = nI n) : ∀ (k i w : Nat) (A : Nat → Nat → Int32), i + k = 2 * n - 1 → k < w → (∀ j, j < i → A 9 (129 * q + j) = (if j = 0 then (-1) else nI (uB j)) ∧ A 10 (129 * q + j) = if j = 0 then 0 else nI (dB j)) →
    ∃ A' : Nat → Nat → Int32, (∀ (h : Hp) (K : Hp → Option Hp), lpG (fun _ _ => none) w (LM_begin_76 M (nI q) K) (om M X A h) (nI i) = K (om M X A' h)) ∧ fr q A A' ∧ (∀ r, r ≠ 9 → r ≠ 10 → A' r = A r) ∧ ∀ j, j < 2 * n - 1 → A' 9 (129 * q + j) = (if j = 0 then (-1) else nI (uB j)) ∧ A' 10 (129 * q + j) = if j = 0 then 0 else nI (dB j)
  | 0, i, w, A, hk, hw, hl => by
    obtain ⟨w', rfl⟩ : ∃ w', w = w' + 1 := ⟨w - 1, by omega⟩
    refine ⟨A, fun h K => ?_, fr.refl, fun _ _ _ => rfl, fun j hj => hl j (by omega)⟩
    rw [lpG_s, LM_begin_76.eq_1, mi_0, hX, show (2 : Int32) * nI n - 1 = nI (2 * n - 1) from by rw [show (2 : Int32) = nI 2 from rfl, pk_mul, show (1 : Int32) = nI 1 from rfl, pk_sub (by omega)], if_pos (nI_le (by omega) (by omega))]
  | k + 1, i, w, A, hk, hw, hl => by
    obtain ⟨w', rfl⟩ : ∃ w', w = w' + 1 := ⟨w - 1, by omega⟩
    obtain ⟨A', r1, r2, r3, r4⟩ := m_bs_loop hq hn0 hn hX k (i + 1) w' (u2 (u2 A 9 (129 * q + i) (if i = 0 then (-1) else nI (uB i))) 10 (129 * q + i) (if i = 0 then 0 else nI (dB i))) (by omega) (by omega) (fun j hj => by
      by_cases z : j = i
      · subst z
        refine ⟨?_, ?_⟩
        · rw [u2_n (by decide), u2_e]; exact updS
        · rw [u2_e]; exact updS
      · rw [u2_at (Or.inr (by omega)), u2_at (Or.inr (by omega)), u2_at (Or.inr (by omega)), u2_at (Or.inr (by omega))]
        exact hl j (by omega))
    refine ⟨A', fun h K => ?_, (fr.st (fr.st fr.refl ⟨by omega, by omega, by omega, by omega, by omega⟩) ⟨by omega, by omega, by omega, by omega, by omega⟩).trans r2, fun r h9 h10 => by rw [r3 r h9 h10, u2_n h10, u2_n h9], r4⟩
    rw [lpG_s, LM_begin_76.eq_1, mi_0, hX, show (2 : Int32) * nI n - 1 = nI (2 * n - 1) from by rw [show (2 : Int32) = nI 2 from rfl, pk_mul, show (1 : Int32) = nI 1 from rfl, pk_sub (by omega)], if_neg (nI_ge (by omega) (by omega)), mr_up, ← r1 h K]
    simp only [jn_eq]
    by_cases z : i = 0
    · subst z
      rw [if_pos nI_0, ix, ms_up (by omega), mr_se, if_pos (by decide), ms_se (by omega)]
      rfl
    · have hpos : ¬ nI i ≤ 0 := fun e => nI_ge (a := 0) (b := i) (by omega) (by omega) e
      rw [if_neg (nI_ne0 (by omega) (by omega)), gd_t (by decide), half (by omega) (by omega), ix, ms_up (by omega), mr_se, if_neg hpos, gd_t (by decide)]
      have e5 : nI i - nI i / 2 * 2 = nI (i % 2) := by
        have e1 : nI i / 2 = nI (i / 2) := pk_div (d := 2) (by omega) (by omega) (by omega)
        rw [e1, show (2 : Int32) = nI 2 from rfl, pk_mul, pk_sub (by omega)]
        congr 1; omega
      rw [e5]
      by_cases y : i % 2 = 0
      · rw [y, if_pos nI_0, ms_se (by omega), if_neg z, if_neg z, show dB i = 1 from by unfold dB; omega, show nI i + 1 = nI (i + 1) from nI_add _ _]
        rfl
      · rw [show i % 2 = 1 by omega, if_neg (by decide), ms_se (by omega), if_neg z, if_neg z, show dB i = 0 from by unfold dB; omega, show nI i + 1 = nI (i + 1) from nI_add _ _]
        rfl
theorem m_begin1 {n : Nat} {A : Nat → Nat → Int32} (hq : q < 12) (hn0 : 1 ≤ n) (hn : n ≤ 64) (hX : X 0 = nI n) : ∃ A' : Nat → Nat → Int32, (∀ h, FM_begin (om M X A h) M (nI q) (nI 1) = some (om M X A' h)) ∧ fr q A A' ∧ A' 1 q = 1 ∧ A' 3 q = 0 ∧ MS A' q n uB dB := by
  obtain ⟨A', r1, r2, r3, r4⟩ := m_bs_loop (M := M) hq hn0 hn hX (2 * n - 1) 0 fu (u2 (u2 (u2 A 1 q (nI 1)) 3 q 0) 2 q (nI (2 * n - 1))) (by omega) (by show 2 * n - 1 < 100000; omega) (fun j hj => by omega)
  refine ⟨A', fun h => ?_, ?_, ?_, ?_, ?_⟩
  · unfold FM_begin
    rw [mr_fo, ms_fo hq, mr_ha, ms_ha hq, if_neg (by decide), mr_ma, mi_0, hX, show (2 : Int32) * nI n - 1 = nI (2 * n - 1) from by rw [show (2 : Int32) = nI 2 from rfl, pk_mul, show (1 : Int32) = nI 1 from rfl, pk_sub (by omega)], ms_ma hq, jn_eq]
    exact r1 h _
  · refine fr.trans (fr.st (fr.st (fr.st fr.refl ?_) ?_) ?_) r2 <;> exact ⟨by omega, by omega, by omega, by omega, by omega⟩
  · rw [r3 1 (by decide) (by decide)]; show upd _ _ _ _ = _; exact updS
  · rw [r3 3 (by decide) (by decide)]; show upd _ _ _ _ = _; exact updS
  · have h0 := r4 0 (by omega)
    rw [if_pos rfl, if_pos rfl, Nat.add_zero] at h0
    refine ⟨by rw [r3 2 (by decide) (by decide)]; show upd _ _ _ _ = _; exact updS, h0.1, h0.2, fun k k0 hk => ?_⟩
    have := r4 k hk
    rw [if_neg (by omega), if_neg (by omega)] at this
    exact this
end MBG
