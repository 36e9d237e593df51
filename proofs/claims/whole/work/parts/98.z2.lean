theorem sh_w : ∀ w, w ≤ 6 → (1 : Int32) <<< (nI w &&& 31) = nI (2 ^ w) := by decide +kernel
theorem wid_loop {n : Nat} (hn : n ≤ 64) : ∀ (k w : Nat), w + k = 6 → ∃ wd, w ≤ wd ∧ wd ≤ 6 ∧ n ≤ 2 ^ wd ∧ (∀ (f : Nat) (K : Int32 → Option Int32), k < f → lpG (fun _ => none) f (LA_widthFor_2 (nI n) K) (nI w) = K (nI wd)) ∧ ∀ (f a : Nat) (h : Hp) (fl : List Value) (K : Int32 → Option (Hp × Nat)), h a = some (.inr (5, fl)) → fl[0]? = some (.int (nI n)) → k < f → lpG (fun _ => none) f (LM_init_161 a h K) (nI w) = K (nI wd)
  | 0, w, hk => by
    have : w = 6 := by omega
    subst this
    refine ⟨6, Nat.le_refl _, Nat.le_refl _, by omega, fun f K hf => ?_, fun f a h fl K h1 h2 hf => ?_⟩
    · obtain ⟨f', rfl⟩ : ∃ f', f = f' + 1 := ⟨f - 1, by omega⟩
      rw [lpG_s, LA_widthFor_2.eq_1, if_pos (by decide)]
    · obtain ⟨f', rfl⟩ : ∃ f', f = f' + 1 := ⟨f - 1, by omega⟩
      rw [lpG_s, LM_init_161.eq_1, gI_at h1 h2, sh_w 6 (by omega), if_pos (nI_le (by omega) (by omega))]
  | k + 1, w, hk => by
    by_cases z : n ≤ 2 ^ w
    · have hp : 2 ^ w ≤ 2 ^ 6 := Nat.pow_le_pow_right (by omega) (by omega)
      refine ⟨w, Nat.le_refl _, by omega, z, fun f K hf => ?_, fun f a h fl K h1 h2 hf => ?_⟩
      · obtain ⟨f', rfl⟩ : ∃ f', f = f' + 1 := ⟨f - 1, by omega⟩
        rw [lpG_s, LA_widthFor_2.eq_1, if_neg (by rw [show (6 : Int32) = nI 6 from rfl]; exact nI_ge (by omega) (by omega)), sh_w w (by omega), if_pos (nI_le z (by omega))]
      · obtain ⟨f', rfl⟩ : ∃ f', f = f' + 1 := ⟨f - 1, by omega⟩
        rw [lpG_s, LM_init_161.eq_1, gI_at h1 h2, sh_w w (by omega), if_pos (nI_le z (by omega))]
    · obtain ⟨wd, r1, r2, r3, r4, r5⟩ := wid_loop hn k (w + 1) (by omega)
      refine ⟨wd, by omega, r2, r3, fun f K hf => ?_, fun f a h fl K h1 h2 hf => ?_⟩
      · obtain ⟨f', rfl⟩ : ∃ f', f = f' + 1 := ⟨f - 1, by omega⟩
        rw [lpG_s, LA_widthFor_2.eq_1, if_neg (by rw [show (6 : Int32) = nI 6 from rfl]; exact nI_ge (by omega) (by omega)), sh_w w (by omega), if_neg (nI_ge (by omega) (by omega)), show nI w + 1 = nI (w + 1) from nI_add _ _, r4 f' K (by omega)]
      · obtain ⟨f', rfl⟩ : ∃ f', f = f' + 1 := ⟨f - 1, by omega⟩
        rw [lpG_s, LM_init_161.eq_1, gI_at h1 h2, sh_w w (by omega), if_neg (nI_ge (by omega) (by omega)), show nI w + 1 = nI (w + 1) from nI_add _ _, r5 f' a h fl K h1 h2 (by omega)]
theorem sgn_n (p : Int32) : ∃ n : Nat, 2 ≤ n ∧ n ≤ 64 ∧ (if 2 < (if p < 64 then p else 64) then (if p < 64 then p else 64) else 2) = nI n ∧ ∀ (β : Type) (j : Int32 → Nat → Option β) (a : Nat), (if 2 ≤ p then (if p ≤ 64 then j p a else j 64 a) else j 2 a) = j (nI n) a := by
  by_cases h1 : 2 ≤ p
  · by_cases h2 : p ≤ 64
    · obtain ⟨n, n1, rfl⟩ := nI_of (x := p) (fun e => absurd (Int32.lt_of_le_of_lt h1 e) (by decide))
      have a1 : 2 ≤ n := by
        rcases Nat.lt_or_ge n 2 with y | y
        · exact absurd h1 (nI_ge (a := n) (b := 2) y (by omega))
        · exact y
      have a2 : n ≤ 64 := by
        rcases Nat.lt_or_ge 64 n with y | y
        · exact absurd h2 (nI_ge (a := 64) (b := n) y n1)
        · exact y
      refine ⟨n, a1, a2, ?_, fun β j a => by rw [if_pos h1, if_pos h2]⟩
      by_cases z : n = 64
      · subst z; decide
      · rw [if_pos (show nI n < 64 from nI_lt (a := n) (b := 64) (by omega) (by omega))]
        by_cases y : n = 2
        · subst y; decide
        · rw [if_pos (show 2 < nI n from nI_lt (a := 2) (b := n) (by omega) (by omega))]
    · refine ⟨64, by omega, by omega, ?_, fun β j a => by rw [if_pos h1, if_neg h2]; rfl⟩
      rw [if_neg (fun e => h2 (Int32.le_of_lt e)), if_pos (by decide)]; rfl
  · refine ⟨2, by omega, by omega, ?_, fun β j a => by rw [if_neg h1]; rfl⟩
    have h3 : p < 2 := Int32.not_le.mp h1
    rw [if_pos (Int32.lt_of_lt_of_le h3 (by decide)), if_neg (fun e => h1 (Int32.le_of_lt e))]; rfl
theorem stQ_ex {h : Hp} {a ci m j v : Nat} {f : Nat → Option Nat} (e : h a = some (.inl (3, m, .inr (.inr (.inr (.inr f)))))) (hj : j < m) (hm : m < 2 ^ 31) (ho : isO h v ci = true) : ∃ h', (∀ (β : Type) (K : Hp → Option β), stQ h a 3 (nI j) ci v K = K h') ∧ h' a = some (.inl (3, m, .inr (.inr (.inr (.inr (va_up f j (some v))))))) ∧ ∀ x, x ≠ a → h' x = h x := by
  refine ⟨_, fun β K => ?_, va_up_self h a (some (.inl (3, m, .inr (.inr (.inr (.inr (va_up f j (some v)))))))), fun x hx => va_up_ne _ _ hx⟩
  simp only [stQ, gQ, e, if_true]
  rw [if_pos ⟨inN hj hm, ho⟩, clN hj hm]
/-- one tree is made and put into an array -/
theorem mkT {h : Hp} {Z z a n P i : Nat} {f : Nat → Option Nat} {fl : List Value} (hn : n ≤ 64) (hZ : h Z = some (.inr (4, fl))) (hfl : fl[0]? = some (.int (nI n))) (hZz : Z < z) (haz : a < z) (ha : h a = some (.inl (3, 4, .inr (.inr (.inr (.inr f)))))) (hi : i < 4) : ∃ h47 h49 h50, (∀ (β : Type) (K : Hp → Option β), nw h z (.inr (3, [.int 0, .null, .null, .null, .null, .null, .null, .null, .int 0, .int 0, .int 0, .int 0])) K = K h47) ∧ (∀ (β : Type) (K : Int32 → Option β), gI h47 Z 4 0 K = K (nI n)) ∧ FT_init 6 800 h47 (z + 1) z (nI n) P = some (h49, z + 7) ∧ (∀ (β : Type) (K : Hp → Option β), stQ h49 a 3 (nI i) 3 z K = K h50) ∧ h50 a = some (.inl (3, 4, .inr (.inr (.inr (.inr (va_up f i (some z))))))) ∧ TI n P z h50 ∧ ∀ x, x ≠ a → (x < z ∨ z + 6 < x) → h50 x = h x := by
  obtain ⟨h47, e1, w1, c1⟩ := nw_ex (h := h) (z := z) (x := .inr (3, [.int 0, .null, .null, .null, .null, .null, .null, .null, .int 0, .int 0, .int 0, .int 0]))
  obtain ⟨h49, e2, t2, c2⟩ := e_Tinit (h := h47) (a := z) (n := n) (P := P) hn w1
  have ho : isO h49 z 3 = true := by
    obtain ⟨es, cn, sg, pa, fs, sn, lf, t3, -⟩ := t2
    exact isO_at (ov_hd t3)
  obtain ⟨h50, e3, w3, c3⟩ := stQ_ex (h := h49) (a := a) (ci := 3) (j := i) (v := z) (m := 4) (by rw [c2 _ (by omega), c1 _ (by omega)]; exact ha) hi (by omega) ho
  exact ⟨h47, h49, h50, e1, fun β K => gI_at ((c1 _ (by omega)).trans hZ) hfl, e2, e3, w3, t2.ag (fun x x1 x2 => c3 x (by omega)), fun x x1 x2 => by rw [c3 x x1, c2 x (by omega), c1 x (by omega)]⟩
/-- the state of the loops that make the trees -/
def L1 (Z n : Nat) (fl : List Value) (hb : Hp) (i : Nat) (h : Hp) : Prop := h Z = some (.inr (4, fl)) ∧ (∃ f : Nat → Option Nat, h (Z + 1) = some (.inl (3, 4, .inr (.inr (.inr (.inr f))))) ∧ ∀ t, t < i → f t = some (Z + 13 + 7 * (2 * t))) ∧ (∃ f : Nat → Option Nat, h (Z + 2) = some (.inl (3, 4, .inr (.inr (.inr (.inr f))))) ∧ ∀ t, t < i → f t = some (Z + 13 + 7 * (2 * t + 1))) ∧ (∀ j, j < 2 * i → TI n (Z + 9) (Z + 13 + 7 * j) h) ∧ ∀ x, Z + 3 ≤ x → x ≤ Z + 12 → h x = hb x
theorem A_loop1 {Z n : Nat} {fl : List Value} {hb : Hp} {r25 : Hp × Nat} (hn : n ≤ 64) (hfl : fl[0]? = some (.int (nI n))) (hf2 : fl[2]? = some (.ref (Z + 1))) (hf3 : fl[3]? = some (.ref (Z + 2))) (hr : r25.2 = Z + 9) : ∀ (k i w : Nat) (h : Hp), i + k = 4 → k < w → L1 Z n fl hb i h → ∃ h', (∀ K, lpG (fun _ _ _ _ _ => none) w (LA_init_136 96 20000 Z r25 K) h (12 + 14 * i) (1526 + 1624 * i) (Z + 13 + 14 * i) (nI i) = K h' 68 8022 (Z + 69)) ∧ L1 Z n fl hb 4 h'
  | 0, i, w, h, hk, hw, hL => by
    obtain ⟨w', rfl⟩ : ∃ w', w = w' + 1 := ⟨w - 1, by omega⟩
    have : i = 4 := by omega
    subst this
    refine ⟨h, fun K => ?_, hL⟩
    rw [lpG_s, LA_init_136.eq_1, if_pos (by decide)]
  | k + 1, i, w, h, hk, hw, hL => by
    obtain ⟨w', rfl⟩ : ∃ w', w = w' + 1 := ⟨w - 1, by omega⟩
    obtain ⟨l1, ⟨f1, l2, l3⟩, ⟨f2, l4, l5⟩, l6, l7⟩ := hL
    obtain ⟨ha, hbb, hc, m1, m2, m3, m4, m5, m6, m7⟩ := mkT (P := Z + 9) (z := Z + 13 + 14 * i) (a := Z + 1) (i := i) hn l1 hfl (by omega) (by omega) l2 (by omega)
    have l1' := (m7 Z (by omega) (by omega)).trans l1
    have l4' := (m7 (Z + 2) (by omega) (by omega)).trans l4
    obtain ⟨ha2, hb2, hc2, q1, q2, q3, q4, q5, q6, q7⟩ := mkT (P := Z + 9) (z := Z + 13 + 14 * i + 7) (a := Z + 2) (i := i) hn l1' hfl (by omega) (by omega) l4' (by omega)
    have hL' : L1 Z n fl hb (i + 1) hc2 := by
      refine ⟨(q7 Z (by omega) (by omega)).trans l1', ⟨_, (q7 (Z + 1) (by omega) (by omega)).trans m5, fun t ht => ?_⟩, ⟨_, q5, fun t ht => ?_⟩, fun j hj => ?_, fun x x1 x2 => by rw [q7 x (by omega) (by omega), m7 x (by omega) (by omega)]; exact l7 x x1 x2⟩
      · by_cases z : t = i
        · subst z; rw [va_up_self]; congr 1; omega
        · rw [va_up_ne _ _ z]; exact l3 t (by omega)
      · by_cases z : t = i
        · subst z; rw [va_up_self]; congr 1; omega
        · rw [va_up_ne _ _ z]; exact l5 t (by omega)
      · by_cases z : j < 2 * i
        · exact (l6 j z).ag (fun x x1 x2 => by rw [q7 x (by omega) (by omega), m7 x (by omega) (by omega)])
        · by_cases y : j = 2 * i
          · subst y
            rw [show Z + 13 + 7 * (2 * i) = Z + 13 + 14 * i by omega]
            exact m6.ag (fun x x1 x2 => by rw [q7 x (by omega) (by omega)])
          · rw [show Z + 13 + 7 * j = Z + 13 + 14 * i + 7 by omega]
            exact q6
    obtain ⟨h', e1, e2⟩ := A_loop1 (r25 := r25) hn hfl hf2 hf3 hr k (i + 1) w' hc2 (by omega) (by omega) hL'
    refine ⟨h', fun K => ?_, e2⟩
    rw [lpG_s, LA_init_136.eq_1, if_neg (by rw [show (4 : Int32) = nI 4 from rfl]; exact nI_ge (by omega) (by omega)), gR_at l1 hf2, gd_t (by omega), m1, m2, gd_t (by omega), hr, m3, Option.bind_some]
    try dsimp only
    rw [m4, gR_at l1' hf3, gd_t (by omega), q1, q2, gd_t (by omega), q3, Option.bind_some]
    try dsimp only
    rw [q4, show nI i + 1 = nI (i + 1) from nI_add _ _, show 12 + 14 * i + 1 + 6 + 1 + 6 = 12 + 14 * (i + 1) by omega, show 1526 + 1624 * i + 12 + 800 + 12 + 800 = 1526 + 1624 * (i + 1) by omega, show Z + 13 + 14 * i + 7 + 7 = Z + 13 + 14 * (i + 1) by omega, e1]
def L2 (Z n : Nat) (fl : List Value) (hb : Hp) (i : Nat) (h : Hp) : Prop := h Z = some (.inr (4, fl)) ∧ h (Z + 1) = hb (Z + 1) ∧ h (Z + 2) = hb (Z + 2) ∧ (∃ f : Nat → Option Nat, h (Z + 3) = some (.inl (3, 4, .inr (.inr (.inr (.inr f))))) ∧ ∀ t, t < i → f t = some (Z + 13 + 7 * (8 + t))) ∧ (∀ j, j < 8 + i → TI n (Z + 9) (Z + 13 + 7 * j) h) ∧ ∀ x, Z + 4 ≤ x → x ≤ Z + 12 → h x = hb x
theorem A_loop2 {Z n : Nat} {fl : List Value} {hb : Hp} {r25 : Hp × Nat} (hn : n ≤ 64) (hfl : fl[0]? = some (.int (nI n))) (hf4 : fl[4]? = some (.ref (Z + 3))) (hr : r25.2 = Z + 9) : ∀ (k i w : Nat) (h : Hp), i + k = 4 → k < w → L2 Z n fl hb i h → ∃ h', (∀ K, lpG (fun _ _ _ _ _ => none) w (LA_init_185 96 20000 Z r25 K) h (68 + 7 * i) (8022 + 812 * i) (Z + 69 + 7 * i) (nI i) = K h' 96 11270 (Z + 97)) ∧ L2 Z n fl hb 4 h'
  | 0, i, w, h, hk, hw, hL => by
    obtain ⟨w', rfl⟩ : ∃ w', w = w' + 1 := ⟨w - 1, by omega⟩
    have : i = 4 := by omega
    subst this
    refine ⟨h, fun K => ?_, hL⟩
    rw [lpG_s, LA_init_185.eq_1, if_pos (by decide)]
  | k + 1, i, w, h, hk, hw, hL => by
    obtain ⟨w', rfl⟩ : ∃ w', w = w' + 1 := ⟨w - 1, by omega⟩
    obtain ⟨l1, la, lb, ⟨f1, l2, l3⟩, l6, l7⟩ := hL
    obtain ⟨ha, hbb, hc, m1, m2, m3, m4, m5, m6, m7⟩ := mkT (P := Z + 9) (z := Z + 69 + 7 * i) (a := Z + 3) (i := i) hn l1 hfl (by omega) (by omega) l2 (by omega)
    have hL' : L2 Z n fl hb (i + 1) hc := by
      refine ⟨(m7 Z (by omega) (by omega)).trans l1, by rw [m7 _ (by omega) (by omega)]; exact la, by rw [m7 _ (by omega) (by omega)]; exact lb, ⟨_, m5, fun t ht => ?_⟩, fun j hj => ?_, fun x x1 x2 => by rw [m7 x (by omega) (by omega)]; exact l7 x x1 x2⟩
      · by_cases z : t = i
        · subst z; rw [va_up_self]; congr 1; omega
        · rw [va_up_ne _ _ z]; exact l3 t (by omega)
      · by_cases z : j < 8 + i
        · exact (l6 j z).ag (fun x x1 x2 => by rw [m7 x (by omega) (by omega)])
        · rw [show Z + 13 + 7 * j = Z + 69 + 7 * i by omega]
          exact m6
    obtain ⟨h', e1, e2⟩ := A_loop2 (r25 := r25) hn hfl hf4 hr k (i + 1) w' hc (by omega) (by omega) hL'
    refine ⟨h', fun K => ?_, e2⟩
    rw [lpG_s, LA_init_185.eq_1, if_neg (by rw [show (4 : Int32) = nI 4 from rfl]; exact nI_ge (by omega) (by omega)), gR_at l1 hf4, gd_t (by omega), m1, m2, gd_t (by omega), hr, m3, Option.bind_some]
    try dsimp only
    rw [m4, show nI i + 1 = nI (i + 1) from nI_add _ _, show 68 + 7 * i + 1 + 6 = 68 + 7 * (i + 1) by omega, show 8022 + 812 * i + 12 + 800 = 8022 + 812 * (i + 1) by omega, show Z + 69 + 7 * i + 7 = Z + 69 + 7 * (i + 1) by omega, e1]
