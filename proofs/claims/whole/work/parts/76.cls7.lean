/-! the class's SPLAYED tree -/
def CS (n : Nat) (u d : Nat → Nat) (cn sg pa fs sn lf : Nat → Int32) : Prop :=
  (∀ k, k < 2 * n - 1 → cn k = 0 ∧ sg k = if k < n - 1 then (-1) else nI (k - (n - 1))) ∧ pa 0 = (-1) ∧ (∀ k, 0 < k → k < 2 * n - 1 → pa k = nI (u k) ∧ (d k = 0 → fs (u k) = nI k) ∧ (d k = 1 → sn (u k) = nI k)) ∧ (∀ k, n - 1 ≤ k → k < 2 * n - 1 → fs k = (-1) ∧ sn k = (-1)) ∧ ∀ s, s < n → lf s = nI (n - 1 + s)
section CSS
variable {n P a : Nat} {fm es hv : Int32} {h : Hp}
theorem CS.fs_iff {u d : Nat → Nat} {cn sg pa fs sn lf : Nat → Int32} (hn : n ≤ 64) (hS : SI n u d) (hC : CS n u d cn sg pa fs sn lf) {k : Nat} (h0 : 0 < k) (hk : k < 2 * n - 1) : fs (u k) = nI k ↔ d k = 0 := by
  have h1 := hS.1 k h0 hk
  constructor
  · intro e
    obtain ⟨b, b1, b2, b3, b4⟩ := hS.2.2.1 (u k) h1.1 0 (by omega)
    have e2 := (hC.2.2.1 b b1 b2).2.1 b4
    rw [b3, e, nI_eq (by omega) (by omega)] at e2
    rw [e2]; exact b4
  · exact fun e => (hC.2.2.1 k h0 hk).2.1 e
theorem CS_swap {u d dp : Nat → Nat} {cn sg pa fs sn lf : Nat → Int32} {x v : Nat} (hn : n ≤ 64) (hS : SI n u d) (hd : DP n u dp) (hC : CS n u d cn sg pa fs sn lf) (hx : 0 < x) (hx2 : x < 2 * n - 1) (hp : 0 < u x) (hv : 0 < v) (hv2 : v < 2 * n - 1) (hvu : u v = u (u x)) (hvd : d v ≠ d (u x)) (hxv : x ≠ v) :
    CS n (fun k => u (trp x v k)) (fun k => d (trp x v k)) cn sg (upd (upd pa v (nI (u x))) x (nI (u (u x))))
      (if d v = 0 then upd (if d x = 0 then upd fs (u x) (nI v) else fs) (u (u x)) (nI x) else (if d x = 0 then upd fs (u x) (nI v) else fs))
      (if d v = 0 then (if d x = 0 then sn else upd sn (u x) (nI v)) else upd (if d x = 0 then sn else upd sn (u x) (nI v)) (u (u x)) (nI x)) lf := by
  obtain ⟨c1, c2, c3, c4, c5⟩ := hC
  obtain ⟨s1, s2, s3, -⟩ := hS
  have ux := s1 x hx hx2
  have up := s1 (u x) hp (by omega)
  have dv := s1 v hv hv2
  have dd := hd.2 x hx hx2
  have dd2 := hd.2 (u x) hp (by omega)
  have pg : u x ≠ u (u x) := fun e => by rw [← e] at dd2; omega
  have tx : trp x v x = v := by unfold trp; rw [if_pos rfl]
  have tv : trp x v v = x := by unfold trp; rw [if_neg (Ne.symm hxv), if_pos rfl]
  refine ⟨c1, ?_, fun k h0 hk => ?_, fun k k1 k2 => ?_, c5⟩
  · rw [updN (by omega), updN (by omega)]; exact c2
  · dsimp only
    by_cases e1 : k = x
    · subst e1
      rw [tx, updE, hvu]
      refine ⟨rfl, fun e => ?_, fun e => ?_⟩
      · rw [if_pos e, updE]
      · rw [if_neg (by omega), updE]
    · by_cases e2 : k = v
      · subst e2
        rw [tv, updN (Ne.symm hxv), updE]
        refine ⟨rfl, fun e => ?_, fun e => ?_⟩
        · by_cases z : d k = 0
          · rw [if_pos z, updN pg, if_pos e, updE]
          · rw [if_neg z, if_pos e, updE]
        · by_cases z : d k = 0
          · rw [if_pos z, if_neg (by omega), updE]
          · rw [if_neg z, updN pg, if_neg (by omega), updE]
      · rw [trp_fix (Ne.symm e1) (Ne.symm e2), updN e1, updN e2]
        obtain ⟨b1, b2, b3⟩ := c3 k h0 hk
        have n1 : u k = u x → d k ≠ d x := fun z z2 => e1 (s2 k x h0 hk hx hx2 z z2)
        have n2 : u k = u (u x) → d k ≠ d v := fun z z2 => e2 (s2 k v h0 hk hv hv2 (z.trans hvu.symm) z2)
        refine ⟨b1, fun e => ?_, fun e => ?_⟩
        · have i1 : (if d x = 0 then upd fs (u x) (nI v) else fs) (u k) = nI k := by
            by_cases z : d x = 0
            · rw [if_pos z, updN (fun q => n1 q (by omega))]; exact b2 e
            · rw [if_neg z]; exact b2 e
          by_cases z : d v = 0
          · rw [if_pos z, updN (fun q => n2 q (by omega))]; exact i1
          · rw [if_neg z]; exact i1
        · have i1 : (if d x = 0 then sn else upd sn (u x) (nI v)) (u k) = nI k := by
            by_cases z : d x = 0
            · rw [if_pos z]; exact b3 e
            · rw [if_neg z, updN (fun q => n1 q (by omega))]; exact b3 e
          by_cases z : d v = 0
          · rw [if_pos z]; exact i1
          · rw [if_neg z, updN (fun q => n2 q (by omega))]; exact i1
  · have := c4 k k1 k2
    constructor
    · have i1 : (if d x = 0 then upd fs (u x) (nI v) else fs) k = (-1) := by
        by_cases z : d x = 0
        · rw [if_pos z, updN (by omega)]; exact this.1
        · rw [if_neg z]; exact this.1
      by_cases z : d v = 0
      · rw [if_pos z, updN (by omega)]; exact i1
      · rw [if_neg z]; exact i1
    · have i1 : (if d x = 0 then sn else upd sn (u x) (nI v)) k = (-1) := by
        by_cases z : d x = 0
        · rw [if_pos z]; exact this.2
        · rw [if_neg z, updN (by omega)]; exact this.2
      by_cases z : d v = 0
      · rw [if_pos z]; exact i1
      · rw [if_neg z, updN (by omega)]; exact i1
theorem e_ss_loop {K K2 : Hp → Option Hp} (hn : n ≤ 64) (hKK : ∀ h, K h = K2 h) : ∀ (f : Nat) (u d dp : Nat → Nat) (x dd w : Nat) (cn sg pa fs sn lf : Nat → Int32), SI n u d → DP n u dp → CS n u d cn sg pa fs sn lf → x < 2 * n - 1 → dp x < f → dd + dp x < 2 * n - 1 → f < w →
    ∃ cn' sg' pa' fs' sn' lf' : Nat → Int32, lpG (fun _ _ _ => none) w (LT_stepSplayed_8 a K K2) (ov n P a fm (nI (2 * n - 1)) es hv cn sg pa fs sn lf h) (nI x) (nI dd) = K (ov n P a fm (nI (2 * n - 1)) es hv cn' sg' pa' fs' sn' lf' h) ∧ CS n (spS n f u d x).1 (spS n f u d x).2 cn' sg' pa' fs' sn' lf'
  | 0, u, d, dp, x, dd, w, cn, sg, pa, fs, sn, lf, _, _, _, _, hf, _, _ => absurd hf (by omega)
  | f + 1, u, d, dp, x, dd, 0, cn, sg, pa, fs, sn, lf, _, _, _, _, _, _, hw => absurd hw (by omega)
  | f + 1, u, d, dp, x, dd, w + 1, cn, sg, pa, fs, sn, lf, hS, hd, hC, hx, hf, hdd, hw => by
    rw [lpG_s, LT_stepSplayed_8.eq_1, i_sz, if_neg (nI_ge (show dd < 2 * n - 1 by omega) (by omega)), q_pa hx (by omega) hn, spS_s]
    by_cases e0 : x = 0
    · subst e0
      rw [hC.2.1, q_pan, if_pos rfl, if_pos (Or.inl rfl), ← hKK]
      exact ⟨cn, sg, pa, fs, sn, lf, rfl, hC⟩
    · have x0 : 0 < x := by omega
      have ux := hS.1 x x0 hx
      rw [(hC.2.2.1 x x0 hx).1, q_pa (show u x < 2 * n - 1 by omega) (by omega) hn]
      by_cases e1 : u x = 0
      · rw [e1, hC.2.1, if_pos rfl, if_pos (Or.inr rfl), ← hKK]
        exact ⟨cn, sg, pa, fs, sn, lf, rfl, hC⟩
      · have p0 : 0 < u x := by omega
        have up := hS.1 (u x) p0 (by omega)
        obtain ⟨v1, v2, v3, v4, v5⟩ := unc_ok hS x0 hx p0
        obtain ⟨S', dp', h', hkeep⟩ := SI_swap hS hd x0 hx p0 v1 v2 v3 (by omega)
        rw [if_neg (show ¬ (x = 0 ∨ u x = 0) by omega)]
        generalize unc n u d x = v at v1 v2 v3 v4 S' h' ⊢
        have d1 := hd.2 x x0 hx
        have d2 := hd.2 (u x) p0 (by omega)
        have d3 := hd.2 v v1 v2
        have hxv : x ≠ v := fun e => by rw [v3] at d3; rw [← e] at d3; omega
        have pg : u x ≠ u (u x) := fun e => by rw [← e] at d2; omega
        rw [(hC.2.2.1 (u x) p0 (by omega)).1, if_neg (m1_nI (by omega)), q_fs (show u (u x) < 2 * n - 1 by omega) (by omega) hn, jn_eq]
        try dsimp only
        have g1 : fs (u (u x)) = nI (u x) ↔ d (u x) = 0 := hC.fs_iff hn hS p0 (by omega)
        have g2 : fs (u x) = nI x ↔ d x = 0 := hC.fs_iff hn hS x0 hx
        have g3 : fs (u (u x)) = nI v ↔ d v = 0 := by
          have := hC.fs_iff hn hS v1 v2
          rw [v3] at this
          exact this
        have CSW := CS_swap hn hS hd hC x0 hx p0 v1 v2 v3 (by omega) hxv
        have core : ∀ (ot : Int32), ot = nI v → ((gd (isO (ov n P a fm (nI (2 * n - 1)) es hv cn sg pa fs sn lf h) a 3 = true) ((FT_putChild (ov n P a fm (nI (2 * n - 1)) es hv cn sg pa fs sn lf h) a (nI (u x)) (nI x) ot).bind (fun r21 => gd (isO r21 a 3 = true) ((FT_putChild r21 a (nI (u (u x))) ot (nI x)).bind (fun r23 => lpG (fun _ _ _ => none) w (LT_stepSplayed_8 a K K2) r23 (nI (u (u x))) (nI dd + 1))))))) = lpG (fun _ _ _ => none) w (LT_stepSplayed_8 a K K2) (ov n P a fm (nI (2 * n - 1)) es hv cn sg (upd (upd pa v (nI (u x))) x (nI (u (u x)))) (if d v = 0 then upd (if d x = 0 then upd fs (u x) (nI v) else fs) (u (u x)) (nI x) else (if d x = 0 then upd fs (u x) (nI v) else fs)) (if d v = 0 then (if d x = 0 then sn else upd sn (u x) (nI v)) else upd (if d x = 0 then sn else upd sn (u x) (nI v)) (u (u x)) (nI x)) lf h) (nI (u (u x))) (nI (dd + 1)) := by
          intro ot hot
          subst hot
          have i1 : (if d x = 0 then upd fs (u x) (nI v) else fs) (u (u x)) = fs (u (u x)) := by
            by_cases z : d x = 0
            · rw [if_pos z, updN (Ne.symm pg)]
            · rw [if_neg z]
          rw [gd_t o_ov, e_putChild (show u x < 2 * n - 1 by omega) (show v < 2 * n - 1 by omega) (by omega) hn, Option.bind_some, gd_t o_ov, e_putChild (show u (u x) < 2 * n - 1 by omega) (show x < 2 * n - 1 by omega) (by omega) hn, Option.bind_some, nI_1]
          simp only [g2, g3, i1]
        have tail := e_ss_loop (K := K) (K2 := K2) hn hKK f _ _ dp' (u (u x)) (dd + 1) w _ _ _ _ _ _ S' h' CSW (by omega) (by rw [hkeep _ (by omega) (Nat.le_refl _)]; omega) (by rw [hkeep _ (by omega) (Nat.le_refl _)]; omega) (by omega)
        by_cases z : d (u x) = 0
        · rw [if_pos (g1.mpr z), q_sn (show u (u x) < 2 * n - 1 by omega) (by omega) hn, core _ (by rw [← v3]; exact (hC.2.2.1 v v1 v2).2.2 (by omega))]
          exact tail
        · rw [if_neg (fun q => z (g1.mp q)), q_fs (show u (u x) < 2 * n - 1 by omega) (by omega) hn, core _ (by rw [← v3]; exact (hC.2.2.1 v v1 v2).2.1 (by omega))]
          exact tail
theorem e_stepBy_splayed {u d dp : Nat → Nat} {cn sg pa fs sn lf : Nat → Int32} {s : Nat} {lim : Int32} (hn : n ≤ 64) (hS : SI n u d) (hd : DP n u dp) (hC : CS n u d cn sg pa fs sn lf) (hs : s < n) :
    ∃ cn' sg' pa' fs' sn' lf' : Nat → Int32, FT_stepBy (ov n P a 1 (nI (2 * n - 1)) es hv cn sg pa fs sn lf h) a (nI s) lim = some (ov n P a 1 (nI (2 * n - 1)) es hv cn' sg' pa' fs' sn' lf' h) ∧ CS n (spS n (2 * n) u d (n - 1 + s)).1 (spS n (2 * n) u d (n - 1 + s)).2 cn' sg' pa' fs' sn' lf' := by
  have hb := DP_bd hS hd (show n - 1 + s < 2 * n - 1 by omega)
  obtain ⟨cn', sg', pa', fs', sn', lf', r1, r2⟩ := e_ss_loop (P := P) (a := a) (fm := 1) (es := es) (hv := hv) (h := h) (K := fun h => some h) (K2 := fun h => some h) hn (fun _ => rfl) (2 * n) u d dp (n - 1 + s) 0 fu cn sg pa fs sn lf hS hd hC (by omega) (by omega) (by omega) (by show 2 * n < 100000; omega)
  refine ⟨cn', sg', pa', fs', sn', lf', ?_, r2⟩
  unfold FT_stepBy FT_stepSplayed
  rw [i_fm, if_pos rfl, gd_t o_ov, q_lf hs hn, hC.2.2.2.2 s hs, jn_eq]
  try dsimp only
  rw [jn_eq]
  try dsimp only
  rw [show (0 : Int32) = nI 0 from rfl, r1, Option.bind_some]
end CSS
