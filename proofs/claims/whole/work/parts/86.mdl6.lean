/-! the model's SPLAYED tree -/
def MS (A : Nat → Nat → Int32) (q n : Nat) (u d : Nat → Nat) : Prop := A 2 q = nI (2 * n - 1) ∧ A 9 (129 * q) = (-1) ∧ A 10 (129 * q) = 0 ∧ ∀ k, 0 < k → k < 2 * n - 1 → A 9 (129 * q + k) = nI (u k) ∧ A 10 (129 * q + k) = nI (d k)
theorem nar_d {k : Nat} (h : k < 2) : vp_nar .boolean (nI k) = nI k := by
  match k, h with
  | 0, _ => decide
  | 1, _ => decide
section MSS
variable {M : Nat} {X : Nat → Int32} {h : Hp} {q n : Nat}
theorem m_child_hit {A : Nat → Nat → Int32} {u d : Nat → Nat} {K : Int32 → Option Int32} {v : Nat} (hq : q < 12) (hn : n ≤ 64) (hS : SI n u d) (hM : MS A q n u d) (hv : 0 < v) (hv2 : v < 2 * n - 1) : ∀ (e i w : Nat), i + e = 2 * n - 1 → 0 < i → e < w → lpG (fun _ _ => none) w (LM_child_6 (om M X A h) M (nI q) (nI (u v)) (nI (d v)) K) (if v < i then nI v else (-1)) (nI i) = K (nI v)
  | e, i, 0, _, _, hw => absurd hw (by omega)
  | 0, i, w + 1, hi, _, _ => by
    have e : i = 2 * n - 1 := by omega
    subst e
    rw [lpG_s, LM_child_6.eq_1, mr_ma, ml_ma hq, hM.1, if_pos (nI_le (Nat.le_refl _) (by omega)), if_pos hv2]
  | e + 1, i, w + 1, hi, h0, hw => by
    have ih := m_child_hit (K := K) hq hn hS hM hv hv2 e (i + 1) w (by omega) (by omega) (by omega)
    have sv := hS.1 v hv hv2
    have si := hS.1 i h0 (by omega)
    rw [lpG_s, LM_child_6.eq_1, mr_ma, ml_ma hq, hM.1, if_neg (nI_ge (show i < 2 * n - 1 by omega) (by omega)), mr_up, ix, ml_up (by omega), (hM.2.2.2 i h0 (by omega)).1, jn_eq]
    try dsimp only
    rw [jn_eq]
    try dsimp only
    rw [nI_1]
    have keep : i ≠ v → (if v < i then nI v else (-1)) = (if v < i + 1 then nI v else (-1)) := fun hne => by
      by_cases z : v < i
      · rw [if_pos z, if_pos (by omega)]
      · rw [if_neg z, if_neg (by omega)]
    by_cases e1 : u i = u v
    · rw [if_pos (by rw [e1]), mr_se, ml_se (by omega), (hM.2.2.2 i h0 (by omega)).2]
      by_cases e2 : d i = d v
      · have : i = v := hS.2.1 i v h0 (by omega) hv hv2 e1 e2
        rw [if_pos (by rw [e2]), ← ih, if_pos (show v < i + 1 by omega), this]
      · rw [if_neg (by rw [nI_eq (by omega) (by omega)]; exact e2), keep (fun z => e2 (by rw [z])), ih]
    · rw [if_neg (by rw [nI_eq (by omega) (by omega)]; exact e1), keep (fun z => e1 (by rw [z])), ih]
theorem m_child {A : Nat → Nat → Int32} {u d : Nat → Nat} {v : Nat} (hq : q < 12) (hn : n ≤ 64) (hS : SI n u d) (hM : MS A q n u d) (hv : 0 < v) (hv2 : v < 2 * n - 1) : FM_child (om M X A h) M (nI q) (nI (u v)) (nI (d v)) = some (nI v) := by
  unfold FM_child
  rw [jn_eq]
  try dsimp only
  have := m_child_hit (M := M) (X := X) (h := h) (K := fun x => some x) hq hn hS hM hv hv2 (2 * n - 2) 1 fu (by omega) (by omega) (by show 2 * n - 2 < 100000; omega)
  rw [if_neg (by omega)] at this
  exact this
theorem m_child_miss {A : Nat → Nat → Int32} {u d : Nat → Nat} {K : Int32 → Option Int32} {k : Nat} {b : Int32} (hq : q < 12) (hn : n ≤ 64) (hS : SI n u d) (hM : MS A q n u d) (hk : n - 1 ≤ k) (hk2 : k < 1000) : ∀ (e i w : Nat), i + e = 2 * n - 1 → 0 < i → e < w → lpG (fun _ _ => none) w (LM_child_6 (om M X A h) M (nI q) (nI k) b K) (-1) (nI i) = K (-1)
  | e, i, 0, _, _, hw => absurd hw (by omega)
  | 0, i, w + 1, hi, _, _ => by
    have e : i = 2 * n - 1 := by omega
    subst e
    rw [lpG_s, LM_child_6.eq_1, mr_ma, ml_ma hq, hM.1, if_pos (nI_le (Nat.le_refl _) (by omega))]
  | e + 1, i, w + 1, hi, h0, hw => by
    have ih := m_child_miss (K := K) (b := b) hq hn hS hM hk hk2 e (i + 1) w (by omega) (by omega) (by omega)
    have si := hS.1 i h0 (by omega)
    rw [lpG_s, LM_child_6.eq_1, mr_ma, ml_ma hq, hM.1, if_neg (nI_ge (show i < 2 * n - 1 by omega) (by omega)), mr_up, ix, ml_up (by omega), (hM.2.2.2 i h0 (by omega)).1, jn_eq]
    try dsimp only
    rw [jn_eq]
    try dsimp only
    rw [nI_1, if_neg (by rw [nI_eq (by omega) (by omega)]; omega), ih]
theorem m_child_no {A : Nat → Nat → Int32} {u d : Nat → Nat} {k : Nat} {b : Int32} (hq : q < 12) (hn0 : 1 ≤ n) (hn : n ≤ 64) (hS : SI n u d) (hM : MS A q n u d) (hk : n - 1 ≤ k) (hk2 : k < 1000) : FM_child (om M X A h) M (nI q) (nI k) b = some (-1) := by
  unfold FM_child
  rw [jn_eq]
  try dsimp only
  exact m_child_miss hq hn hS hM hk hk2 (2 * n - 2) 1 fu (by omega) (by omega) (by show 2 * n - 2 < 100000; omega)
theorem m_sp_loop {K : Hp → Option Hp} (hq : q < 12) (hn0 : 2 ≤ n) (hn : n ≤ 64) : ∀ (f : Nat) (u d dp : Nat → Nat) (x w : Nat) (A : Nat → Nat → Int32), SI n u d → DP n u dp → MS A q n u d → x < 2 * n - 1 → dp x < f → f < w →
    ∃ A' : Nat → Nat → Int32, lpG (fun _ _ => none) w (LM_splays_9 M (nI q) K) (om M X A h) (nI x) = K (om M X A' h) ∧ MS A' q n (spS n f u d x).1 (spS n f u d x).2 ∧ fr q A A' ∧ fk q A A'
  | 0, u, d, dp, x, w, A, _, _, _, _, hf, _ => absurd hf (by omega)
  | f + 1, u, d, dp, x, 0, A, _, _, _, _, _, hw => absurd hw (by omega)
  | f + 1, u, d, dp, x, w + 1, A, hS, hd, hM, hx, hf, hw => by
    rw [lpG_s, LM_splays_9.eq_1, mr_up, ix, ml_up (by omega), spS_s]
    by_cases e0 : x = 0
    · subst e0
      rw [Nat.add_zero, hM.2.1, if_pos rfl, if_pos (Or.inl rfl)]
      exact ⟨A, rfl, hM, fr.refl, fk.refl⟩
    · have x0 : 0 < x := by omega
      have ux := hS.1 x x0 hx
      have mx := hM.2.2.2 x x0 hx
      rw [mx.1, if_neg (m1_nI (by omega)), mr_up, mr_up, ml_up (by omega), mx.1, ix, ml_up (by omega)]
      by_cases e1 : u x = 0
      · rw [e1, Nat.add_zero, hM.2.1, if_pos rfl, if_pos (Or.inr rfl)]
        exact ⟨A, rfl, hM, fr.refl, fk.refl⟩
      · have p0 : 0 < u x := by omega
        have up := hS.1 (u x) p0 (by omega)
        have mp := hM.2.2.2 (u x) p0 (by omega)
        obtain ⟨v1, v2, v3, v4, v5⟩ := unc_ok hS x0 hx p0
        obtain ⟨S', dp', h', hkeep⟩ := SI_swap hS hd x0 hx p0 v1 v2 v3 (by omega)
        rw [if_neg (show ¬ (x = 0 ∨ u x = 0) by omega)]
        generalize unc n u d x = v at v1 v2 v3 v4 S' h' ⊢
        have d1 := hd.2 x x0 hx
        have d2 := hd.2 (u x) p0 (by omega)
        have d3 := hd.2 v v1 v2
        have hxv : x ≠ v := fun e => by rw [v3] at d3; rw [← e] at d3; omega
        have mv := hM.2.2.2 v v1 v2
        have dv := hS.1 v v1 v2
        have hch := m_child (M := M) (X := X) (h := h) hq hn hS hM v1 v2
        rw [v3] at hch
        have hx9 : (u2 A 9 (129 * q + x) (nI (u (u x)))) 10 (129 * q + v) = nI (d v) := by rw [u2_at (by omega)]; exact mv.2
        have core : ∀ (y19 : Int32), y19 = nI (d v) → (gd (isO (om M X A h) M 5 = true) ((FM_child (om M X A h) M (nI q) (nI (u (u x))) y19).bind (fun r25 =>
            gR (om M X A h) M 5 12 (fun a26 =>
            ldI (om M X A h) a26 1 (nI (129 * q + x)) (fun x27 =>
            gR (om M X A h) M 5 11 (fun a28 =>
            stI (om M X A h) a28 0 (nI (129 * q + x)) (nI (u (u x))) (fun h29 =>
            gR h29 M 5 12 (fun a30 =>
            gR h29 M 5 12 (fun a31 =>
            ldI h29 a31 1 ((129 * nI q) + r25) (fun x32 =>
            stI h29 a30 1 (nI (129 * q + x)) (vp_nar .boolean x32) (fun h33 =>
            gR h33 M 5 11 (fun a34 =>
            stI h33 a34 0 ((129 * nI q) + r25) (nI (u x)) (fun h35 =>
            gR h35 M 5 12 (fun a36 =>
            stI h35 a36 1 ((129 * nI q) + r25) (vp_nar .boolean x27) (fun h37 =>
            lpG (fun _ _ => none) w (LM_splays_9 M (nI q) K) h37 (nI (u (u x)))))))))))))))))) = lpG (fun _ _ => none) w (LM_splays_9 M (nI q) K) (om M X (u2 (u2 (u2 (u2 A 9 (129 * q + x) (nI (u (u x)))) 10 (129 * q + x) (nI (d v))) 9 (129 * q + v) (nI (u x))) 10 (129 * q + v) (nI (d x))) h) (nI (u (u x))) := by
          intro y hy
          subst hy
          rw [gd_t o_om, hch, Option.bind_some, mr_se, ml_se (by omega), mx.2, mr_up, ms_up (by omega), mr_se, mr_se, ix, ml_se (by omega), hx9, nar_d dv.2, ms_se (by omega), mr_up, ms_up (by omega), mr_se, nar_d ux.2, ms_se (by omega)]
        have tx : trp x v x = v := by unfold trp; rw [if_pos rfl]
        have tv : trp x v v = x := by unfold trp; rw [if_neg (Ne.symm hxv), if_pos rfl]
        have hM' : MS (u2 (u2 (u2 (u2 A 9 (129 * q + x) (nI (u (u x)))) 10 (129 * q + x) (nI (d v))) 9 (129 * q + v) (nI (u x))) 10 (129 * q + v) (nI (d x))) q n (fun k => u (trp x v k)) (fun k => d (trp x v k)) := by
          refine ⟨?_, ?_, ?_, fun k h0 hk => ?_⟩
          · rw [u2_at (by omega), u2_at (by omega), u2_at (by omega), u2_at (by omega)]; exact hM.1
          · rw [u2_at (by omega), u2_at (by omega), u2_at (by omega), u2_at (by omega)]; exact hM.2.1
          · rw [u2_at (by omega), u2_at (by omega), u2_at (by omega), u2_at (by omega)]; exact hM.2.2.1
          · dsimp only
            by_cases z1 : k = x
            · subst z1
              rw [tx, v3, u2_at (by omega), u2_at (by omega), u2_at (by omega), u2_hit, u2_at (by omega), u2_at (by omega), u2_hit]
              exact ⟨rfl, rfl⟩
            · by_cases z2 : k = v
              · subst z2
                rw [tv, u2_at (by omega), u2_hit, u2_hit]
                exact ⟨rfl, rfl⟩
              · rw [trp_fix (Ne.symm z1) (Ne.symm z2), u2_at (by omega), u2_at (by omega), u2_at (by omega), u2_at (by omega), u2_at (by omega), u2_at (by omega), u2_at (by omega), u2_at (by omega)]
                exact hM.2.2.2 k h0 hk
        obtain ⟨A', r1, r2, r3, r4⟩ := m_sp_loop (K := K) hq hn0 hn f _ _ dp' (u (u x)) w _ S' h' hM' (by omega) (by rw [hkeep _ (by omega) (Nat.le_refl _)]; omega) (by omega)
        have ff : fr q A (u2 (u2 (u2 (u2 A 9 (129 * q + x) (nI (u (u x)))) 10 (129 * q + x) (nI (d v))) 9 (129 * q + v) (nI (u x))) 10 (129 * q + v) (nI (d x))) := (((fr.refl.st (by unfold fw; omega)).st (by unfold fw; omega)).st (by unfold fw; omega)).st (by unfold fw; omega)
        have fk' : fk q A (u2 (u2 (u2 (u2 A 9 (129 * q + x) (nI (u (u x)))) 10 (129 * q + x) (nI (d v))) 9 (129 * q + v) (nI (u x))) 10 (129 * q + v) (nI (d x))) := (((fk.refl.st (by decide)).st (by decide)).st (by decide)).st (by decide)
        refine ⟨A', ?_, r2, ff.trans r3, fk'.trans r4⟩
        rw [mp.1, if_neg (m1_nI (by omega)), mr_up, ml_up (by omega), mx.1, mr_up, ix, ml_up (by omega), mp.1, mr_se, ml_se (by omega), mp.2, jn_eq]
        try dsimp only
        by_cases z : d (u x) = 0
        · rw [if_pos (by rw [z]; rfl), ← r1]
          exact core 1 (by rw [v4, z]; rfl)
        · rw [if_neg (nI_ne0 (by omega) (by omega)), ← r1]
          exact core 0 (by rw [v4, show d (u x) = 1 by omega]; rfl)
theorem m_splays {A : Nat → Nat → Int32} {u d dp : Nat → Nat} {s : Nat} (hq : q < 12) (hn0 : 2 ≤ n) (hn : n ≤ 64) (hX : X 0 = nI n) (hS : SI n u d) (hd : DP n u dp) (hM : MS A q n u d) (hs : s < n) :
    ∃ A' : Nat → Nat → Int32, FM_splays (om M X A h) M (nI q) (nI s) = some (om M X A' h) ∧ MS A' q n (spS n (2 * n) u d (n - 1 + s)).1 (spS n (2 * n) u d (n - 1 + s)).2 ∧ fr q A A' ∧ fk q A A' := by
  have hb := DP_bd hS hd (show n - 1 + s < 2 * n - 1 by omega)
  have e : nI n - 1 + nI s = nI (n - 1 + s) := by rw [show nI n - 1 = nI (n - 1) from pk_sub (b := 1) (by omega), nI_add]
  unfold FM_splays
  rw [mi_0, hX, jn_eq]
  try dsimp only
  rw [e]
  exact m_sp_loop hq hn0 hn (2 * n) u d dp (n - 1 + s) fu A hS hd hM (by omega) (by omega) (by show 2 * n < 100000; omega)
end MSS
