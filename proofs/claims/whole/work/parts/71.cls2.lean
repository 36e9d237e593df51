/-! the walk up and the split of the class's COUNTED tree -/
theorem lsA_N {c : Nat → Nat} {cn pa : Nat → Int32} {p q : Nat} (hb : ∀ j, j ≤ p → c j < 2 ^ 31) (hcn : ∀ j, j ≤ p → cn j = nI (c j)) (hp : p < 2 ^ 31) (hq : q < 2 ^ 31) : ∀ (k i : Nat), i + k = p → (0 < k → pa p = nI q) → lsA cn pa p i k = lsN c q p i k
  | 0, i, _, _ => rfl
  | k + 1, i, h, hpa => by
    have ih := lsA_N (c := c) (cn := cn) (pa := pa) (p := p) (q := q) hb hcn hp hq k (i + 1) (by omega) (fun _ => hpa (by omega))
    rw [lsN_s, show lsA cn pa p i (k + 1) = if cn i = cn p ∧ ¬ nI i = pa p then i else lsA cn pa p (i + 1) k from rfl, ih]
    have e1 : cn i = cn p ↔ c i = c p := by rw [hcn i (by omega), hcn p (by omega), nI_eq (hb _ (by omega)) (hb _ (by omega))]
    have e2 : nI i = pa p ↔ i = q := by rw [hpa (by omega), nI_eq (by omega) hq]
    by_cases g : c i = c p ∧ ¬ i = q
    · rw [if_pos g, if_pos ⟨e1.mpr g.1, fun x => g.2 (e2.mp x)⟩]
    · rw [if_neg g, if_neg (fun x => g ⟨e1.mp x.1, fun y => x.2 (e2.mpr y)⟩)]
theorem CT.pa {n m : Nat} {c g o : Nat → Nat} {es : Int32} {cn sg pa fs sn lf : Nat → Int32} (hT : CT n m c g o es cn sg pa fs sn lf) (ho : ∀ k, k < m → o k < 2 * k + 1) {p : Nat} (h0 : 0 < p) (hp : p < 2 * m + 1) : pa p = nI (o ((p - 1) / 2)) := by
  have hj : (p - 1) / 2 < m := by omega
  have := (hT.1 (o ((p - 1) / 2)) (by have := ho _ hj; omega)).2.2.1 _ hj rfl
  have e : p = 2 * ((p - 1) / 2) + 1 ∨ p = 2 * ((p - 1) / 2) + 2 := by omega
  rcases e with e | e
  · rw [← e] at this; exact this.2.2.1
  · rw [← e] at this; exact this.2.2.2
section STEP
variable {n P a : Nat} {fm es hv : Int32} {cn sg pa fs sn lf : Nat → Int32} {h : Hp} {m : Nat}
theorem e_sc_one {c g o : Nat → Nat} {p d : Nat} {K : Hp → Option Hp} {rec : Hp → Int32 → Int32 → Option Hp} (hn : n ≤ 64) (hm : m ≤ n) (hG : GI n m g o) (hI : ∀ k k', k < m → k' < m → o k = o k' → k = k') (ho : ∀ k, k < m → o k < 2 * k + 1) (hT : CT n m c g o es cn sg pa fs sn lf) (hp : p < 2 * m) (hcb : ∀ j, j < 2 * m + 1 → c j < 2 ^ 30) (hd : d < 2 * m + 1) :
    ∃ (es' : Int32) (cn' sg' pa' fs' sn' lf' : Nat → Int32), LT_stepCounted_8 a K rec (ov n P a fm (nI (2 * m + 1)) es hv cn sg pa fs sn lf h) (nI p) (nI d) = rec (ov n P a fm (nI (2 * m + 1)) es' hv cn' sg' pa' fs' sn' lf' h) (pa' (lsN c (o ((p - 1) / 2)) p 0 p)) (nI (d + 1)) ∧ CT n m (inc c (lsN c (o ((p - 1) / 2)) p 0 p)) (fun j => g (trp (lsN c (o ((p - 1) / 2)) p 0 p) p j)) (fun k => trp (lsN c (o ((p - 1) / 2)) p 0 p) p (o k)) es' cn' sg' pa' fs' sn' lf' := by
  obtain ⟨hL1, hL2, -⟩ := lsN_IsL c (o ((p - 1) / 2)) p
  have hA : lsA cn pa p 0 p = lsN c (o ((p - 1) / 2)) p 0 p := by
    refine lsA_N (fun j hj => ?_) (fun j hj => (hT.1 j (by omega)).1) (by omega) ?_ p 0 (by omega) (fun h0 => hT.pa ho h0 (by omega))
    · have := hcb j (by omega); omega
    · rcases Nat.lt_or_ge ((p - 1) / 2) m with q | q
      · have := ho _ q; omega
      · omega
  rw [LT_stepCounted_8.eq_1, q_h1 (show p < 2 * m + 1 by omega) (by omega) hn, if_neg (by decide), i_sz, if_neg (nI_ge hd (by omega)), gd_t o_ov, e_least (show p < 2 * m + 1 by omega) (by omega) hn, Option.bind_some, hA, jn_eq]
  try dsimp only
  generalize lsN c (o ((p - 1) / 2)) p 0 p = i at hL1 hL2
  rcases Nat.lt_or_ge i p with q | q
  · rw [if_neg (nI_ge q (by omega)), gd_t o_ov, e_changePlaces (show i < 2 * m + 1 by omega) (show p < 2 * m + 1 by omega) (by omega) hn ((hT.1 i (by omega)).ok hm hG (by omega)) ((hT.1 p (by omega)).ok hm hG (by omega)), Option.bind_some]
    rw [r_cn, ld_cn (show i < 2 * n + 1 by omega) hn, st_cn (show i < 2 * n + 1 by omega) hn, r_pa, ld_pa (show i < 2 * n + 1 by omega) hn, nI_1]
    exact ⟨_, _, _, _, _, _, _, rfl, CT_inc (CT_swap hn hm hG hI ho hT q hp hL2) (by omega)⟩
  · have e : i = p := by omega
    subst e
    rw [if_pos (nI_le (Nat.le_refl _) (by omega))]
    rw [r_cn, ld_cn (show i < 2 * n + 1 by omega) hn, st_cn (show i < 2 * n + 1 by omega) hn, r_pa, ld_pa (show i < 2 * n + 1 by omega) hn, nI_1]
    have e1 : (fun j => g (trp i i j)) = g := funext fun j => by rw [trp_self]
    have e2 : (fun k => trp i i (o k)) = o := funext fun j => by rw [trp_self]
    rw [e1, e2]
    exact ⟨_, _, _, _, _, _, _, rfl, CT_inc hT (by omega)⟩
theorem PI.bd {m : Nat} {c o : Nat → Nat} {p : Nat} (h : PI m c o p) {j : Nat} (hj : j < 2 * m + 1) : c j ≤ c 0 + 1 := by
  rcases Nat.eq_zero_or_pos j with e | e
  · subst e; omega
  · rcases h.2.2.2.1 0 j e hj with q | ⟨q, q2, -⟩
    · omega
    · rw [← q] at q2; omega
theorem e_sc_loop {K : Hp → Option Hp} (hn : n ≤ 64) (hm : m ≤ n) : ∀ (f : Nat) (c g o : Nat → Nat) (p d w : Nat) (es : Int32) (cn sg pa fs sn lf : Nat → Int32), CT n m c g o es cn sg pa fs sn lf → GI n m g o → PI m c o p → p < f → p < 2 * m → d + p < 2 * m + 1 → p + 1 < w → c 0 < 2 ^ 29 →
    ∃ (es' : Int32) (cn' sg' pa' fs' sn' lf' : Nat → Int32), lpG (fun _ _ _ => none) w (LT_stepCounted_8 a K) (ov n P a fm (nI (2 * m + 1)) es hv cn sg pa fs sn lf h) (nI p) (nI d) = K (ov n P a fm (nI (2 * m + 1)) es' hv cn' sg' pa' fs' sn' lf' h) ∧ CT n m (stW f c g o p).1 (stW f c g o p).2.1 (stW f c g o p).2.2 es' cn' sg' pa' fs' sn' lf'
  | 0, c, g, o, p, d, w, es, cn, sg, pa, fs, sn, lf, hT, hG, hP, hf, hp, hd, hw, hc => absurd hf (by omega)
  | f + 1, c, g, o, p, d, 0, es, cn, sg, pa, fs, sn, lf, hT, hG, hP, hf, hp, hd, hw, hc => absurd hw (by omega)
  | f + 1, c, g, o, p, d, w + 1, es, cn, sg, pa, fs, sn, lf, hT, hG, hP, hf, hp, hd, hw, hc => by
    have hL := lsN_IsL c (o ((p - 1) / 2)) p
    obtain ⟨es1, cn1, sg1, pa1, fs1, sn1, lf1, q1, q2⟩ := e_sc_one (P := P) (a := a) (fm := fm) (hv := hv) (h := h) (K := K) (rec := lpG (fun _ _ _ => none) w (LT_stepCounted_8 a K)) hn hm hG hP.2.1 hP.1 hT hp (fun j hj => by have := hP.bd hj; omega) (show d < 2 * m + 1 by omega)
    rw [lpG_s, q1, stW_s]
    generalize lsN c (o ((p - 1) / 2)) p 0 p = i at hL q2
    have hip := hL.1
    have P1 := PI_step hP hp (fun _ => rfl) hL
    have G1 := GI_step hG hip hp
    by_cases e : i = 0
    · subst e
      rw [if_pos rfl, q2.2.1]
      refine ⟨es1, cn1, sg1, pa1, fs1, sn1, lf1, ?_, q2⟩
      obtain ⟨w', rfl⟩ : ∃ w', w = w' + 1 := ⟨w - 1, by omega⟩
      rw [lpG_s, LT_stepCounted_8.eq_1, q_h0, if_pos rfl]
    · rw [if_neg e]
      rw [if_neg e] at P1
      have hk : (i - 1) / 2 < m := by omega
      have hd2 := hP.1 _ hk
      have e5 := q2.pa P1.1 (show 0 < i by omega) (by omega)
      have e6 : trp i p (o ((i - 1) / 2)) = o ((i - 1) / 2) := trp_lt (by omega) hip
      rw [e5, e6]
      exact e_sc_loop hn hm f (inc c i) _ _ (o ((i - 1) / 2)) (d + 1) w es1 cn1 sg1 pa1 fs1 sn1 lf1 q2 G1 P1 (by omega) (by omega) (by omega) (by omega) (by simp [inc, Ne.symm e]; exact hc)
/-- the split: a leaf and an escape behind, both with count 0 -/
def spZ (c : Nat → Nat) (m : Nat) : Nat → Nat := fun j => if j < 2 * m then c j else 0
theorem e_split {c g o : Nat → Nat} {s : Nat} (hn : n ≤ 64) (hm : m < n) (hG : GI n m g o) (ho : ∀ k, k < m → o k < 2 * k + 1) (hs : s < n) (hns : ¬ HasS m g s) (hT : CT n m c g o es cn sg pa fs sn lf) :
    ∃ (es' : Int32) (cn' sg' pa' fs' sn' lf' : Nat → Int32), FT_splitEscapeFor (ov n P a fm (nI (2 * m + 1)) es hv cn sg pa fs sn lf h) a (nI s) = some (ov n P a fm (nI (2 * (m + 1) + 1)) es' hv cn' sg' pa' fs' sn' lf' h) ∧ CT n (m + 1) (spZ c m) (spG g m s) (spO o m) es' cn' sg' pa' fs' sn' lf' := by
  obtain ⟨t1, t2, t3⟩ := hT
  have e0 : es = nI (2 * m) := (t1 (2 * m) (by omega)).2.2.2.2.1 hG.2.1
  unfold FT_splitEscapeFor
  have e2 : nI (2 * m + 1) + 2 = nI (2 * (m + 1) + 1) := nI_add _ 2
  have b1 : 2 * m + 1 < 2 * (m + 1) + 1 := by omega
  have b2 : 2 * m + 1 + 1 < 2 * (m + 1) + 1 := by omega
  have b3 : 2 * m < 2 * (m + 1) + 1 := by omega
  have b4 : 2 * (m + 1) + 1 ≤ 2 * n + 1 := by omega
  rw [i_es, i_sz, e0, q_h1 (show 2 * m < 2 * m + 1 by omega) (by omega) hn, jn_eq]
  try dsimp only
  rw [if_neg (by decide), r_sg, al_sg, nI_1, if_pos (nI_lt (show 2 * m + 1 + 1 < 2 * n + 1 by omega) (by omega)), i_sz, e2, p_sz, gd_t o_ov, e_fill_leaf b1 hs b4 hn, Option.bind_some, gd_t o_ov, e_fill_esc b2 b4 hn, Option.bind_some, gd_t o_ov, e_fill_in b3 b1 b2 b4 hn, Option.bind_some]
  refine ⟨_, _, _, _, _, _, _, rfl, ?_⟩
  refine ⟨fun x hx => ?_, ?_, fun s' hs' hns' => ?_⟩
  · rcases Nat.lt_or_ge x (2 * m) with q | q
    · obtain ⟨l1, l2, l3, l4, l5, l6⟩ := t1 x (by omega)
      have gx : spG g m s x = g x := by unfold spG; rw [if_pos q]
      have cx : spZ c m x = c x := by unfold spZ; rw [if_pos q]
      refine ⟨?_, ?_, fun j hj e => ?_, fun e => ?_, fun e => ?_, fun s' e => ?_⟩
      · rw [cx]; unfold upd; rw [if_neg (by omega), if_neg (by omega), if_neg (by omega)]; exact l1
      · rw [gx]; unfold upd; rw [if_neg (by omega), if_neg (by omega), if_neg (by omega)]; exact l2
      · have hj2 : j < m := by
          unfold spO at e
          by_cases e3 : j < m
          · exact e3
          · rw [if_neg e3] at e; omega
        unfold spO at e; rw [if_pos hj2] at e
        have := l3 j hj2 e
        unfold upd
        rw [if_neg (by omega), if_neg (by omega), if_neg (by omega), if_neg (by omega), if_neg (by omega), if_neg (by omega), if_neg (by omega), if_neg (by omega), if_neg (by omega), if_neg (by omega)]
        exact this
      · rw [gx] at e
        unfold upd
        rw [if_neg (by omega), if_neg (by omega), if_neg (by omega), if_neg (by omega), if_neg (by omega), if_neg (by omega)]
        exact l4 e
      · rw [gx] at e
        exact absurd e (hG.2.2.1 x q).1
      · rw [gx] at e
        have : s' ≠ s := fun q2 => hns ⟨x, by omega, by rw [← q2]; exact e⟩
        unfold upd
        rw [if_neg this]
        exact l6 s' e
    · rcases (show x = 2 * m ∨ x = 2 * m + 1 ∨ x = 2 * m + 2 by omega) with rfl | rfl | rfl
      · have gx : spG g m s (2 * m) = 0 := by unfold spG; rw [if_neg (by omega), if_pos rfl]
        have cx : spZ c m (2 * m) = 0 := by unfold spZ; rw [if_neg (by omega)]
        refine ⟨?_, ?_, fun j hj e => ?_, fun e => absurd gx e, fun e => by omega, fun s' e => by omega⟩
        · rw [cx]; unfold upd; rw [if_pos rfl]; rfl
        · rw [gx]; unfold upd; rw [if_pos rfl]; rfl
        · have hj2 : j = m := by
            unfold spO at e
            by_cases e3 : j < m
            · rw [if_pos e3] at e; have := ho j e3; omega
            · omega
          subst hj2
          unfold upd
          refine ⟨?_, ?_, ?_, ?_⟩
          · rw [if_pos rfl]
          · rw [if_pos rfl]
          · rw [if_neg (by omega), if_pos rfl]
          · rw [if_pos rfl]
      · have gx : spG g m s (2 * m + 1) = s + 2 := by unfold spG; rw [if_neg (by omega), if_neg (by omega), if_pos rfl]
        have cx : spZ c m (2 * m + 1) = 0 := by unfold spZ; rw [if_neg (by omega)]
        refine ⟨?_, ?_, fun j hj e => ?_, fun e => ?_, fun e => by omega, fun s' e => ?_⟩
        · rw [cx]; unfold upd; rw [if_neg (by omega), if_neg (by omega), if_pos rfl]; rfl
        · rw [gx]; unfold upd; rw [if_neg (by omega), if_neg (by omega), if_pos rfl]; rfl
        · exfalso
          unfold spO at e
          by_cases e3 : j < m
          · rw [if_pos e3] at e; have := ho j e3; omega
          · rw [if_neg e3] at e; omega
        · unfold upd; rw [if_neg (by omega), if_neg (by omega), if_pos rfl, if_neg (by omega), if_neg (by omega), if_pos rfl]; exact ⟨rfl, rfl⟩
        · have : s' = s := by omega
          subst this
          unfold upd; rw [if_pos rfl]
      · have gx : spG g m s (2 * m + 2) = 1 := by unfold spG; rw [if_neg (by omega), if_neg (by omega), if_neg (by omega)]
        have cx : spZ c m (2 * m + 2) = 0 := by unfold spZ; rw [if_neg (by omega)]
        refine ⟨?_, ?_, fun j hj e => ?_, fun e => ?_, fun e => rfl, fun s' e => by omega⟩
        · rw [cx]; unfold upd; rw [if_neg (by omega), if_pos rfl]; rfl
        · rw [gx]; unfold upd; rw [if_neg (by omega), if_pos rfl]; rfl
        · exfalso
          unfold spO at e
          by_cases e3 : j < m
          · rw [if_pos e3] at e; have := ho j e3; omega
          · rw [if_neg e3] at e; omega
        · unfold upd; rw [if_neg (by omega), if_pos rfl, if_neg (by omega), if_pos rfl]; exact ⟨rfl, rfl⟩
  · unfold upd; rw [if_neg (by omega), if_neg (by omega)]; exact t2
  · rw [HasS_split hG.2.1] at hns'
    have h1 : s' ≠ s := fun q => hns' (Or.inr q)
    unfold upd; rw [if_neg h1]
    exact t3 s' hs' (fun q => hns' (Or.inl q))
end STEP
