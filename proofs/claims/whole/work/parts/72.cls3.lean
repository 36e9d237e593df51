/-! a sign's step of the class's COUNTED tree, known or new; the pieces -/
theorem lsN_self {c : Nat → Nat} {q p : Nat} (h : ∀ l, l < p → c l = c p → l = q) : lsN c q p 0 p = p := by
  obtain ⟨h1, h2, h3, -⟩ := lsN_IsL c q p
  generalize lsN c q p 0 p = i at h1 h2 h3
  rcases Nat.lt_or_ge i p with e | e
  · exact absurd (h i e h2) (h3 e)
  · omega
/-- the tree after a new sign's step, before it is halved -/
def nwT (m : Nat) (c g o : Nat → Nat) (s : Nat) : CGO := if m = 0 then (spC c m, spG g m s, spO o m) else stW (2 * m + 1) (spC c m) (spG g m s) (spO o m) (2 * m - 2)
theorem CI.new {n B m s : Nat} {c g o : Nat → Nat} (h : CI n B m c g o) (hs : s < n) (hn : ¬ HasS m g s) : CI n (B + 1) (m + 1) (nwT m c g o s).1 (nwT m c g o s).2.1 (nwT m c g o s).2.2 := by
  have := h.split (f := 2 * m + 1) hs hn (by omega)
  unfold nwT
  by_cases e : m = 0
  · rw [if_pos e] at this; rw [if_pos e]; exact this
  · rw [if_neg e] at this; rw [if_neg e]; exact this
section SC
variable {n P a : Nat} {fm es hv : Int32} {cn sg pa fs sn lf : Nat → Int32} {h : Hp} {m : Nat}
theorem e_sc_known {c g o : Nat → Nat} {p s : Nat} (hn : n ≤ 64) (hm : m ≤ n) (hT : CT n m c g o es cn sg pa fs sn lf) (hG : GI n m g o) (hP : PI m c o (2 * m + 1)) (hp : p < 2 * m + 1) (hg : g p = s + 2) (hc : c 0 < 2 ^ 29) :
    ∃ (es' : Int32) (cn' sg' pa' fs' sn' lf' : Nat → Int32), FT_stepCounted (ov n P a fm (nI (2 * m + 1)) es hv cn sg pa fs sn lf h) a (nI s) = some (ov n P a fm (nI (2 * m + 1)) es' hv cn' sg' pa' fs' sn' lf' h) ∧ CT n m (stW (2 * m + 1) c g o p).1 (stW (2 * m + 1) c g o p).2.1 (stW (2 * m + 1) c g o p).2.2 es' cn' sg' pa' fs' sn' lf' := by
  have hs : s < n := by have := hG.lt hp; omega
  have hlt : p < 2 * m := by
    have : p ≠ 2 * m := fun e => by have := hG.2.1; rw [← e] at this; omega
    omega
  have hl : ∀ k, k < m → o k ≠ p := fun k hk e => by
    have := (hG.1 p hp).mpr ⟨k, hk, e⟩
    omega
  unfold FT_stepCounted
  rw [q_lf hs hn, (hT.1 p hp).2.2.2.2.2 s hg, jn_eq]
  try dsimp only
  exact e_sc_loop hn hm (2 * m + 1) c g o p 0 fu es cn sg pa fs sn lf hT hG (PI_leaf hP hl) hp hlt (by omega) (by show p + 1 < 100000; omega) hc
theorem spO_at {o : Nat → Nat} {m k : Nat} (h : k < m) : spO o m k = o k := by unfold spO; rw [if_pos h]
theorem e_sc_new {c g o : Nat → Nat} {s : Nat} (hn : n ≤ 64) (hm : m < n) (hT : CT n (m + 1) (spZ c m) (spG g m s) (spO o m) es cn sg pa fs sn lf) (hG : GI n m g o) (hP : PI m c o (2 * m + 1)) (hs : s < n) (hns : ¬ HasS m g s) (hc : c 0 < 2 ^ 29) :
    ∃ (es' : Int32) (cn' sg' pa' fs' sn' lf' : Nat → Int32), FT_stepCounted (ov n P a fm (nI (2 * (m + 1) + 1)) es hv cn sg pa fs sn lf h) a (nI s) = some (ov n P a fm (nI (2 * (m + 1) + 1)) es' hv cn' sg' pa' fs' sn' lf' h) ∧
      CT n (m + 1) (nwT m c g o s).1 (nwT m c g o s).2.1 (nwT m c g o s).2.2 es' cn' sg' pa' fs' sn' lf' := by
  have G1 := GI_split hG hP.1 hs hns
  have P1 := PI_split hP
  have hg : spG g m s (2 * m + 1) = s + 2 := by unfold spG; rw [if_neg (by omega), if_neg (by omega), if_pos rfl]
  unfold FT_stepCounted
  rw [q_lf hs hn, (hT.1 (2 * m + 1) (by omega)).2.2.2.2.2 s hg, jn_eq]
  try dsimp only
  have hpos : ∀ l, l < 2 * m → 1 ≤ c l := hP.2.2.2.2.2.2
  have hbd : ∀ j, j < 2 * (m + 1) + 1 → spZ c m j < 2 ^ 29 + 1 := fun j hj => by
    unfold spZ
    split
    · have := hP.bd (j := j) (by omega); omega
    · omega
  have z1 : ∀ l, l < 2 * m → spZ c m l = c l := fun l hl => by unfold spZ; rw [if_pos hl]
  have z2 : ∀ l, ¬ l < 2 * m → spZ c m l = 0 := fun l hl => by unfold spZ; rw [if_neg hl]
  have q0 : spO o m ((2 * m + 1 - 1) / 2) = 2 * m := by
    have : (2 * m + 1 - 1) / 2 = m := by omega
    rw [this]; unfold spO; rw [if_neg (by omega)]
  have L1 : lsN (spZ c m) (spO o m ((2 * m + 1 - 1) / 2)) (2 * m + 1) 0 (2 * m + 1) = 2 * m + 1 := lsN_self fun l hl e => by
    rw [q0]
    rw [z2 (2 * m + 1) (by omega)] at e
    rcases Nat.lt_or_ge l (2 * m) with q | q
    · rw [z1 l q] at e; have := hpos l q; omega
    · omega
  obtain ⟨es1, cn1, sg1, pa1, fs1, sn1, lf1, r1, r2⟩ := e_sc_one (P := P) (a := a) (fm := fm) (hv := hv) (h := h) (K := fun h3 => some h3) (rec := lpG (fun _ _ _ => none) (99998 + 1) (LT_stepCounted_8 a fun h3 => some h3)) (d := 0) hn (show m + 1 ≤ n by omega) G1 P1.2.1 P1.1 hT (show 2 * m + 1 < 2 * (m + 1) by omega) (fun j hj => by have := hbd j hj; omega) (by omega)
  rw [L1] at r1 r2
  have tr : ∀ x : Nat, (fun j => spG g m s (trp x x j)) = spG g m s ∧ (fun k => trp x x (spO o m k)) = spO o m := fun x => ⟨funext fun j => by rw [trp_self], funext fun j => by rw [trp_self]⟩
  rw [(tr _).1, (tr _).2] at r2
  have e1 : pa1 (2 * m + 1) = nI (2 * m) := by
    have := r2.pa P1.1 (show 0 < 2 * m + 1 by omega) (by omega)
    rw [q0] at this
    exact this
  have w1 : lpG (fun _ _ _ => none) fu (LT_stepCounted_8 a fun h3 => some h3) (ov n P a fm (nI (2 * (m + 1) + 1)) es hv cn sg pa fs sn lf h) (nI (2 * m + 1)) 0 = lpG (fun _ _ _ => none) (99998 + 1) (LT_stepCounted_8 a fun h3 => some h3) (ov n P a fm (nI (2 * (m + 1) + 1)) es1 hv cn1 sg1 pa1 fs1 sn1 lf1 h) (nI (2 * m)) (nI (0 + 1)) := by
    rw [show fu = (99998 + 1) + 1 from rfl, lpG_s, ← e1]
    exact r1
  rw [w1]
  have L2 : lsN (inc (spZ c m) (2 * m + 1)) (spO o m ((2 * m - 1) / 2)) (2 * m) 0 (2 * m) = 2 * m := lsN_self fun l hl e => by
    exfalso
    unfold inc at e
    rw [if_neg (by omega), if_neg (by omega), z2 (2 * m) (by omega), z1 l hl] at e
    have := hpos l hl; omega
  obtain ⟨es2, cn2, sg2, pa2, fs2, sn2, lf2, r3, r4⟩ := e_sc_one (P := P) (a := a) (fm := fm) (hv := hv) (h := h) (K := fun h3 => some h3) (rec := lpG (fun _ _ _ => none) 99998 (LT_stepCounted_8 a fun h3 => some h3)) (d := 0 + 1) hn (show m + 1 ≤ n by omega) G1 P1.2.1 P1.1 r2 (show 2 * m < 2 * (m + 1) by omega) (fun j hj => by have := hbd j hj; unfold inc; split <;> omega) (by omega)
  rw [L2] at r3 r4
  rw [(tr _).1, (tr _).2] at r4
  have ec : inc (inc (spZ c m) (2 * m + 1)) (2 * m) = spC c m := funext fun j => by
    unfold inc spZ spC
    by_cases a1 : j < 2 * m
    · rw [if_neg (by omega), if_neg (by omega), if_pos a1, if_pos a1]
    · rw [if_neg a1, if_neg a1]
      by_cases a2 : j = 2 * m
      · rw [if_pos a2, if_neg (by omega), if_pos (by omega)]
      · rw [if_neg a2]
        by_cases a3 : j = 2 * m + 1
        · rw [if_pos a3, if_pos (by omega)]
        · rw [if_neg a3, if_neg (by omega)]
  rw [ec] at r4
  rw [lpG_s, r3]
  by_cases e : m = 0
  · have en : nwT m c g o s = (spC c m, spG g m s, spO o m) := if_pos e
    rw [en]
    refine ⟨es2, cn2, sg2, pa2, fs2, sn2, lf2, ?_, r4⟩
    have : pa2 (2 * m) = (-1) := by rw [e]; exact r4.2.1
    rw [this, show (99998 : Nat) = 99997 + 1 from rfl, lpG_s, LT_stepCounted_8.eq_1, q_h0, if_pos rfl]
  · have en : nwT m c g o s = stW (2 * m + 1) (spC c m) (spG g m s) (spO o m) (2 * m - 2) := if_neg e
    rw [en]
    rw [if_neg e] at P1
    have e3 : pa2 (2 * m) = nI (2 * m - 2) := by
      have := r4.pa P1.1 (show 0 < 2 * m by omega) (by omega)
      have e4 : (2 * m - 1) / 2 = m - 1 := by omega
      rw [e4, spO_at (by omega), hP.2.2.2.2.1 (by omega)] at this
      exact this
    rw [e3]
    exact e_sc_loop hn (by omega) (2 * m + 1) (spC c m) (spG g m s) (spO o m) (2 * m - 2) (0 + 1 + 1) 99998 es2 cn2 sg2 pa2 fs2 sn2 lf2 r4 G1 P1 (by omega) (by omega) (by omega) (by omega) (by unfold spC; rw [if_pos (by omega)]; exact hc)
end SC
section OP
variable {β : Type} {P M : Nat} {pc ps pf : Nat → Int32} {pz : Int32} {h : Hp}
theorem op_0 : op P M pc ps pf pz h P = some (.inr (1, [.ref (P + 1), .ref (P + 2), .ref (P + 3), .int pz])) := if_pos rfl
theorem op_1 : op P M pc ps pf pz h (P + 1) = some (.inl (0, M, .inl pc)) := by simp [op]
theorem op_2 : op P M pc ps pf pz h (P + 2) = some (.inl (0, M, .inl ps)) := by simp [op]
theorem op_3 : op P M pc ps pf pz h (P + 3) = some (.inl (0, M, .inl pf)) := by simp [op]
theorem op_out {q : Nat} (hq : q < P ∨ P + 3 < q) : op P M pc ps pf pz h q = h q := by
  unfold op
  rw [if_neg (by omega), if_neg (by omega), if_neg (by omega), if_neg (by omega)]
theorem op_same (h0 : h P = some (.inr (1, [.ref (P + 1), .ref (P + 2), .ref (P + 3), .int pz]))) (h1 : h (P + 1) = some (.inl (0, M, .inl pc))) (h2 : h (P + 2) = some (.inl (0, M, .inl ps))) (h3 : h (P + 3) = some (.inl (0, M, .inl pf))) : op P M pc ps pf pz h = h := by
  funext q
  unfold op
  split
  · rename_i e; rw [e, h0]
  split
  · rename_i e; rw [e, h1]
  split
  · rename_i e; rw [e, h2]
  split
  · rename_i e; rw [e, h3]
  rfl
theorem op_up1 {f : Nat → Int32} : va_up (op P M pc ps pf pz h) (P + 1) (some (.inl (0, M, .inl f))) = op P M f ps pf pz h := by
  funext q
  by_cases e : q = P + 1
  · subst e; rw [va_up_self, op_1]
  · rw [va_up_ne _ _ e]; simp [op, e]
theorem op_up2 {f : Nat → Int32} : va_up (op P M pc ps pf pz h) (P + 2) (some (.inl (0, M, .inl f))) = op P M pc f pf pz h := by
  funext q
  by_cases e : q = P + 2
  · subst e; rw [va_up_self, op_2]
  · rw [va_up_ne _ _ e]; simp [op, e]
theorem op_up3 {f : Nat → Int32} : va_up (op P M pc ps pf pz h) (P + 3) (some (.inl (0, M, .inl f))) = op P M pc ps f pz h := by
  funext q
  by_cases e : q = P + 3
  · subst e; rw [va_up_self, op_3]
  · rw [va_up_ne _ _ e]; simp [op, e]
theorem op_upz {v : Int32} : va_up (op P M pc ps pf pz h) P (some (.inr (1, [.ref (P + 1), .ref (P + 2), .ref (P + 3), .int pz].set 3 (.int v)))) = op P M pc ps pf v h := by
  funext q
  by_cases e : q = P
  · subst e; rw [va_up_self, op_0]; rfl
  · rw [va_up_ne _ _ e]; simp [op, e]
theorem q_r1 {K : Nat → Option β} : gR (op P M pc ps pf pz h) P 1 0 K = K (P + 1) := gR_at op_0 rfl
theorem q_r2 {K : Nat → Option β} : gR (op P M pc ps pf pz h) P 1 1 K = K (P + 2) := gR_at op_0 rfl
theorem q_r3 {K : Nat → Option β} : gR (op P M pc ps pf pz h) P 1 2 K = K (P + 3) := gR_at op_0 rfl
theorem q_z {K : Int32 → Option β} : gI (op P M pc ps pf pz h) P 1 3 K = K pz := gI_at op_0 rfl
theorem q_pz {v : Int32} {K : Hp → Option β} : pF (op P M pc ps pf pz h) P 1 3 (.int v) K = K (op P M pc ps pf v h) := by rw [pF_at op_0 (Nat.le_of_ble_eq_true rfl), op_upz]
theorem q_al {K : Int32 → Option β} : alen (op P M pc ps pf pz h) (P + 1) 0 K = K (nI M) := alen_at op_1
theorem q_l1 {j : Nat} {K : Int32 → Option β} (hj : j < M) (hM : M < 2 ^ 31) : ldI (op P M pc ps pf pz h) (P + 1) 0 (nI j) K = K (pc j) := ldI_at op_1 hj hM
theorem q_l2 {j : Nat} {K : Int32 → Option β} (hj : j < M) (hM : M < 2 ^ 31) : ldI (op P M pc ps pf pz h) (P + 2) 0 (nI j) K = K (ps j) := ldI_at op_2 hj hM
theorem q_l3 {j : Nat} {K : Int32 → Option β} (hj : j < M) (hM : M < 2 ^ 31) : ldI (op P M pc ps pf pz h) (P + 3) 0 (nI j) K = K (pf j) := ldI_at op_3 hj hM
theorem q_s1 {j : Nat} {v : Int32} {K : Hp → Option β} (hj : j < M) (hM : M < 2 ^ 31) : stI (op P M pc ps pf pz h) (P + 1) 0 (nI j) v K = K (op P M (upd pc j v) ps pf pz h) := by rw [stI_at op_1 hj hM, op_up1]
theorem q_s2 {j : Nat} {v : Int32} {K : Hp → Option β} (hj : j < M) (hM : M < 2 ^ 31) : stI (op P M pc ps pf pz h) (P + 2) 0 (nI j) v K = K (op P M pc (upd ps j v) pf pz h) := by rw [stI_at op_2 hj hM, op_up2]
theorem q_s3 {j : Nat} {v : Int32} {K : Hp → Option β} (hj : j < M) (hM : M < 2 ^ 31) : stI (op P M pc ps pf pz h) (P + 3) 0 (nI j) v K = K (op P M pc ps (upd pf j v) pz h) := by rw [stI_at op_3 hj hM, op_up3]
theorem q_o : isO (op P M pc ps pf pz h) P 1 = true := isO_at op_0
theorem ov_op {n a : Nat} {fm sz es hv : Int32} {cn sg pa fs sn lf : Nat → Int32} (hP : P + 3 < a) : ov n P a fm sz es hv cn sg pa fs sn lf (op P M pc ps pf pz h) = op P M pc ps pf pz (ov n P a fm sz es hv cn sg pa fs sn lf h) := by
  funext q
  by_cases e : q < P ∨ P + 3 < q
  · rw [op_out e]
    by_cases e2 : q < a ∨ a + 6 < q
    · rw [ov_out e2, ov_out e2, op_out e]
    · unfold ov
      by_cases a0 : q = a
      · rw [if_pos a0, if_pos a0]
      by_cases a1 : q = a + 1
      · rw [if_neg a0, if_neg a0, if_pos a1, if_pos a1]
      by_cases a2 : q = a + 2
      · rw [if_neg a0, if_neg a0, if_neg a1, if_neg a1, if_pos a2, if_pos a2]
      by_cases a3 : q = a + 3
      · rw [if_neg a0, if_neg a0, if_neg a1, if_neg a1, if_neg a2, if_neg a2, if_pos a3, if_pos a3]
      by_cases a4 : q = a + 4
      · rw [if_neg a0, if_neg a0, if_neg a1, if_neg a1, if_neg a2, if_neg a2, if_neg a3, if_neg a3, if_pos a4, if_pos a4]
      by_cases a5 : q = a + 5
      · rw [if_neg a0, if_neg a0, if_neg a1, if_neg a1, if_neg a2, if_neg a2, if_neg a3, if_neg a3, if_neg a4, if_neg a4, if_pos a5, if_pos a5]
      have a6 : q = a + 6 := by omega
      rw [if_neg a0, if_neg a0, if_neg a1, if_neg a1, if_neg a2, if_neg a2, if_neg a3, if_neg a3, if_neg a4, if_neg a4, if_neg a5, if_neg a5, if_pos a6, if_pos a6]
  · rw [ov_out (by omega)]
    unfold op
    by_cases a0 : q = P
    · rw [if_pos a0, if_pos a0]
    by_cases a1 : q = P + 1
    · rw [if_neg a0, if_neg a0, if_pos a1, if_pos a1]
    by_cases a2 : q = P + 2
    · rw [if_neg a0, if_neg a0, if_neg a1, if_neg a1, if_pos a2, if_pos a2]
    have a3 : q = P + 3 := by omega
    rw [if_neg a0, if_neg a0, if_neg a1, if_neg a1, if_neg a2, if_neg a2, if_pos a3, if_pos a3]
theorem e_has {j k : Nat} (hj : j < k) (hk : k ≤ M) (hM : M < 2 ^ 31) : FP_has (op P M pc ps pf (nI k) h) P (nI j) = some 1 := by
  unfold FP_has
  rw [jn_eq]
  try dsimp only
  rw [jn_eq]
  try dsimp only
  rw [if_neg (nI_pos (by omega)), q_z, if_neg (nI_ge hj (by omega)), q_r1, q_al, if_neg (nI_ge (show j < M by omega) hM)]
  rfl
theorem e_set {j k : Nat} {c s f : Int32} (hj : j < k) (hk : k ≤ M) (hM : M < 2 ^ 31) : FP_set (op P M pc ps pf (nI k) h) P (nI j) c s f = some (op P M (upd pc j c) (upd ps j s) (upd pf j f) (nI k) h) := by
  have hj' : j < M := by omega
  unfold FP_set
  rw [gd_t q_o, e_has hj hk hM, Option.bind_some, jn_eq]
  try dsimp only
  rw [if_neg (by decide), q_r1, q_s1 hj' hM, q_r2, q_s2 hj' hM, q_r3, q_s3 hj' hM]
theorem e_append {k : Nat} {c s : Int32} (hk : k < M) (hM : M < 2 ^ 31) : FP_append (op P M pc ps pf (nI k) h) P c s = some (op P M (upd pc k c) (upd ps k s) (upd pf k (-1)) (nI (k + 1)) h) := by
  unfold FP_append
  rw [q_z, q_r1, q_al, jn_eq]
  try dsimp only
  rw [if_neg (nI_ge hk hM), q_z, nI_1, q_pz, q_z, show nI (k + 1) - 1 = nI k from nI_pred k, gd_t q_o, e_set (Nat.lt_succ_self k) hk hM, Option.bind_some]
end OP
