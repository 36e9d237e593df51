/-! the class's HALVING, its loop -/
theorem fi_pre {a j m y k : Nat} (ha : a ≤ j) (hy : Vs m (j + 1) y) (e : fi a j y = k) : (k < a ∧ y = k) ∨ (a < k ∧ k ≤ j ∧ y = k - 1) ∨ (k = 2 * j + 1 ∧ y = j) ∨ (k = 2 * j + 2 ∧ y = j + 1) ∨ (2 * j + 3 ≤ k ∧ y = k) := by
  unfold Vs at hy
  unfold fi at e
  grind
theorem sm_ge {f : Nat → Nat} : ∀ (K k : Nat), k < K → f k ≤ sm K f
  | 0, k, h => absurd h (by omega)
  | K + 1, k, h => by
    rw [sm]
    rcases Nat.lt_or_ge k K with e | e
    · have := sm_ge (f := f) K k e; omega
    · have : k = K := by omega
      rw [this]; omega
def ownW (j m : Nat) (w : Nat → Nat) : Nat → Nat → Prop := fun i x => j ≤ i ∧ i < m ∧ w i = x
def HPi (j m : Nat) (c g w : Nat → Nat) (pc ps pf : Nat → Int32) : Prop := ∀ k, k ≤ j → pc k = nI (c k) ∧ ps k = sI (g k) ∧ (∀ i, j ≤ i → i < m → w i = k → pf k = nI (2 * i + 1)) ∧ (g k ≠ 0 → pf k = (-1))
def HTr (n j m : Nat) (S : Nat → Prop) (c g w : Nat → Nat) (es : Int32) (cn sg pa fs sn lf : Nat → Int32) : Prop := (∀ x, 2 * j + 1 ≤ x → x < 2 * m + 1 → HL (ownW j m w) c g es cn sg pa fs sn lf x) ∧ pa 0 = (-1) ∧ ∀ s, s < n → ¬ S s → lf s = (-1)
theorem ph_lt {a j x v : Nat} {f : Nat → Nat} (h : x < a) : ph a j f v x = f x := by unfold ph; rw [if_pos h]
theorem ph_mid {a j x v : Nat} {f : Nat → Nat} (h : a < x) (h2 : x ≤ j) : ph a j f v x = f (x - 1) := by unfold ph; rw [if_neg (by omega), if_neg (by omega), if_pos h2]
theorem ph_1 {a j v : Nat} {f : Nat → Nat} (h : a ≤ j) : ph a j f v (2 * j + 1) = f j := by unfold ph; rw [if_neg (by omega), if_neg (by omega), if_neg (by omega), if_pos rfl]
theorem ph_2 {a j v : Nat} {f : Nat → Nat} (h : a ≤ j) : ph a j f v (2 * j + 2) = f (j + 1) := by unfold ph; rw [if_neg (by omega), if_neg (by omega), if_neg (by omega), if_neg (by omega), if_pos rfl]
theorem ph_far {a j x v : Nat} {f : Nat → Nat} (h : a ≤ j) (hx : 2 * j + 3 ≤ x) : ph a j f v x = f x := by unfold ph; rw [if_neg (by omega), if_neg (by omega), if_neg (by omega), if_neg (by omega), if_neg (by omega)]
section HAL
variable {n P a : Nat} {fm hv : Int32} {h : Hp} {m S0 : Nat} {S : Nat → Prop}
theorem e_halve_loop {K : Hp → Option Hp} (hP : P + 3 < a) (hn : n ≤ 64) (hm : m ≤ n) (hS0 : S0 < 2 ^ 28) : ∀ (j W : Nat) (c g w : Nat → Nat) (es : Int32) (cn sg pa fs sn lf pc ps pf : Nat → Int32), j ≤ m → j < W → HV n m S0 S j c g w → HPi j m c g w pc ps pf → HTr n j m S c g w es cn sg pa fs sn lf →
    ∃ (es' : Int32) (cn' sg' pa' fs' sn' lf' pc' ps' pf' : Nat → Int32), lpG (fun _ _ => none) W (LT_halve_9 a K) (ov n P a fm (nI (2 * m + 1)) es hv cn sg pa fs sn lf (op P (n + 1) pc ps pf (nI (j + 1)) h)) (nI (2 * j + 1)) = K (ov n P a fm (nI (2 * m + 1)) es' hv cn' sg' pa' fs' sn' lf' (op P (n + 1) pc' ps' pf' (nI 1) h)) ∧ HPi 0 m (hvL j c g w).1 (hvL j c g w).2.1 (hvL j c g w).2.2 pc' ps' pf' ∧ HTr n 0 m S (hvL j c g w).1 (hvL j c g w).2.1 (hvL j c g w).2.2 es' cn' sg' pa' fs' sn' lf'
  | j, 0, c, g, w, es, cn, sg, pa, fs, sn, lf, pc, ps, pf, hj, hW, hV, hp, ht => absurd hW (by omega)
  | 0, W + 1, c, g, w, es, cn, sg, pa, fs, sn, lf, pc, ps, pf, hj, hW, hV, hp, ht => by
    rw [lpG_s, LT_halve_9.eq_1, r_P, gI_out (Or.inl (by omega)), q_z, if_pos (by decide)]
    exact ⟨es, cn, sg, pa, fs, sn, lf, pc, ps, pf, rfl, hp, ht⟩
  | j + 1, W + 1, c, g, w, es, cn, sg, pa, fs, sn, lf, pc, ps, pf, hj, hW, hV, hp, ht => by
    have V1 := HV_step (show j < m by omega) hV
    obtain ⟨v1, v2, v3, v4, v5, v6, v7, v8, v9, v10, v11⟩ := hV
    have hcb : ∀ k, k ≤ j + 1 → c k < 2 ^ 28 := fun k hk => by have := sm_ge (f := c) (j + 1 + 1) k (by omega); omega
    rw [hvL_s]
    have a1 := inP_le c (c j + c (j + 1)) j
    have e2 : (2 : Int32) = nI 2 := rfl
    have ef : nI (2 * (j + 1) + 1) + (-2) = nI (2 * j + 1) := by
      have : nI (2 * (j + 1) + 1) + (-2) = nI (2 * j + 1 + 2) - 2 := by rw [Int32.sub_eq_add_neg]; rfl
      rw [this]; exact nI_s2
    have ef1 : nI (2 * j + 1) + 1 = nI (2 * j + 2) := nI_1 _
    have pj := hp j (by omega)
    have pj1 := hp (j + 1) (by omega)
    -- what the fills are given
    have gb : ∀ k, k ≤ j + 1 → g k < n + 2 := fun k hk => by
      by_cases e : k = (if j + 1 = m then m else 2 * m)
      · rw [e, v6.1]; omega
      · exact (v7 k (Or.inl hk) e).2.1
    have FAk : ∀ (k y : Nat) (own : Nat → Nat → Prop) (gy : Nat), k ≤ j + 1 → gy = g k → (∀ i, own i y ↔ (j + 1 ≤ i ∧ i < m ∧ w i = k)) → FA n own gy y (pf k) (if pf k = (-1) then (-1) else pf k + 1) := fun k y own gy hk hg ho => by
      have pk := hp k hk
      subst hg
      refine ⟨fun i hi => ?_, fun e => ?_, fun e => ?_, gb k hk⟩
      · obtain ⟨q1, q2, q3⟩ := (ho i).mp hi
        have := pk.2.2.1 i q1 q2 q3
        rw [this, if_neg (m1_nI (by omega))]
        exact ⟨rfl, nI_1 _, by omega⟩
      · rw [pk.2.2.2 e]; exact ⟨rfl, if_pos rfl⟩
      · obtain ⟨i, q1, q2, q3⟩ := (v5 k (Or.inl hk)).mp e
        exact ⟨i, (ho i).mpr ⟨q1, q2, q3⟩⟩
    have ok0 : okF n (2 * m + 1) (ps j) (pf j) (if pf j = (-1) then (-1) else pf j + 1) := by
      rw [pj.2.1]
      exact (FAk j j (fun i x => j + 1 ≤ i ∧ i < m ∧ w i = j) (g j) (by omega) rfl (fun i => Iff.rfl)).ok (fun i hi => hi.2.1)
    have ok1 : okF n (2 * m + 1) (ps (j + 1)) (pf (j + 1)) (if pf (j + 1) = (-1) then (-1) else pf (j + 1) + 1) := by
      rw [pj1.2.1]
      exact (FAk (j + 1) (j + 1) (fun i x => j + 1 ≤ i ∧ i < m ∧ w i = j + 1) (g (j + 1)) (by omega) rfl (fun i => Iff.rfl)).ok (fun i hi => hi.2.1)
    obtain ⟨pc', ps', pf', r1, r2, r3, r4⟩ := e_join (P := P) (M := n + 1) (j := j) (c := c) (pc := pc) (ps := ps) (pf := pf) (fr := nI (2 * j + 1)) (h := ov n P a fm (nI (2 * m + 1)) (fEs (fEs es (2 * j + 1) (ps j) (pf j)) (2 * j + 2) (ps (j + 1)) (pf (j + 1))) hv (upd (upd cn (2 * j + 1) (pc j)) (2 * j + 2) (pc (j + 1))) (upd (upd sg (2 * j + 1) (ps j)) (2 * j + 2) (ps (j + 1))) (fPa (fPa pa (2 * j + 1) (pf j) (if pf j = (-1) then (-1) else pf j + 1)) (2 * j + 2) (pf (j + 1)) (if pf (j + 1) = (-1) then (-1) else pf (j + 1) + 1)) (upd (upd fs (2 * j + 1) (pf j)) (2 * j + 2) (pf (j + 1))) (upd (upd sn (2 * j + 1) (if pf j = (-1) then (-1) else pf j + 1)) (2 * j + 2) (if pf (j + 1) = (-1) then (-1) else pf (j + 1) + 1)) (fLf (fLf lf (2 * j + 1) (ps j) (pf j)) (2 * j + 2) (ps (j + 1)) (pf (j + 1))) h) (by omega) (by omega) (fun x hx => ⟨(hp x hx).1, by have := hcb x hx; omega⟩)
    rw [lpG_s, LT_halve_9.eq_1, r_P, gI_out (Or.inl (by omega)), q_z, if_neg (by rw [e2]; exact nI_nlt (by omega) (by omega)), if_neg (by rw [e2]; exact nI_ge (by omega) (by omega)), r_P, gI_out (Or.inl (by omega)), q_z, ef, show nI (j + 1 + 1) - 2 = nI j from nI_s2, gd_t o_ov, e_settle hP hn (by omega) (show 2 * j + 1 < 2 * m + 1 by omega) (show j < j + 1 + 1 by omega) (by omega) (by omega) ok0, Option.bind_some, r_P, gI_out (Or.inl (by omega)), q_z, show nI (j + 1 + 1) - 1 = nI (j + 1) from nI_pred (j + 1), ef1, gd_t o_ov, e_settle hP hn (by omega) (show 2 * j + 2 < 2 * m + 1 by omega) (show j + 1 < j + 1 + 1 by omega) (by omega) (by omega) ok1, Option.bind_some, r_P, ov_op hP, gd_t q_o, r1, Option.bind_some, ← ov_op hP]
    generalize inP c (c j + c (j + 1)) j = at' at a1 r2 r3 r4 V1 ⊢
    -- the new pieces
    have w2 : wn at' j w j = at' := by unfold wn; rw [if_pos rfl]
    have w1 : ∀ i, j + 1 ≤ i → wn at' j w i = fi at' j (w i) := fun i hi => by unfold wn; rw [if_neg (by omega)]
    have OW : ∀ i x, ownW j m (wn at' j w) i x ↔ (i = j ∧ x = at') ∨ (j + 1 ≤ i ∧ i < m ∧ fi at' j (w i) = x) := fun i x => by
      unfold ownW
      constructor
      · rintro ⟨q1, q2, q3⟩
        by_cases e : i = j
        · subst e; rw [w2] at q3; exact Or.inl ⟨rfl, q3.symm⟩
        · rw [w1 i (by omega)] at q3; exact Or.inr ⟨by omega, q2, q3⟩
      · rintro (⟨q1, q2⟩ | ⟨q1, q2, q3⟩)
        · subst q1; exact ⟨Nat.le_refl _, by omega, by rw [w2]; exact q2.symm⟩
        · exact ⟨by omega, q2, by rw [w1 i q1]; exact q3⟩
    have f1 : fi at' j j = 2 * j + 1 := by unfold fi; rw [if_neg (by omega), if_neg (by omega), if_pos rfl]
    have f2 : fi at' j (j + 1) = 2 * j + 2 := by unfold fi; rw [if_neg (by omega), if_neg (by omega), if_neg (by omega), if_pos rfl]
    have f3 : ∀ y, 2 * j + 3 ≤ y → fi at' j y = y := fun y hy => by unfold fi; rw [if_neg (by omega), if_neg (by omega), if_neg (by omega), if_neg (by omega)]
    have hp' : HPi j m (ph at' j c (c j + c (j + 1))) (ph at' j g 0) (wn at' j w) pc' ps' pf' := by
      intro k hk
      rcases Nat.lt_trichotomy k at' with q | q | q
      · obtain ⟨b1, b2, b3⟩ := r2 k q
        obtain ⟨d1, d2, d3, d4⟩ := hp k (by omega)
        rw [ph_lt q, ph_lt q, b1, b2, b3]
        refine ⟨d1, d2, fun i i1 i2 i3 => ?_, d4⟩
        rcases (OW i k).mp ⟨i1, i2, i3⟩ with ⟨q1, q2⟩ | ⟨q1, q2, q3⟩
        · omega
        · rcases fi_pre a1 (v1 i q1 q2).1 q3 with z | z | z | z | z
          · exact d3 i q1 q2 z.2
          all_goals omega
      · obtain ⟨b1, b2, b3⟩ := r3 k q
        subst q
        rw [ph_at, ph_at, b1, b2, b3]
        refine ⟨rfl, rfl, fun i i1 i2 i3 => ?_, fun e => absurd rfl e⟩
        rcases (OW i k).mp ⟨i1, i2, i3⟩ with ⟨q1, q2⟩ | ⟨q1, q2, q3⟩
        · rw [q1]
        · rcases fi_pre a1 (v1 i q1 q2).1 q3 with z | z | z | z | z
          all_goals omega
      · obtain ⟨b1, b2, b3⟩ := r4 k q hk
        obtain ⟨d1, d2, d3, d4⟩ := hp (k - 1) (by omega)
        rw [ph_mid q hk, ph_mid q hk, b1, b2, b3]
        refine ⟨d1, d2, fun i i1 i2 i3 => ?_, d4⟩
        rcases (OW i k).mp ⟨i1, i2, i3⟩ with ⟨q1, q2⟩ | ⟨q1, q2, q3⟩
        · omega
        · rcases fi_pre a1 (v1 i q1 q2).1 q3 with z | z | z | z | z
          · omega
          · exact d3 i q1 q2 z.2.2
          all_goals omega
    have ht' : HTr n j m S (ph at' j c (c j + c (j + 1))) (ph at' j g 0) (wn at' j w) (fEs (fEs es (2 * j + 1) (ps j) (pf j)) (2 * j + 2) (ps (j + 1)) (pf (j + 1))) (upd (upd cn (2 * j + 1) (pc j)) (2 * j + 2) (pc (j + 1))) (upd (upd sg (2 * j + 1) (ps j)) (2 * j + 2) (ps (j + 1))) (fPa (fPa pa (2 * j + 1) (pf j) (if pf j = (-1) then (-1) else pf j + 1)) (2 * j + 2) (pf (j + 1)) (if pf (j + 1) = (-1) then (-1) else pf (j + 1) + 1)) (upd (upd fs (2 * j + 1) (pf j)) (2 * j + 2) (pf (j + 1))) (upd (upd sn (2 * j + 1) (if pf j = (-1) then (-1) else pf j + 1)) (2 * j + 2) (if pf (j + 1) = (-1) then (-1) else pf (j + 1) + 1)) (fLf (fLf lf (2 * j + 1) (ps j) (pf j)) (2 * j + 2) (ps (j + 1)) (pf (j + 1))) := by
      obtain ⟨t1, t2, t3⟩ := ht
      have gg1 : ph at' j g 0 (2 * j + 1) = g j := ph_1 a1
      have gg2 : ph at' j g 0 (2 * j + 2) = g (j + 1) := ph_2 a1
      have cc1 : ph at' j c (c j + c (j + 1)) (2 * j + 1) = c j := ph_1 a1
      have cc2 : ph at' j c (c j + c (j + 1)) (2 * j + 2) = c (j + 1) := ph_2 a1
      have A1 : FA n (ownW j m (wn at' j w)) (ph at' j g 0 (2 * j + 1)) (2 * j + 1) (pf j) (if pf j = (-1) then (-1) else pf j + 1) := FAk j (2 * j + 1) _ _ (by omega) gg1 (fun i => by
        rw [OW]
        constructor
        · rintro (⟨q1, q2⟩ | ⟨q1, q2, q3⟩)
          · omega
          · rcases fi_pre a1 (v1 i q1 q2).1 q3 with z | z | z | z | z
            all_goals first | omega | exact ⟨q1, q2, by omega⟩
        · rintro ⟨q1, q2, q3⟩
          exact Or.inr ⟨q1, q2, by rw [q3]; exact f1⟩)
      have A2 : FA n (ownW j m (wn at' j w)) (ph at' j g 0 (2 * j + 2)) (2 * j + 2) (pf (j + 1)) (if pf (j + 1) = (-1) then (-1) else pf (j + 1) + 1) := FAk (j + 1) (2 * j + 2) _ _ (by omega) gg2 (fun i => by
        rw [OW]
        constructor
        · rintro (⟨q1, q2⟩ | ⟨q1, q2, q3⟩)
          · omega
          · rcases fi_pre a1 (v1 i q1 q2).1 q3 with z | z | z | z | z
            all_goals first | omega | exact ⟨q1, q2, by omega⟩
        · rintro ⟨q1, q2, q3⟩
          exact Or.inr ⟨q1, q2, by rw [q3]; exact f2⟩)
      have o1 : ps j = sI (ph at' j g 0 (2 * j + 1)) := by rw [gg1]; exact pj.2.1
      have o2 : ps (j + 1) = sI (ph at' j g 0 (2 * j + 2)) := by rw [gg2]; exact pj1.2.1
      have o3 : pc j = nI (ph at' j c (c j + c (j + 1)) (2 * j + 1)) := by rw [cc1]; exact pj.1
      have o4 : pc (j + 1) = nI (ph at' j c (c j + c (j + 1)) (2 * j + 2)) := by rw [cc2]; exact pj1.1
      rw [o1, o2, o3, o4]
      have D : ∀ x y, 2 * j + 1 ≤ x → x < 2 * m + 1 → 2 * j + 1 ≤ y → y < 2 * m + 1 → x ≠ y → ph at' j g 0 x = ph at' j g 0 y → ph at' j g 0 x = 0 := fun x y h1 h2 h3 h4 hne e => Classical.byContradiction fun q => hne (V1.2.2.2.2.2.2.2.1 x y (Or.inr ⟨h1, by omega⟩) (Or.inr ⟨h3, by omega⟩) e q)
      have OU : ∀ i x y, x ≠ y → ownW j m (wn at' j w) i x → ¬ ownW j m (wn at' j w) i y := fun i x y hne q1 q2 => hne (q1.2.2.symm.trans q2.2.2)
      refine ⟨fun x hx1 hx2 => ?_, ?_, fun s hs hns => ?_⟩
      · by_cases x2 : x = 2 * j + 2
        · subst x2
          exact HL_self hn A2
        · refine HL_other hn A2 x2 (fun i => OU i _ _ x2) (D _ _ hx1 hx2 (by omega) (by omega) x2) ?_
          by_cases x1 : x = 2 * j + 1
          · subst x1
            exact HL_self hn A1
          · refine HL_other hn A1 x1 (fun i => OU i _ _ x1) (D _ _ hx1 hx2 (by omega) (by omega) x1) ?_
            obtain ⟨l1, l2, l3, l4, l5, l6⟩ := t1 x (by omega) hx2
            have gx : ph at' j g 0 x = g x := ph_far a1 (by omega)
            have cx : ph at' j c (c j + c (j + 1)) x = c x := ph_far a1 (by omega)
            refine ⟨by rw [cx]; exact l1, by rw [gx]; exact l2, fun i hi => ?_, fun e => l4 (by rw [← gx]; exact e), fun e => l5 (by rw [← gx]; exact e), fun s e => l6 s (by rw [← gx]; exact e)⟩
            rcases (OW i x).mp hi with ⟨q1, q2⟩ | ⟨q1, q2, q3⟩
            · omega
            · rcases fi_pre a1 (v1 i q1 q2).1 q3 with z | z | z | z | z
              all_goals first | omega | exact l3 i ⟨q1, q2, z.2⟩
      · rcases A2.xpa hn (pa := fPa pa (2 * j + 1) (pf j) (if pf j = (-1) then (-1) else pf j + 1)) 0 with ⟨i, -, q, -⟩ | ⟨-, q⟩
        · omega
        · rw [q]
          rcases A1.xpa hn (pa := pa) 0 with ⟨i, -, q, -⟩ | ⟨-, q⟩
          · omega
          · rw [q]; exact t2
      · have ne : ∀ k, k ≤ j + 1 → g k ≠ s + 2 := fun k hk e => hns ((v9 s).mp ⟨k, Or.inl hk, e⟩)
        rcases A2.xlf hn (lf := fLf lf (2 * j + 1) (sI (ph at' j g 0 (2 * j + 1))) (pf j)) s with ⟨q, -⟩ | ⟨-, q⟩
        · rw [gg2] at q; exact absurd q (ne _ (by omega))
        · rw [q]
          rcases A1.xlf hn (lf := lf) s with ⟨q, -⟩ | ⟨-, q⟩
          · rw [gg1] at q; exact absurd q (ne _ (by omega))
          · rw [q]; exact t3 s hs hns
    exact e_halve_loop hP hn hm hS0 j W _ _ _ _ _ _ _ _ _ _ _ _ _ (by omega) (by omega) V1 hp' ht'
end HAL
