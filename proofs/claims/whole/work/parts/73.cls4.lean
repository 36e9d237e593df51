/-! the class's HALVING -/
theorem updE {f : Nat → Int32} {y : Nat} {v : Int32} : upd f y v y = v := if_pos rfl
theorem updN {f : Nat → Int32} {x y : Nat} {v : Int32} (h : x ≠ y) : upd f y v x = f x := if_neg h
theorem nI_m1 {k : Nat} : nI (k + 1) + (-1) = nI k := by
  have e : nI (k + 1) = nI k + 1 := nI_succ k
  rw [e]
  have e2 : (nI k + 1) + (-1 : Int32) = nI k + (1 + (-1)) := Int32.add_assoc _ _ _
  rw [e2]
  have e3 : (1 : Int32) + (-1) = 0 := by decide
  rw [e3, Int32.add_zero]
theorem nI_s1 {k : Nat} : nI (k + 1) - 1 = nI k := nI_pred k
theorem nI_s2 {k : Nat} : nI (k + 2) - 2 = nI k := pk_sub (a := k + 2) (b := 2) (by omega)
theorem e_join_loop {P M j z : Nat} {c : Nat → Nat} {t1 t2 : Int32} {t : Nat} {h : Hp} {K : Hp → Int32 → Option Hp} (hM : M < 2 ^ 31) (hj : j < z) (hz : z ≤ M) (ht : t1 + t2 = nI t) (htb : t < 2 ^ 31) : ∀ (k w : Nat) (pc ps pf : Nat → Int32), k < w → k ≤ j → (∀ x, x < k → pc x = nI (c x) ∧ c x < 2 ^ 31) →
    ∃ pc' ps' pf' : Nat → Int32, lpG (fun _ _ => none) w (LP_joinLastTwo_52 P t1 t2 K) (op P M pc ps pf (nI z) h) (nI k) = K (op P M pc' ps' pf' (nI z) h) (nI (inP c t k)) ∧ (∀ x, x < inP c t k → pc' x = pc x ∧ ps' x = ps x ∧ pf' x = pf x) ∧ (∀ x, inP c t k < x → x ≤ k → pc' x = pc (x - 1) ∧ ps' x = ps (x - 1) ∧ pf' x = pf (x - 1)) ∧ (∀ x, k < x → pc' x = pc x ∧ ps' x = ps x ∧ pf' x = pf x)
  | k, 0, pc, ps, pf, hw, _, _ => absurd hw (by omega)
  | 0, w + 1, pc, ps, pf, hw, _, _ => by
    rw [lpG_s, LP_joinLastTwo_52.eq_1, if_pos (by decide)]
    exact ⟨pc, ps, pf, rfl, fun x hx => ⟨rfl, rfl, rfl⟩, fun x h1 h2 => absurd h1 (by show ¬ 0 < x; omega), fun x hx => ⟨rfl, rfl, rfl⟩⟩
  | k + 1, w + 1, pc, ps, pf, hw, hk, hc => by
    have hck := hc k (by omega)
    rw [lpG_s, LP_joinLastTwo_52.eq_1, if_neg (nI_nle (by omega) (by omega)), nI_s1, q_r1, q_l1 (show k < M by omega) hM, ht, hck.1]
    by_cases e : c k < t
    · rw [if_neg (nI_ge e htb), q_r1, q_l1 (show k < M by omega) hM, q_r2, q_l2 (show k < M by omega) hM, q_r3, q_l3 (show k < M by omega) hM, gd_t q_o, e_set (show k + 1 < z by omega) hz hM, Option.bind_some, nI_m1]
      obtain ⟨pc', ps', pf', r1, r2, r3, r4⟩ := e_join_loop (P := P) (c := c) (z := z) (h := h) (K := K) hM hj hz ht htb k w (upd pc (k + 1) (pc k)) (upd ps (k + 1) (ps k)) (upd pf (k + 1) (pf k)) (by omega) (by omega) (fun x hx => by
        unfold upd; rw [if_neg (by omega)]; exact hc x (by omega))
      have ei : inP c t (k + 1) = inP c t k := by rw [inP, if_pos e]
      rw [ei]
      have hle := inP_le c t k
      refine ⟨pc', ps', pf', r1, fun x hx => ?_, fun x h1 h2 => ?_, fun x hx => ?_⟩
      · have := r2 x hx
        unfold upd at this
        rw [if_neg (by omega), if_neg (by omega), if_neg (by omega)] at this
        exact this
      · rcases Nat.lt_or_ge k x with q | q
        · have := r4 x q
          have hx : x = k + 1 := by omega
          subst hx
          unfold upd at this
          rw [if_pos rfl, if_pos rfl, if_pos rfl] at this
          exact this
        · have := r3 x h1 q
          unfold upd at this
          rw [if_neg (by omega), if_neg (by omega), if_neg (by omega)] at this
          exact this
      · have := r4 x (by omega)
        unfold upd at this
        rw [if_neg (by omega), if_neg (by omega), if_neg (by omega)] at this
        exact this
    · rw [if_pos (nI_le (by omega) hck.2)]
      have ei : inP c t (k + 1) = k + 1 := by rw [inP, if_neg e]
      rw [ei]
      exact ⟨pc, ps, pf, rfl, fun x hx => ⟨rfl, rfl, rfl⟩, fun x h1 h2 => absurd h1 (by omega), fun x hx => ⟨rfl, rfl, rfl⟩⟩
theorem e_join {P M j : Nat} {c : Nat → Nat} {pc ps pf : Nat → Int32} {h : Hp} {fr : Int32} (hM1 : M < 1000) (hj : j + 1 < M) (hc : ∀ x, x ≤ j + 1 → pc x = nI (c x) ∧ c x < 2 ^ 29) :
    ∃ pc' ps' pf' : Nat → Int32, FP_joinLastTwo (op P M pc ps pf (nI (j + 2)) h) P fr = some (op P M pc' ps' pf' (nI (j + 1)) h) ∧ (∀ x, x < inP c (c j + c (j + 1)) j → pc' x = pc x ∧ ps' x = ps x ∧ pf' x = pf x) ∧ (∀ x, x = inP c (c j + c (j + 1)) j → pc' x = nI (c j + c (j + 1)) ∧ ps' x = (-1) ∧ pf' x = fr) ∧ (∀ x, inP c (c j + c (j + 1)) j < x → x ≤ j → pc' x = pc (x - 1) ∧ ps' x = ps (x - 1) ∧ pf' x = pf (x - 1)) := by
  have hM : M < 2 ^ 31 := by omega
  have h1 := hc j (by omega)
  have h2 := hc (j + 1) (by omega)
  have e2 : (2 : Int32) = nI 2 := rfl
  unfold FP_joinLastTwo
  rw [q_z, jn_eq]
  try dsimp only
  rw [if_neg (by rw [e2]; exact nI_nlt (by omega) (by omega)), q_z, q_r1, q_al, if_pos (nI_le (show j + 2 ≤ M by omega) (by omega)), q_r1, q_z, nI_s2, q_l1 (show j < M by omega) hM, q_r1, q_z, show nI (j + 2) - 1 = nI (j + 1) from nI_pred (j + 1), q_l1 hj hM, q_z, nI_s2, jn_eq]
  try dsimp only
  obtain ⟨pc', ps', pf', r1, r2, r3, r4⟩ := e_join_loop (P := P) (M := M) (j := j) (c := c) (t1 := pc j) (t2 := pc (j + 1)) (t := c j + c (j + 1)) (z := j + 2) (h := h) (K := fun (h9 : Hp) (x10 : Int32) => gd (isO h9 P 1 = true) ((FP_set h9 P x10 (pc j + pc (j + 1)) (-1) fr).bind (fun r13 => gI r13 P 1 3 (fun x14 => pF r13 P 1 3 (.int (x14 - 1)) (fun h15 => some h15))))) hM (by omega) (by omega) (by rw [h1.1, h2.1]; exact nI_add _ _) (by omega) j fu pc ps pf (by show j < 100000; omega) (Nat.le_refl _) (fun x hx => ⟨(hc x (by omega)).1, by have := (hc x (by omega)).2; omega⟩)
  have hle := inP_le c (c j + c (j + 1)) j
  rw [r1]
  try dsimp only
  rw [gd_t q_o, e_set (show inP c (c j + c (j + 1)) j < j + 2 by omega) (show j + 2 ≤ M by omega) hM, Option.bind_some, q_z, show nI (j + 2) - 1 = nI (j + 1) from nI_pred (j + 1), q_pz]
  refine ⟨_, _, _, rfl, fun x hx => ?_, fun x hx => ?_, fun x hx hx2 => ?_⟩
  · unfold upd; rw [if_neg (by omega), if_neg (by omega), if_neg (by omega)]; exact r2 x hx
  · unfold upd; rw [if_pos hx, if_pos hx, if_pos hx, h1.1, h2.1]; exact ⟨nI_add _ _, rfl, rfl⟩
  · unfold upd; rw [if_neg (by omega), if_neg (by omega), if_neg (by omega)]; exact r3 x hx hx2
/-- what stands at a place, with any rule of who owns a pair -/
def HL (own : Nat → Nat → Prop) (c g : Nat → Nat) (es : Int32) (cn sg pa fs sn lf : Nat → Int32) (x : Nat) : Prop :=
  cn x = nI (c x) ∧ sg x = sI (g x) ∧ (∀ i, own i x → fs x = nI (2 * i + 1) ∧ sn x = nI (2 * i + 2) ∧ pa (2 * i + 1) = nI x ∧ pa (2 * i + 2) = nI x) ∧ (g x ≠ 0 → fs x = (-1) ∧ sn x = (-1)) ∧ (g x = 1 → es = nI x) ∧ ∀ s, g x = s + 2 → lf s = nI x
def FA (n : Nat) (own : Nat → Nat → Prop) (gy y : Nat) (f gg : Int32) : Prop := (∀ i, own i y → f = nI (2 * i + 1) ∧ gg = nI (2 * i + 2) ∧ i < n) ∧ (gy ≠ 0 → f = (-1) ∧ gg = (-1)) ∧ (gy = 0 → ∃ i, own i y) ∧ gy < n + 2
section HLF
variable {n y x : Nat} {own : Nat → Nat → Prop} {c g : Nat → Nat} {f gg es : Int32} {cn sg pa fs sn lf : Nat → Int32}
theorem FA.ok {m : Nat} (hA : FA n own (g y) y f gg) (hb : ∀ i, own i y → i < m) : okF n (2 * m + 1) (sI (g y)) f gg := by
  obtain ⟨a1, a2, a3, a4⟩ := hA
  by_cases e : g y = 0
  · obtain ⟨i, hi⟩ := a3 e
    obtain ⟨b1, b2, b3⟩ := a1 i hi
    have b4 := hb i hi
    exact Or.inl ⟨_, _, b1, b2, by omega, by omega⟩
  · refine Or.inr ⟨(a2 e).1, ?_⟩
    generalize g y = z at e a4
    match z, e, a4 with
    | 0, e, _ => exact absurd rfl e
    | 1, _, _ => exact Or.inl rfl
    | s + 2, _, hb => exact Or.inr ⟨s, rfl, by omega⟩
theorem FA.xpa (hn : n ≤ 64) (hA : FA n own (g y) y f gg) (z : Nat) : (∃ i, own i y ∧ (z = 2 * i + 1 ∨ z = 2 * i + 2) ∧ fPa pa y f gg z = nI y) ∨ ((∀ i, own i y → ¬ (z = 2 * i + 1 ∨ z = 2 * i + 2)) ∧ fPa pa y f gg z = pa z) := by
  obtain ⟨a1, a2, a3, a4⟩ := hA
  by_cases e : g y = 0
  · obtain ⟨i, hi⟩ := a3 e
    obtain ⟨b1, b2, b3⟩ := a1 i hi
    have E : fPa pa y f gg z = if z = 2 * i + 2 then nI y else if z = 2 * i + 1 then nI y else pa z := by
      unfold fPa
      rw [b1, b2, if_neg (m1_nI (by omega)), nI_clamp (by omega), nI_clamp (by omega)]
      rfl
    by_cases e1 : z = 2 * i + 1 ∨ z = 2 * i + 2
    · left
      refine ⟨i, hi, e1, ?_⟩
      rw [E]
      rcases e1 with q | q
      · rw [if_neg (by omega), if_pos q]
      · rw [if_pos q]
    · right
      refine ⟨fun i' hi' q => ?_, ?_⟩
      · have := (a1 i' hi').1
        rw [b1, nI_eq (by omega) (by have := (a1 i' hi').2.2; omega)] at this
        exact e1 (by omega)
      · rw [E, if_neg (fun q => e1 (Or.inr q)), if_neg (fun q => e1 (Or.inl q))]
  · right
    refine ⟨fun i hi => ?_, ?_⟩
    · have := (a1 i hi).1
      rw [(a2 e).1] at this
      exact absurd this.symm (m1_nI (by have := (a1 i hi).2.2; omega))
    · unfold fPa; rw [if_pos (a2 e).1]
theorem FA.xlf (hn : n ≤ 64) (hA : FA n own (g y) y f gg) (s : Nat) : (g y = s + 2 ∧ fLf lf y (sI (g y)) f s = nI y) ∨ (g y ≠ s + 2 ∧ fLf lf y (sI (g y)) f s = lf s) := by
  obtain ⟨a1, a2, a3, a4⟩ := hA
  by_cases e : g y = s + 2
  · left
    refine ⟨e, ?_⟩
    unfold fLf
    rw [e, if_pos ⟨(a2 (by omega)).1, m2_nI (by omega)⟩]
    show upd lf (nI s).toNatClampNeg (nI y) s = _
    rw [nI_clamp (by omega)]
    unfold upd; rw [if_pos rfl]
  · right
    refine ⟨e, ?_⟩
    unfold fLf
    by_cases e1 : f = (-1) ∧ ¬ sI (g y) = (-2)
    · rw [if_pos e1]
      have e0 : g y ≠ 0 := fun q => by
        obtain ⟨i, hi⟩ := a3 q
        have := a1 i hi
        rw [e1.1] at this
        exact m1_nI (by omega) this.1.symm
      have e2 : g y ≠ 1 := fun q => e1.2 (by rw [q]; rfl)
      obtain ⟨s', hs'⟩ : ∃ s', g y = s' + 2 := ⟨g y - 2, by omega⟩
      rw [hs']
      show upd lf (nI s').toNatClampNeg (nI y) s = _
      rw [nI_clamp (by omega)]
      unfold upd; rw [if_neg (by omega)]
    · rw [if_neg e1]
theorem FA.xes (hn : n ≤ 64) (hA : FA n own (g y) y f gg) : (g y = 1 → fEs es y (sI (g y)) f = nI y) ∧ (g y ≠ 1 → fEs es y (sI (g y)) f = es) := by
  obtain ⟨a1, a2, a3, a4⟩ := hA
  constructor
  · intro e
    unfold fEs
    rw [e, if_pos ⟨(a2 (by omega)).1, rfl⟩]
  · intro e
    unfold fEs
    rw [if_neg]
    rintro ⟨-, q⟩
    rw [sI_m2 (by omega)] at q
    exact e q
theorem HL_self (hn : n ≤ 64) (hA : FA n own (g y) y f gg) : HL own c g (fEs es y (sI (g y)) f) (upd cn y (nI (c y))) (upd sg y (sI (g y))) (fPa pa y f gg) (upd fs y f) (upd sn y gg) (fLf lf y (sI (g y)) f) y := by
  refine ⟨updE, updE, fun i hi => ?_, fun e => ?_, fun e => (hA.xes hn).1 e, fun s e => ?_⟩
  · rw [updE, updE]
    refine ⟨(hA.1 i hi).1, (hA.1 i hi).2.1, ?_, ?_⟩
    · rcases hA.xpa hn (pa := pa) (2 * i + 1) with ⟨_, _, _, q⟩ | ⟨q, -⟩
      · exact q
      · exact absurd (Or.inl rfl) (q i hi)
    · rcases hA.xpa hn (pa := pa) (2 * i + 2) with ⟨_, _, _, q⟩ | ⟨q, -⟩
      · exact q
      · exact absurd (Or.inr rfl) (q i hi)
  · rw [updE, updE]
    exact hA.2.1 e
  · rcases hA.xlf hn (lf := lf) s with ⟨-, q⟩ | ⟨q, -⟩
    · exact q
    · exact absurd e q
theorem HL_other (hn : n ≤ 64) (hA : FA n own (g y) y f gg) (hxy : x ≠ y) (ho : ∀ i, own i x → ¬ own i y) (hg : g x = g y → g x = 0) (h : HL own c g es cn sg pa fs sn lf x) : HL own c g (fEs es y (sI (g y)) f) (upd cn y (nI (c y))) (upd sg y (sI (g y))) (fPa pa y f gg) (upd fs y f) (upd sn y gg) (fLf lf y (sI (g y)) f) x := by
  obtain ⟨h1, h2, h3, h4, h5, h6⟩ := h
  refine ⟨by rw [updN hxy]; exact h1, by rw [updN hxy]; exact h2, fun i hi => ?_, fun e => ?_, fun e => ?_, fun s e => ?_⟩
  · rw [updN hxy, updN hxy]
    have := h3 i hi
    refine ⟨this.1, this.2.1, ?_, ?_⟩
    · rcases hA.xpa hn (pa := pa) (2 * i + 1) with ⟨i', q1, q2, -⟩ | ⟨-, q⟩
      · have : i' = i := by omega
        subst this
        exact absurd q1 (ho i' hi)
      · rw [q]; exact this.2.2.1
    · rcases hA.xpa hn (pa := pa) (2 * i + 2) with ⟨i', q1, q2, -⟩ | ⟨-, q⟩
      · have : i' = i := by omega
        subst this
        exact absurd q1 (ho i' hi)
      · rw [q]; exact this.2.2.2
  · rw [updN hxy, updN hxy]
    exact h4 e
  · rw [(hA.xes hn).2 (fun q => by have := hg (by omega); omega)]
    exact h5 e
  · rcases hA.xlf hn (lf := lf) s with ⟨q, -⟩ | ⟨-, q⟩
    · have := hg (by omega); omega
    · rw [q]; exact h6 s e
end HLF
section SET
variable {n P a M : Nat} {fm sz es hv pz : Int32} {cn sg pa fs sn lf pc ps pf : Nat → Int32} {h : Hp}
theorem e_settle {k x z N : Nat} (hP : P + 3 < a) (hn : n ≤ 64) (hN : N ≤ 2 * n + 1) (hx : x < N) (hk : k < z) (hz : z ≤ M) (hM : M < 2 ^ 31) (hok : okF n N (ps k) (pf k) (if pf k = (-1) then (-1) else pf k + 1)) : FT_settle (ov n P a fm (nI N) es hv cn sg pa fs sn lf (op P M pc ps pf (nI z) h)) a (nI k) (nI x) = some (ov n P a fm (nI N) (fEs es x (ps k) (pf k)) hv (upd cn x (pc k)) (upd sg x (ps k)) (fPa pa x (pf k) (if pf k = (-1) then (-1) else pf k + 1)) (upd fs x (pf k)) (upd sn x (if pf k = (-1) then (-1) else pf k + 1)) (fLf lf x (ps k) (pf k)) (op P M pc ps pf (nI z) h)) := by
  have hk' : k < M := by omega
  have u1 : isO (ov n P a fm (nI N) es hv cn sg pa fs sn lf (op P M pc ps pf (nI z) h)) P 1 = true := by rw [ov_op hP]; exact q_o
  have u2 : FP_has (ov n P a fm (nI N) es hv cn sg pa fs sn lf (op P M pc ps pf (nI z) h)) P (nI k) = some 1 := by rw [ov_op hP]; exact e_has hk hz hM
  unfold FT_settle
  rw [r_P, gd_t u1, u2, Option.bind_some, if_neg (by decide), r_P, gR_out (Or.inl (by omega)), q_r3, ldI_out (Or.inl (by omega)), q_l3 hk' hM, r_P, gR_out (Or.inl (by omega)), q_r1, ldI_out (Or.inl (by omega)), q_l1 hk' hM, r_P, gR_out (Or.inl (by omega)), q_r2, ldI_out (Or.inl (by omega)), q_l2 hk' hM, jn_eq]
  try dsimp only
  by_cases e : pf k = (-1)
  · rw [if_pos e] at hok
    rw [if_pos e, if_pos e, gd_t o_ov, e_fill hx hN hn hok, Option.bind_some]
  · rw [if_neg e] at hok
    rw [if_neg e, if_neg e, gd_t o_ov, e_fill hx hN hn hok, Option.bind_some]
theorem e_gather_loop {m : Nat} {c g : Nat → Nat} {K : Hp → Option Hp} (hP : P + 3 < a) (hn : n ≤ 64) (hm : m ≤ n) (hcn : ∀ x, x < 2 * m + 1 → cn x = nI (c x) ∧ sg x = sI (g x) ∧ c x < 2 ^ 30 ∧ g x < 100) (hnl : nl g (2 * m + 1) ≤ n + 1) : ∀ (k x w : Nat) (pc ps pf : Nat → Int32), x + k = 2 * m + 1 → k < w → (∀ z, z < nl g x → pc z = nI ((c (rl g x z) + 1) / 2) ∧ ps z = sI (g (rl g x z)) ∧ pf z = (-1)) →
    ∃ pc' ps' pf' : Nat → Int32, lpG (fun _ _ => none) w (LT_gatherPieces_10 a K) (ov n P a fm (nI (2 * m + 1)) es hv cn sg pa fs sn lf (op P (n + 1) pc ps pf (nI (nl g x)) h)) (nI x) = K (ov n P a fm (nI (2 * m + 1)) es hv cn sg pa fs sn lf (op P (n + 1) pc' ps' pf' (nI (nl g (2 * m + 1))) h)) ∧ (∀ z, z < nl g (2 * m + 1) → pc' z = nI ((c (rl g (2 * m + 1) z) + 1) / 2) ∧ ps' z = sI (g (rl g (2 * m + 1) z)) ∧ pf' z = (-1))
  | k, x, 0, pc, ps, pf, _, hw, _ => absurd hw (by omega)
  | 0, x, w + 1, pc, ps, pf, hx, hw, hI => by
    have e : x = 2 * m + 1 := by omega
    subst e
    rw [lpG_s, LT_gatherPieces_10.eq_1, i_sz, if_pos (nI_le (Nat.le_refl _) (by omega))]
    exact ⟨pc, ps, pf, rfl, hI⟩
  | k + 1, x, w + 1, pc, ps, pf, hx, hw, hI => by
    obtain ⟨b1, b2, b3, b4⟩ := hcn x (by omega)
    have mono : nl g (x + 1) ≤ nl g (2 * m + 1) := by
      have : ∀ d y, nl g y ≤ nl g (y + d) := fun d => by
        induction d with
        | zero => intro y; exact Nat.le_refl _
        | succ d ih => intro y; exact Nat.le_trans (ih y) (by show nl g (y + d) ≤ nl g (y + d + 1); rw [nl_s]; omega)
      have := this k (x + 1)
      rw [show x + 1 + k = 2 * m + 1 by omega] at this
      exact this
    rw [lpG_s, LT_gatherPieces_10.eq_1, i_sz, if_neg (nI_ge (show x < 2 * m + 1 by omega) (by omega)), q_sg (show x < 2 * m + 1 by omega) (by omega) hn, jn_eq]
    try dsimp only
    rw [b2]
    by_cases e : g x = 0
    · rw [if_pos (by rw [e]; rfl), nI_1]
      have e1 : nl g (x + 1) = nl g x := by rw [nl_s, if_pos e]; rfl
      have e2 : ∀ z, rl g (x + 1) z = rl g x z := fun z => by rw [rl_s, if_pos e]
      have := e_gather_loop (K := K) hP hn hm hcn hnl k (x + 1) w pc ps pf (by omega) (by omega) (fun z hz => by rw [e2]; exact hI z (by omega))
      rw [e1] at this
      exact this
    · rw [if_neg (fun q => e ((sI_m1 (by omega)).mp q))]
      have e1 : nl g (x + 1) = nl g x + 1 := by rw [nl_s, if_neg e]
      have e2 : ∀ z, rl g (x + 1) z = if z = nl g x then x else rl g x z := fun z => by rw [rl_s, if_neg e]
      have e3 : (nI (c x) + 1) / 2 = nI ((c x + 1) / 2) := by rw [nI_1]; exact pk_div (d := 2) (by omega) (by omega) (by omega)
      rw [r_P, q_cn (show x < 2 * m + 1 by omega) (by omega) hn, gd_t (by decide), q_sg (show x < 2 * m + 1 by omega) (by omega) hn, ov_op hP, gd_t q_o, e_append (show nl g x < n + 1 by omega) (by omega), Option.bind_some, ← ov_op hP, nI_1, b1, b2, e3, ← e1]
      refine e_gather_loop hP hn hm hcn hnl k (x + 1) w _ _ _ (by omega) (by omega) (fun z hz => ?_)
      rw [e2]
      unfold upd
      by_cases e4 : z = nl g x
      · rw [if_pos e4, if_pos e4, if_pos e4, if_pos e4]; exact ⟨rfl, rfl, rfl⟩
      · rw [if_neg e4, if_neg e4, if_neg e4, if_neg e4]; exact hI z (by omega)
theorem e_gather {m : Nat} {c g : Nat → Nat} (hP : P + 3 < a) (hn : n ≤ 64) (hm : m ≤ n) (hcn : ∀ x, x < 2 * m + 1 → cn x = nI (c x) ∧ sg x = sI (g x) ∧ c x < 2 ^ 30 ∧ g x < 100) (hnl : nl g (2 * m + 1) ≤ n + 1) :
    ∃ pc' ps' pf' : Nat → Int32, FT_gatherPieces (ov n P a fm (nI (2 * m + 1)) es hv cn sg pa fs sn lf (op P (n + 1) pc ps pf pz h)) a = some (ov n P a fm (nI (2 * m + 1)) es hv cn sg pa fs sn lf (op P (n + 1) pc' ps' pf' (nI (nl g (2 * m + 1))) h)) ∧ (∀ z, z < nl g (2 * m + 1) → pc' z = nI ((c (rl g (2 * m + 1) z) + 1) / 2) ∧ ps' z = sI (g (rl g (2 * m + 1) z)) ∧ pf' z = (-1)) := by
  unfold FT_gatherPieces
  rw [r_P, pF_out (Or.inl (by omega)), q_pz, jn_eq]
  try dsimp only
  exact e_gather_loop hP hn hm hcn hnl (2 * m + 1) 0 fu pc ps pf (by omega) (by show 2 * m + 1 < 100000; omega) (fun z hz => absurd hz (Nat.not_lt_zero _))
end SET
