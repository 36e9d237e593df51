/-! THE CLASS'S COUNTED TREE over its rows of ints: what stands at a place (LC), all places (CT); the change of two places; the walk up -/
def sI : Nat → Int32
  | 0 => -1
  | 1 => -2
  | s + 2 => nI s
theorem sI_m1 {a : Nat} (h : a < 2 ^ 31) : sI a = (-1) ↔ a = 0 := by
  match a, h with
  | 0, _ => simp [sI]
  | 1, _ => simp [sI]
  | s + 2, h => exact ⟨fun e => absurd e (m1_nI (by omega)), fun e => by omega⟩
theorem sI_m2 {a : Nat} (h : a < 2 ^ 31) : sI a = (-2) ↔ a = 1 := by
  match a, h with
  | 0, _ => simp [sI]
  | 1, _ => simp [sI]
  | s + 2, h => exact ⟨fun e => absurd e (m2_nI (by omega)), fun e => by omega⟩
theorem sI_inj {a b : Nat} (ha : a < 2 ^ 31) (hb : b < 2 ^ 31) : sI a = sI b ↔ a = b := by
  match a, b, ha, hb with
  | 0, b, _, hb => rw [show sI 0 = (-1) from rfl, eq_comm, sI_m1 hb]; omega
  | 1, b, _, hb => rw [show sI 1 = (-2) from rfl, eq_comm, sI_m2 hb]; omega
  | a + 2, 0, ha, _ => rw [show sI 0 = (-1) from rfl, sI_m1 ha]
  | a + 2, 1, ha, _ => rw [show sI 1 = (-2) from rfl, sI_m2 ha]
  | a + 2, b + 2, ha, hb => show nI a = nI b ↔ _; rw [nI_eq (by omega) (by omega)]; omega
def LC (m : Nat) (c g o : Nat → Nat) (es : Int32) (cn sg pa fs sn lf : Nat → Int32) (x : Nat) : Prop :=
  cn x = nI (c x) ∧ sg x = sI (g x) ∧ (∀ j, j < m → o j = x → fs x = nI (2 * j + 1) ∧ sn x = nI (2 * j + 2) ∧ pa (2 * j + 1) = nI x ∧ pa (2 * j + 2) = nI x) ∧ (g x ≠ 0 → fs x = (-1) ∧ sn x = (-1)) ∧ (g x = 1 → es = nI x) ∧ ∀ s, g x = s + 2 → lf s = nI x
def CT (n m : Nat) (c g o : Nat → Nat) (es : Int32) (cn sg pa fs sn lf : Nat → Int32) : Prop :=
  (∀ x, x < 2 * m + 1 → LC m c g o es cn sg pa fs sn lf x) ∧ pa 0 = (-1) ∧ ∀ s, s < n → ¬ HasS m g s → lf s = (-1)
def chl (m : Nat) (o : Nat → Nat) (x y : Nat) : Prop := ∃ j, j < m ∧ o j = x ∧ (y = 2 * j + 1 ∨ y = 2 * j + 2)
theorem GI.lt {n m : Nat} {g o : Nat → Nat} (h : GI n m g o) {x : Nat} (hx : x < 2 * m + 1) : g x < n + 2 := by
  rcases Nat.lt_or_ge x (2 * m) with e | e
  · exact (h.2.2.1 x e).2
  · have : x = 2 * m := by omega
    rw [this, h.2.1]; omega
section FILL
variable {n m : Nat} {c g o : Nat → Nat} {es : Int32} {cn sg pa fs sn lf : Nat → Int32} {x : Nat}
theorem LC.ok (hm : m ≤ n) (hG : GI n m g o) (hx : x < 2 * m + 1) (h : LC m c g o es cn sg pa fs sn lf x) : okF n (2 * m + 1) (sg x) (fs x) (sn x) := by
  obtain ⟨h1, h2, h3, h4, h5, h6⟩ := h
  have hb := hG.lt hx
  by_cases e : g x = 0
  · obtain ⟨j, q1, q2⟩ := (hG.1 x hx).mp e
    have := h3 j q1 q2
    exact Or.inl ⟨_, _, this.1, this.2.1, by omega, by omega⟩
  · refine Or.inr ⟨(h4 e).1, ?_⟩
    rw [h2]
    generalize g x = y at e hb
    match y, e, hb with
    | 0, e, _ => exact absurd rfl e
    | 1, _, _ => exact Or.inl rfl
    | s + 2, _, hb => exact Or.inr ⟨s, rfl, by omega⟩
theorem F_pa1 {y i : Nat} {pa' : Nat → Int32} (hm : m ≤ n) (hn : n ≤ 64) (hI : ∀ k k', k < m → k' < m → o k = o k' → k = k') (h : LC m c g o es cn sg pa fs sn lf x) (hc : chl m o x y) : fPa pa' i (fs x) (sn x) y = nI i := by
  obtain ⟨j, q1, q2, q3⟩ := hc
  obtain ⟨e1, e2, -⟩ := h.2.2.1 j q1 q2
  unfold fPa
  rw [e1, e2, if_neg (m1_nI (by omega)), nI_clamp (by omega), nI_clamp (by omega)]
  unfold upd
  rcases q3 with q3 | q3
  · rw [if_neg (by omega), if_pos q3]
  · rw [if_pos q3]
theorem F_pa2 {y i : Nat} {pa' : Nat → Int32} (hm : m ≤ n) (hn : n ≤ 64) (hG : GI n m g o) (hx : x < 2 * m + 1) (h : LC m c g o es cn sg pa fs sn lf x) (hc : ¬ chl m o x y) : fPa pa' i (fs x) (sn x) y = pa' y := by
  by_cases e : g x = 0
  · obtain ⟨j, q1, q2⟩ := (hG.1 x hx).mp e
    obtain ⟨e1, e2, -⟩ := h.2.2.1 j q1 q2
    unfold fPa
    rw [e1, e2, if_neg (m1_nI (by omega)), nI_clamp (by omega), nI_clamp (by omega)]
    unfold upd
    rw [if_neg (fun q => hc ⟨j, q1, q2, Or.inr q⟩), if_neg (fun q => hc ⟨j, q1, q2, Or.inl q⟩)]
  · unfold fPa
    rw [if_pos (h.2.2.2.1 e).1]
theorem F_lf1 {s i : Nat} {lf' : Nat → Int32} (hn : n ≤ 64) (hs : s < n) (h : LC m c g o es cn sg pa fs sn lf x) (hg : g x = s + 2) : fLf lf' i (sg x) (fs x) s = nI i := by
  have e : g x ≠ 0 := by omega
  unfold fLf
  rw [h.2.1, hg, if_pos ⟨(h.2.2.2.1 e).1, m2_nI (by omega)⟩]
  show upd lf' (nI s).toNatClampNeg (nI i) s = _
  rw [nI_clamp (by omega)]
  unfold upd
  rw [if_pos rfl]
theorem F_lf2 {s i : Nat} {lf' : Nat → Int32} (hn : n ≤ 64) (hG : GI n m g o) (hm : m ≤ n) (hx : x < 2 * m + 1) (h : LC m c g o es cn sg pa fs sn lf x) (hg : g x ≠ s + 2) : fLf lf' i (sg x) (fs x) s = lf' s := by
  have hb := hG.lt hx
  unfold fLf
  rw [h.2.1]
  by_cases e : fs x = (-1) ∧ ¬ sI (g x) = (-2)
  · rw [if_pos e]
    have e0 : g x ≠ 0 := fun q => by
      obtain ⟨j, q1, q2⟩ := (hG.1 x hx).mp q
      have := (h.2.2.1 j q1 q2).1
      rw [e.1] at this
      exact m1_nI (by omega) this.symm
    have e1 : g x ≠ 1 := fun q => e.2 (by rw [q]; rfl)
    obtain ⟨s', hs'⟩ : ∃ s', g x = s' + 2 := ⟨g x - 2, by omega⟩
    rw [hs']
    show upd lf' (nI s').toNatClampNeg (nI i) s = _
    rw [nI_clamp (by omega)]
    unfold upd
    rw [if_neg (by omega)]
  · rw [if_neg e]
theorem F_es2 {i : Nat} {es' : Int32} (hn : n ≤ 64) (hG : GI n m g o) (hx : x < 2 * m + 1) (h : LC m c g o es cn sg pa fs sn lf x) (hg : g x ≠ 1) : fEs es' i (sg x) (fs x) = es' := by
  unfold fEs
  have hb := hG.lt hx
  rw [if_neg]
  rintro ⟨-, e⟩
  rw [h.2.1, sI_m2 (by omega)] at e
  exact hg e
end FILL
theorem upd2_trp (f : Nat → Int32) {i p : Nat} (hip : i ≠ p) : upd (upd f i (f p)) p (f i) = fun x => f (trp i p x) := by
  funext x
  unfold upd trp
  by_cases e1 : x = p
  · subst e1
    rw [if_pos rfl, if_neg (Ne.symm hip), if_pos rfl]
  · rw [if_neg e1]
    by_cases e2 : x = i
    · rw [if_pos e2, if_pos e2]
    · rw [if_neg e2, if_neg e2, if_neg e1]
theorem CT_swap {n m i p : Nat} {c g o : Nat → Nat} {es : Int32} {cn sg pa fs sn lf : Nat → Int32} (hn : n ≤ 64) (hm : m ≤ n) (hG : GI n m g o) (hI : ∀ k k', k < m → k' < m → o k = o k' → k = k') (ho : ∀ k, k < m → o k < 2 * k + 1) (hT : CT n m c g o es cn sg pa fs sn lf) (hip : i < p) (hp : p < 2 * m) (hc : c i = c p) :
    CT n m c (fun j => g (trp i p j)) (fun k => trp i p (o k)) (fEs (fEs es i (sg p) (fs p)) p (sg i) (fs i)) (upd (upd cn i (cn p)) p (cn i)) (upd (upd sg i (sg p)) p (sg i)) (fPa (fPa pa i (fs p) (sn p)) p (fs i) (sn i)) (upd (upd fs i (fs p)) p (fs i)) (upd (upd sn i (sn p)) p (sn i)) (fLf (fLf lf i (sg p) (fs p)) p (sg i) (fs i)) := by
  obtain ⟨t1, t2, t3⟩ := hT
  have Li := t1 i (by omega)
  have Lp := t1 p (by omega)
  have hne : i ≠ p := by omega
  rw [upd2_trp cn hne, upd2_trp sg hne, upd2_trp fs hne, upd2_trp sn hne]
  have gi : g i ≠ 1 := (hG.2.2.1 i (by omega)).1
  have gp : g p ≠ 1 := (hG.2.2.1 p (by omega)).1
  rw [F_es2 hn hG (by omega) Li gi, F_es2 hn hG (by omega) Lp gp]
  have cc : ∀ x, c (trp i p x) = c x := fun x => by
    unfold trp
    by_cases e1 : x = i
    · rw [if_pos e1, e1, hc]
    · rw [if_neg e1]
      by_cases e2 : x = p
      · rw [if_pos e2, e2, hc]
      · rw [if_neg e2]
  have kid : ∀ j y, j < m → (y = 2 * j + 1 ∨ y = 2 * j + 2) → ∀ z, chl m o z y → z = o j := fun j y hj hy z hz => by
    obtain ⟨j', q1, q2, q3⟩ := hz
    have : j = j' := by omega
    rw [this]; exact q2.symm
  have PA : ∀ j y, j < m → (y = 2 * j + 1 ∨ y = 2 * j + 2) → fPa (fPa pa i (fs p) (sn p)) p (fs i) (sn i) y = nI (trp i p (o j)) := fun j y hj hy => by
    have hy2 : pa y = nI (o j) := by
      have := (t1 (o j) (by have := ho j hj; omega)).2.2.1 j hj rfl
      rcases hy with rfl | rfl
      · exact this.2.2.1
      · exact this.2.2.2
    by_cases e1 : o j = i
    · rw [F_pa1 hm hn hI Li ⟨j, hj, e1, hy⟩, e1]
      unfold trp; rw [if_pos rfl]
    · rw [F_pa2 hm hn hG (by omega) Li (fun q => e1 (kid j y hj hy i q).symm)]
      by_cases e2 : o j = p
      · rw [F_pa1 hm hn hI Lp ⟨j, hj, e2, hy⟩, e2]
        unfold trp; rw [if_neg (Ne.symm hne), if_pos rfl]
      · rw [F_pa2 hm hn hG (by omega) Lp (fun q => e2 (kid j y hj hy p q).symm), hy2]
        unfold trp; rw [if_neg e1, if_neg e2]
  refine ⟨fun x hx => ?_, ?_, fun s hs hns => ?_⟩
  · have hy : trp i p x < 2 * m + 1 := trp_bd (by omega) (by omega) hx
    obtain ⟨l1, l2, l3, l4, l5, l6⟩ := t1 _ hy
    refine ⟨by rw [← cc x]; exact l1, l2, fun j hj e => ?_, l4, fun e => ?_, fun s e => ?_⟩
    · have e' : o j = trp i p x := by rw [← e, trp_trp]
      have := l3 j hj e'
      refine ⟨this.1, this.2.1, ?_, ?_⟩
      · rw [PA j _ hj (Or.inl rfl), e', trp_trp]
      · rw [PA j _ hj (Or.inr rfl), e', trp_trp]
    · have e : g (trp i p x) = 1 := e
      have := hG.2.2.2 (trp i p x) (2 * m) hy (by omega) (by rw [hG.2.1]; exact e) (by omega)
      have e2 : x = 2 * m := by
        have e3 : trp i p (2 * m) = 2 * m := trp_fix (by omega) (by omega)
        exact trp_inj (this.trans e3.symm)
      rw [l5 e, this, e2]
    · have e : g (trp i p x) = s + 2 := e
      have hs : s < n := by have := hG.lt hy; omega
      by_cases e1 : g i = s + 2
      · rw [F_lf1 hn hs Li e1]
        have := hG.2.2.2 (trp i p x) i hy (by omega) (by rw [e1]; exact e) (by omega)
        have e2 : x = p := by
          have e3 : trp i p p = i := by unfold trp; rw [if_neg (Ne.symm hne), if_pos rfl]
          exact trp_inj (this.trans e3.symm)
        rw [e2]
      · rw [F_lf2 hn hG hm (by omega) Li e1]
        by_cases e2 : g p = s + 2
        · rw [F_lf1 hn hs Lp e2]
          have := hG.2.2.2 (trp i p x) p hy (by omega) (by rw [e2]; exact e) (by omega)
          have e2 : x = i := by
            have e3 : trp i p i = p := by unfold trp; rw [if_pos rfl]
            exact trp_inj (this.trans e3.symm)
          rw [e2]
        · rw [F_lf2 hn hG hm (by omega) Lp e2, l6 s e]
          have n1 : trp i p x ≠ i := fun q => e1 (by rw [← q]; exact e)
          have n2 : trp i p x ≠ p := fun q => e2 (by rw [← q]; exact e)
          have : trp i p x = x := by
            unfold trp at n1 n2 ⊢
            grind
          rw [this]
  · rw [F_pa2 hm hn hG (by omega) Li (by rintro ⟨j, -, -, q⟩; omega), F_pa2 hm hn hG (by omega) Lp (by rintro ⟨j, -, -, q⟩; omega)]
    exact t2
  · rw [HasS_step (by omega) hp] at hns
    have n1 : g i ≠ s + 2 := fun q => hns ⟨i, by omega, q⟩
    have n2 : g p ≠ s + 2 := fun q => hns ⟨p, by omega, q⟩
    rw [F_lf2 hn hG hm (by omega) Li n1, F_lf2 hn hG hm (by omega) Lp n2]
    exact t3 s hs hns
theorem CT_inc {n m i : Nat} {c g o : Nat → Nat} {es : Int32} {cn sg pa fs sn lf : Nat → Int32} (hT : CT n m c g o es cn sg pa fs sn lf) (hi : i < 2 * m + 1) : CT n m (inc c i) g o es (upd cn i (cn i + 1)) sg pa fs sn lf := by
  obtain ⟨t1, t2, t3⟩ := hT
  refine ⟨fun x hx => ?_, t2, t3⟩
  obtain ⟨l1, l2, l3⟩ := t1 x hx
  refine ⟨?_, l2, l3⟩
  unfold upd inc
  by_cases e : x = i
  · rw [if_pos e, if_pos e, ← e, l1, nI_1]
  · rw [if_neg e, if_neg e, l1]
