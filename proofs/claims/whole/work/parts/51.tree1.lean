/-! PURE LEVEL: what the tree's methods do to the overlay. n signs, n ≤ 64; indices below 2 n + 1. -/
theorem jn_eq {X Y : Type} (J : X) (B : X → Y) : jn J B = B J := rfl
theorem gd_t {β : Type} {q : Prop} [Decidable q] {o : Option β} (h : q) : gd q o = o := if_pos h
theorem m1_nI {j : Nat} (h : j < 2 ^ 31) : ¬ nI j = (-1) := fun e => by
  have h1 := congrArg Int32.toInt e
  rw [nI_toInt h] at h1
  have h2 : ((-1 : Int32)).toInt = -1 := by decide
  omega
theorem m2_nI {j : Nat} (h : j < 2 ^ 31) : ¬ nI j = (-2) := fun e => by
  have h1 := congrArg Int32.toInt e
  rw [nI_toInt h] at h1
  have h2 : ((-2 : Int32)).toInt = -2 := by decide
  omega
section TR
variable {n P a : Nat} {fm sz es hv : Int32} {cn sg pa fs sn lf : Nat → Int32} {h : Hp}
theorem e_hasLeafOf {s : Nat} (hs : s < n) (hn : n ≤ 64) : FT_hasLeafOf (ov n P a fm sz es hv cn sg pa fs sn lf h) a (nI s) = some (if lf s = (-1) then 0 else 1) := by
  unfold FT_hasLeafOf
  rw [r_lf, ld_lf hs hn]
  rw [jn_eq]
  try dsimp only
  by_cases e : lf s = (-1)
  · rw [if_pos e, if_pos e]; rfl
  · rw [if_neg e, if_neg e]; rfl
theorem e_childOf {i : Nat} {bt : Int32} (hi : i < 2 * n + 1) (hn : n ≤ 64) : FT_childOf (ov n P a fm sz es hv cn sg pa fs sn lf h) a (nI i) bt = some (if bt = 0 then fs i else sn i) := by
  unfold FT_childOf
  rw [jn_eq]
  try dsimp only
  by_cases e : bt = 0
  · rw [if_pos e, if_pos e, r_fs, ld_fs hi hn]
  · rw [if_neg e, if_neg e, r_sn, ld_sn hi hn]
/-- fill, the three kinds of node -/
theorem e_fill_in {i f g : Nat} {c s : Int32} (hi : i < 2 * n + 1) (hf : f < 2 * n + 1) (hg : g < 2 * n + 1) (hn : n ≤ 64) : FT_fill (ov n P a fm sz es hv cn sg pa fs sn lf h) a (nI i) c s (nI f) (nI g) = some (ov n P a fm sz es hv (upd cn i c) (upd sg i s) (upd (upd pa f (nI i)) g (nI i)) (upd fs i (nI f)) (upd sn i (nI g)) lf h) := by
  unfold FT_fill
  rw [r_cn, st_cn hi hn, r_sg, st_sg hi hn, r_fs, st_fs hi hn, r_sn, st_sn hi hn]
  rw [jn_eq]
  try dsimp only
  rw [if_neg (m1_nI (by omega)), r_pa, st_pa hf hn, r_pa, st_pa hg hn]
theorem e_fill_esc {i : Nat} {c g : Int32} (hi : i < 2 * n + 1) (hn : n ≤ 64) : FT_fill (ov n P a fm sz es hv cn sg pa fs sn lf h) a (nI i) c (-2) (-1) g = some (ov n P a fm sz (nI i) hv (upd cn i c) (upd sg i (-2)) pa (upd fs i (-1)) (upd sn i g) lf h) := by
  unfold FT_fill
  rw [r_cn, st_cn hi hn, r_sg, st_sg hi hn, r_fs, st_fs hi hn, r_sn, st_sn hi hn]
  rw [jn_eq]
  try dsimp only
  rw [if_pos rfl, if_pos rfl, p_es]
theorem e_fill_leaf {i s : Nat} {c g : Int32} (hi : i < 2 * n + 1) (hs : s < n) (hn : n ≤ 64) : FT_fill (ov n P a fm sz es hv cn sg pa fs sn lf h) a (nI i) c (nI s) (-1) g = some (ov n P a fm sz es hv (upd cn i c) (upd sg i (nI s)) pa (upd fs i (-1)) (upd sn i g) (upd lf s (nI i)) h) := by
  unfold FT_fill
  rw [r_cn, st_cn hi hn, r_sg, st_sg hi hn, r_fs, st_fs hi hn, r_sn, st_sn hi hn]
  rw [jn_eq]
  try dsimp only
  rw [if_pos rfl, if_neg (m2_nI (by omega)), r_lf, st_lf hs hn]
theorem e_putChild {i c : Nat} {old : Int32} (hi : i < 2 * n + 1) (hc : c < 2 * n + 1) (hn : n ≤ 64) : FT_putChild (ov n P a fm sz es hv cn sg pa fs sn lf h) a (nI i) old (nI c) = some (ov n P a fm sz es hv cn sg (upd pa c (nI i)) (if fs i = old then upd fs i (nI c) else fs) (if fs i = old then sn else upd sn i (nI c)) lf h) := by
  unfold FT_putChild
  rw [r_fs, ld_fs hi hn]
  rw [jn_eq]
  try dsimp only
  by_cases e : fs i = old
  · rw [if_pos e, if_pos e, if_pos e, r_fs, st_fs hi hn, r_pa, st_pa hc hn]
  · rw [if_neg e, if_neg e, if_neg e, r_sn, st_sn hi hn, r_pa, st_pa hc hn]
end TR
