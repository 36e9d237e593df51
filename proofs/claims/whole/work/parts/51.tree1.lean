/-! PURE LEVEL: what the tree's methods do to the overlay. n signs, n ≤ 64; M nodes, M ≤ 2 n + 1. -/
theorem jn_eq {X Y : Type} (J : X) (B : X → Y) : jn J B = B J := rfl
theorem gd_t {β : Type} {q : Prop} [Decidable q] {o : Option β} (h : q) : gd q o = o := if_pos h
theorem m1_nI {j : Nat} (h : j < 2 ^ 31) : ¬ nI j = (-1) := fun e => by
  have h1 := congrArg Int32.toInt e
  rw [nI_toInt h] at h1
  have h2 : ((-1 : Int32)).toInt = -1 := by decide
  omega
theorem m2_nI {j : Nat} (h : j < 2 ^ 31) : ¬ nI j = (-2) := fun e => by
  have h1 := congrArg Int32.toInt e
  rw [nI_toInt h] at h1
  have h2 : ((-2 : Int32)).toInt = -2 := by decide
  omega
theorem m6_nI {j : Nat} (h : j < 2 ^ 31) : ¬ nI j = (-6) := fun e => by
  have h1 := congrArg Int32.toInt e
  rw [nI_toInt h] at h1
  have h2 : ((-6 : Int32)).toInt = -6 := by decide
  omega
section OVS
variable {n P a : Nat} {fm sz es hv : Int32} {cn sg pa fs sn lf : Nat → Int32} {h h' : Hp}
theorem ov_ag (e : ov n P a fm sz es hv cn sg pa fs sn lf h = h) (hh : ∀ x, a ≤ x → x ≤ a + 6 → h' x = h x) : ov n P a fm sz es hv cn sg pa fs sn lf h' = h' := by
  have c : ∀ x, a ≤ x → x ≤ a + 6 → h' x = ov n P a fm sz es hv cn sg pa fs sn lf h x := fun x h1 h2 => by rw [hh x h1 h2, e]
  exact ov_same (by rw [c a (by omega) (by omega), ov_0]) (by rw [c (a + 1) (by omega) (by omega), ov_cn]) (by rw [c (a + 2) (by omega) (by omega), ov_sg]) (by rw [c (a + 3) (by omega) (by omega), ov_pa]) (by rw [c (a + 4) (by omega) (by omega), ov_fs]) (by rw [c (a + 5) (by omega) (by omega), ov_sn]) (by rw [c (a + 6) (by omega) (by omega), ov_lf])
theorem ov_idem : ov n P a fm sz es hv cn sg pa fs sn lf (ov n P a fm sz es hv cn sg pa fs sn lf h) = ov n P a fm sz es hv cn sg pa fs sn lf h := ov_same ov_0 ov_cn ov_sg ov_pa ov_fs ov_sn ov_lf
end OVS
section TR
variable {β : Type} {n P a M : Nat} {fm sz es hv : Int32} {cn sg pa fs sn lf : Nat → Int32} {h : Hp}
theorem e_hasNode {i : Nat} (hi : i < M) (hM : M ≤ 2 * n + 1) (hn : n ≤ 64) : FT_hasNode (ov n P a fm (nI M) es hv cn sg pa fs sn lf h) a (nI i) = some 1 := by
  unfold FT_hasNode
  rw [jn_eq]
  try dsimp only
  rw [jn_eq]
  try dsimp only
  rw [if_neg (nI_pos (by omega)), i_sz, if_neg (nI_ge hi (by omega)), r_sg, al_sg, if_neg (nI_ge (show i < 2 * n + 1 by omega) (by omega))]
  rfl
theorem e_hasNode_n : FT_hasNode (ov n P a fm sz es hv cn sg pa fs sn lf h) a (-1) = some 0 := by
  unfold FT_hasNode
  rw [jn_eq]
  try dsimp only
  rw [jn_eq]
  try dsimp only
  rw [if_pos (by decide)]
  rfl
theorem q_h1 {i : Nat} {K : Int32 → Option β} (hi : i < M) (hM : M ≤ 2 * n + 1) (hn : n ≤ 64) : gd (isO (ov n P a fm (nI M) es hv cn sg pa fs sn lf h) a 3 = true) ((FT_hasNode (ov n P a fm (nI M) es hv cn sg pa fs sn lf h) a (nI i)).bind K) = K 1 := by rw [gd_t o_ov, e_hasNode hi hM hn, Option.bind_some]
theorem q_h0 {K : Int32 → Option β} : gd (isO (ov n P a fm sz es hv cn sg pa fs sn lf h) a 3 = true) ((FT_hasNode (ov n P a fm sz es hv cn sg pa fs sn lf h) a (-1)).bind K) = K 0 := by rw [gd_t o_ov, e_hasNode_n, Option.bind_some]
theorem e_leafOf {s : Nat} (hs : s < n) (hn : n ≤ 64) : FT_leafOf (ov n P a fm sz es hv cn sg pa fs sn lf h) a (nI s) = some (lf s) := by
  unfold FT_leafOf
  rw [jn_eq]
  try dsimp only
  rw [jn_eq]
  try dsimp only
  rw [if_neg (nI_pos (by omega)), r_lf, al_lf, if_neg (nI_ge hs (by omega)), r_lf, ld_lf hs hn]
theorem q_lf {s : Nat} {K : Int32 → Option β} (hs : s < n) (hn : n ≤ 64) : gd (isO (ov n P a fm sz es hv cn sg pa fs sn lf h) a 3 = true) ((FT_leafOf (ov n P a fm sz es hv cn sg pa fs sn lf h) a (nI s)).bind K) = K (lf s) := by rw [gd_t o_ov, e_leafOf hs hn, Option.bind_some]
theorem e_hasLeafOf {s : Nat} (hs : s < n) (hn : n ≤ 64) : FT_hasLeafOf (ov n P a fm sz es hv cn sg pa fs sn lf h) a (nI s) = some (if lf s = (-1) then 0 else 1) := by
  unfold FT_hasLeafOf
  rw [q_lf hs hn]
  rw [jn_eq]
  try dsimp only
  by_cases e : lf s = (-1)
  · rw [if_pos e, if_pos e]; rfl
  · rw [if_neg e, if_neg e]; rfl
theorem e_countAt {i : Nat} (hi : i < M) (hM : M ≤ 2 * n + 1) (hn : n ≤ 64) : FT_countAt (ov n P a fm (nI M) es hv cn sg pa fs sn lf h) a (nI i) = some (cn i) := by
  unfold FT_countAt
  rw [q_h1 hi hM hn]
  rw [jn_eq]
  try dsimp only
  rw [if_neg (by decide), r_cn, ld_cn (show i < 2 * n + 1 by omega) hn]
theorem q_cn {i : Nat} {K : Int32 → Option β} (hi : i < M) (hM : M ≤ 2 * n + 1) (hn : n ≤ 64) : gd (isO (ov n P a fm (nI M) es hv cn sg pa fs sn lf h) a 3 = true) ((FT_countAt (ov n P a fm (nI M) es hv cn sg pa fs sn lf h) a (nI i)).bind K) = K (cn i) := by rw [gd_t o_ov, e_countAt hi hM hn, Option.bind_some]
theorem h_cn {i : Nat} {K : Int32 → Option β} (e : ov n P a fm (nI M) es hv cn sg pa fs sn lf h = h) (hi : i < M) (hM : M ≤ 2 * n + 1) (hn : n ≤ 64) : gd (isO h a 3 = true) ((FT_countAt h a (nI i)).bind K) = K (cn i) := by
  rw [← e]
  exact q_cn hi hM hn
theorem e_signAt {i : Nat} (hi : i < M) (hM : M ≤ 2 * n + 1) (hn : n ≤ 64) : FT_signAt (ov n P a fm (nI M) es hv cn sg pa fs sn lf h) a (nI i) = some (sg i) := by
  unfold FT_signAt
  rw [q_h1 hi hM hn]
  rw [jn_eq]
  try dsimp only
  rw [if_neg (by decide), r_sg, ld_sg (show i < 2 * n + 1 by omega) hn]
theorem q_sg {i : Nat} {K : Int32 → Option β} (hi : i < M) (hM : M ≤ 2 * n + 1) (hn : n ≤ 64) : gd (isO (ov n P a fm (nI M) es hv cn sg pa fs sn lf h) a 3 = true) ((FT_signAt (ov n P a fm (nI M) es hv cn sg pa fs sn lf h) a (nI i)).bind K) = K (sg i) := by rw [gd_t o_ov, e_signAt hi hM hn, Option.bind_some]
theorem h_sg {i : Nat} {K : Int32 → Option β} (e : ov n P a fm (nI M) es hv cn sg pa fs sn lf h = h) (hi : i < M) (hM : M ≤ 2 * n + 1) (hn : n ≤ 64) : gd (isO h a 3 = true) ((FT_signAt h a (nI i)).bind K) = K (sg i) := by
  rw [← e]
  exact q_sg hi hM hn
theorem e_parentOf {i : Nat} (hi : i < M) (hM : M ≤ 2 * n + 1) (hn : n ≤ 64) : FT_parentOf (ov n P a fm (nI M) es hv cn sg pa fs sn lf h) a (nI i) = some (pa i) := by
  unfold FT_parentOf
  rw [q_h1 hi hM hn]
  rw [jn_eq]
  try dsimp only
  rw [if_neg (by decide), r_pa, ld_pa (show i < 2 * n + 1 by omega) hn]
theorem q_pa {i : Nat} {K : Int32 → Option β} (hi : i < M) (hM : M ≤ 2 * n + 1) (hn : n ≤ 64) : gd (isO (ov n P a fm (nI M) es hv cn sg pa fs sn lf h) a 3 = true) ((FT_parentOf (ov n P a fm (nI M) es hv cn sg pa fs sn lf h) a (nI i)).bind K) = K (pa i) := by rw [gd_t o_ov, e_parentOf hi hM hn, Option.bind_some]
theorem h_pa {i : Nat} {K : Int32 → Option β} (e : ov n P a fm (nI M) es hv cn sg pa fs sn lf h = h) (hi : i < M) (hM : M ≤ 2 * n + 1) (hn : n ≤ 64) : gd (isO h a 3 = true) ((FT_parentOf h a (nI i)).bind K) = K (pa i) := by
  rw [← e]
  exact q_pa hi hM hn
theorem e_parentOf_n : FT_parentOf (ov n P a fm sz es hv cn sg pa fs sn lf h) a (-1) = some (-1) := by
  unfold FT_parentOf
  rw [q_h0]
  rw [jn_eq]
  try dsimp only
  rw [if_pos rfl]
theorem q_pan {K : Int32 → Option β} : gd (isO (ov n P a fm sz es hv cn sg pa fs sn lf h) a 3 = true) ((FT_parentOf (ov n P a fm sz es hv cn sg pa fs sn lf h) a (-1)).bind K) = K (-1) := by rw [gd_t o_ov, e_parentOf_n, Option.bind_some]
theorem e_childOf {i : Nat} {bt : Int32} (hi : i < M) (hM : M ≤ 2 * n + 1) (hn : n ≤ 64) : FT_childOf (ov n P a fm (nI M) es hv cn sg pa fs sn lf h) a (nI i) bt = some (if bt = 0 then fs i else sn i) := by
  unfold FT_childOf
  rw [q_h1 hi hM hn, if_neg (by decide)]
  rw [jn_eq]
  try dsimp only
  by_cases e : bt = 0
  · rw [if_pos e, if_pos e, r_fs, ld_fs (show i < 2 * n + 1 by omega) hn]
  · rw [if_neg e, if_neg e, r_sn, ld_sn (show i < 2 * n + 1 by omega) hn]
theorem q_fs {i : Nat} {K : Int32 → Option β} (hi : i < M) (hM : M ≤ 2 * n + 1) (hn : n ≤ 64) : gd (isO (ov n P a fm (nI M) es hv cn sg pa fs sn lf h) a 3 = true) ((FT_childOf (ov n P a fm (nI M) es hv cn sg pa fs sn lf h) a (nI i) 0).bind K) = K (fs i) := by rw [gd_t o_ov, e_childOf hi hM hn, Option.bind_some, if_pos rfl]
theorem h_fs {i : Nat} {K : Int32 → Option β} (e : ov n P a fm (nI M) es hv cn sg pa fs sn lf h = h) (hi : i < M) (hM : M ≤ 2 * n + 1) (hn : n ≤ 64) : gd (isO h a 3 = true) ((FT_childOf h a (nI i) 0).bind K) = K (fs i) := by
  rw [← e]
  exact q_fs hi hM hn
theorem q_sn {i : Nat} {K : Int32 → Option β} (hi : i < M) (hM : M ≤ 2 * n + 1) (hn : n ≤ 64) : gd (isO (ov n P a fm (nI M) es hv cn sg pa fs sn lf h) a 3 = true) ((FT_childOf (ov n P a fm (nI M) es hv cn sg pa fs sn lf h) a (nI i) 1).bind K) = K (sn i) := by rw [gd_t o_ov, e_childOf hi hM hn, Option.bind_some, if_neg (by decide)]
theorem h_sn {i : Nat} {K : Int32 → Option β} (e : ov n P a fm (nI M) es hv cn sg pa fs sn lf h = h) (hi : i < M) (hM : M ≤ 2 * n + 1) (hn : n ≤ 64) : gd (isO h a 3 = true) ((FT_childOf h a (nI i) 1).bind K) = K (sn i) := by
  rw [← e]
  exact q_sn hi hM hn
theorem h_h1 {i : Nat} {K : Int32 → Option β} (e : ov n P a fm (nI M) es hv cn sg pa fs sn lf h = h) (hi : i < M) (hM : M ≤ 2 * n + 1) (hn : n ≤ 64) : gd (isO h a 3 = true) ((FT_hasNode h a (nI i)).bind K) = K 1 := by
  rw [← e]
  exact q_h1 hi hM hn
theorem h_lf {s : Nat} {K : Int32 → Option β} (e : ov n P a fm sz es hv cn sg pa fs sn lf h = h) (hs : s < n) (hn : n ≤ 64) : gd (isO h a 3 = true) ((FT_leafOf h a (nI s)).bind K) = K (lf s) := by
  rw [← e]
  exact q_lf hs hn
theorem hasLeaf_ov {s : Nat} (e : ov n P a fm sz es hv cn sg pa fs sn lf h = h) (hs : s < n) (hn : n ≤ 64) : FT_hasLeafOf h a (nI s) = some (if lf s = (-1) then 0 else 1) := by
  rw [← e]
  exact e_hasLeafOf hs hn
/-- fill, the three kinds of node -/
theorem e_fill_in {i f g : Nat} {c s : Int32} (hi : i < M) (hf : f < M) (hg : g < M) (hM : M ≤ 2 * n + 1) (hn : n ≤ 64) : FT_fill (ov n P a fm (nI M) es hv cn sg pa fs sn lf h) a (nI i) c s (nI f) (nI g) = some (ov n P a fm (nI M) es hv (upd cn i c) (upd sg i s) (upd (upd pa f (nI i)) g (nI i)) (upd fs i (nI f)) (upd sn i (nI g)) lf h) := by
  unfold FT_fill
  rw [q_h1 hi hM hn, if_neg (by decide), r_cn, st_cn (show i < 2 * n + 1 by omega) hn, r_sg, st_sg (show i < 2 * n + 1 by omega) hn, r_fs, st_fs (show i < 2 * n + 1 by omega) hn, r_sn, st_sn (show i < 2 * n + 1 by omega) hn, q_h1 hf hM hn]
  rw [jn_eq]
  try dsimp only
  rw [jn_eq]
  try dsimp only
  rw [if_neg (by decide), q_h1 hg hM hn, if_neg (by decide), r_pa, st_pa (show f < 2 * n + 1 by omega) hn, r_pa, st_pa (show g < 2 * n + 1 by omega) hn]
theorem e_fill_esc {i : Nat} {c g : Int32} (hi : i < M) (hM : M ≤ 2 * n + 1) (hn : n ≤ 64) : FT_fill (ov n P a fm (nI M) es hv cn sg pa fs sn lf h) a (nI i) c (-2) (-1) g = some (ov n P a fm (nI M) (nI i) hv (upd cn i c) (upd sg i (-2)) pa (upd fs i (-1)) (upd sn i g) lf h) := by
  unfold FT_fill
  rw [q_h1 hi hM hn, if_neg (by decide), r_cn, st_cn (show i < 2 * n + 1 by omega) hn, r_sg, st_sg (show i < 2 * n + 1 by omega) hn, r_fs, st_fs (show i < 2 * n + 1 by omega) hn, r_sn, st_sn (show i < 2 * n + 1 by omega) hn, q_h0]
  rw [jn_eq]
  try dsimp only
  rw [jn_eq]
  try dsimp only
  rw [if_pos rfl, if_pos rfl, p_es]
theorem e_fill_leaf {i s : Nat} {c g : Int32} (hi : i < M) (hs : s < n) (hM : M ≤ 2 * n + 1) (hn : n ≤ 64) : FT_fill (ov n P a fm (nI M) es hv cn sg pa fs sn lf h) a (nI i) c (nI s) (-1) g = some (ov n P a fm (nI M) es hv (upd cn i c) (upd sg i (nI s)) pa (upd fs i (-1)) (upd sn i g) (upd lf s (nI i)) h) := by
  unfold FT_fill
  rw [q_h1 hi hM hn, if_neg (by decide), r_cn, st_cn (show i < 2 * n + 1 by omega) hn, r_sg, st_sg (show i < 2 * n + 1 by omega) hn, r_fs, st_fs (show i < 2 * n + 1 by omega) hn, r_sn, st_sn (show i < 2 * n + 1 by omega) hn, q_h0]
  rw [jn_eq]
  try dsimp only
  rw [jn_eq]
  try dsimp only
  rw [if_pos rfl, if_neg (m2_nI (by omega)), if_neg (nI_pos (by omega)), r_lf, al_lf, if_neg (nI_ge hs (by omega)), r_lf, st_lf hs hn]
theorem e_putChild {i c : Nat} {old : Int32} (hi : i < M) (hc : c < M) (hM : M ≤ 2 * n + 1) (hn : n ≤ 64) : FT_putChild (ov n P a fm (nI M) es hv cn sg pa fs sn lf h) a (nI i) old (nI c) = some (ov n P a fm (nI M) es hv cn sg (upd pa c (nI i)) (if fs i = old then upd fs i (nI c) else fs) (if fs i = old then sn else upd sn i (nI c)) lf h) := by
  unfold FT_putChild
  rw [q_h1 hi hM hn]
  rw [jn_eq]
  try dsimp only
  rw [if_neg (by decide), q_h1 hc hM hn, if_neg (by decide), r_fs, ld_fs (show i < 2 * n + 1 by omega) hn]
  rw [jn_eq]
  try dsimp only
  by_cases e : fs i = old
  · rw [if_pos e, if_pos e, if_pos e, r_fs, st_fs (show i < 2 * n + 1 by omega) hn, r_pa, st_pa (show c < 2 * n + 1 by omega) hn]
  · rw [if_neg e, if_neg e, if_neg e, r_sn, st_sn (show i < 2 * n + 1 by omega) hn, r_pa, st_pa (show c < 2 * n + 1 by omega) hn]
end TR
