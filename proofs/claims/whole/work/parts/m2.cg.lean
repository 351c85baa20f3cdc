/-! what the laws, the most, the core, the lies and the search see of a state -/
abbrev eNs (S S' : qS) : Prop := ∀ i, i ≤ 3 ∨ (10 ≤ i ∧ i < 148) ∨ (154 ≤ i ∧ i < 254) → S' i = S i
theorem eNs.lw {S S' : qS} (e : eNs S S') : eLw S S' := fun i hi => e i (by omega)
theorem eNs.n0 {S S' : qS} (e : eNs S S') : s_n S' 0 = s_n S 0 := s_n_cg (e 0 (by omega))
theorem eNs.n1 {S S' : qS} (e : eNs S S') : s_n S' 1 = s_n S 1 := s_n_cg (e 1 (by omega))
theorem eNs.at {S S' : qS} (e : eNs S S') {p : Nat} (hp : p < 10) : s_at S' p = s_at S p := s_n_cg (e _ (by omega))
theorem eNs.ll {S S' : qS} (e : eNs S S') (rf : Option qR) (ly : Option (Nat × Nat)) {p a q : Nat} (hp : p < 10) (hq : q < 8) (h1 : s_n S 1 ≤ 10) : q_ll S' rf ly p a q = q_ll S rf ly p a q := by
  unfold q_ll
  rw [q_lk_cg e.lw rf hp hq h1]
theorem eNs.bk {S S' : qS} (e : eNs S S') (rf : Option qR) (ly : Option (Nat × Nat)) {p a q o n : Nat} (hp : p < 10) (ha : a < 8) (hq : q < 8) (ho : o < 10) (h1 : s_n S 1 ≤ 10) : q_bk S' rf ly p a q o n = q_bk S rf ly p a q o n := by
  unfold q_bk
  rw [e.ll rf ly hp hq h1, e.ll rf ly hp ha h1, q_br_cg e.lw rf hp hq ho h1, e (10 + 5 * p + 3) (by omega)]
theorem gS.at8 {S : qS} (g : gS S) {p : Nat} (hp : p < s_n S 1) : s_at S p < 8 := Nat.lt_of_lt_of_le (g.2.2 p hp).2 g.1.2
theorem eNs.gn {S S' : qS} (e : eNs S S') (g : gS S) (rf : Option qR) (ly : Option (Nat × Nat)) {a b : Nat} (ha : a < s_n S 1) (hb : b < s_n S 1) : q_gn S' rf ly a b = q_gn S rf ly a b := by
  have h10 := g.2.1.2
  unfold q_gn
  rw [e.at (p := a) (by omega), e.at (p := b) (by omega), e.ll rf ly (by omega) (g.at8 hb) h10, e.ll rf ly (by omega) (g.at8 ha) h10]
theorem eNs.cn {S S' : qS} (e : eNs S S') (g : gS S) (rf : Option qR) (ly : Option (Nat × Nat)) {n a b : Nat} (ha : a < s_n S 1) (hb : b < s_n S 1) : q_cn S' rf ly n a b = q_cn S rf ly n a b := by
  have h10 := g.2.1.2
  unfold q_cn
  rw [e.at (p := a) (by omega), e.at (p := b) (by omega), e.bk rf ly (by omega) (g.at8 ha) (g.at8 hb) (by omega) h10]
theorem eNs.ub {S S' : qS} (e : eNs S S') (g : gS S) (rf : Option qR) {n a b : Nat} (ha : a < s_n S 1) (hb : b < s_n S 1) : q_ub S' rf n a b = q_ub S rf n a b := by
  have h10 := g.2.1.2
  unfold q_ub
  rw [e.at (p := a) (by omega), e.at (p := b) (by omega), q_br_cg e.lw rf (by omega) (g.at8 hb) (by omega) h10]
theorem q_set_cg {f g : Nat → Bool} : ∀ n, (∀ i, i < n → f i = g i) → q_set f n = q_set g n
  | 0, _ => rfl
  | n + 1, h => by
    show (if f n = true then q_set f n ||| 2 ^ n else q_set f n) = (if g n = true then q_set g n ||| 2 ^ n else q_set g n)
    rw [h n (by omega), q_set_cg n (fun i hi => h i (by omega))]
/-- the most -/
def eCG (can can' : Nat → Nat → Nat → Bool) (gn gn' : Nat → Nat → Int32) (pe : Nat) : Prop := (∀ n a b, a < pe → b < pe → can' n a b = can n a b) ∧ ∀ a b, a < pe → b < pe → gn' a b = gn a b
theorem eCG.o4 {can can' : Nat → Nat → Nat → Bool} {gn gn' : Nat → Nat → Int32} {pe set p b c : Nat} (E : eCG can can' gn gn' pe) (hp : p < pe) (hb : b < pe) (hc : c < pe) : ∀ m d, d + m ≤ pe → q_o4 can' gn' set p b c m d = q_o4 can gn set p b c m d
  | 0, _, _ => rfl
  | m + 1, d, h => by
    unfold q_o4
    rw [eCG.o4 E hp hb hc m (d + 1) (by omega), E.1 4 p b hp hb, E.1 4 b c hb hc, E.1 4 c d hc (by omega), E.1 4 d p (by omega) hp, E.2 p b hp hb, E.2 b c hb hc, E.2 c d hc (by omega), E.2 d p (by omega) hp]
theorem eCG.o3 {can can' : Nat → Nat → Nat → Bool} {gn gn' : Nat → Nat → Int32} {pe k set p b : Nat} (E : eCG can can' gn gn' pe) (hp : p < pe) (hb : b < pe) : ∀ m c, c + m ≤ pe → q_o3 can' gn' pe k set p b m c = q_o3 can gn pe k set p b m c
  | 0, _, _ => rfl
  | m + 1, c, h => by
    unfold q_o3
    rw [eCG.o3 E hp hb m (c + 1) (by omega), eCG.o4 E hp hb (by omega : c < pe) (pe - (p + 1)) (p + 1) (by omega), E.1 3 p b hp hb, E.1 3 b c hb (by omega), E.1 3 c p (by omega) hp, E.2 p b hp hb, E.2 b c hb (by omega), E.2 c p (by omega) hp]
theorem eCG.o2 {can can' : Nat → Nat → Nat → Bool} {gn gn' : Nat → Nat → Int32} {pe k set p : Nat} (E : eCG can can' gn gn' pe) (hp : p < pe) : ∀ m b, b + m ≤ pe → q_o2 can' gn' pe k set p m b = q_o2 can gn pe k set p m b
  | 0, _, _ => rfl
  | m + 1, b, h => by
    unfold q_o2
    rw [eCG.o2 E hp m (b + 1) (by omega), eCG.o3 E hp (by omega : b < pe) (pe - (p + 1)) (p + 1) (by omega), E.1 2 p b hp (by omega), E.1 2 b p (by omega) hp, E.2 p b hp (by omega), E.2 b p (by omega) hp]
theorem q_lo_pe {s pe : Nat} (h0 : 0 < s) (h : s < 2 ^ pe) (h10 : pe ≤ 10) : q_lo s < pe := by
  have h2 : 2 ^ pe ≤ 2 ^ 10 := Nat.pow_le_pow_right (by decide) h10
  have k := (q_lo_ok h0 (by omega)).1
  rcases Nat.lt_or_ge (q_lo s) pe with z | z
  · exact z
  · rw [Nat.testBit_lt_two_pow (Nat.lt_of_lt_of_le h (Nat.pow_le_pow_right (by decide) z))] at k
    cases k
theorem eCG.De {can can' : Nat → Nat → Nat → Bool} {gn gn' : Nat → Nat → Int32} {pe k set : Nat} (E : eCG can can' gn gn' pe) (D : Nat → q_T3) (h0 : 0 < set) (h : set < 2 ^ pe) (h10 : pe ≤ 10) : q_De can' gn' pe k D set = q_De can gn pe k D set := by
  have hp := q_lo_pe h0 h h10
  unfold q_De
  rw [eCG.o2 E hp _ _ (by omega)]
theorem eCG.Dt {can can' : Nat → Nat → Nat → Bool} {gn gn' : Nat → Nat → Int32} {pe k : Nat} (E : eCG can can' gn gn' pe) (h10 : pe ≤ 10) : ∀ s, s < 2 ^ pe → q_Dt can' gn' pe k s = q_Dt can gn pe k s
  | 0, _ => rfl
  | s + 1, h => by
    funext i
    show (if i = s + 1 then q_De can' gn' pe k (q_Dt can' gn' pe k s) (s + 1) else q_Dt can' gn' pe k s i) = (if i = s + 1 then q_De can gn pe k (q_Dt can gn pe k s) (s + 1) else q_Dt can gn pe k s i)
    rw [eCG.Dt E h10 s (by omega), eCG.De E _ (by omega) h h10]
theorem eNs.cg {S S' : qS} (e : eNs S S') (g : gS S) (rf : Option qR) (ly : Option (Nat × Nat)) : eCG (q_cn S rf ly) (q_cn S' rf ly) (q_gn S rf ly) (q_gn S' rf ly) (s_n S 1) := ⟨fun _ _ _ ha hb => e.cn g rf ly ha hb, fun _ _ ha hb => e.gn g rf ly ha hb⟩
theorem eNs.tk {S S' : qS} (e : eNs S S') (g : gS S) (rf : Option qR) (ly : Option (Nat × Nat)) (k : Nat) : q_tk S' rf ly k = q_tk S rf ly k := by
  have z : q_D S' rf ly k = q_D S rf ly k := by
    unfold q_D
    rw [e.n1]
    exact (e.cg g rf ly).Dt g.2.1.2 _ (Nat.sub_lt (Nat.two_pow_pos _) (by decide))
  unfold q_tk
  rw [z, e.n1]
/-- the core -/
theorem q_ex_cg {f g : Nat → Bool} : ∀ n i, (∀ j, i ≤ j → j < i + n → f j = g j) → q_ex f n i = q_ex g n i
  | 0, _, _ => rfl
  | n + 1, i, h => by
    show (f i || q_ex f n (i + 1)) = (g i || q_ex g n (i + 1))
    rw [h i (Nat.le_refl _) (by omega), q_ex_cg n (i + 1) (fun j h1 h2 => h j (by omega) (by omega))]
theorem q_fst_cg {f g : Nat → Bool} {d : Nat} : ∀ n i, (∀ j, i ≤ j → j < i + n → f j = g j) → q_fst f d n i = q_fst g d n i
  | 0, _, _ => rfl
  | n + 1, i, h => by
    show (if f i = true then i else q_fst f d n (i + 1)) = (if g i = true then i else q_fst g d n (i + 1))
    rw [h i (Nat.le_refl _) (by omega), q_fst_cg n (i + 1) (fun j h1 h2 => h j (by omega) (by omega))]
theorem q_pb_cg {lf lf' : Nat → Bool} {lk lk' : Nat → Int32} : ∀ n i b, (∀ j, i ≤ j → j < i + n → lf j = lf' j ∧ lk j = lk' j) → q_pb lf lk n i b = q_pb lf' lk' n i b
  | 0, _, _, _ => rfl
  | n + 1, i, b, h => by
    unfold q_pb
    rw [(h i (Nat.le_refl _) (by omega)).1, (h i (Nat.le_refl _) (by omega)).2, q_pb_cg n (i + 1) _ (fun j h1 h2 => h j (by omega) (by omega)), q_pb_cg n (i + 1) _ (fun j h1 h2 => h j (by omega) (by omega))]
theorem eNs.lf {S S' : qS} (e : eNs S S') (h10 : s_n S 1 ≤ 10) (left q : Nat) : q_lf S' left q = q_lf S left q := by
  unfold q_lf
  rw [e.n1]
  exact q_ex_cg _ _ (fun j _ h => by rw [e.at (by omega)])
theorem eNs.pa {S S' : qS} (e : eNs S S') (g : gS S) (rf : Option qR) (ly : Option (Nat × Nat)) (left : Nat) {p : Nat} (hp : p < s_n S 1) : q_pa S' rf ly left p = q_pa S rf ly left p := by
  have h10 := g.2.1.2
  have h8 := g.1.2
  have z : q_pb (q_lf S' left) (q_ll S' rf ly p (s_at S p)) (s_n S 0) 0 (s_at S p, q_ll S rf ly p (s_at S p) (s_at S p)) = q_pb (q_lf S left) (q_ll S rf ly p (s_at S p)) (s_n S 0) 0 (s_at S p, q_ll S rf ly p (s_at S p) (s_at S p)) :=
    q_pb_cg _ _ _ (fun j _ h => ⟨e.lf h10 left j, e.ll rf ly (by omega) (by omega) h10⟩)
  unfold q_pa
  dsimp only
  rw [e.at (p := p) (by omega), e.n0, e.n1, e.ll rf ly (p := p) (q := s_at S p) (by omega) (g.at8 hp) h10, z]
  rw [q_fst_cg (f := fun o => left.testBit o && decide (s_at S' o = _)) (g := fun o => left.testBit o && decide (s_at S o = _)) (s_n S 1) 0 (fun j _ h => by rw [e.at (by omega)])]
theorem eNs.pt {S S' : qS} (e : eNs S S') (g : gS S) (rf : Option qR) (ly : Option (Nat × Nat)) {left : Nat} (hl : left < 2 ^ s_n S 1) : q_pt S' rf ly left = q_pt S rf ly left := by
  funext p
  unfold q_pt
  split
  · next h =>
    rcases Nat.lt_or_ge p (s_n S 1) with z | z
    · exact e.pa g rf ly left z
    · rw [Nat.testBit_lt_two_pow (Nat.lt_of_lt_of_le hl (Nat.pow_le_pow_right (by decide) z))] at h
      cases h
  · rfl
theorem eNs.gone {S S' : qS} (e : eNs S S') (g : gS S) (rf : Option qR) (ly : Option (Nat × Nat)) {left : Nat} (hl : left < 2 ^ s_n S 1) : q_gone S' rf ly left = q_gone S rf ly left := by
  funext p
  unfold q_gone
  rw [e.pt g rf ly hl, e.n1]
theorem eNs.cr {S S' : qS} (e : eNs S S') (g : gS S) (rf : Option qR) (ly : Option (Nat × Nat)) : ∀ (f left : Nat) (t : Nat → Nat), left < 2 ^ s_n S 1 → q_cr S' rf ly f left t = q_cr S rf ly f left t
  | 0, _, _, _ => rfl
  | f + 1, left, t, hl => by
    unfold q_cr
    rw [e.gone g rf ly hl, e.pt g rf ly hl, e.n1, eNs.cr e g rf ly f _ _ (Nat.lt_of_le_of_lt (q_wo_le _ _) hl)]
theorem eNs.ct {S S' : qS} (e : eNs S S') (g : gS S) (rf : Option qR) (ly : Option (Nat × Nat)) : q_ct S' rf ly = q_ct S rf ly := by
  unfold q_ct
  rw [e.n1]
  exact e.cr g rf ly _ _ _ (Nat.sub_lt (Nat.two_pow_pos _) (by decide))
/-- the lies -/
theorem eNs.cby {S S' : qS} (e : eNs S S') (g : gS S) (rf : Option qR) (ly : Option (Nat × Nat)) (w : Nat) {p : Nat} (hp : p < s_n S 1) : q_cby S' rf ly w p = q_cby S rf ly w p := by
  have h10 := g.2.1.2
  have l1 := q_tk_lt (rf := rf) (ly := ly) (k := 2) h10 p hp
  have l2 := q_ct_lt (rf := rf) (ly := ly) p hp
  unfold q_cby
  rw [e.tk g rf ly 2, e.ct g rf ly]
  refine e.at ?_
  split <;> omega
theorem eNs.gbc {S S' : qS} (e : eNs S S') (g : gS S) (rf : Option qR) (w : Nat) {p : Nat} (hp : p < s_n S 1) (tr : Int32) : ∀ m q, q_gbc S' rf w p tr m q = q_gbc S rf w p tr m q
  | 0, _ => rfl
  | m + 1, q => by
    have h10 := g.2.1.2
    unfold q_gbc
    rw [eNs.gbc e g rf w hp tr m (q + 1), e.cby g rf _ w hp, e.at (p := p) (by omega), q_lk_cg e.lw rf (by omega) (q_cby_lt g hp) h10]
theorem eNs.gb {S S' : qS} (e : eNs S S') (g : gS S) (rf : Option qR) (w : Nat) {p : Nat} (hp : p < s_n S 1) : q_gb S' rf w p = q_gb S rf w p := by
  have h10 := g.2.1.2
  unfold q_gb
  rw [e.gbc g rf w hp, e.n0, e.at (p := p) (by omega), e.cby g rf _ w hp, q_lk_cg e.lw rf (by omega) (q_cby_lt g hp) h10]
/-- the search -/
theorem eLw.gro {S S' : qS} {rf : Option qR} (h10 : s_n S 1 ≤ 10) (h : eLw S S') : q_gro S' rf = q_gro S rf := by
  have n1 : s_n S' 1 = s_n S 1 := s_n_cg (h 1 (by omega))
  have ev : ∀ k w a b, a < s_n S 1 → b < s_n S 1 → q_qv S' rf k w a b = q_qv S rf k w a b := fun k w a b ha hb => by
    funext Q
    unfold q_qv
    rw [n1, q_c2_cg h rf (by omega) (by omega) (q_dg_lt _ _) (q_dg_lt _ _) h10]
  have eb : ∀ k w a, a < s_n S 1 → q_qb S' rf k w a = q_qb S rf k w a := fun k w a ha => by
    funext Q
    unfold q_qb
    rw [n1]
    exact q_itQ_cg _ _ _ (fun j h1 h2 => ev k w a j ha (by omega))
  have ea : ∀ k w, q_qa S' rf k w = q_qa S rf k w := fun k w => by
    funext Q
    unfold q_qa
    rw [n1]
    exact q_itQ_cg _ _ _ (fun j h1 h2 => eb k w j (by omega))
  funext Q
  unfold q_gro q_qg
  rw [ea]
