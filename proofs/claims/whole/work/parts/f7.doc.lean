/-! THE CLASS: DOCTORS -/
def q_us (x : Int32) (k : Nat) : Int32 := (x.toUInt32 >>> ((nI k).toUInt32 &&& Int32.toUInt32 31)).toInt32
def q_bt1 (x : Int32) : Int32 := x - (q_us x 1 &&& nI 1431655765)
def q_bt2 (x : Int32) : Int32 := (x &&& nI 858993459) + (q_us x 2 &&& nI 858993459)
def q_bt3 (x : Int32) : Int32 := (x + q_us x 4) &&& nI 252645135
def q_bt4 (x : Int32) : Int32 := x + q_us x 8
def q_bt5 (x : Int32) : Int32 := x + q_us x 16
theorem q_bcx : ∀ s, s < 256 → q_bt5 (q_bt4 (q_bt3 (q_bt2 (q_bt1 (nI s))))) &&& nI 63 = nI (q_bc s) := by decide +kernel
theorem c_bitCount {G : qx_G} {σ : qx_S} {s : Nat} (hs : s < 256) : qx_M G qc_T 0 YJ6_bitCount_0f7a4 [.int (nI s)] σ (qr (nI (q_bc s)) σ) := by
  refine qx_M_in rfl (Nat.le_of_ble_eq_true rfl) ?_
  refine qy_wp_ok (c := CJ6_bitCount_0f7a4) (cuts := []) vJ6_bitCount_0f7a4 wJ6_bitCount_0f7a4 2000 0 _ _ _ ?_
  refine Exists.intro (nI 1) (And.intro rfl ?_)
  refine Exists.intro (q_us (nI s) 1) (And.intro rfl ?_)
  refine Exists.intro (nI 1431655765) (And.intro rfl ?_)
  refine Exists.intro ((q_us (nI s) 1) &&& (nI 1431655765)) (And.intro rfl ?_)
  refine Exists.intro (q_bt1 (nI s)) (And.intro rfl ?_)
  refine Exists.intro (nI 858993459) (And.intro rfl ?_)
  refine Exists.intro ((q_bt1 (nI s)) &&& (nI 858993459)) (And.intro rfl ?_)
  refine Exists.intro (nI 2) (And.intro rfl ?_)
  refine Exists.intro (q_us (q_bt1 (nI s)) 2) (And.intro rfl ?_)
  refine Exists.intro (nI 858993459) (And.intro rfl ?_)
  refine Exists.intro ((q_us (q_bt1 (nI s)) 2) &&& (nI 858993459)) (And.intro rfl ?_)
  refine Exists.intro (q_bt2 (q_bt1 (nI s))) (And.intro rfl ?_)
  refine Exists.intro (nI 4) (And.intro rfl ?_)
  refine Exists.intro (q_us (q_bt2 (q_bt1 (nI s))) 4) (And.intro rfl ?_)
  refine Exists.intro ((q_bt2 (q_bt1 (nI s))) + (q_us (q_bt2 (q_bt1 (nI s))) 4)) (And.intro rfl ?_)
  refine Exists.intro (nI 252645135) (And.intro rfl ?_)
  refine Exists.intro (q_bt3 (q_bt2 (q_bt1 (nI s)))) (And.intro rfl ?_)
  refine Exists.intro (nI 8) (And.intro rfl ?_)
  refine Exists.intro (q_us (q_bt3 (q_bt2 (q_bt1 (nI s)))) 8) (And.intro rfl ?_)
  refine Exists.intro (q_bt4 (q_bt3 (q_bt2 (q_bt1 (nI s))))) (And.intro rfl ?_)
  refine Exists.intro (nI 16) (And.intro rfl ?_)
  refine Exists.intro (q_us (q_bt4 (q_bt3 (q_bt2 (q_bt1 (nI s))))) 16) (And.intro rfl ?_)
  refine Exists.intro (q_bt5 (q_bt4 (q_bt3 (q_bt2 (q_bt1 (nI s)))))) (And.intro rfl ?_)
  refine Exists.intro (nI 63) (And.intro rfl ?_)
  refine Exists.intro (nI (q_bc s)) (And.intro (q_bcx s hs) ?_)
  exact ⟨rfl, rfl⟩
theorem q_or_s (f : Nat → Bool) : ∀ (m q s : Nat), q_or f (m + 1) q s = q_or f m q s ||| (if f (q + m) = true then 2 ^ (q + m) else 0)
  | 0, _, _ => rfl
  | m + 1, q, s => by
    show q_or f (m + 1) (q + 1) _ = q_or f m (q + 1) _ ||| _
    rw [q_or_s f m (q + 1), show q + 1 + m = q + (m + 1) by omega]
theorem q_s2_s (S : qS) (rf : Option qR) (c : Nat) : ∀ (m p s : Nat), q_s2 S rf c (m + 1) p s = if s_at S (p + m) = c then q_or (q_s1 S rf c (p + m)) (s_n S 0) 0 (q_s2 S rf c m p s) else q_s2 S rf c m p s
  | 0, _, _ => rfl
  | m + 1, p, s => by
    show q_s2 S rf c (m + 1) (p + 1) _ = if _ then q_or _ _ _ (q_s2 S rf c m (p + 1) _) else q_s2 S rf c m (p + 1) _
    rw [q_s2_s S rf c m (p + 1), show p + 1 + m = p + (m + 1) by omega]
abbrev kFs : List (Nat × Option Nat) := (190, none) :: kLw
theorem l_fs1 {G : qx_G} {σ0 : qx_S} {S : qS} {rf : Option qR} {e : Nat} {Φ : qx_F} (key : ∀ s, cI s S rf e → ql kFs σ0 s → (∀ c, c < s_n S 0 → qx_mi s 190 c = nI (2 ^ c)) → qx_K G qc_T 4 RX11 YX11_findServers 31 [.ref 3, .retAddr 0, .retAddr 0, .retAddr 0] [] s Φ) : ∀ (m k : Nat) (σ : qx_S), m + k = s_n S 0 → cI σ S rf e → ql kFs σ0 σ → (∀ c, c < k → qx_mi σ 190 c = nI (2 ^ c)) → qx_K G qc_T 4 RX11 YX11_findServers 2 [.ref 3, .int (nI k), .retAddr 0, .retAddr 0] [] σ Φ := by
  intro m
  induction m with
  | zero =>
    intro k σ hk hI hf hv
    have h8 := hI.1.pl
    have e4 := hI.2.1.1.1.trans hI.1.1.2.1.1.1
    rw [show k = s_n S 0 by omega] at hv ⊢
    refine qy_wp_ok (c := CX11_findServers) (cuts := [2, 31]) vX11_findServers wX11_findServers 2000 2 _ _ _ ?_
    refine And.intro rfl (Exists.intro 15 (And.intro rfl ?_))
    refine And.intro rfl (Exists.intro 16 (And.intro rfl ?_))
    refine And.intro rfl (Exists.intro 4 (Exists.intro (nI (s_n S 0)) (And.intro rfl (And.intro e4 ?_))))
    refine And.intro (fun h13 => ?_) (fun h13 => ?_)
    · skip
      have h13 := nI_leT (a := s_n S 0) (b := s_n S 0) (by omega) (by omega) h13
      refine qx_K_le (ls := [.ref 3, .retAddr 0, .retAddr 0, .retAddr 0]) ⟨Or.inr rfl, Or.inl rfl, Or.inr rfl, Or.inr rfl, trivial⟩ ?_
      exact key _ hI hf hv
    · skip
      have h13 := nI_leF (a := s_n S 0) (b := s_n S 0) (by omega) (by omega) h13
      exact absurd h13 (by omega)
  | succ m ih =>
    intro k σ hk hI hf hv
    have h8 := hI.1.pl
    have e4 := hI.2.1.1.1.trans hI.1.1.2.1.1.1
    refine qy_wp_ok (c := CX11_findServers) (cuts := [2, 31]) vX11_findServers wX11_findServers 2000 2 _ _ _ ?_
    refine And.intro rfl (Exists.intro 15 (And.intro rfl ?_))
    refine And.intro rfl (Exists.intro 16 (And.intro rfl ?_))
    refine And.intro rfl (Exists.intro 4 (Exists.intro (nI (s_n S 0)) (And.intro rfl (And.intro e4 ?_))))
    refine And.intro (fun h13 => ?_) (fun h13 => ?_)
    · skip
      have h13 := nI_leT (a := s_n S 0) (b := k) (by omega) (by omega) h13
      exact absurd h13 (by omega)
    · skip
      have h13 := nI_leF (a := s_n S 0) (b := k) (by omega) (by omega) h13
      refine And.intro rfl (Exists.intro 190 (And.intro rfl ?_))
      refine Exists.intro (nI 1) (And.intro rfl ?_)
      refine Exists.intro (nI (2 ^ k)) (And.intro (nI_sh1 (by omega)) ?_)
      obtain ⟨σ1, eσ1⟩ : ∃ zs, zs = (qx_wi σ 190 k (nI (2 ^ k))) := ⟨_, rfl⟩
      have fσ1 := qn_wi eσ1
      refine Exists.intro (k) (Exists.intro σ1 (And.intro rfl (And.intro ⟨8, rfl, by omega, by decide⟩ (And.intro eσ1.symm ?_))))
      refine Exists.intro (nI (k + 1)) (And.intro (nI_add _ _) ?_)
      refine ih (k + 1) _ (by omega) (hI.fr fσ1 rfl rfl) (hf.tr (fσ1.mn rfl)) (fun c hc => ?_)
      by_cases z : c = k
      · rw [z]; exact qn_eq eσ1
      · exact (qn_ne eσ1 (Or.inr z)).trans (hv c (by omega))
theorem l_fs3 {G : qx_G} {σ0 : qx_S} {S : qS} {rf : Option qR} {e p : Nat} (hp : p < s_n S 1) {V : Nat → Nat} {Φ : qx_F} (key : ∀ s, cI s S rf e → ql kFs σ0 s → (∀ c, c < s_n S 0 → qx_mi s 190 c = nI (if s_at S p = c then q_or (q_s1 S rf c p) (s_n S 0) 0 (V c) else V c)) → qx_K G qc_T 4 RX11 YX11_findServers 121 [.ref 3, .int (nI p), .retAddr 0, .retAddr 0] [] s Φ) : ∀ (m k : Nat) (σ : qx_S), m + k = s_n S 0 → cI σ S rf e → ql kFs σ0 σ → (∀ c, c < s_n S 0 → qx_mi σ 190 c = nI (if s_at S p = c then q_or (q_s1 S rf c p) k 0 (V c) else V c)) → qx_K G qc_T 4 RX11 YX11_findServers 62 [.ref 3, .int (nI p), .int (nI (s_at S p)), .int (nI k)] [] σ Φ := by
  intro m
  induction m with
  | zero =>
    intro k σ hk hI hf hv
    have h8 := hI.1.pl
    have e4 := hI.2.1.1.1.trans hI.1.1.2.1.1.1
    rw [show k = s_n S 0 by omega] at hv ⊢
    refine qy_wp_ok (c := CX11_findServers) (cuts := [62, 121]) vX11_findServers wX11_findServers 2000 62 _ _ _ ?_
    refine And.intro rfl (Exists.intro 15 (And.intro rfl ?_))
    refine And.intro rfl (Exists.intro 16 (And.intro rfl ?_))
    refine And.intro rfl (Exists.intro 4 (Exists.intro (nI (s_n S 0)) (And.intro rfl (And.intro e4 ?_))))
    refine And.intro (fun h73 => ?_) (fun h73 => ?_)
    · skip
      have h73 := nI_leT (a := s_n S 0) (b := s_n S 0) (by omega) (by omega) h73
      refine qx_K_le (ls := [.ref 3, .int (nI p), .retAddr 0, .retAddr 0]) ⟨Or.inr rfl, Or.inr rfl, Or.inl rfl, Or.inl rfl, trivial⟩ ?_
      exact key _ hI hf hv
    · skip
      have h73 := nI_leF (a := s_n S 0) (b := s_n S 0) (by omega) (by omega) h73
      exact absurd h73 (by omega)
  | succ m ih =>
    intro k σ hk hI hf hv
    have h8 := hI.1.pl
    have hpe := hI.1.pe
    have a8 := hI.at8 hp
    have aP := (hI.1.1.2.1.2.2 p hp).2
    have e4 := hI.2.1.1.1.trans hI.1.1.2.1.1.1
    obtain ⟨c0, ec⟩ : ∃ c0, c0 = s_at S p := ⟨_, rfl⟩
    obtain ⟨w, ew⟩ : ∃ w, w = q_or (q_s1 S rf c0 p) k 0 (V c0) := ⟨_, rfl⟩
    have hb := (hI.1.1.2.2 p hp).2
    have u1 : decide (¬ S (10 + 5 * p + 3) = nI 0) = true → q_s1 S rf c0 p k = true := fun h => by
      unfold q_s1
      rw [decide_eq_true (hb.resolve_left (of_decide_eq_true h))]
      rfl
    have u2 : decide (q_lk S rf p c0 c0 < q_lk S rf p c0 k) = true → q_s1 S rf c0 p k = true := fun h => by
      unfold q_s1
      rw [← ec, h]
      exact Bool.or_true _
    have u3 : decide (¬ S (10 + 5 * p + 3) = nI 0) = false → decide (q_lk S rf p c0 c0 < q_lk S rf p c0 k) = false → q_s1 S rf c0 p k = false := fun h h2 => by
      unfold q_s1
      rw [← ec, h2, decide_eq_false (fun z => absurd h (by rw [z]; decide))]
      rfl
    have m0 : qx_mi σ 190 c0 = nI w := by
      rw [hv c0 (by rw [ec]; exact aP), if_pos ec.symm, ew]
    have stp : ∀ s v, (∀ c, c < s_n S 0 → c ≠ c0 → qx_mi s 190 c = qx_mi σ 190 c) → qx_mi s 190 c0 = nI v → v = q_or (q_s1 S rf c0 p) (k + 1) 0 (V c0) → ∀ c, c < s_n S 0 → qx_mi s 190 c = nI (if s_at S p = c then q_or (q_s1 S rf c p) (k + 1) 0 (V c) else V c) := by
      intro s v h1 h2 h3 c hc
      by_cases z : c = c0
      · rw [z, h2, h3, if_pos ec.symm]
      · rw [h1 c hc z, hv c hc, if_neg (fun y => z (by rw [ec, y])), if_neg (fun y => z (by rw [ec, y]))]
    have eT : q_s1 S rf c0 p k = true → w ||| 2 ^ k = q_or (q_s1 S rf c0 p) (k + 1) 0 (V c0) := fun h => by
      rw [q_or_s, ← ew, Nat.zero_add, if_pos h]
    have eF : q_s1 S rf c0 p k = false → w = q_or (q_s1 S rf c0 p) (k + 1) 0 (V c0) := fun h => by
      rw [q_or_s, ← ew, Nat.zero_add, if_neg (by rw [h]; decide), Nat.or_zero]
    have aP : c0 < s_n S 0 := by rw [ec]; exact aP
    rw [← ec] at a8 ⊢
    rw [← ec] at ih stp
    refine qy_wp_ok (c := CX11_findServers) (cuts := [62, 121]) vX11_findServers wX11_findServers 2000 62 _ _ _ ?_
    refine And.intro rfl (Exists.intro 15 (And.intro rfl ?_))
    refine And.intro rfl (Exists.intro 16 (And.intro rfl ?_))
    refine And.intro rfl (Exists.intro 4 (Exists.intro (nI (s_n S 0)) (And.intro rfl (And.intro e4 ?_))))
    refine And.intro (fun h73 => ?_) (fun h73 => ?_)
    · skip
      have h73 := nI_leT (a := s_n S 0) (b := k) (by omega) (by omega) h73
      exact absurd h73 (by omega)
    · skip
      have h73 := nI_leF (a := s_n S 0) (b := k) (by omega) (by omega) h73
      refine And.intro rfl (Exists.intro 15 (And.intro rfl ?_))
      refine And.intro rfl (Exists.intro 16 (And.intro rfl ?_))
      refine And.intro rfl (Exists.intro _ (And.intro (by decide) (qx_M_mono (c_onBench hI.1.1 hI.2.1.1 hp) ?_)))
      rintro _ _ ⟨rfl, rfl⟩
      refine And.intro (fun h87 => ?_) (fun h87 => ?_)
      · skip
        have h87 := bI_t h87
        refine And.intro rfl (Exists.intro 190 (And.intro rfl ?_))
        refine Exists.intro (c0) (Exists.intro (nI w) (And.intro rfl (And.intro ⟨8, rfl, by omega, by decide⟩ (And.intro m0 ?_))))
        refine Exists.intro (nI 1) (And.intro rfl ?_)
        refine Exists.intro (nI (2 ^ k)) (And.intro (nI_sh1 (by omega)) ?_)
        refine Exists.intro (nI (w ||| (2 ^ k))) (And.intro (nI_or _ _) ?_)
        obtain ⟨σ1, eσ1⟩ : ∃ zs, zs = (qx_wi σ 190 c0 (nI (w ||| (2 ^ k)))) := ⟨_, rfl⟩
        have fσ1 := qn_wi eσ1
        refine Exists.intro (c0) (Exists.intro σ1 (And.intro rfl (And.intro ⟨8, rfl, by omega, by decide⟩ (And.intro eσ1.symm ?_))))
        refine Exists.intro (nI (k + 1)) (And.intro (nI_add _ _) ?_)
        exact ih (k + 1) _ (by omega) (hI.fr fσ1 rfl rfl) (hf.tr (fσ1.mn rfl)) (stp _ _ (fun c _ hc => qn_ne eσ1 (Or.inr hc)) (qn_eq eσ1) (eT (u1 h87)))
      · skip
        have h87 := bI_f h87
        refine And.intro rfl (Exists.intro 156 (And.intro rfl ?_))
        refine And.intro rfl (Exists.intro _ (And.intro (by decide) (qx_M_mono (c_likesMore hI.W hI.K cH_rf hp a8 (by omega)) ?_)))
        rintro _ σ1 ⟨rfl, fσ1, kσ1⟩
        refine And.intro (fun h100 => ?_) (fun h100 => ?_)
        · skip
          have h100 := bI_f h100
          refine Exists.intro (nI (k + 1)) (And.intro (nI_add _ _) ?_)
          exact ih (k + 1) _ (by omega) (hI.lw fσ1 kσ1) (hf.tr (fσ1.mn rfl)) (stp _ _ (fun c _ hc => fσ1.i _ _ rfl) ((fσ1.i _ _ rfl).trans m0) (eF (u3 h87 h100)))
        · skip
          have h100 := bI_t h100
          refine And.intro rfl (Exists.intro 190 (And.intro rfl ?_))
          refine Exists.intro (c0) (Exists.intro (nI w) (And.intro rfl (And.intro ⟨8, rfl, by omega, by decide⟩ (And.intro ((fσ1.i _ _ rfl).trans (m0)) ?_))))
          refine Exists.intro (nI 1) (And.intro rfl ?_)
          refine Exists.intro (nI (2 ^ k)) (And.intro (nI_sh1 (by omega)) ?_)
          refine Exists.intro (nI (w ||| (2 ^ k))) (And.intro (nI_or _ _) ?_)
          obtain ⟨σ2, eσ2⟩ : ∃ zs, zs = (qx_wi σ1 190 c0 (nI (w ||| (2 ^ k)))) := ⟨_, rfl⟩
          have fσ2 := qn_wi eσ2
          refine Exists.intro (c0) (Exists.intro σ2 (And.intro rfl (And.intro ⟨8, rfl, by omega, by decide⟩ (And.intro eσ2.symm ?_))))
          refine Exists.intro (nI (k + 1)) (And.intro (nI_add _ _) ?_)
          exact ih (k + 1) _ (by omega) ((hI.lw fσ1 kσ1).fr fσ2 rfl rfl) ((hf.tr (fσ1.mn rfl)).tr (fσ2.mn rfl)) (stp _ _ (fun c _ hc => (qn_ne eσ2 (Or.inr hc)).trans (fσ1.i _ _ rfl)) (qn_eq eσ2) (eT (u2 h100)))
theorem l_fs2 {G : qx_G} {σ0 : qx_S} {S : qS} {rf : Option qR} {e : Nat} : ∀ (m p : Nat) (σ : qx_S), m + p = s_n S 1 → cI σ S rf e → ql kFs σ0 σ → (∀ c, c < s_n S 0 → qx_mi σ 190 c = nI (q_s2 S rf c p 0 (2 ^ c))) → qx_K G qc_T 4 RX11 YX11_findServers 33 [.ref 3, .int (nI p), .retAddr 0, .retAddr 0] [] σ (fun r s => r = none ∧ ql kFs σ0 s ∧ cI s S rf e ∧ ∀ c, c < s_n S 0 → qx_mi s 190 c = nI (q_sv S rf c)) := by
  intro m
  induction m with
  | zero =>
    intro p σ hp hI hf hv
    have hpe := hI.1.pe
    have e5 := hI.2.1.1.2.1.trans hI.1.1.2.1.2.1.1
    rw [show p = s_n S 1 by omega] at hv ⊢
    refine qy_wp_ok (c := CX11_findServers) (cuts := [33, 62]) vX11_findServers wX11_findServers 2000 33 _ _ _ ?_
    refine And.intro rfl (Exists.intro 15 (And.intro rfl ?_))
    refine And.intro rfl (Exists.intro 16 (And.intro rfl ?_))
    refine And.intro rfl (Exists.intro 5 (Exists.intro (nI (s_n S 1)) (And.intro rfl (And.intro e5 ?_))))
    refine And.intro (fun h44 => ?_) (fun h44 => ?_)
    · skip
      have h44 := nI_leT (a := s_n S 1) (b := s_n S 1) (by omega) (by omega) h44
      exact ⟨rfl, hf, hI, hv⟩
    · skip
      have h44 := nI_leF (a := s_n S 1) (b := s_n S 1) (by omega) (by omega) h44
      exact absurd h44 (by omega)
  | succ m ih =>
    intro p σ hp hI hf hv
    have hpe := hI.1.pe
    have h8 := hI.1.pl
    have e5 := hI.2.1.1.2.1.trans hI.1.1.2.1.2.1.1
    have hp1 : p < s_n S 1 := by omega
    have k121 : ∀ s, cI s S rf e → ql kFs σ0 s → (∀ c, c < s_n S 0 → qx_mi s 190 c = nI (if s_at S p = c then q_or (q_s1 S rf c p) (s_n S 0) 0 (q_s2 S rf c p 0 (2 ^ c)) else q_s2 S rf c p 0 (2 ^ c))) → qx_K G qc_T 4 RX11 YX11_findServers 121 [.ref 3, .int (nI p), .retAddr 0, .retAddr 0] [] s (fun r s => r = none ∧ ql kFs σ0 s ∧ cI s S rf e ∧ ∀ c, c < s_n S 0 → qx_mi s 190 c = nI (q_sv S rf c)) := by
      intro s h1 h2 h3
      refine qy_wp_ok (c := CX11_findServers) (cuts := [33]) vX11_findServers wX11_findServers 2000 121 _ _ _ ?_
      refine Exists.intro (nI (p + 1)) (And.intro (nI_add _ _) ?_)
      refine ih (p + 1) _ (by omega) h1 h2 (fun c hc => ?_)
      rw [h3 c hc, q_s2_s, Nat.zero_add]
    refine qy_wp_ok (c := CX11_findServers) (cuts := [33, 62]) vX11_findServers wX11_findServers 2000 33 _ _ _ ?_
    refine And.intro rfl (Exists.intro 15 (And.intro rfl ?_))
    refine And.intro rfl (Exists.intro 16 (And.intro rfl ?_))
    refine And.intro rfl (Exists.intro 5 (Exists.intro (nI (s_n S 1)) (And.intro rfl (And.intro e5 ?_))))
    refine And.intro (fun h44 => ?_) (fun h44 => ?_)
    · skip
      have h44 := nI_leT (a := s_n S 1) (b := p) (by omega) (by omega) h44
      exact absurd h44 (by omega)
    · skip
      have h44 := nI_leF (a := s_n S 1) (b := p) (by omega) (by omega) h44
      refine And.intro rfl (Exists.intro 15 (And.intro rfl ?_))
      refine And.intro rfl (Exists.intro 21 (And.intro rfl ?_))
      refine And.intro rfl (Exists.intro 22 (And.intro rfl ?_))
      refine Exists.intro (p) (Exists.intro (nI (s_at S p)) (And.intro rfl (And.intro ⟨10, rfl, by omega, by decide⟩ (And.intro (hI.at hp1) ?_))))
      refine Exists.intro (nI 0) (And.intro rfl ?_)
      refine l_fs3 (V := fun c => q_s2 S rf c p 0 (2 ^ c)) hp1 k121 (s_n S 0) 0 _ (by omega) hI hf (fun c hc => ?_)
      rw [hv c hc]
      show _ = nI (if s_at S p = c then q_s2 S rf c p 0 (2 ^ c) else q_s2 S rf c p 0 (2 ^ c))
      split <;> rfl
theorem c_findServers {G : qx_G} {σ : qx_S} {S : qS} {rf : Option qR} {e : Nat} (hI : cI σ S rf e) : qx_M G qc_T 4 YX11_findServers [.ref 3] σ (fun r s => r = none ∧ ql kFs σ s ∧ cI s S rf e ∧ ∀ c, c < s_n S 0 → qx_mi s 190 c = nI (q_sv S rf c)) := by
  have k31 : ∀ s, cI s S rf e → ql kFs σ s → (∀ c, c < s_n S 0 → qx_mi s 190 c = nI (2 ^ c)) → qx_K G qc_T 4 RX11 YX11_findServers 31 [.ref 3, .retAddr 0, .retAddr 0, .retAddr 0] [] s (fun r s => r = none ∧ ql kFs σ s ∧ cI s S rf e ∧ ∀ c, c < s_n S 0 → qx_mi s 190 c = nI (q_sv S rf c)) := by
    intro s h1 h2 h3
    refine qy_wp_ok (c := CX11_findServers) (cuts := [33]) vX11_findServers wX11_findServers 2000 31 _ _ _ ?_
    refine Exists.intro (nI 0) (And.intro rfl ?_)
    exact l_fs2 (s_n S 1) 0 _ (by omega) h1 h2 h3
  refine qx_M_in rfl (Nat.le_of_ble_eq_true rfl) ?_
  refine qy_wp_ok (c := CX11_findServers) (cuts := [2]) vX11_findServers wX11_findServers 2000 0 _ _ _ ?_
  refine Exists.intro (nI 0) (And.intro rfl ?_)
  exact l_fs1 k31 (s_n S 0) 0 _ (by omega) hI qf.rf (fun c hc => absurd hc (Nat.not_lt_zero c))

