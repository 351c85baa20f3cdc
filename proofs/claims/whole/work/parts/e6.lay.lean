/-! THE CLASS: the book is laid out by days -/
theorem q_pic_tb {S : qS} {b : Nat} : ∀ (n k : Nat), (q_pic S b n).testBit k = true ↔ ∃ j, j < n ∧ q_bm S b j = k
  | 0, k => by
    constructor
    · intro h
      rw [show q_pic S b 0 = 0 from rfl, Nat.zero_testBit] at h
      cases h
    · rintro ⟨j, h, -⟩
      omega
  | n + 1, k => by
    show (q_pic S b n ||| 2 ^ (q_bm S b n)).testBit k = true ↔ _
    rw [Nat.testBit_or, Bool.or_eq_true, q_pic_tb n k, Nat.testBit_two_pow]
    constructor
    · rintro (⟨j, h1, h2⟩ | h)
      · exact ⟨j, by omega, h2⟩
      · exact ⟨n, by omega, of_decide_eq_true h⟩
    · rintro ⟨j, h1, h2⟩
      rcases Nat.lt_or_ge j n with h | h
      · exact Or.inl ⟨j, h, h2⟩
      · obtain rfl : j = n := by omega
        exact Or.inr (decide_eq_true h2)
theorem q_mt_iff (S : qS) (a b : Nat) : q_mt S a b = true ↔ ∃ i, i < s_n S (254 + 7 * b) ∧ ∃ j, j < s_n S (254 + 7 * a) ∧ q_bm S a j = q_bm S b i := by
  unfold q_mt
  constructor
  · intro h
    have h := of_decide_eq_true h
    obtain ⟨k, hk⟩ : ∃ k, (q_pi S a &&& q_pi S b).testBit k = true := Nat.exists_testBit_of_ne_zero h
    rw [Nat.testBit_and, Bool.and_eq_true] at hk
    obtain ⟨j, j1, j2⟩ := (q_pic_tb _ _).mp hk.1
    obtain ⟨i, i1, i2⟩ := (q_pic_tb _ _).mp hk.2
    exact ⟨i, i1, j, j1, j2.trans i2.symm⟩
  · rintro ⟨i, i1, j, j1, e⟩
    refine decide_eq_true (fun z => ?_)
    have h : (q_pi S a &&& q_pi S b).testBit (q_bm S b i) = true := by
      rw [Nat.testBit_and, Bool.and_eq_true]
      exact ⟨(q_pic_tb _ _).mpr ⟨j, j1, e⟩, (q_pic_tb _ _).mpr ⟨i, i1, rfl⟩⟩
    rw [z, Nat.zero_testBit] at h
    cases h
/-- one of the ring at y is in the ring at z -/
def q_me (f g : Nat → Nat) (n : Nat) : Nat → Nat → Bool := q_ex (fun i => q_ex (fun j => decide (nI (g j) = nI (f i))) n 0)
theorem l_meets {G : qx_G} {σ : qx_S} {y z n k : Nat} {f g : Nat → Nat} (hn : n ≤ 6) (hk : k ≤ 6) (hy : rgC σ y f k) (hz : rgC σ z g n) : ∀ (m i : Nat), m + i = k → qx_K G qc_T 1 RX4 YX4_meets 2 [.ref y, .ref z, .int (nI i)] [] σ (qr (bI (q_me f g n m i)) σ) := by
  intro m
  induction m with
  | zero =>
    intro i hi
    obtain rfl : i = k := by omega
    refine qy_wp_ok (c := CX4_meets) (cuts := [2]) vX4_meets wX4_meets 2000 2 _ _ _ ?_
    refine And.intro (by rw [show qx_sh qc_T _ y = _ from hy.1.1]; rfl) (Exists.intro 1 (Exists.intro (nI i) (And.intro rfl (And.intro hy.2.1 ?_))))
    refine And.intro (fun h7 => ?_) (fun h7 => ?_)
    · skip
      have h7 := nI_leT (a := i) (b := i) (by omega) (by omega) h7
      refine Exists.intro (nI 0) (And.intro rfl ?_)
      refine And.intro (Or.inl rfl) ?_
      exact ⟨rfl, rfl⟩
    · skip
      have h7 := nI_leF (a := i) (b := i) (by omega) (by omega) h7
      exact absurd h7 (by omega)
  | succ m ih =>
    intro i hi
    refine qy_wp_ok (c := CX4_meets) (cuts := [2]) vX4_meets wX4_meets 2000 2 _ _ _ ?_
    refine And.intro (by rw [show qx_sh qc_T _ y = _ from hy.1.1]; rfl) (Exists.intro 1 (Exists.intro (nI k) (And.intro rfl (And.intro hy.2.1 ?_))))
    refine And.intro (fun h7 => ?_) (fun h7 => ?_)
    · skip
      have h7 := nI_leT (a := k) (b := i) (by omega) (by omega) h7
      exact absurd h7 (by omega)
    · skip
      have h7 := nI_leF (a := k) (b := i) (by omega) (by omega) h7
      refine And.intro (by rw [show qx_sh qc_T _ y = _ from hy.1.1]; rfl) (Exists.intro (y + 1) (And.intro rfl ?_))
      refine Exists.intro (i) (Exists.intro (nI (f i)) (And.intro rfl (And.intro ⟨6, hy.1.2, by omega, by decide⟩ (And.intro (hy.2.2 i (by omega)) ?_))))
      refine And.intro ((congrArg Prod.fst (hz.1.1)).trans rfl) (Exists.intro _ (And.intro (by decide) (qx_M_mono (c_has (f := fun j => nI (g j)) (x := (nI (f i))) hz.1 hz.2.1 hn hz.2.2) ?_)))
      rintro _ _ ⟨rfl, rfl⟩
      refine And.intro (fun h20 => ?_) (fun h20 => ?_)
      · skip
        have h20 := bI_f h20
        refine Exists.intro (nI (i + 1)) (And.intro (nI_add _ _) ?_)
        rw [show q_me f g n (m + 1) i = q_me f g n m (i + 1) from q_ex_f (f := fun i => q_ex (fun j => decide (nI (g j) = nI (f i))) n 0) h20]
        exact ih (i + 1) (by omega)
      · skip
        have h20 := bI_t h20
        refine Exists.intro (nI 1) (And.intro rfl ?_)
        refine And.intro (Or.inr rfl) ?_
        exact ⟨by rw [show q_me f g n (m + 1) i = true from q_ex_t (f := fun i => q_ex (fun j => decide (nI (g j) = nI (f i))) n 0) h20]; rfl, rfl⟩
theorem c_meets {G : qx_G} {σ : qx_S} {S : qS} {rf : Option qR} {e : Nat} (hI : cI σ S rf e) {a b : Nat} (ha : a < s_n S 5) (hb : b < s_n S 5) : qx_M G qc_T 1 YX4_meets [.ref (131 + 2 * b), .ref (131 + 2 * a)] σ (qr (bI (q_mt S a b)) σ) := by
  obtain ⟨a1, a2, a3, a4⟩ := hI.1.2.2.2.1.2.2 a ha
  obtain ⟨b1, b2, b3, b4⟩ := hI.1.2.2.2.1.2.2 b hb
  have hpe := hI.1.pe
  have key : q_me (q_bm S b) (q_bm S a) (s_n S (254 + 7 * a)) (s_n S (254 + 7 * b)) 0 = q_mt S a b := by
    have iff1 : q_me (q_bm S b) (q_bm S a) (s_n S (254 + 7 * a)) (s_n S (254 + 7 * b)) 0 = true ↔ q_mt S a b = true := by
      rw [q_mt_iff]
      unfold q_me
      rw [q_ex_iff]
      constructor
      · rintro ⟨i, -, i1, i2⟩
        obtain ⟨j, -, j1, j2⟩ := (q_ex_iff _ _ _).mp i2
        have i1 : i < s_n S (254 + 7 * b) := by omega
        have j1 : j < s_n S (254 + 7 * a) := by omega
        have h1 : q_bm S a j < s_n S 1 := (a4 j j1).2
        have h2 : q_bm S b i < s_n S 1 := (b4 i i1).2
        exact ⟨i, i1, j, j1, nI_eqT (by omega) (by omega) (of_decide_eq_true j2)⟩
      · rintro ⟨i, i1, j, j1, e⟩
        exact ⟨i, by omega, by omega, (q_ex_iff _ _ _).mpr ⟨j, by omega, by omega, decide_eq_true (by rw [e])⟩⟩
    cases h1 : q_mt S a b with
    | true => exact iff1.mpr h1
    | false => exact Bool.eq_false_iff.mpr (fun z => by rw [iff1.mp z] at h1; cases h1)
  rw [← key]
  have hy := (hI.told hb).2
  have hz := (hI.told ha).2
  refine qx_M_in rfl (Nat.le_of_ble_eq_true rfl) ?_
  refine qy_wp_ok (c := CX4_meets) (cuts := [2]) vX4_meets wX4_meets 2000 0 _ _ _ ?_
  refine Exists.intro (nI 0) (And.intro rfl ?_)
  exact l_meets a3 b3 hy hz (s_n S (254 + 7 * b)) 0 (by omega)
theorem l_lay2 {G : qx_G} {σ : qx_S} {S : qS} {rf : Option qR} {e : Nat} (hI : cI σ S rf e) {b L : Nat} (hb : b < s_n S 5) {Φ : qx_F} (hd : ∀ i, i < b → qx_mi σ 189 i = nI (q_dys (q_mt S) b i)) (hk : qx_K G qc_T 2 RX11 YX11_layOutBook 78 [.ref 3, .int (nI L), .int (nI b), .int (nI (q_dyf (fun a => q_mt S a b) (q_dys (q_mt S) b) b 0 1)), .retAddr 0] [] σ Φ) : ∀ (m a d : Nat), m + a = b → d ≤ b + 1 → q_dyf (fun a => q_mt S a b) (q_dys (q_mt S) b) m a d = q_dyf (fun a => q_mt S a b) (q_dys (q_mt S) b) b 0 1 → qx_K G qc_T 2 RX11 YX11_layOutBook 20 [.ref 3, .int (nI L), .int (nI b), .int (nI d), .int (nI a)] [] σ Φ := by
  intro m
  have b12 := hI.1.b12
  induction m with
  | zero =>
    intro a d ha hd1 hq
    obtain rfl : a = b := by omega
    have hq : d = q_dyf (fun a' => q_mt S a' a) (q_dys (q_mt S) a) a 0 1 := hq
    rw [← hq] at hk
    refine qy_wp_ok (c := CX11_layOutBook) (cuts := [20, 78]) vX11_layOutBook wX11_layOutBook 2000 20 _ _ _ ?_
    refine And.intro (fun h23 => ?_) (fun h23 => ?_)
    · skip
      have h23 := nI_leT (a := a) (b := a) (by omega) (by omega) h23
      refine qx_K_le (ls := [.ref 3, .int (nI L), .int (nI a), .int (nI d), .retAddr 0]) ⟨Or.inr rfl, Or.inr rfl, Or.inr rfl, Or.inr rfl, Or.inl rfl, trivial⟩ ?_
      exact hk
    · skip
      have h23 := nI_leF (a := a) (b := a) (by omega) (by omega) h23
      exact absurd h23 (by omega)
  | succ m ih =>
    intro a d ha hd1 hq
    have dl := q_dys_le (q_mt S) b a
    have step : ∀ d', (if q_mt S a b = true ∧ d ≤ q_dys (q_mt S) b a then q_dys (q_mt S) b a + 1 else d) = d' → qx_K G qc_T 2 RX11 YX11_layOutBook 20 [.ref 3, .int (nI L), .int (nI b), .int (nI d'), .int (nI (a + 1))] [] σ Φ := by
      intro d' e'
      refine ih (a + 1) d' (by omega) (by rw [← e']; split <;> omega) ?_
      rw [← hq, ← e']
      rfl
    refine qy_wp_ok (c := CX11_layOutBook) (cuts := [20, 78]) vX11_layOutBook wX11_layOutBook 2000 20 _ _ _ ?_
    refine And.intro (fun h23 => ?_) (fun h23 => ?_)
    · skip
      have h23 := nI_leT (a := b) (b := a) (by omega) (by omega) h23
      exact absurd h23 (by omega)
    · skip
      have h23 := nI_leF (a := b) (b := a) (by omega) (by omega) h23
      refine And.intro rfl (Exists.intro 189 (And.intro rfl ?_))
      refine Exists.intro (a) (Exists.intro (nI (q_dys (q_mt S) b a)) (And.intro rfl (And.intro ⟨12, rfl, by omega, by decide⟩ (And.intro (hd a (by omega)) ?_))))
      refine And.intro (fun h34 => ?_) (fun h34 => ?_)
      · skip
        have h34 := nI_ltT (a := q_dys (q_mt S) b a) (b := d) (by omega) (by omega) h34
        refine Exists.intro (nI (a + 1)) (And.intro (nI_add _ _) ?_)
        first
          | exact step _ (if_pos ⟨h59, h34⟩)
          | exact step _ (if_neg (fun z => absurd z.2 (Nat.not_le.mpr h34)))
          | exact step _ (if_neg (fun z => absurd (z.1.symm.trans h59) (by decide)))
      · skip
        have h34 := nI_ltF (a := q_dys (q_mt S) b a) (b := d) (by omega) (by omega) h34
        refine And.intro rfl (Exists.intro 15 (And.intro rfl ?_))
        refine And.intro rfl (Exists.intro 29 (And.intro rfl ?_))
        refine Exists.intro (b) (Exists.intro (some (131 + 2 * b)) (Exists.intro 4 (And.intro rfl (And.intro ⟨⟨12, rfl, by omega, by decide⟩, by decide, by decide⟩ (And.intro ((hI.told hb).1) ?_)))))
        refine And.intro rfl (Exists.intro 15 (And.intro rfl ?_))
        refine And.intro rfl (Exists.intro 29 (And.intro rfl ?_))
        refine Exists.intro (a) (Exists.intro (some (131 + 2 * a)) (Exists.intro 4 (And.intro rfl (And.intro ⟨⟨12, rfl, by omega, by decide⟩, by decide, by decide⟩ (And.intro ((hI.told (by omega)).1) ?_)))))
        refine And.intro ((congrArg Prod.fst ((hI.told hb).2.1.1)).trans rfl) (Exists.intro _ (And.intro (by decide) (qx_M_mono (c_meets hI (by omega) hb) ?_)))
        rintro _ _ ⟨rfl, rfl⟩
        refine And.intro (fun h59 => ?_) (fun h59 => ?_)
        · skip
          have h59 := bI_f h59
          refine Exists.intro (nI (a + 1)) (And.intro (nI_add _ _) ?_)
          first
            | exact step _ (if_pos ⟨h59, h34⟩)
            | exact step _ (if_neg (fun z => absurd z.2 (Nat.not_le.mpr h34)))
            | exact step _ (if_neg (fun z => absurd (z.1.symm.trans h59) (by decide)))
        · skip
          have h59 := bI_t h59
          refine And.intro rfl (Exists.intro 189 (And.intro rfl ?_))
          refine Exists.intro (a) (Exists.intro (nI (q_dys (q_mt S) b a)) (And.intro rfl (And.intro ⟨12, rfl, by omega, by decide⟩ (And.intro (hd a (by omega)) ?_))))
          refine Exists.intro (nI 1) (And.intro rfl ?_)
          refine Exists.intro (nI (q_dys (q_mt S) b a + 1)) (And.intro (nI_add _ _) ?_)
          refine Exists.intro (nI (a + 1)) (And.intro (nI_add _ _) ?_)
          first
            | exact step _ (if_pos ⟨h59, h34⟩)
            | exact step _ (if_neg (fun z => absurd z.2 (Nat.not_le.mpr h34)))
            | exact step _ (if_neg (fun z => absurd (z.1.symm.trans h59) (by decide)))
theorem l_lay1 {G : qx_G} {σ0 : qx_S} {S : qS} {rf : Option qR} {e : Nat} : ∀ (m b : Nat) (σ : qx_S), m + b = s_n S 5 → cI σ S rf e → ql [(189, none)] σ0 σ → (∀ i, i < b → qx_mi σ 189 i = nI (q_dys (q_mt S) b i)) → qx_K G qc_T 2 RX11 YX11_layOutBook 4 [.ref 3, .int (nI (q_dyl (q_mt S) b)), .int (nI b), .retAddr 0, .retAddr 0] [] σ (fun r s => r = some (.int (nI (q_dyl (q_mt S) (s_n S 5)))) ∧ ql [(189, none)] σ0 s ∧ cI s S rf e ∧ ∀ i, i < s_n S 5 → qx_mi s 189 i = nI (q_dys (q_mt S) (s_n S 5) i)) := by
  intro m
  induction m with
  | zero =>
    intro b σ hb hI hf hd
    have b12 := hI.1.b12
    obtain rfl : b = s_n S 5 := by omega
    refine qy_wp_ok (c := CX11_layOutBook) (cuts := [4, 20, 78]) vX11_layOutBook wX11_layOutBook 2000 4 _ _ _ ?_
    refine And.intro rfl (Exists.intro 15 (And.intro rfl ?_))
    refine And.intro rfl (Exists.intro 8 (Exists.intro (nI (s_n S 5)) (And.intro rfl (And.intro (hI.2.1.2.2.2.2.2.2.2.1.trans hI.1.2.2.2.1.1) ?_))))
    refine And.intro (fun h12 => ?_) (fun h12 => ?_)
    · skip
      have h12 := nI_leT (a := s_n S 5) (b := s_n S 5) (by omega) (by omega) h12
      exact ⟨rfl, hf, hI, hd⟩
    · skip
      have h12 := nI_leF (a := s_n S 5) (b := s_n S 5) (by omega) (by omega) h12
      exact absurd h12 (by omega)
  | succ m ih =>
    intro b σ hb hI hf hd
    have b12 := hI.1.b12
    have hbl : b < s_n S 5 := by omega
    have dl := q_dyl_le (q_mt S) b
    have dl2 := q_dys_le (q_mt S) (b + 1) b
    have db : q_dys (q_mt S) (b + 1) b = q_dyf (fun a => q_mt S a b) (q_dys (q_mt S) b) b 0 1 := if_pos rfl
    have mx : (if nI (q_dyl (q_mt S) b) < nI (q_dys (q_mt S) (b + 1) b) then nI (q_dys (q_mt S) (b + 1) b) else nI (q_dyl (q_mt S) b)) = nI (q_dyl (q_mt S) (b + 1)) := by
      by_cases z : q_dyl (q_mt S) b < q_dys (q_mt S) (b + 1) b
      · rw [if_pos ((nI_ltI (by omega) (by omega)).mpr z), show q_dyl (q_mt S) (b + 1) = q_dys (q_mt S) (b + 1) b from if_pos z]
      · rw [if_neg (fun w => z ((nI_ltI (by omega) (by omega)).mp w)), show q_dyl (q_mt S) (b + 1) = q_dyl (q_mt S) b from if_neg z]
    have key : qx_K G qc_T 2 RX11 YX11_layOutBook 78 [.ref 3, .int (nI (q_dyl (q_mt S) b)), .int (nI b), .int (nI (q_dys (q_mt S) (b + 1) b)), .retAddr 0] [] σ (fun r s => r = some (.int (nI (q_dyl (q_mt S) (s_n S 5)))) ∧ ql [(189, none)] σ0 s ∧ cI s S rf e ∧ ∀ i, i < s_n S 5 → qx_mi s 189 i = nI (q_dys (q_mt S) (s_n S 5) i)) := by
      refine qy_wp_ok (c := CX11_layOutBook) (cuts := [4, 20]) vX11_layOutBook wX11_layOutBook 2000 78 _ _ _ ?_
      refine And.intro rfl (Exists.intro 189 (And.intro rfl ?_))
      obtain ⟨σ1, eσ1⟩ : ∃ zs, zs = (qx_wi σ 189 b (nI (q_dys (q_mt S) (b + 1) b))) := ⟨_, rfl⟩
      have fσ1 := qn_wi eσ1
      refine Exists.intro (b) (Exists.intro σ1 (And.intro rfl (And.intro ⟨12, rfl, by omega, by decide⟩ (And.intro eσ1.symm ?_))))
      refine Exists.intro (nI (q_dyl (q_mt S) (b + 1))) (And.intro mx ?_)
      refine Exists.intro (nI (b + 1)) (And.intro (nI_add _ _) ?_)
      refine qx_K_le (ls := [.ref 3, .int (nI (q_dyl (q_mt S) (b + 1))), .int (nI (b + 1)), .retAddr 0, .retAddr 0]) ⟨Or.inr rfl, Or.inr rfl, Or.inr rfl, Or.inl rfl, Or.inr rfl, trivial⟩ ?_
      refine ih (b + 1) _ (by omega) (hI.fr fσ1 rfl rfl) (hf.tr fσ1) (fun i hi => ?_)
      by_cases z : i = b
      · rw [z]; exact qn_eq eσ1
      · rw [show q_dys (q_mt S) (b + 1) i = q_dys (q_mt S) b i from if_neg z]
        exact (qn_ne eσ1 (Or.inr z)).trans (hd i (by omega))
    rw [db] at key
    refine qy_wp_ok (c := CX11_layOutBook) (cuts := [4, 20, 78]) vX11_layOutBook wX11_layOutBook 2000 4 _ _ _ ?_
    refine And.intro rfl (Exists.intro 15 (And.intro rfl ?_))
    refine And.intro rfl (Exists.intro 8 (Exists.intro (nI (s_n S 5)) (And.intro rfl (And.intro (hI.2.1.2.2.2.2.2.2.2.1.trans hI.1.2.2.2.1.1) ?_))))
    refine And.intro (fun h12 => ?_) (fun h12 => ?_)
    · skip
      have h12 := nI_leT (a := s_n S 5) (b := b) (by omega) (by omega) h12
      exact absurd h12 (by omega)
    · skip
      have h12 := nI_leF (a := s_n S 5) (b := b) (by omega) (by omega) h12
      refine Exists.intro (nI 1) (And.intro rfl ?_)
      refine Exists.intro (nI 0) (And.intro rfl ?_)
      exact l_lay2 hI hbl hd key b 0 1 (by omega) (by omega) rfl
theorem c_layOutBook {G : qx_G} {σ : qx_S} {S : qS} {rf : Option qR} {e : Nat} (hI : cI σ S rf e) : qx_M G qc_T 2 YX11_layOutBook [.ref 3] σ (fun r s => r = some (.int (nI (q_dyl (q_mt S) (s_n S 5)))) ∧ ql [(189, none)] σ s ∧ cI s S rf e ∧ ∀ i, i < s_n S 5 → qx_mi s 189 i = nI (q_dys (q_mt S) (s_n S 5) i)) := by
  refine qx_M_in rfl (Nat.le_of_ble_eq_true rfl) ?_
  refine qy_wp_ok (c := CX11_layOutBook) (cuts := [4]) vX11_layOutBook wX11_layOutBook 2000 0 _ _ _ ?_
  refine Exists.intro (nI 0) (And.intro rfl ?_)
  refine Exists.intro (nI 0) (And.intro rfl ?_)
  exact l_lay1 (s_n S 5) 0 σ (by omega) hI qf.rf (fun i hi => absurd hi (by omega))
theorem c_laidOut_no {G : qx_G} {σ : qx_S} {S : qS} {rf : Option qR} {e : Nat} (hI : cI σ S rf e) {x : Int32} (hx : ¬ x = -1) (hx2 : q_is x (s_n S 5) = false) : qx_M G qc_T 3 YX11_laidOut [.ref 3, .int x] σ (qr (-2) σ) := by
  have b12 := hI.1.b12
  have u : ¬ x < -1 → x < nI (s_n S 5) → False := fun h1 h2 => by
    unfold q_is at hx2
    rw [decide_eq_true h2, Bool.and_true] at hx2
    have h3 := of_decide_eq_false hx2
    have k1 : ¬ x.toInt < (-1 : Int32).toInt := fun z => h1 (Int32.lt_iff_toInt_lt.mpr z)
    have k2 : x.toInt < (0 : Int32).toInt := Int32.lt_iff_toInt_lt.mp (Int32.not_le.mp h3)
    have e1 : (-1 : Int32).toInt = -1 := by decide
    have e0 : (0 : Int32).toInt = 0 := by decide
    exact hx (Int32.toInt_inj.mp (by omega))
  refine qx_M_in rfl (Nat.le_of_ble_eq_true rfl) ?_
  refine qy_wp_ok (c := CX11_laidOut) (cuts := []) vX11_laidOut wX11_laidOut 2000 0 _ _ _ ?_
  refine Exists.intro ((-1)) (And.intro (by decide) ?_)
  refine And.intro (fun h2 => ?_) (fun h2 => ?_)
  · skip
    refine Exists.intro ((-2)) (And.intro (by decide) ?_)
    exact ⟨rfl, rfl⟩
  · skip
    refine And.intro rfl (Exists.intro 15 (And.intro rfl ?_))
    refine And.intro rfl (Exists.intro 8 (Exists.intro (nI (s_n S 5)) (And.intro rfl (And.intro (hI.2.1.2.2.2.2.2.2.2.1.trans hI.1.2.2.2.1.1) ?_))))
    refine And.intro (fun h13 => ?_) (fun h13 => ?_)
    · skip
      exact absurd h13 (fun z => u h2 z)
    · skip
      refine Exists.intro ((-2)) (And.intro (by decide) ?_)
      exact ⟨rfl, rfl⟩
theorem c_laidOut_m1 {G : qx_G} {σ : qx_S} {S : qS} {rf : Option qR} {e : Nat} (hI : cI σ S rf e) : qx_M G qc_T 3 YX11_laidOut [.ref 3, .int (-1)] σ (fun r s => r = some (.int (nI (q_dyl (q_mt S) (s_n S 5)))) ∧ ql [(189, none)] σ s ∧ cI s S rf e) := by
  have b12 := hI.1.b12
  have u : (-1 : Int32) < nI (s_n S 5) := Int32.lt_iff_toInt_lt.mpr (by
    rw [nI_toInt (by omega)]
    have e1 : (-1 : Int32).toInt = -1 := by decide
    omega)
  refine qx_M_in rfl (Nat.le_of_ble_eq_true rfl) ?_
  refine qy_wp_ok (c := CX11_laidOut) (cuts := []) vX11_laidOut wX11_laidOut 2000 0 _ _ _ ?_
  refine Exists.intro ((-1)) (And.intro (by decide) ?_)
  refine And.intro (fun h2 => ?_) (fun h2 => ?_)
  · skip
    exact absurd h2 (by decide)
  · skip
    refine And.intro rfl (Exists.intro 15 (And.intro rfl ?_))
    refine And.intro rfl (Exists.intro 8 (Exists.intro (nI (s_n S 5)) (And.intro rfl (And.intro (hI.2.1.2.2.2.2.2.2.2.1.trans hI.1.2.2.2.1.1) ?_))))
    refine And.intro (fun h13 => ?_) (fun h13 => ?_)
    · skip
      refine And.intro rfl (Exists.intro _ (And.intro (by decide) (qx_M_mono (c_layOutBook hI) ?_)))
      rintro _ σ1 ⟨rfl, fσ1, iσ1, dσ1⟩
      refine Exists.intro ((-1)) (And.intro (by decide) ?_)
      refine And.intro (fun h26 => ?_) (fun h26 => ?_)
      · skip
        exact absurd (by decide) h26
      · skip
        exact ⟨rfl, fσ1, iσ1⟩
    · skip
      exact absurd u h13
theorem c_laidOut_ok {G : qx_G} {σ : qx_S} {S : qS} {rf : Option qR} {e : Nat} (hI : cI σ S rf e) {k : Nat} (hk : k < s_n S 5) : qx_M G qc_T 3 YX11_laidOut [.ref 3, .int (nI k)] σ (fun r s => r = some (.int (nI (q_dys (q_mt S) (s_n S 5) k))) ∧ ql [(189, none)] σ s ∧ cI s S rf e) := by
  have b12 := hI.1.b12
  have u : ¬ nI k < -1 := fun z => by
    have z := Int32.lt_iff_toInt_lt.mp z
    rw [nI_toInt (by omega)] at z
    have e1 : (-1 : Int32).toInt = -1 := by decide
    omega
  refine qx_M_in rfl (Nat.le_of_ble_eq_true rfl) ?_
  refine qy_wp_ok (c := CX11_laidOut) (cuts := []) vX11_laidOut wX11_laidOut 2000 0 _ _ _ ?_
  refine Exists.intro ((-1)) (And.intro (by decide) ?_)
  refine And.intro (fun h2 => ?_) (fun h2 => ?_)
  · skip
    exact absurd h2 u
  · skip
    refine And.intro rfl (Exists.intro 15 (And.intro rfl ?_))
    refine And.intro rfl (Exists.intro 8 (Exists.intro (nI (s_n S 5)) (And.intro rfl (And.intro (hI.2.1.2.2.2.2.2.2.2.1.trans hI.1.2.2.2.1.1) ?_))))
    refine And.intro (fun h13 => ?_) (fun h13 => ?_)
    · skip
      have h13 := nI_ltT (a := k) (b := s_n S 5) (by omega) (by omega) h13
      refine And.intro rfl (Exists.intro _ (And.intro (by decide) (qx_M_mono (c_layOutBook hI) ?_)))
      rintro _ σ1 ⟨rfl, fσ1, iσ1, dσ1⟩
      refine Exists.intro ((-1)) (And.intro (by decide) ?_)
      refine And.intro (fun h26 => ?_) (fun h26 => ?_)
      · skip
        refine And.intro rfl (Exists.intro 189 (And.intro rfl ?_))
        refine Exists.intro (k) (Exists.intro (nI (q_dys (q_mt S) (s_n S 5) k)) (And.intro rfl (And.intro ⟨12, rfl, by omega, by decide⟩ (And.intro (dσ1 k hk) ?_))))
        exact ⟨rfl, fσ1, iσ1⟩
      · skip
        exact absurd h26 (nI_nm1 (by omega))
    · skip
      have h13 := nI_ltF (a := k) (b := s_n S 5) (by omega) (by omega) h13
      exact absurd h13 (by omega)

