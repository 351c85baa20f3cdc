/-! THE CLASS: MOST, rings are noted -/
/-- scores, rings, how many, who is in some -/
abbrev q_Mt : Type := (Nat → Int32) × (Nat → Nat) × Nat × Nat
def q_mx (a b : Int32) : Int32 := if a < b then b else a
def q_nt (M : q_Mt) (o : Nat × Int32) : q_Mt := if M.1 o.1 = (-1000000) then (va_up M.1 o.1 (q_mx (M.1 o.1) o.2), va_up M.2.1 M.2.2.1 o.1, M.2.2.1 + 1, M.2.2.2 ||| o.1) else (va_up M.1 o.1 (q_mx (M.1 o.1) o.2), M.2.1, M.2.2.1, M.2.2.2)
theorem q_nt_t {M : q_Mt} {s : Nat} {v : Int32} (h : M.1 s = (-1000000)) : q_nt M (s, v) = (va_up M.1 s (q_mx (M.1 s) v), va_up M.2.1 M.2.2.1 s, M.2.2.1 + 1, M.2.2.2 ||| s) := if_pos h
theorem q_nt_f {M : q_Mt} {s : Nat} {v : Int32} (h : ¬ M.1 s = (-1000000)) : q_nt M (s, v) = (va_up M.1 s (q_mx (M.1 s) v), M.2.1, M.2.2.1, M.2.2.2) := if_neg h
def q_cnt (f : Nat → Bool) : Nat → Nat
  | 0 => 0
  | n + 1 => q_cnt f n + (if f n = true then 1 else 0)
theorem q_cnt_le (f : Nat → Bool) : ∀ n, q_cnt f n ≤ n
  | 0 => Nat.le_refl _
  | n + 1 => by
    have := q_cnt_le f n
    show _ + (if _ then _ else _) ≤ _
    split <;> omega
theorem q_cnt_cg {f g : Nat → Bool} : ∀ n, (∀ i, i < n → f i = g i) → q_cnt f n = q_cnt g n
  | 0, _ => rfl
  | n + 1, h => by
    show _ + (if f n = true then 1 else 0) = _ + (if g n = true then 1 else 0)
    rw [q_cnt_cg n (fun i hi => h i (by omega)), h n (by omega)]
theorem q_cnt_up {f g : Nat → Bool} {s : Nat} (hf : f s = false) (hg : g s = true) (ho : ∀ i, i ≠ s → g i = f i) : ∀ n, s < n → q_cnt g n = q_cnt f n + 1
  | 0, h => absurd h (Nat.not_lt_zero s)
  | n + 1, h => by
    show _ + (if g n = true then 1 else 0) = _ + (if f n = true then 1 else 0) + 1
    by_cases z : s = n
    · rw [← z, if_pos hg, if_neg (by rw [hf]; decide), q_cnt_cg s (fun i hi => ho i (by omega))]
    · rw [q_cnt_up hf hg ho n (by omega), ho n (fun w => z w.symm)]
      omega
theorem q_cnt_lt {f : Nat → Bool} {s n : Nat} (hf : f s = false) (hs : s < n) : q_cnt f n < n := by
  have h := q_cnt_up (f := f) (g := fun i => if i = s then true else f i) hf (if_pos rfl) (fun i hi => if_neg hi) n hs
  have := q_cnt_le (fun i => if i = s then true else f i) n
  omega
def q_mo (M : q_Mt) : Prop := M.2.2.1 = q_cnt (fun s => decide (¬ M.1 s = (-1000000))) 1024 ∧ (∀ s, ¬ M.1 s = (-1000000) → s < 1024) ∧ M.2.2.2 < 1024 ∧ ∀ i, i < M.2.2.1 → M.2.1 i < 1024 ∧ ¬ M.1 (M.2.1 i) = (-1000000)
theorem q_mx_no {a v : Int32} (hv : (-1000000) < v) : ¬ q_mx a v = (-1000000) := by
  unfold q_mx
  split
  · intro z
    rw [z] at hv
    exact Int32.lt_irrefl hv
  · next h =>
    intro z
    rw [z] at h
    exact h hv
theorem q_mo_nt {M : q_Mt} {s : Nat} {v : Int32} (h : q_mo M) (hs : s < 1024) (hv : (-1000000) < v) : q_mo (q_nt M (s, v)) := by
  have hx := q_mx_no (a := M.1 s) hv
  have ne : ∀ i, i ≠ s → va_up M.1 s (q_mx (M.1 s) v) i = M.1 i := fun i hi => va_up_ne _ _ hi
  by_cases z : M.1 s = (-1000000)
  · rw [q_nt_t z]
    refine ⟨?_, fun i hi => ?_, Nat.or_lt_two_pow (n := 10) h.2.2.1 hs, fun i hi => ?_⟩
    · dsimp only
      rw [q_cnt_up (f := fun s => decide (¬ M.1 s = (-1000000))) (s := s) (decide_eq_false (fun w => w z)) (decide_eq_true (by rw [va_up_self]; exact hx)) (fun i hi => decide_eq_decide.mpr (by rw [ne i hi])) 1024 hs, ← h.1]
    · dsimp only at hi
      by_cases w : i = s
      · rw [w]; exact hs
      · rw [ne i w] at hi
        exact h.2.1 i hi
    · dsimp only at hi ⊢
      by_cases w : i = M.2.2.1
      · rw [w, va_up_self, va_up_self]
        exact ⟨hs, hx⟩
      · rw [va_up_ne _ _ w]
        have k := h.2.2.2 i (by omega)
        refine ⟨k.1, ?_⟩
        rw [ne _ (fun y => by rw [y] at k; exact k.2 z)]
        exact k.2
  · rw [q_nt_f z]
    refine ⟨?_, fun i hi => ?_, h.2.2.1, fun i hi => ?_⟩
    · dsimp only
      rw [h.1]
      refine q_cnt_cg _ (fun i _ => ?_)
      by_cases w : i = s
      · exact decide_eq_decide.mpr ⟨fun _ => by rw [w, va_up_self]; exact hx, fun _ => by rw [w]; exact z⟩
      · exact decide_eq_decide.mpr (by rw [ne i w])
    · dsimp only at hi
      by_cases w : i = s
      · rw [w]; exact hs
      · rw [ne i w] at hi
        exact h.2.1 i hi
    · dsimp only at hi ⊢
      have k := h.2.2.2 i hi
      refine ⟨k.1, ?_⟩
      by_cases w : M.2.1 i = s
      · rw [w, va_up_self]; exact hx
      · rw [ne _ w]; exact k.2
def mR (σ : qx_S) (M : q_Mt) : Prop := (∀ s, s < 1024 → qx_mi σ 169 s = M.1 s) ∧ (∀ i, i < M.2.2.1 → qx_mi σ 170 i = nI (M.2.1 i)) ∧ qx_mi σ 160 15 = nI M.2.2.1 ∧ qx_mi σ 160 16 = nI M.2.2.2
theorem mR.fr {σ s : qx_S} {M : q_Mt} {l : List (Nat × Option Nat)} (h : mR σ M) (f : ql l σ s) (h1 : ∀ j, pL l 169 j = false) (h2 : ∀ j, pL l 170 j = false) (h3 : pL l 160 15 = false) (h4 : pL l 160 16 = false) : mR s M := ⟨fun i hi => (f.i _ _ (h1 _)).trans (h.1 i hi), fun i hi => (f.i _ _ (h2 _)).trans (h.2.1 i hi), (f.i _ _ h3).trans h.2.2.1, (f.i _ _ h4).trans h.2.2.2⟩
abbrev kNt : List (Nat × Option Nat) := [(160, some 15), (160, some 16), (169, none), (170, none)]
theorem c_note {G : qx_G} {σ : qx_S} {M : q_Mt} {s : Nat} {v : Int32} (hR : mR σ M) (hM : q_mo M) (hs : s < 1024) (hv : (-1000000) < v) : qx_M G qc_T 0 YX3_note [.ref 160, .int (nI s), .int v] σ (fun r s' => r = none ∧ ql kNt σ s' ∧ mR s' (q_nt M (s, v)) ∧ q_mo (q_nt M (s, v))) := by
  have hm := q_mo_nt hM hs hv
  have hc : M.1 s = (-1000000) → M.2.2.1 < 1024 := fun z => by
    rw [hM.1]
    exact q_cnt_lt (s := s) (decide_eq_false (fun w => w z)) hs
  have hle : M.2.2.1 ≤ 1024 := by rw [hM.1]; exact q_cnt_le _ _
  have f1 : ∀ s1 s2 s3 s4, M.1 s = (-1000000) → s1 = qx_wi σ 170 M.2.2.1 (nI s) → s2 = qx_wi s1 160 15 (nI (M.2.2.1 + 1)) → s3 = qx_wi s2 160 16 (nI (M.2.2.2 ||| s)) → s4 = qx_wi s3 169 s (q_mx (M.1 s) v) → mR s4 (q_nt M (s, v)) := by
    intro s1 s2 s3 s4 z e1 e2 e3 e4
    rw [q_nt_t z]
    refine ⟨fun i hi => ?_, fun i hi => ?_, ?_, ?_⟩
    · dsimp only
      by_cases w : i = s
      · rw [w, va_up_self]; exact qn_eq e4
      · rw [va_up_ne _ _ w]
        exact (qn_ne e4 (Or.inr w)).trans ((qn_ne e3 (Or.inl (by decide))).trans ((qn_ne e2 (Or.inl (by decide))).trans ((qn_ne e1 (Or.inl (by decide))).trans (hR.1 i hi))))
    · dsimp only at hi ⊢
      refine (qn_ne e4 (Or.inl (by decide))).trans ((qn_ne e3 (Or.inl (by decide))).trans ((qn_ne e2 (Or.inl (by decide))).trans ?_))
      by_cases w : i = M.2.2.1
      · rw [w, va_up_self]; exact qn_eq e1
      · rw [va_up_ne _ _ w]
        exact (qn_ne e1 (Or.inr w)).trans (hR.2.1 i (by omega))
    · exact (qn_ne e4 (Or.inl (by decide))).trans ((qn_ne e3 (Or.inr (by decide))).trans (qn_eq e2))
    · exact (qn_ne e4 (Or.inl (by decide))).trans (qn_eq e3)
  have f2 : ∀ s1, ¬ M.1 s = (-1000000) → s1 = qx_wi σ 169 s (q_mx (M.1 s) v) → mR s1 (q_nt M (s, v)) := by
    intro s1 z e1
    rw [q_nt_f z]
    refine ⟨fun i hi => ?_, fun i hi => (qn_ne e1 (Or.inl (by decide))).trans (hR.2.1 i hi), (qn_ne e1 (Or.inl (by decide))).trans hR.2.2.1, (qn_ne e1 (Or.inl (by decide))).trans hR.2.2.2⟩
    dsimp only
    by_cases w : i = s
    · rw [w, va_up_self]; exact qn_eq e1
    · rw [va_up_ne _ _ w]
      exact (qn_ne e1 (Or.inr w)).trans (hR.1 i hi)
  refine qx_M_in rfl (Nat.le_of_ble_eq_true rfl) ?_
  refine qy_wp_ok (c := CX3_note) (cuts := []) vX3_note wX3_note 2000 0 _ _ _ ?_
  refine And.intro rfl (Exists.intro 169 (And.intro rfl ?_))
  refine Exists.intro (s) (Exists.intro (M.1 s) (And.intro rfl (And.intro ⟨1024, rfl, by omega, by decide⟩ (And.intro (hR.1 s hs) ?_))))
  refine Exists.intro ((-1000000)) (And.intro (by decide) ?_)
  refine And.intro (fun h8 => ?_) (fun h8 => ?_)
  · skip
    refine And.intro rfl (Exists.intro 169 (And.intro rfl ?_))
    refine And.intro rfl (Exists.intro 169 (And.intro rfl ?_))
    refine Exists.intro (s) (Exists.intro (M.1 s) (And.intro rfl (And.intro ⟨1024, rfl, by omega, by decide⟩ (And.intro (hR.1 s hs) ?_))))
    refine Exists.intro (q_mx (M.1 s) v) (And.intro rfl ?_)
    obtain ⟨σ1, eσ1⟩ : ∃ zs, zs = (qx_wi σ 169 s (q_mx (M.1 s) v)) := ⟨_, rfl⟩
    have fσ1 := qn_wi eσ1
    refine Exists.intro (s) (Exists.intro σ1 (And.intro rfl (And.intro ⟨1024, rfl, by omega, by decide⟩ (And.intro eσ1.symm ?_))))
    first
      | exact ⟨rfl, (fσ1.mn rfl).tr ((fσ2.mn rfl).tr ((fσ3.mn rfl).tr (fσ4.mn rfl))), f1 _ _ _ _ h8 eσ1 eσ2 eσ3 eσ4, hm⟩
      | exact ⟨rfl, fσ1.mn rfl, f2 _ h8 eσ1, hm⟩
  · skip
    refine And.intro rfl (Exists.intro 15 (Exists.intro (nI M.2.2.1) (And.intro rfl (And.intro hR.2.2.1 ?_))))
    refine Exists.intro (nI 1024) (And.intro rfl ?_)
    refine And.intro (fun h18 => ?_) (fun h18 => ?_)
    · skip
      have h18 := nI_leT (a := 1024) (b := M.2.2.1) (by decide) (by omega) h18
      exact absurd (hc h8) (by omega)
    · skip
      have h18 := nI_leF (a := 1024) (b := M.2.2.1) (by decide) (by omega) h18
      refine And.intro rfl (Exists.intro 170 (And.intro rfl ?_))
      refine And.intro rfl (Exists.intro 15 (Exists.intro (nI M.2.2.1) (And.intro rfl (And.intro hR.2.2.1 ?_))))
      obtain ⟨σ1, eσ1⟩ : ∃ zs, zs = (qx_wi σ 170 M.2.2.1 (nI s)) := ⟨_, rfl⟩
      have fσ1 := qn_wi eσ1
      refine Exists.intro (M.2.2.1) (Exists.intro σ1 (And.intro rfl (And.intro ⟨1024, rfl, by (have := hc h8; omega), by decide⟩ (And.intro eσ1.symm ?_))))
      refine And.intro rfl (Exists.intro 15 (Exists.intro (nI M.2.2.1) (And.intro rfl (And.intro ((fσ1.i _ _ rfl).trans (hR.2.2.1)) ?_))))
      refine Exists.intro (nI 1) (And.intro rfl ?_)
      refine Exists.intro (nI (M.2.2.1 + 1)) (And.intro (nI_add _ _) ?_)
      obtain ⟨σ2, eσ2⟩ : ∃ zs, zs = (qx_wi σ1 160 15 (nI (M.2.2.1 + 1))) := ⟨_, rfl⟩
      have fσ2 := qn_wif eσ2
      refine And.intro rfl (Exists.intro 15 (Exists.intro σ2 (And.intro rfl (And.intro eσ2.symm ?_))))
      refine And.intro rfl (Exists.intro 16 (Exists.intro (nI M.2.2.2) (And.intro rfl (And.intro ((qn_ne eσ2 (Or.inr (by decide))).trans ((fσ1.i _ _ rfl).trans (hR.2.2.2))) ?_))))
      refine Exists.intro (nI (M.2.2.2 ||| s)) (And.intro (nI_or _ _) ?_)
      obtain ⟨σ3, eσ3⟩ : ∃ zs, zs = (qx_wi σ2 160 16 (nI (M.2.2.2 ||| s))) := ⟨_, rfl⟩
      have fσ3 := qn_wif eσ3
      refine And.intro rfl (Exists.intro 16 (Exists.intro σ3 (And.intro rfl (And.intro eσ3.symm ?_))))
      refine And.intro rfl (Exists.intro 169 (And.intro rfl ?_))
      refine And.intro rfl (Exists.intro 169 (And.intro rfl ?_))
      refine Exists.intro (s) (Exists.intro (M.1 s) (And.intro rfl (And.intro ⟨1024, rfl, by omega, by decide⟩ (And.intro ((fσ3.i _ _ rfl).trans ((fσ2.i _ _ rfl).trans ((fσ1.i _ _ rfl).trans ((hR.1 s hs))))) ?_))))
      refine Exists.intro (q_mx (M.1 s) v) (And.intro rfl ?_)
      obtain ⟨σ4, eσ4⟩ : ∃ zs, zs = (qx_wi σ3 169 s (q_mx (M.1 s) v)) := ⟨_, rfl⟩
      have fσ4 := qn_wi eσ4
      refine Exists.intro (s) (Exists.intro σ4 (And.intro rfl (And.intro ⟨1024, rfl, by omega, by decide⟩ (And.intro eσ4.symm ?_))))
      first
        | exact ⟨rfl, (fσ1.mn rfl).tr ((fσ2.mn rfl).tr ((fσ3.mn rfl).tr (fσ4.mn rfl))), f1 _ _ _ _ h8 eσ1 eσ2 eσ3 eσ4, hm⟩
        | exact ⟨rfl, fσ1.mn rfl, f2 _ h8 eσ1, hm⟩
/-- all rings of a size that begin so -/
def q_xn (rec : Nat → Nat → Int32 → List (Nat × Int32)) (can : Nat → Nat → Bool) (gn : Nat → Nat → Int32) (last set : Nat) (sum : Int32) : Nat → Nat → List (Nat × Int32)
  | 0, _ => []
  | m + 1, nx => (if (!set.testBit nx && can last nx) = true then rec nx (set ||| 2 ^ nx) (sum + gn last nx) else []) ++ q_xn rec can gn last set sum m (nx + 1)
def q_xl (can : Nat → Nat → Bool) (gn : Nat → Nat → Int32) (pe p0 size : Nat) : Nat → Nat → Nat → Int32 → List (Nat × Int32)
  | 0, last, set, sum => if can last p0 = true then [(set, (sum + gn last p0) * nI 16 - nI size)] else []
  | f + 1, last, set, sum => q_xn (q_xl can gn pe p0 size f) can gn last set sum (pe - (p0 + 1)) (p0 + 1)
abbrev kEx : List (Nat × Option Nat) := (173, none) :: kNt
def eX (σ : qx_S) (S : qS) (rf : Option qR) (ly : Option (Nat × Nat)) (e size p0 : Nat) : Prop := cI σ S rf e ∧ gA σ S rf ly ∧ oA σ S rf ly size ∧ qx_mi σ 173 0 = nI p0
theorem gA.fr {σ s : qx_S} {S : qS} {rf : Option qR} {ly : Option (Nat × Nat)} {l : List (Nat × Option Nat)} (h : gA σ S rf ly) (f : ql l σ s) (hl : ∀ j, pL l 168 j = false) : gA s S rf ly := fun a b ha hb => (f.i _ _ (hl _)).trans (h a b ha hb)
theorem oA.fr {σ s : qx_S} {S : qS} {rf : Option qR} {ly : Option (Nat × Nat)} {n : Nat} {l : List (Nat × Option Nat)} (h : oA σ S rf ly n) (f : ql l σ s) (hl : ∀ j, pL l 167 j = false) : oA s S rf ly n := fun a ha => by
  obtain ⟨w, h1, h2, h3⟩ := h a ha
  exact ⟨w, h1, (f.i _ _ (hl _)).trans h2, h3⟩
theorem eX.fr {σ s : qx_S} {S : qS} {rf : Option qR} {ly : Option (Nat × Nat)} {e size p0 : Nat} (h : eX σ S rf ly e size p0) (f : ql kEx σ s) (h0 : qx_mi s 173 0 = qx_mi σ 173 0) : eX s S rf ly e size p0 := ⟨h.1.fr f rfl rfl, h.2.1.fr f (fun _ => rfl), h.2.2.1.fr f (fun _ => rfl), h0.trans h.2.2.2⟩
/-- sums stay small -/
def q_sB (d : Nat) (x : Int32) : Prop := -(2000 * (d : Int)) ≤ x.toInt ∧ x.toInt ≤ 2000 * (d : Int)
theorem q_gn_b {S : qS} {rf : Option qR} {ly : Option (Nat × Nat)} (g : gL S) {a b : Nat} (ha : a < s_n S 1) (hb : b < s_n S 1) : -1998 ≤ (q_gn S rf ly a b).toInt ∧ (q_gn S rf ly a b).toInt ≤ 1998 := by
  have a8 : s_at S a < 8 := Nat.lt_of_lt_of_le (g.2.1.2.2 a ha).2 g.1.1.2
  have b8 : s_at S b < 8 := Nat.lt_of_lt_of_le (g.2.1.2.2 b hb).2 g.1.1.2
  have h1 := q_ll_sm (rf := rf) (ly := ly) (a := s_at S a) g ha b8
  have h2 := q_ll_sm (rf := rf) (ly := ly) (a := s_at S a) g ha a8
  have e : (q_gn S rf ly a b).toInt = _ := sm9_sub h1 h2
  rw [e]
  have := h1.1
  have := h1.2
  have := h2.1
  have := h2.2
  omega
theorem q_sB_add {d : Nat} {x y : Int32} (hd : d ≤ 12) (hx : q_sB d x) (hy : -1998 ≤ y.toInt ∧ y.toInt ≤ 1998) : (x + y).toInt = x.toInt + y.toInt ∧ q_sB (d + 1) (x + y) := by
  have h1 := hx.1
  have h2 := hx.2
  have e : (x + y).toInt = x.toInt + y.toInt := by
    rw [Int32.toInt_add, Int.bmod_eq_of_le (by omega) (by omega)]
  refine ⟨e, ?_, ?_⟩
  · rw [e]; omega
  · rw [e]; omega
theorem q_sc {d n : Nat} {x : Int32} (hd : d ≤ 12) (hx : q_sB d x) (hn : n ≤ 12) : (x * nI 16 - nI n).toInt = 16 * x.toInt - n := by
  have h1 := hx.1
  have h2 := hx.2
  have e16 : (nI 16).toInt = 16 := by decide
  have e1 : (x * nI 16).toInt = 16 * x.toInt := by
    rw [Int32.toInt_mul, e16, Int.bmod_eq_of_le (by omega) (by omega)]
    omega
  rw [Int32.toInt_sub, e1, nI_toInt (by omega), Int.bmod_eq_of_le (by omega) (by omega)]
theorem q_sc_no {d n : Nat} {x : Int32} (hd : d ≤ 12) (hx : q_sB d x) (hn : n ≤ 12) : (-1000000) < x * nI 16 - nI n := by
  refine Int32.lt_iff_toInt_lt.mpr ?_
  have h1 := hx.1
  rw [q_sc hd hx hn, show (-1000000 : Int32).toInt = -1000000 by decide]
  omega
theorem c_extend {G : qx_G} {S : qS} {rf : Option qR} {ly : Option (Nat × Nat)} {e size p0 : Nat} (hsz : size ≤ 4) (hp0 : p0 < s_n S 1) : ∀ (f depth last set : Nat) (sum : Int32) (σ : qx_S) (M : q_Mt), depth + f = size → 1 ≤ depth → eX σ S rf ly e size p0 → mR σ M → q_mo M → qx_mi σ 173 (depth - 1) = nI last → last < s_n S 1 → set < 1024 → q_sB depth sum → qx_M G qc_T (f + 1) YX3_extend [.ref 160, .int (nI size), .int (nI depth), .int (nI set), .int sum] σ (fun r s => r = none ∧ ql kEx σ s ∧ mR s ((q_xl (q_cn S rf ly size) (q_gn S rf ly) (s_n S 1) p0 size f last set sum).foldl q_nt M) ∧ q_mo ((q_xl (q_cn S rf ly size) (q_gn S rf ly) (s_n S 1) p0 size f last set sum).foldl q_nt M) ∧ ∀ j, j < depth → qx_mi s 173 j = qx_mi σ 173 j) := by
  intro f
  induction f with
  | zero =>
    intro depth last set sum σ M hd h1 hX hR hM hl hlp hs hb
    have hpe := hX.1.1.pe
    have gb := q_gn_b (rf := rf) (ly := ly) hX.1.1.1 hlp hp0
    have sa := q_sB_add (by omega) hb gb
    have no := q_sc_no (n := size) (by omega) sa.2 (by omega)
    have c0 : q_cn S rf ly size last p0 = false → (q_xl (q_cn S rf ly size) (q_gn S rf ly) (s_n S 1) p0 size 0 last set sum).foldl q_nt M = M := fun h => by
      unfold q_xl
      rw [if_neg (by rw [h]; decide)]
      rfl
    have c1 : q_cn S rf ly size last p0 = true → (q_xl (q_cn S rf ly size) (q_gn S rf ly) (s_n S 1) p0 size 0 last set sum).foldl q_nt M = q_nt M (set, (sum + q_gn S rf ly last p0) * nI 16 - nI size) := fun h => by
      unfold q_xl
      rw [if_pos h]
      rfl
    obtain ⟨v, ev⟩ : ∃ v, v = (sum + q_gn S rf ly last p0) * nI 16 - nI size := ⟨_, rfl⟩
    rw [← ev] at no c1
    refine qx_M_in rfl (Nat.le_of_ble_eq_true rfl) ?_
    refine qy_wp_ok (c := CX3_extend) (cuts := [72]) vX3_extend wX3_extend 2000 0 _ _ _ ?_
    refine And.intro rfl (Exists.intro 173 (And.intro rfl ?_))
    refine Exists.intro (nI 1) (And.intro rfl ?_)
    refine Exists.intro (nI (depth - 1)) (And.intro (nI_sub (by omega)) ?_)
    refine Exists.intro (depth - 1) (Exists.intro (nI last) (And.intro rfl (And.intro ⟨5, rfl, by omega, by decide⟩ (And.intro hl ?_))))
    refine And.intro (fun h12 => ?_) (fun h12 => ?_)
    · skip
      have h12 := nI_ltT (a := depth) (b := size) (by omega) (by omega) h12
      exact absurd h12 (by omega)
    · skip
      have h12 := nI_ltF (a := depth) (b := size) (by omega) (by omega) h12
      refine And.intro rfl (Exists.intro 173 (And.intro rfl ?_))
      refine Exists.intro (nI 0) (And.intro rfl ?_)
      refine Exists.intro (0) (Exists.intro (nI p0) (And.intro rfl (And.intro ⟨5, rfl, by decide, by decide⟩ (And.intro hX.2.2.2 ?_))))
      refine And.intro rfl (Exists.intro _ (And.intro (by decide) (qx_M_mono (c_isOpen hX.2.2.1 hpe hsz hlp hp0) ?_)))
      rintro _ _ ⟨rfl, rfl⟩
      refine And.intro (fun h28 => ?_) (fun h28 => ?_)
      · skip
        have h28 := bI_f h28
        first
          | exact ⟨rfl, fσ1.mn rfl, by rw [c1 h28]; exact rσ1, by rw [c1 h28]; exact mσ1, fun j _ => fσ1.i _ _ rfl⟩
          | exact ⟨rfl, qf.rf, by rw [c0 h28]; exact hR, by rw [c0 h28]; exact hM, fun _ _ => rfl⟩
      · skip
        have h28 := bI_t h28
        refine And.intro rfl (Exists.intro 168 (And.intro rfl ?_))
        refine Exists.intro (nI 10) (And.intro rfl ?_)
        refine Exists.intro (nI (last * 10)) (And.intro (pk_mul _ _) ?_)
        refine And.intro rfl (Exists.intro 173 (And.intro rfl ?_))
        refine Exists.intro (nI 0) (And.intro rfl ?_)
        refine Exists.intro (0) (Exists.intro (nI p0) (And.intro rfl (And.intro ⟨5, rfl, by decide, by decide⟩ (And.intro hX.2.2.2 ?_))))
        refine Exists.intro (nI (last * 10 + p0)) (And.intro (nI_add _ _) ?_)
        refine Exists.intro (last * 10 + p0) (Exists.intro (q_gn S rf ly last p0) (And.intro rfl (And.intro ⟨100, rfl, by omega, by decide⟩ (And.intro (hX.2.1 last p0 hlp hp0) ?_))))
        refine Exists.intro (sum + (q_gn S rf ly last p0)) (And.intro rfl ?_)
        refine Exists.intro (nI 16) (And.intro rfl ?_)
        refine Exists.intro ((sum + (q_gn S rf ly last p0)) * (nI 16)) (And.intro rfl ?_)
        refine Exists.intro v (And.intro ev.symm ?_)
        refine And.intro rfl (Exists.intro _ (And.intro (by decide) (qx_M_mono (c_note hR hM hs no) ?_)))
        rintro _ σ1 ⟨rfl, fσ1, rσ1, mσ1⟩
        first
          | exact ⟨rfl, fσ1.mn rfl, by rw [c1 h28]; exact rσ1, by rw [c1 h28]; exact mσ1, fun j _ => fσ1.i _ _ rfl⟩
          | exact ⟨rfl, qf.rf, by rw [c0 h28]; exact hR, by rw [c0 h28]; exact hM, fun _ _ => rfl⟩
  | succ f ihf =>
    intro depth last set sum σ M hd h1 hX hR hM hl hlp hs hb
    have hpe0 := hX.1.1.pe
    have loop : ∀ (m nx : Nat) (s : qx_S) (N : q_Mt), m + nx = s_n S 1 → p0 < nx → eX s S rf ly e size p0 → mR s N → q_mo N → ql kEx σ s → (∀ j, j < depth → qx_mi s 173 j = qx_mi σ 173 j) → (q_xn (q_xl (q_cn S rf ly size) (q_gn S rf ly) (s_n S 1) p0 size f) (q_cn S rf ly size) (q_gn S rf ly) last set sum m nx).foldl q_nt N = (q_xl (q_cn S rf ly size) (q_gn S rf ly) (s_n S 1) p0 size (f + 1) last set sum).foldl q_nt M → qx_K G qc_T (f + 1 + 1) RX3 YX3_extend 72 [.ref 160, .int (nI size), .int (nI depth), .int (nI set), .int sum, .int (nI last), .int (nI nx)] [] s (fun r s => r = none ∧ ql kEx σ s ∧ mR s ((q_xl (q_cn S rf ly size) (q_gn S rf ly) (s_n S 1) p0 size (f + 1) last set sum).foldl q_nt M) ∧ q_mo ((q_xl (q_cn S rf ly size) (q_gn S rf ly) (s_n S 1) p0 size (f + 1) last set sum).foldl q_nt M) ∧ ∀ j, j < depth → qx_mi s 173 j = qx_mi σ 173 j) := by
      obtain ⟨T, eT⟩ : ∃ T, T = (q_xl (q_cn S rf ly size) (q_gn S rf ly) (s_n S 1) p0 size (f + 1) last set sum).foldl q_nt M := ⟨_, rfl⟩
      rw [← eT]
      intro m
      induction m with
      | zero =>
        intro nx s N hm hn hXs hRs hMs hf hrow hq
        have e5 := hXs.1.2.1.1.2.1.trans hXs.1.1.1.2.1.2.1.1
        have hq : N = T := hq
        rw [show nx = s_n S 1 by omega]
        refine qy_wp_ok (c := CX3_extend) (cuts := [72]) vX3_extend wX3_extend 2000 72 _ _ _ ?_
        refine And.intro rfl (Exists.intro 156 (And.intro rfl ?_))
        refine And.intro rfl (Exists.intro 16 (And.intro rfl ?_))
        refine And.intro rfl (Exists.intro 5 (Exists.intro (nI (s_n S 1)) (And.intro rfl (And.intro e5 ?_))))
        refine And.intro (fun h84 => ?_) (fun h84 => ?_)
        · skip
          have h84 := nI_leT (a := s_n S 1) (b := s_n S 1) (by omega) (by omega) h84
          exact ⟨rfl, hf, by rw [← hq]; exact hRs, by rw [← hq]; exact hMs, hrow⟩
        · skip
          have h84 := nI_leF (a := s_n S 1) (b := s_n S 1) (by omega) (by omega) h84
          exact absurd h84 (by omega)
      | succ m ih =>
        intro nx s N hm hn hXs hRs hMs hf hrow hq
        have hnx : nx < s_n S 1 := by omega
        have e5 := hXs.1.2.1.1.2.1.trans hXs.1.1.1.2.1.2.1.1
        have hl1 : set / 2 ^ nx &&& 1 ≤ 1 := Nat.and_le_right
        have b0 : set / 2 ^ nx &&& 1 = 0 → set.testBit nx = false := fun h => Bool.eq_false_iff.mpr (fun w => by have := q_tb.mpr w; omega)
        have b1 : ¬ set / 2 ^ nx &&& 1 = 0 → set.testBit nx = true := fun h => q_tb.mp (by omega)
        have gb := q_gn_b (rf := rf) (ly := ly) hX.1.1.1 hlp hnx
        have sa := q_sB_add (by omega) hb gb
        have hs2 : set ||| 2 ^ nx < 1024 := Nat.or_lt_two_pow (n := 10) hs (Nat.pow_lt_pow_right (by decide) (by omega))
        have skip : (!set.testBit nx && q_cn S rf ly size last nx) = false → (q_xn (q_xl (q_cn S rf ly size) (q_gn S rf ly) (s_n S 1) p0 size f) (q_cn S rf ly size) (q_gn S rf ly) last set sum m (nx + 1)).foldl q_nt N = T := fun h => by
          rw [← hq]
          show _ = List.foldl q_nt N ((if (!set.testBit nx && q_cn S rf ly size last nx) = true then _ else []) ++ _)
          rw [if_neg (by rw [h]; decide), List.nil_append]
        have take : (!set.testBit nx && q_cn S rf ly size last nx) = true → (q_xn (q_xl (q_cn S rf ly size) (q_gn S rf ly) (s_n S 1) p0 size f) (q_cn S rf ly size) (q_gn S rf ly) last set sum m (nx + 1)).foldl q_nt ((q_xl (q_cn S rf ly size) (q_gn S rf ly) (s_n S 1) p0 size f nx (set ||| 2 ^ nx) (sum + q_gn S rf ly last nx)).foldl q_nt N) = T := fun h => by
          rw [← hq]
          show _ = List.foldl q_nt N ((if (!set.testBit nx && q_cn S rf ly size last nx) = true then _ else []) ++ _)
          rw [if_pos h, List.foldl_append]
        have call : ∀ s1, s1 = qx_wi s 173 depth (nI nx) → qx_M G qc_T (f + 1) YX3_extend [.ref 160, .int (nI size), .int (nI (depth + 1)), .int (nI (set ||| 2 ^ nx)), .int (sum + q_gn S rf ly last nx)] s1 (fun r s' => r = none ∧ ql kEx s1 s' ∧ mR s' ((q_xl (q_cn S rf ly size) (q_gn S rf ly) (s_n S 1) p0 size f nx (set ||| 2 ^ nx) (sum + q_gn S rf ly last nx)).foldl q_nt N) ∧ q_mo ((q_xl (q_cn S rf ly size) (q_gn S rf ly) (s_n S 1) p0 size f nx (set ||| 2 ^ nx) (sum + q_gn S rf ly last nx)).foldl q_nt N) ∧ ∀ j, j < depth + 1 → qx_mi s' 173 j = qx_mi s1 173 j) := fun s1 e1 => ihf (depth + 1) nx _ _ s1 N (by omega) (by omega) (hXs.fr ((qn_wi e1).mn rfl) (qn_ne e1 (Or.inr (by omega)))) (hRs.fr (qn_wi e1) (fun _ => rfl) (fun _ => rfl) rfl rfl) hMs (qn_eq e1) hnx hs2 sa.2
        have back : ∀ s1 s2, s1 = qx_wi s 173 depth (nI nx) → ql kEx s1 s2 → (∀ j, j < depth + 1 → qx_mi s2 173 j = qx_mi s1 173 j) → eX s2 S rf ly e size p0 ∧ ql kEx σ s2 ∧ ∀ j, j < depth → qx_mi s2 173 j = qx_mi σ 173 j := fun s1 s2 e1 f2 r2 => ⟨hXs.fr (((qn_wi e1).mn rfl).tr f2) ((r2 0 (by omega)).trans (qn_ne e1 (Or.inr (by omega)))), hf.tr (((qn_wi e1).mn rfl).tr f2), fun j hj => (r2 j (by omega)).trans ((qn_ne e1 (Or.inr (by omega))).trans (hrow j hj))⟩
        obtain ⟨w, ew⟩ : ∃ w, w = sum + q_gn S rf ly last nx := ⟨_, rfl⟩
        obtain ⟨st, est⟩ : ∃ st, st = set ||| 2 ^ nx := ⟨_, rfl⟩
        rw [← ew, ← est] at call take
        refine qy_wp_ok (c := CX3_extend) (cuts := [72]) vX3_extend wX3_extend 2000 72 _ _ _ ?_
        refine And.intro rfl (Exists.intro 156 (And.intro rfl ?_))
        refine And.intro rfl (Exists.intro 16 (And.intro rfl ?_))
        refine And.intro rfl (Exists.intro 5 (Exists.intro (nI (s_n S 1)) (And.intro rfl (And.intro e5 ?_))))
        refine And.intro (fun h84 => ?_) (fun h84 => ?_)
        · skip
          have h84 := nI_leT (a := s_n S 1) (b := nx) (by omega) (by omega) h84
          exact absurd h84 (by omega)
        · skip
          have h84 := nI_leF (a := s_n S 1) (b := nx) (by omega) (by omega) h84
          refine Exists.intro (nI (set / 2 ^ nx)) (And.intro (nI_shr (by omega) (by omega)) ?_)
          refine Exists.intro (nI 1) (And.intro rfl ?_)
          refine Exists.intro (nI ((set / 2 ^ nx) &&& 1)) (And.intro (nI_and _ _) ?_)
          refine And.intro (fun h93 => ?_) (fun h93 => ?_)
          · skip
            have h93 := nI_neT (a := (set / 2 ^ nx) &&& 1) (b := 0) (by omega) (by decide) h93
            refine Exists.intro (nI (nx + 1)) (And.intro (nI_add _ _) ?_)
            exact ih (nx + 1) _ N (by omega) (by omega) hXs hRs hMs hf hrow (skip (by rw [b1 h93]; rfl))
          · skip
            have h93 := nI_eqT (a := (set / 2 ^ nx) &&& 1) (b := 0) (by omega) (by decide) h93
            refine And.intro rfl (Exists.intro _ (And.intro (by omega) (qx_M_mono (c_isOpen hXs.2.2.1 hpe0 hsz hlp hnx) ?_)))
            rintro _ _ ⟨rfl, rfl⟩
            refine And.intro (fun h105 => ?_) (fun h105 => ?_)
            · skip
              have h105 := bI_f h105
              refine Exists.intro (nI (nx + 1)) (And.intro (nI_add _ _) ?_)
              exact ih (nx + 1) _ N (by omega) (by omega) hXs hRs hMs hf hrow (skip (by rw [h105]; exact Bool.and_false _))
            · skip
              have h105 := bI_t h105
              refine And.intro rfl (Exists.intro 173 (And.intro rfl ?_))
              obtain ⟨σ1, eσ1⟩ : ∃ zs, zs = (qx_wi s 173 depth (nI nx)) := ⟨_, rfl⟩
              have fσ1 := qn_wi eσ1
              refine Exists.intro (depth) (Exists.intro σ1 (And.intro rfl (And.intro ⟨5, rfl, by omega, by decide⟩ (And.intro eσ1.symm ?_))))
              have eR := eσ1
              refine Exists.intro (nI 1) (And.intro rfl ?_)
              refine Exists.intro (nI (depth + 1)) (And.intro (nI_add _ _) ?_)
              refine Exists.intro (nI 1) (And.intro rfl ?_)
              refine Exists.intro (nI (2 ^ nx)) (And.intro (nI_sh1 (by omega)) ?_)
              refine Exists.intro (nI st) (And.intro ((nI_or _ _).trans (congrArg nI est.symm)) ?_)
              refine And.intro rfl (Exists.intro 168 (And.intro rfl ?_))
              refine Exists.intro (nI 10) (And.intro rfl ?_)
              refine Exists.intro (nI (last * 10)) (And.intro (pk_mul _ _) ?_)
              refine Exists.intro (nI (last * 10 + nx)) (And.intro (nI_add _ _) ?_)
              refine Exists.intro (last * 10 + nx) (Exists.intro (q_gn S rf ly last nx) (And.intro rfl (And.intro ⟨100, rfl, by omega, by decide⟩ (And.intro ((fσ1.i _ _ rfl).trans ((hXs.2.1 last nx hlp hnx))) ?_))))
              refine Exists.intro w (And.intro ew.symm ?_)
              refine And.intro rfl (Exists.intro _ (And.intro (by omega) (qx_M_mono (call _ eR) ?_)))
              rintro _ ρ ⟨rfl, fρ, rρ, mρ, jρ⟩
              refine Exists.intro (nI (nx + 1)) (And.intro (nI_add _ _) ?_)
              exact ih (nx + 1) _ _ (by omega) (by omega) (back _ _ eR fρ jρ).1 rρ mρ (back _ _ eR fρ jρ).2.1 (back _ _ eR fρ jρ).2.2 (take (by rw [b0 h93, h105]; rfl))
    have l0 := loop (s_n S 1 - (p0 + 1)) (p0 + 1) σ M (by omega) (by omega) hX hR hM qf.rf (fun _ _ => rfl) rfl
    refine qx_M_in rfl (Nat.le_of_ble_eq_true rfl) ?_
    refine qy_wp_ok (c := CX3_extend) (cuts := [72]) vX3_extend wX3_extend 2000 0 _ _ _ ?_
    refine And.intro rfl (Exists.intro 173 (And.intro rfl ?_))
    refine Exists.intro (nI 1) (And.intro rfl ?_)
    refine Exists.intro (nI (depth - 1)) (And.intro (nI_sub (by omega)) ?_)
    refine Exists.intro (depth - 1) (Exists.intro (nI last) (And.intro rfl (And.intro ⟨5, rfl, by omega, by decide⟩ (And.intro hl ?_))))
    refine And.intro (fun h12 => ?_) (fun h12 => ?_)
    · skip
      have h12 := nI_ltT (a := depth) (b := size) (by omega) (by omega) h12
      refine And.intro rfl (Exists.intro 173 (And.intro rfl ?_))
      refine Exists.intro (nI 0) (And.intro rfl ?_)
      refine Exists.intro (0) (Exists.intro (nI p0) (And.intro rfl (And.intro ⟨5, rfl, by decide, by decide⟩ (And.intro hX.2.2.2 ?_))))
      refine Exists.intro (nI 1) (And.intro rfl ?_)
      refine Exists.intro (nI (p0 + 1)) (And.intro (nI_add _ _) ?_)
      exact l0
    · skip
      have h12 := nI_ltF (a := depth) (b := size) (by omega) (by omega) h12
      exact absurd h12 (by omega)

