/-! THE CLASS: journey, row, reached -/
theorem q_grn_g {S : qS} {rf : Option qR} : ∀ (m : Nat) (Q : q_Q), q_gok (q_grn S rf m Q) = true → (q_grn S rf m Q).2.1 = Q.2.1 + m
  | 0, _, _ => rfl
  | m + 1, Q, h => by
    cases z : q_gok Q with
    | false =>
      rw [q_grn_no z] at h
      exact absurd (z.symm.trans h) (by decide)
    | true =>
      have e : q_grn S rf (m + 1) Q = q_grn S rf m (q_qg S rf Q) := by
        show q_grn S rf m (q_gro S rf Q) = _
        rw [q_gro_y z]
      rw [e] at h ⊢
      have k := q_grn_g m (q_qg S rf Q) h
      have k2 := (q_pf_qg S rf Q).2
      omega
theorem q_gok_end (S : qS) (rf : Option qR) (Q : q_Q) : q_gok (q_grn S rf 2001 Q) = false := by
  cases z : q_gok (q_grn S rf 2001 Q) with
  | false => rfl
  | true =>
    have k := q_grn_g 2001 Q z
    have k2 := q_gok_y z
    omega
theorem q_grn_end (S : qS) (rf : Option qR) (n : Nat) (Q : q_Q) : q_grn S rf 2001 (q_grn S rf n Q) = q_grn S rf 2001 Q := by
  rw [← q_grn_add, Nat.add_comm, q_grn_add, q_grn_no (q_gok_end S rf Q)]
theorem nI_m2 {n : Nat} (h : n < 2147483648) : nI n ≠ (-2 : Int32) := fun z => by
  have h2 := congrArg Int32.toInt z
  rw [nI_toInt h] at h2
  exact absurd h2 (by rw [show (-2 : Int32).toInt = -2 from rfl]; omega)
theorem nI_m3 {n : Nat} (h : n < 2147483648) : nI n ≠ (-3 : Int32) := fun z => by
  have h2 := congrArg Int32.toInt z
  rw [nI_toInt h] at h2
  exact absurd h2 (by rw [show (-3 : Int32).toInt = -3 from rfl]; omega)
theorem ePB.bk {Q Q' : q_Q} {B : q_B} (h : ePB Q' B) (k : q_pf Q Q') (hb : B.1 ≤ Q.1) : ePB Q B := by
  refine ⟨hb, fun i hi => ?_⟩
  have h1 := h.2 i hi
  have k1 := k.2 i (by omega)
  exact ⟨k1.1.symm.trans h1.1, k1.2.1.symm.trans h1.2.1, fun h0 => ⟨k1.2.2.1.symm.trans (h1.2.2 h0).1, k1.2.2.2.symm.trans (h1.2.2 h0).2⟩⟩
/-- class and reference find the same -/
theorem q_fr_se {S : qS} {rf : Option qR} {go : Option (Nat × Nat)} {n : Nat} {v : Int32} {P : Nat → Bool} (hP : P = q_gl1 go) (h : q_frA P (q_grn S rf n (q_Q0 (q_en (s_at S) (s_n S 1)))) v) : v = (q_se S rf go).2 ∧ ((v = -2 ∨ v = -3) ∨ ∃ i, v = nI i ∧ i < 2001 ∧ i < (q_grn S rf n (q_Q0 (q_en (s_at S) (s_n S 1)))).1 ∧ (q_se S rf go).1.1 = i + 1 ∧ ePB (q_grn S rf n (q_Q0 (q_en (s_at S) (s_n S 1)))) (q_se S rf go).1) := by
  subst hP
  have k := q_se_grn S rf go
  obtain ⟨Q0, e0⟩ : ∃ Q0, Q0 = q_Q0 (q_en (s_at S) (s_n S 1)) := ⟨_, rfl⟩
  obtain ⟨y, ey⟩ : ∃ y, y = q_se S rf go := ⟨_, rfl⟩
  rw [← e0, ← ey] at k
  rw [← e0] at h ⊢
  rw [← ey]
  have en := q_grn_end S rf n Q0
  have pf := q_pf_grn S rf 2001 (q_grn S rf n Q0)
  rw [en] at pf
  obtain ⟨Q, eQ⟩ : ∃ Q, Q = q_grn S rf n Q0 := ⟨_, rfl⟩
  obtain ⟨Z, eZ⟩ : ∃ Z, Z = q_grn S rf 2001 Q0 := ⟨_, rfl⟩
  rw [← eQ] at h pf en ⊢
  rw [← eZ] at k pf en
  have ps : ∀ i, i < Q.1 → Z.2.2.1 i = Q.2.2.1 i := fun i hi => (pf.2 i hi).1
  have pz := pf.1.1
  rcases h with ⟨i, h1, h2, h3, h4, h5⟩ | ⟨h1, h2, h3, h4⟩ | ⟨h1, h2, h3⟩
  · rcases k with ⟨k1, k2, k3, k4⟩ | ⟨i', k1, k2, k3, k4, k5, k6⟩ | ⟨k1, k2, k3⟩
    · have hi : i < y.1.1 := by have := k2.1; omega
      have w := k4 i hi
      rw [ps i h2, h4] at w
      cases w
    · have ei : i = i' := by
        rcases Nat.lt_trichotomy i i' with z | z | z
        · have w := k6 i z
          rw [ps i h2, h4] at w
          cases w
        · exact z
        · have w := h5 i' z
          rw [← ps i' (by omega), k5] at w
          cases w
      subst ei
      exact ⟨h1.trans k1.symm, Or.inr ⟨i, h1, h3, h2, k2, k4.bk pf (by omega)⟩⟩
    · have w := k3 i h3
      rw [ps i h2, h4] at w
      cases w
  · have eZQ : Z = Q := by rw [← en]; exact q_grn_no h2 2001
    rw [eZQ] at k
    rcases k with ⟨k1, k2, k3, k4⟩ | ⟨i', k1, k2, k3, k4, k5, k6⟩ | ⟨k1, k2, k3⟩
    · exact ⟨h1.trans k1.symm, Or.inl (Or.inl h1)⟩
    · have w := h4 i' (by have := k4.1; omega)
      rw [k5] at w
      cases w
    · omega
  · rcases k with ⟨k1, k2, k3, k4⟩ | ⟨i', k1, k2, k3, k4, k5, k6⟩ | ⟨k1, k2, k3⟩
    · have := k2.1
      omega
    · have w := h3 i' (by omega)
      rw [← ps i' (by omega), k5] at w
      cases w
    · exact ⟨h1.trans k1.symm, Or.inl (Or.inr h1)⟩
/-! goals -/
def q_gof (p q : Nat) : Nat → Int32 := fun j => if j = p then nI q else -1
theorem q_af_go {p q w : Nat} (hq : q < 8) : ∀ m o, q_af (q_gof p q) w m o = (if o ≤ p ∧ p < o + m then decide (q_dg w p = q) else true)
  | 0, o => by rw [if_neg (by omega)]; rfl
  | m + 1, o => by
    have dl := q_dg_lt w o
    by_cases z : o = p
    · subst z
      have e1 : q_gof o q o = nI q := if_pos rfl
      rw [if_pos (show o ≤ o ∧ o < o + (m + 1) by omega)]
      by_cases y : q_dg w o = q
      · rw [q_af_y (Or.inr (by rw [e1, y])), q_af_go hq m (o + 1), if_neg (by omega), decide_eq_true y]
      · rw [q_af_n (by rw [e1]; exact nI_m1 (by omega)) (by rw [e1]; exact fun x => y (nI_eqT (by omega) (by omega) x).symm), decide_eq_false y]
    · rw [q_af_y (Or.inl (if_neg z)), q_af_go hq m (o + 1)]
      by_cases y : o ≤ p ∧ p < o + (m + 1)
      · rw [if_pos y, if_pos (by omega)]
      · rw [if_neg y, if_neg (by omega)]
theorem q_af_gl {p q pe : Nat} (hp : p < pe) (hq : q < 8) : (fun w => q_af (q_gof p q) w pe 0) = q_gl1 (some (p, q)) := funext fun w => by
  rw [q_af_go hq, if_pos (by omega)]
  rfl
theorem c_goal {G : qx_G} {σ : qx_S} {p q pe : Nat} (hp : p < pe) (hpe : pe ≤ 10) (hq : q < 8) : qx_M G qc_T 1 YX11_goal [.ref 3, .int (nI p), .int (nI q)] σ (fun r s => r = some (.ref 188) ∧ ql [(188, none)] σ s ∧ cF s 188 pe (q_gof p q)) := by
  refine qx_M_in rfl (Nat.le_of_ble_eq_true rfl) ?_
  refine qy_wp_ok (c := CX11_goal) (cuts := []) vX11_goal wX11_goal 2000 0 _ _ _ ?_
  refine And.intro rfl (Exists.intro 188 (And.intro rfl ?_))
  refine Exists.intro ((-1)) (And.intro (by decide) ?_)
  refine Exists.intro _ (And.intro (by decide) (qx_M_mono (c_fill (N := 10) rfl (by decide)) ?_))
  rintro _ σ1 ⟨rfl, fσ1, gσ1⟩
  refine And.intro rfl (Exists.intro 188 (And.intro rfl ?_))
  obtain ⟨σ2, eσ2⟩ : ∃ zs, zs = (qx_wi σ1 188 p (nI q)) := ⟨_, rfl⟩
  have fσ2 := qn_wi eσ2
  refine Exists.intro (p) (Exists.intro σ2 (And.intro rfl (And.intro ⟨10, rfl, by omega, by decide⟩ (And.intro eσ2.symm ?_))))
  refine And.intro rfl (Exists.intro 188 (And.intro rfl ?_))
  refine ⟨rfl, fσ1.tr (qn_wi eσ2 |>.mn rfl), Or.inl rfl, fun j hj => ?_⟩
  by_cases z : j = p
  · rw [z]; exact ⟨(qn_eq eσ2).trans (if_pos rfl).symm, Or.inr ⟨q, hq, if_pos rfl⟩⟩
  · exact ⟨(qn_ne eσ2 (Or.inr z)).trans ((gσ1 j (by omega)).trans (if_neg z).symm), Or.inl (if_neg z)⟩
/-- what a call of these leaves -/
abbrev kQJ (b : Nat) : List (Nat × Option Nat) := (188, none) :: kQL b
def jF (σ : qx_S) (S : qS) (rf : Option qR) (e fld w : Nat) (s : qx_S) : Prop := ∃ b n, jA σ s b fld ∧ qx_mr s 3 fld = some b ∧ qg (kQJ b) σ s ∧ cI s S rf e ∧ mQ s b (q_grn S rf n (q_Q0 w)) ∧ qx_mi s b 9 = nI e
theorem qg.kJ {b : Nat} {σ s : qx_S} (f : qg (kQL b) σ s) : qg (kQJ b) σ s := f.mono (fun x j hp => by
  have hp2 : (Nat.beq 188 x && true || pL (kQL b) x j) = false := hp
  simp only [Bool.or_eq_false_iff] at hp2
  exact hp2.2)
theorem qg.kJ8 {b : Nat} {σ s : qx_S} (f : ql [(188, none)] σ s) (h : 229 ≤ σ.1) : qg (kQJ b) σ s := (qg.of f h).mono (fun x j hp => by
  have hp2 : (Nat.beq 188 x && true || pL (kQL b) x j) = false := hp
  simp only [Bool.or_eq_false_iff] at hp2
  show (Nat.beq 188 x && true || false) = false
  rw [hp2.1]
  rfl)
theorem jA.q {σ ρ s : qx_S} {b fld : Nat} (h : jA σ ρ b fld) (f : qg (kQJ b) ρ s) : jA σ s b fld := by
  obtain ⟨h1, h2, h3, h4⟩ := h
  refine ⟨h1, fun j z => ?_, Nat.le_trans h3 f.2.1, h4⟩
  rcases f.2.2.2.2.2.2.2.2 j with w | ⟨b', -, -, w3, w4⟩
  · exact w.trans (h2 j z)
  · rw [pL_ne (by simp; omega)] at w4
    cases w4
theorem vQ.re {σ0 σ s : qx_S} {S : qS} {rf : Option qR} {e b : Nat} {Q : q_Q} (h : vQ σ0 S rf e b σ Q) (f : ql [(188, none)] σ s) : vQ s S rf e b s Q := by
  obtain ⟨hm, hI, hf, h9, hB⟩ := h
  have hb := hm.2.1.1
  have ne : ∀ y j, 229 ≤ y → pL [(188, none)] y j = false := fun y j hy => pL_ne (by simp; omega)
  exact ⟨hm.cg (fun y _ _ => f.s y) (fun y j h1 _ => f.i _ _ (ne y j (by omega))) (Nat.le_of_eq f.1.symm), hI.fr f rfl rfl, qg.rf (by rw [f.1]; exact hI.2.2.2.2.2.2.2.2), (f.i _ _ (ne _ _ (by omega))).trans h9, hB⟩
theorem vQ.endJ {σ σ1 s1 s : qx_S} {S : qS} {rf : Option qR} {e fld w b n n1 : Nat} (h : jB σ S rf e fld σ1 b (q_grn S rf n (q_Q0 w))) (f : ql [(188, none)] σ1 s1) (hv : vQ s1 S rf e b s (q_grn S rf n1 (q_Q0 w))) (h3 : fld = 17 ∨ fld = 18) : jF σ S rf e fld w s := by
  obtain ⟨j1, j2, j3⟩ := h
  have f1 := f.1
  have h9 := j3.2.1.2.2.2.2.2.2.2.2
  refine ⟨b, n1, j1.q ((qg.kJ8 f h9).tr hv.2.2.1.kJ), ?_, (j3.2.2.1.kJ).tr ((qg.kJ8 f h9).tr hv.2.2.1.kJ), hv.2.1, hv.1, hv.2.2.2.1⟩
  exact hv.2.2.1.2.2.2.2.2.2.1 3 fld b (by omega) ((f.r _ _).trans j2)
theorem c_journey_no {G : qx_G} {σ : qx_S} {S : qS} {rf : Option qR} {e : Nat} (hI : cI σ S rf e) {x q : Int32} (hb : (q_is x (s_n S 1) && q_is q (s_n S 0)) = false) : qx_M G qc_T 7 YX11_journey [.ref 3, .int x, .int q] σ (qr (-1) σ) := by
  refine qx_M_in rfl (Nat.le_of_ble_eq_true rfl) ?_
  refine qy_wp_ok (c := CX11_journey) (cuts := []) vX11_journey wX11_journey 2000 0 _ _ _ ?_
  refine And.intro rfl (Exists.intro _ (And.intro (by decide) (qx_M_mono (c_isPerson hI.2.1.1 hI.1.1.2.1.2.1.1 x) ?_)))
  rintro _ _ ⟨rfl, rfl⟩
  refine And.intro (fun h5 => ?_) (fun h5 => ?_)
  · skip
    have h5 := bI_f h5
    refine Exists.intro ((-1)) (And.intro (by decide) ?_)
    exact ⟨rfl, rfl⟩
  · skip
    have h5 := bI_t h5
    refine And.intro rfl (Exists.intro _ (And.intro (by decide) (qx_M_mono (c_isPlace hI.2.1.1 hI.1.1.2.1.1.1 q) ?_)))
    rintro _ _ ⟨rfl, rfl⟩
    refine And.intro (fun h13 => ?_) (fun h13 => ?_)
    · skip
      have h13 := bI_t h13
      rw [h5, h13] at hb; cases hb
    · skip
      have h13 := bI_f h13
      refine Exists.intro ((-1)) (And.intro (by decide) ?_)
      exact ⟨rfl, rfl⟩
/-- what firstOf finds for a goal, from now -/
theorem q_jny {S : qS} {rf : Option qR} {p q n : Nat} {v : Int32} (hp : p < s_n S 1) (hq : q < 8) (h : q_frA (fun w => q_af (q_gof p q) w (s_n S 1) 0) (q_grn S rf n (q_Q0 (q_en (s_at S) (s_n S 1)))) v) : v = (q_se S rf (some (p, q))).2 ∧ ((v = -2 ∨ v = -3) ∨ ∃ i, v = nI i ∧ i < 2001 ∧ i < (q_grn S rf n (q_Q0 (q_en (s_at S) (s_n S 1)))).1 ∧ (q_se S rf (some (p, q))).1.1 = i + 1 ∧ ePB (q_grn S rf n (q_Q0 (q_en (s_at S) (s_n S 1)))) (q_se S rf (some (p, q))).1) := q_fr_se (q_af_gl hp hq) h
theorem q_jn_m {x : q_B × Int32} (h : x.2 = -2 ∨ x.2 = -3) : q_jn x = x.2 := by
  unfold q_jn
  rcases h with h | h <;> (rw [h]; rfl)
theorem jn35_n {G : qx_G} {Φ : qx_F} {s : qx_S} {b : Nat} {v : Int32} (hv : v = -2 ∨ v = -3) (h : Φ (some (.int v)) s) : qx_K G qc_T 7 RX11 YX11_journey 35 [.retAddr 0, .retAddr 0, .retAddr 0, .ref b, .int v] [] s Φ := by
  rcases hv with rfl | rfl
  · skip
    refine qy_wp_ok (c := CX11_journey) (cuts := []) vX11_journey wX11_journey 2000 35 _ _ _ ?_
    refine And.intro (fun h37 => ?_) (fun h37 => ?_)
    · skip
      exact absurd h37 (by decide)
    · skip
      exact h
  · skip
    refine qy_wp_ok (c := CX11_journey) (cuts := []) vX11_journey wX11_journey 2000 35 _ _ _ ?_
    refine And.intro (fun h37 => ?_) (fun h37 => ?_)
    · skip
      exact absurd h37 (by decide)
    · skip
      exact h
theorem jn35_i {G : qx_G} {Φ : qx_F} {s : qx_S} {b i d : Nat} (hq : shQ s b) (h2 : qx_mi s (b + 2) i = nI d) (hi : i < 2001) (h : Φ (some (.int (nI d))) s) : qx_K G qc_T 7 RX11 YX11_journey 35 [.retAddr 0, .retAddr 0, .retAddr 0, .ref b, .int (nI i)] [] s Φ := by
  refine qy_wp_ok (c := CX11_journey) (cuts := []) vX11_journey wX11_journey 2000 35 _ _ _ ?_
  refine And.intro (fun h37 => ?_) (fun h37 => ?_)
  · skip
    have h37 := nI_leT (a := 0) (b := i) (by decide) (by omega) h37
    refine And.intro (by rw [show qx_sh qc_T _ b = _ from hq.1]; rfl) (Exists.intro (b + 2) (And.intro rfl ?_))
    refine Exists.intro (i) (Exists.intro (nI d) (And.intro rfl (And.intro ⟨2001, (hq.2.1 2 (by decide) (by decide)), by omega, by decide⟩ (And.intro h2 ?_))))
    exact h
  · skip
    have h37 := nI_leF (a := 0) (b := i) (by decide) (by omega) h37
    exact absurd h37 (by omega)
theorem c_journey_ok {G : qx_G} {σ : qx_S} {S : qS} {rf : Option qR} {e : Nat} (hI : cI σ S rf e) (hs : cSe σ S rf e 17 (q_en (s_at S) (s_n S 1))) {p q : Nat} (hp : p < s_n S 1) (hq : q < s_n S 0) : qx_M G qc_T 7 YX11_journey [.ref 3, .int (nI p), .int (nI q)] σ (fun r s => r = some (.int (q_jn (q_se S rf (some (p, q))))) ∧ jF σ S rf e 17 (q_en (s_at S) (s_n S 1)) s) := by
  have hpe := hI.1.pe
  have hpl := hI.1.pl
  refine qx_M_in rfl (Nat.le_of_ble_eq_true rfl) ?_
  refine qy_wp_ok (c := CX11_journey) (cuts := [35]) vX11_journey wX11_journey 2000 0 _ _ _ ?_
  refine And.intro rfl (Exists.intro _ (And.intro (by decide) (qx_M_mono (c_isPerson hI.2.1.1 hI.1.1.2.1.2.1.1 (nI p)) ?_)))
  rintro _ _ ⟨rfl, rfl⟩
  refine And.intro (fun h5 => ?_) (fun h5 => ?_)
  · skip
    have h5 := bI_f h5
    exact absurd (h5.symm.trans (q_is_ok hp (by omega))) (by decide)
  · skip
    have h5 := bI_t h5
    refine And.intro rfl (Exists.intro _ (And.intro (by decide) (qx_M_mono (c_isPlace hI.2.1.1 hI.1.1.2.1.1.1 (nI q)) ?_)))
    rintro _ _ ⟨rfl, rfl⟩
    refine And.intro (fun h13 => ?_) (fun h13 => ?_)
    · skip
      have h13 := bI_t h13
      refine And.intro rfl (Exists.intro _ (And.intro (by decide) (qx_M_mono (c_sfN hI hs) ?_)))
      rintro _ ρ ⟨b, n, rfl, jρ⟩
      refine And.intro rfl (Exists.intro _ (And.intro (by decide) (qx_M_mono (c_goal hp hpe (by omega)) ?_)))
      rintro _ τ ⟨rfl, fτ, gτ⟩
      refine And.intro ((congrArg Prod.fst (((fτ.s b).trans jρ.2.2.1.1.1))).trans rfl) (Exists.intro _ (And.intro (by decide) (qx_M_mono (c_firstOf gτ (jρ.2.2.re fτ)) ?_)))
      rintro _ μ ⟨n1, v, vμ, aμ, rfl⟩
      refine qx_K_le (ls := [.retAddr 0, .retAddr 0, .retAddr 0, .ref b, .int v]) ⟨Or.inl rfl, Or.inl rfl, Or.inl rfl, Or.inr rfl, Or.inr rfl, trivial⟩ ?_
      rw [← q_grn_add] at vμ aμ
      obtain ⟨ev, hc⟩ := q_jny hp (by omega) aμ
      have J := vQ.endJ jρ fτ vμ (Or.inl rfl)
      rcases hc with hc | ⟨i, hv, hi, hi2, hB, hE⟩
      · exact jn35_n hc ⟨by rw [q_jn_m (by rw [← ev]; exact hc), ← ev], J⟩
      · rw [hv]
        exact jn35_i vμ.1.1 (vμ.1.2.2.2.2.2.2.1 i hi2).2.1.1 hi ⟨by rw [q_jn_i (ev.symm.trans hv) (by omega), (hE.2 i (by omega)).2.1], J⟩
    · skip
      have h13 := bI_f h13
      exact absurd (h13.symm.trans (q_is_ok hq (by omega))) (by decide)
/-! the row -/
theorem q_bk_up {Q : q_Q} {B : q_B} (hE : ePB Q B) (hb : q_bw B) {k : Nat} : ∀ (m s f : Nat), s < B.1 → q_lv B s = k + 1 + m → m ≤ f → q_up B (k + 1) f s = q_bk1 Q m s ∧ 0 < q_bk1 Q m s ∧ q_bk1 Q m s < B.1
  | 0, s, f, hs, hl, hf => by
    rw [q_up_e (by omega)]
    refine ⟨rfl, ?_, hs⟩
    show 0 < s
    rcases Nat.eq_zero_or_pos s with z | z
    · rw [z] at hl
      have := hb.1
      omega
    · exact z
  | m + 1, s, f, hs, hl, hf => by
    obtain ⟨f', rfl⟩ : ∃ f', f = f' + 1 := ⟨f - 1, by omega⟩
    have s0 : 0 < s := by
      rcases Nat.eq_zero_or_pos s with z | z
      · rw [z] at hl
        have := hb.1
        omega
      · exact z
    have h2 := hb.2 s s0 hs
    have e1 : q_up B (k + 1) (f' + 1) s = q_up B (k + 1) f' (q_fr1 B s) := if_neg (by omega)
    have e2 : q_bk1 Q (m + 1) s = q_bk1 Q m (q_fr1 B s) := by
      show q_bk1 Q m (Q.2.2.2.2.1 s) = _
      rw [((hE.2 s hs).2.2 s0).1]
    rw [e1, e2]
    exact q_bk_up hE hb m (q_fr1 B s) f' (by omega) (by omega) (by omega)
theorem q_bwE {Q : q_Q} {B : q_B} (hE : ePB Q B) (hb : q_bw B) (h1 : 0 < B.1) (h10 : ∀ i, 0 < i → i < B.1 → q_ba B i < 10) : q_bwQ Q B.1 := by
  refine ⟨(hE.2 0 h1).2.1.trans hb.1, fun i h0 hi => ?_⟩
  have k := hE.2 i hi
  have k2 := hb.2 i h0 hi
  rw [(k.2.2 h0).1, (k.2.2 h0).2, k.2.1, (hE.2 _ (by omega)).2.1]
  have := h10 i h0 hi
  omega
theorem q_ro_m {x : q_B × Int32} {nn w : Nat} (h : x.2 = -2 ∨ x.2 = -3) : q_ro x nn w = x.2 := by
  unfold q_ro
  rcases h with h | h <;> (rw [h]; rfl)
theorem q_ro_j {x : q_B × Int32} {nn w i : Nat} (h : x.2 = nI i) (hi : i < 2147483648) : q_ro x nn w = if q_lv x.1 i ≤ nn then -2 else nI (q_rw x.1 w (q_up x.1 (nn + 1) i i)) := by
  unfold q_ro
  have hz : ¬ nI i < (0 : Int32) := fun z => absurd ((nI_ltI (b := 0) hi (by decide)).mp z) (by omega)
  rw [h, if_neg hz, nI_clamp hi]
theorem rw52_n {G : qx_G} {Φ : qx_F} {s : qx_S} {b nn w : Nat} {v : Int32} (hv : v = -2 ∨ v = -3) (h : Φ (some (.int v)) s) : qx_K G qc_T 7 RX11 YX11_row 52 [.retAddr 0, .retAddr 0, .retAddr 0, .int (nI nn), .int (nI w), .ref b, .int v, .retAddr 0] [] s Φ := by
  rcases hv with rfl | rfl
  · skip
    refine qy_wp_ok (c := CX11_row) (cuts := []) vX11_row wX11_row 2000 52 _ _ _ ?_
    refine And.intro (fun h54 => ?_) (fun h54 => ?_)
    · skip
      exact absurd h54 (by decide)
    · skip
      exact h
  · skip
    refine qy_wp_ok (c := CX11_row) (cuts := []) vX11_row wX11_row 2000 52 _ _ _ ?_
    refine And.intro (fun h54 => ?_) (fun h54 => ?_)
    · skip
      exact absurd h54 (by decide)
    · skip
      exact h
theorem rw52_i {G : qx_G} {Φ : qx_F} {s : qx_S} {b i nn w n : Nat} {Q : q_Q} (hm : mQ s b Q) (hb : q_bwQ Q n) (hn : n ≤ Q.1) (hi : i < n) (hnn : nn < 2147483648) (hw : w ≤ 1) (hF : Q.2.2.2.1 i ≤ nn → Φ (some (.int (-2))) s) (hT : nn < Q.2.2.2.1 i → ∀ pr, pr = Q.2.2.2.2.2.1 (q_bk1 Q (Q.2.2.2.1 i - 1 - nn) i) → Φ (some (.int (nI (if w = 0 then pr / 10 else pr % 10)))) s) (hp : nn < Q.2.2.2.1 i → Q.2.2.2.2.2.1 (q_bk1 Q (Q.2.2.2.1 i - 1 - nn) i) < 100) : qx_K G qc_T 7 RX11 YX11_row 52 [.retAddr 0, .retAddr 0, .retAddr 0, .int (nI nn), .int (nI w), .ref b, .int (nI i), .retAddr 0] [] s Φ := by
  have hz := hm.2.2.2.2.1
  have c := (hm.2.2.2.2.2.2.1 i (by omega)).2.1
  have ro := fun h => c_ringOnWay (G := G) hm hb hn hi (k := nn) h
  obtain ⟨d, ed⟩ : ∃ d, d = Q.2.2.2.1 i := ⟨_, rfl⟩
  rw [← ed] at hF hT hp c ro
  obtain ⟨pr, ep⟩ : ∃ pr, pr = Q.2.2.2.2.2.1 (q_bk1 Q (d - 1 - nn) i) := ⟨_, rfl⟩
  rw [← ep] at ro hp
  have hdl := c.2
  refine qy_wp_ok (c := CX11_row) (cuts := []) vX11_row wX11_row 2000 52 _ _ _ ?_
  refine And.intro (fun h54 => ?_) (fun h54 => ?_)
  · skip
    have h54 := nI_leT (a := 0) (b := i) (by decide) (by omega) h54
    refine And.intro (by rw [show qx_sh qc_T _ b = _ from hm.1.1]; rfl) (Exists.intro (b + 2) (And.intro rfl ?_))
    refine Exists.intro (i) (Exists.intro (nI d) (And.intro rfl (And.intro ⟨2001, (hm.1.2.1 2 (by decide) (by decide)), by omega, by decide⟩ (And.intro c.1 ?_))))
    refine And.intro (fun h69 => ?_) (fun h69 => ?_)
    · skip
      have h69 := nI_ltT (a := nn) (b := d) (by omega) (by omega) h69
      refine And.intro ((congrArg Prod.fst (hm.1.1)).trans rfl) (Exists.intro _ (And.intro (by decide) (qx_M_mono (ro h69) ?_)))
      rintro _ _ ⟨rfl, rfl⟩
      have hp9 := hp h69
      refine And.intro (fun h87 => ?_) (fun h87 => ?_)
      · skip
        have h87 := nI_neT (a := w) (b := 0) (by omega) (by decide) h87
        refine Exists.intro (nI 10) (And.intro rfl ?_)
        refine And.intro (by decide) (Exists.intro (nI (pr % 10)) (And.intro (nI_rem (by omega) (by omega)) ?_))
        have r := hT h69 pr ep
        rw [if_neg h87] at r
        exact r
      · skip
        have h87 := nI_eqT (a := w) (b := 0) (by omega) (by decide) h87
        refine Exists.intro (nI 10) (And.intro rfl ?_)
        refine And.intro (by decide) (Exists.intro (nI (pr / 10)) (And.intro (nI_div (by omega) (by omega)) ?_))
        have r := hT h69 pr ep
        rw [if_pos h87] at r
        exact r
    · skip
      have h69 := nI_ltF (a := nn) (b := d) (by omega) (by omega) h69
      refine Exists.intro ((-2)) (And.intro (by decide) ?_)
      exact hF (by omega)
  · skip
    have h54 := nI_leF (a := 0) (b := i) (by decide) (by omega) h54
    exact absurd h54 (by omega)
theorem c_row_ok {G : qx_G} {σ : qx_S} {S : qS} {rf : Option qR} {e : Nat} (hI : cI σ S rf e) (hs : cSe σ S rf e 17 (q_en (s_at S) (s_n S 1))) {p q nn w : Nat} (hp : p < s_n S 1) (hq : q < s_n S 0) (hnn : nn < 2147483648) (hw : w ≤ 1) : qx_M G qc_T 7 YX11_row [.ref 3, .int (nI p), .int (nI q), .int (nI nn), .int (nI w)] σ (fun r s => r = some (.int (q_ro (q_se S rf (some (p, q))) nn w)) ∧ jF σ S rf e 17 (q_en (s_at S) (s_n S 1)) s) := by
  have hpe := hI.1.pe
  have hpl := hI.1.pl
  have hbw := q_se_bw hI.1.1.2.1 rf (some (p, q))
  refine qx_M_in rfl (Nat.le_of_ble_eq_true rfl) ?_
  refine qy_wp_ok (c := CX11_row) (cuts := [52]) vX11_row wX11_row 2000 0 _ _ _ ?_
  refine And.intro rfl (Exists.intro _ (And.intro (by decide) (qx_M_mono (c_isPerson hI.2.1.1 hI.1.1.2.1.2.1.1 (nI p)) ?_)))
  rintro _ _ ⟨rfl, rfl⟩
  refine And.intro (fun h5 => ?_) (fun h5 => ?_)
  · skip
    have h5 := bI_f h5
    exact absurd (h5.symm.trans (q_is_ok hp (by omega))) (by decide)
  · skip
    have h5 := bI_t h5
    refine And.intro rfl (Exists.intro _ (And.intro (by decide) (qx_M_mono (c_isPlace hI.2.1.1 hI.1.1.2.1.1.1 (nI q)) ?_)))
    rintro _ _ ⟨rfl, rfl⟩
    refine And.intro (fun h13 => ?_) (fun h13 => ?_)
    · skip
      have h13 := bI_f h13
      exact absurd (h13.symm.trans (q_is_ok hq (by omega))) (by decide)
    · skip
      have h13 := bI_t h13
      refine And.intro (fun h17 => ?_) (fun h17 => ?_)
      · skip
        have h17 := nI_ltT (a := nn) (b := 0) (by omega) (by decide) h17
        exact absurd h17 (by omega)
      · skip
        have h17 := nI_ltF (a := nn) (b := 0) (by omega) (by decide) h17
        refine And.intro (fun h22 => ?_) (fun h22 => ?_)
        · skip
          have h22 := nI_ltT (a := w) (b := 0) (by omega) (by decide) h22
          exact absurd h22 (by omega)
        · skip
          have h22 := nI_ltF (a := w) (b := 0) (by omega) (by decide) h22
          refine Exists.intro (nI 1) (And.intro rfl ?_)
          refine And.intro (fun h28 => ?_) (fun h28 => ?_)
          · skip
            have h28 := nI_leT (a := w) (b := 1) (by omega) (by decide) h28
            refine And.intro rfl (Exists.intro _ (And.intro (by decide) (qx_M_mono (c_sfN hI hs) ?_)))
            rintro _ ρ ⟨b, n, rfl, jρ⟩
            refine And.intro rfl (Exists.intro _ (And.intro (by decide) (qx_M_mono (c_goal hp hpe (by omega)) ?_)))
            rintro _ τ ⟨rfl, fτ, gτ⟩
            refine And.intro ((congrArg Prod.fst (((fτ.s b).trans jρ.2.2.1.1.1))).trans rfl) (Exists.intro _ (And.intro (by decide) (qx_M_mono (c_firstOf gτ (jρ.2.2.re fτ)) ?_)))
            rintro _ μ ⟨n1, v, vμ, aμ, rfl⟩
            refine qx_K_le (ls := [.retAddr 0, .retAddr 0, .retAddr 0, .int (nI nn), .int (nI w), .ref b, .int v, .retAddr 0]) ⟨Or.inl rfl, Or.inl rfl, Or.inl rfl, Or.inr rfl, Or.inr rfl, Or.inr rfl, Or.inr rfl, Or.inr rfl, trivial⟩ ?_
            rw [← q_grn_add] at vμ aμ
            obtain ⟨ev, hc⟩ := q_jny hp (by omega) aμ
            have J := vQ.endJ jρ fτ vμ (Or.inl rfl)
            rcases hc with hc | ⟨i, hv, hi, hi2, hB, hE⟩
            · exact rw52_n hc ⟨by rw [q_ro_m (by rw [← ev]; exact hc), ← ev], J⟩
            · rw [hv]
              obtain ⟨Q, eQ⟩ : ∃ Q, Q = q_grn S rf (n + n1) (q_Q0 (q_en (s_at S) (s_n S 1))) := ⟨_, rfl⟩
              obtain ⟨B, eB⟩ : ∃ B, B = (q_se S rf (some (p, q))).1 := ⟨_, rfl⟩
              have eo := q_ro_j (nn := nn) (w := w) (ev.symm.trans hv) (by omega)
              rw [← eB] at hB hE hbw eo
              rw [eo]
              have hm := vμ.1
              rw [← eQ] at hm hE hi2
              have li := (hE.2 i (by omega)).2.1
              have hd := (hm.2.2.2.2.2.2.1 i hi2).2.1.2
              have up : nn < Q.2.2.2.1 i → q_up B (nn + 1) i i = q_bk1 Q (Q.2.2.2.1 i - 1 - nn) i ∧ 0 < q_bk1 Q (Q.2.2.2.1 i - 1 - nn) i ∧ q_bk1 Q (Q.2.2.2.1 i - 1 - nn) i < B.1 := fun h => q_bk_up hE hbw _ i i (by omega) (by omega) (by omega)
              have by1 : ∀ j, 0 < j → j < B.1 → Q.2.2.2.2.2.1 j = q_ba B j * 10 + q_bb B j ∧ q_ba B j < q_bb B j ∧ q_bb B j < 10 := fun j h0 hj => ⟨((hE.2 j hj).2.2 h0).2, (hbw.2 j h0 hj).2.2⟩
              refine rw52_i hm (q_bwE hE hbw (by omega) (fun j h0 hj => by have := (by1 j h0 hj).2; omega)) hE.1 (by omega) hnn hw (fun h => ⟨by rw [if_pos (by omega)], J⟩) (fun h pr hpr => ⟨?_, J⟩) (fun h => ?_)
              · obtain ⟨u1, u2, u3⟩ := up h
                rw [if_neg (show ¬ q_lv B i ≤ nn by omega), u1]
                have b1 := by1 _ u2 u3
                rw [← hpr] at b1
                unfold q_rw
                by_cases z : w = 0
                · rw [if_pos z, if_pos z, show pr / 10 = q_ba B (q_bk1 Q (Q.2.2.2.1 i - 1 - nn) i) by omega]
                · rw [if_neg z, if_neg z, show pr % 10 = q_bb B (q_bk1 Q (Q.2.2.2.1 i - 1 - nn) i) by omega]
              · obtain ⟨u1, u2, u3⟩ := up h
                have b1 := by1 _ u2 u3
                omega
          · skip
            have h28 := nI_leF (a := w) (b := 1) (by omega) (by decide) h28
            exact absurd h28 (by omega)
theorem c_row_no {G : qx_G} {σ : qx_S} {S : qS} {rf : Option qR} {e : Nat} (hI : cI σ S rf e) {x q k w : Int32} (hb : (q_is x (s_n S 1) && (q_is q (s_n S 0) && (decide (0 ≤ k) && q_in64 w.toInt64 (lN 0) (lN 1)))) = false) : qx_M G qc_T 7 YX11_row [.ref 3, .int x, .int q, .int k, .int w] σ (qr (-1) σ) := by
  have wi : ¬ w < nI 0 → w ≤ nI 1 → q_in64 w.toInt64 (lN 0) (lN 1) = true := fun h1 h2 => by
    unfold q_in64
    have a : (lN 0 ≤ w.toInt64) := Int64.le_iff_toInt_le.mpr (by rw [Int32.toInt_toInt64]; have := Int32.le_iff_toInt_le.mp (Int32.not_lt.mp h1); exact this)
    have b : (w.toInt64 ≤ lN 1) := Int64.le_iff_toInt_le.mpr (by rw [Int32.toInt_toInt64]; have := Int32.le_iff_toInt_le.mp h2; exact this)
    rw [decide_eq_true a, decide_eq_true b]
    rfl
  refine qx_M_in rfl (Nat.le_of_ble_eq_true rfl) ?_
  refine qy_wp_ok (c := CX11_row) (cuts := [33]) vX11_row wX11_row 2000 0 _ _ _ ?_
  refine And.intro rfl (Exists.intro _ (And.intro (by decide) (qx_M_mono (c_isPerson hI.2.1.1 hI.1.1.2.1.2.1.1 x) ?_)))
  rintro _ _ ⟨rfl, rfl⟩
  refine And.intro (fun h5 => ?_) (fun h5 => ?_)
  · skip
    have h5 := bI_f h5
    refine Exists.intro ((-1)) (And.intro (by decide) ?_)
    exact ⟨rfl, rfl⟩
  · skip
    have h5 := bI_t h5
    refine And.intro rfl (Exists.intro _ (And.intro (by decide) (qx_M_mono (c_isPlace hI.2.1.1 hI.1.1.2.1.1.1 q) ?_)))
    rintro _ _ ⟨rfl, rfl⟩
    refine And.intro (fun h13 => ?_) (fun h13 => ?_)
    · skip
      have h13 := bI_f h13
      refine Exists.intro ((-1)) (And.intro (by decide) ?_)
      exact ⟨rfl, rfl⟩
    · skip
      have h13 := bI_t h13
      refine And.intro (fun h17 => ?_) (fun h17 => ?_)
      · skip
        refine Exists.intro ((-1)) (And.intro (by decide) ?_)
        exact ⟨rfl, rfl⟩
      · skip
        refine And.intro (fun h22 => ?_) (fun h22 => ?_)
        · skip
          refine Exists.intro ((-1)) (And.intro (by decide) ?_)
          exact ⟨rfl, rfl⟩
        · skip
          refine Exists.intro (nI 1) (And.intro rfl ?_)
          refine And.intro (fun h28 => ?_) (fun h28 => ?_)
          · skip
            rw [h5, h13, decide_eq_true (show (0 : Int32) ≤ k from Int32.not_lt.mp h17), wi h22 h28] at hb
            cases hb
          · skip
            refine Exists.intro ((-1)) (And.intro (by decide) ?_)
            exact ⟨rfl, rfl⟩
/-! all that can be reached -/
theorem q_pls_rb {Q : q_Q} {B : q_B} {p : Nat} (hE : ePB Q B) : ∀ n, n ≤ B.1 → q_pls p Q n = q_rb B p n
  | 0, _ => rfl
  | n + 1, h => by
    show q_pls p Q n ||| 2 ^ q_dg (Q.2.2.1 n) p = q_rb B p n ||| 2 ^ q_dg (q_co B n) p
    rw [q_pls_rb hE n (by omega), (hE.2 n (by omega)).1]
theorem q_rch (S : qS) (rf : Option qR) : ((q_se S rf none).2 = -2 ∧ eQB (q_grn S rf 2001 (q_Q0 (q_en (s_at S) (s_n S 1)))) (q_se S rf none).1 ∧ (q_se S rf none).1.1 ≤ 2000) ∨ ((q_se S rf none).2 = -3 ∧ 2001 ≤ (q_grn S rf 2001 (q_Q0 (q_en (s_at S) (s_n S 1)))).1) := by
  rcases q_se_grn S rf none with ⟨k1, k2, k3, -⟩ | ⟨i, -, -, -, -, k, -⟩ | ⟨k1, k2, -⟩
  · exact Or.inl ⟨k1, k2, k3⟩
  · cases k
  · exact Or.inr ⟨k1, k2⟩
theorem vQ.endJ0 {σ s : qx_S} {S : qS} {rf : Option qR} {e fld w b n : Nat} {ρ : qx_S} (h1 : jA σ ρ b fld) (h2 : qx_mr ρ 3 fld = some b) (h3 : qg (kQL b) ρ s) (hr : 229 ≤ ρ.1) (hv : vQ σ S rf e b s (q_grn S rf n (q_Q0 w))) : jF σ S rf e fld w s :=
  ⟨b, n, h1.q h3.kJ, h3.2.2.2.2.2.2.1 3 fld b (by omega) h2, hv.2.2.1.kJ, hv.2.1, hv.1, hv.2.2.2.1⟩
theorem vQ.self {σ0 σ : qx_S} {S : qS} {rf : Option qR} {e b : Nat} {Q : q_Q} (h : vQ σ0 S rf e b σ Q) : vQ σ S rf e b σ Q := ⟨h.1, h.2.1, qg.rf h.2.1.2.2.2.2.2.2.2.2, h.2.2.2⟩
theorem vQ.bas {σ0 σ1 σ : qx_S} {S : qS} {rf : Option qR} {e b : Nat} {Q Q1 : q_Q} (h1 : vQ σ0 S rf e b σ1 Q1) (h : vQ σ1 S rf e b σ Q) : vQ σ0 S rf e b σ Q := ⟨h.1, h.2.1, h1.2.2.1.tr h.2.2.1, h.2.2.2⟩
theorem c_reached_no {G : qx_G} {σ : qx_S} {S : qS} {rf : Option qR} {e : Nat} (hI : cI σ S rf e) {p : Int32} (hb : (decide (0 < s_n S 0) && (decide (p = -1) || q_is p (s_n S 1))) = false) : qx_M G qc_T 7 YX11_reached [.ref 3, .int p] σ (qr (-2) σ) := by
  refine qx_M_in rfl (Nat.le_of_ble_eq_true rfl) ?_
  refine qy_wp_ok (c := CX11_reached) (cuts := [23]) vX11_reached wX11_reached 2000 0 _ _ _ ?_
  refine And.intro rfl (Exists.intro _ (And.intro (by decide) (qx_M_mono (c_hasCountry hI.2.1.1 hI.1.1.2.1.1.1 hI.1.1.2.1.1.2) ?_)))
  rintro _ _ ⟨rfl, rfl⟩
  refine And.intro (fun h4 => ?_) (fun h4 => ?_)
  · skip
    have h4 := bI_f h4
    refine Exists.intro ((-2)) (And.intro (by decide) ?_)
    exact ⟨rfl, rfl⟩
  · skip
    have h4 := bI_t h4
    refine Exists.intro ((-1)) (And.intro (by decide) ?_)
    refine And.intro (fun h9 => ?_) (fun h9 => ?_)
    · skip
      rw [h4, decide_eq_true h9] at hb; cases hb
    · skip
      refine And.intro rfl (Exists.intro _ (And.intro (by decide) (qx_M_mono (c_isPerson hI.2.1.1 hI.1.1.2.1.2.1.1 p) ?_)))
      rintro _ _ ⟨rfl, rfl⟩
      refine And.intro (fun h17 => ?_) (fun h17 => ?_)
      · skip
        have h17 := bI_t h17
        rw [h4, h17, Bool.or_true] at hb; cases hb
      · skip
        have h17 := bI_f h17
        refine Exists.intro ((-2)) (And.intro (by decide) ?_)
        exact ⟨rfl, rfl⟩
theorem c_reached_all {G : qx_G} {σ : qx_S} {S : qS} {rf : Option qR} {e : Nat} (hI : cI σ S rf e) (hs : cSe σ S rf e 17 (q_en (s_at S) (s_n S 1))) (h0 : 0 < s_n S 0) : qx_M G qc_T 7 YX11_reached [.ref 3, .int (-1)] σ (fun r s => r = some (.int (q_rc (q_se S rf none) (q_se S rf none).1.1)) ∧ jF σ S rf e 17 (q_en (s_at S) (s_n S 1)) s) := by
  have k := q_rch S rf
  obtain ⟨Z, eZ⟩ : ∃ Z, Z = q_grn S rf 2001 (q_Q0 (q_en (s_at S) (s_n S 1))) := ⟨_, rfl⟩
  rw [← eZ] at k
  refine qx_M_in rfl (Nat.le_of_ble_eq_true rfl) ?_
  refine qy_wp_ok (c := CX11_reached) (cuts := []) vX11_reached wX11_reached 2000 0 _ _ _ ?_
  refine And.intro rfl (Exists.intro _ (And.intro (by decide) (qx_M_mono (c_hasCountry hI.2.1.1 hI.1.1.2.1.1.1 hI.1.1.2.1.1.2) ?_)))
  rintro _ _ ⟨rfl, rfl⟩
  refine And.intro (fun h4 => ?_) (fun h4 => ?_)
  · skip
    have h4 := bI_f h4
    exact absurd (h4.symm.trans (decide_eq_true h0)) (by decide)
  · skip
    have h4 := bI_t h4
    refine Exists.intro ((-1)) (And.intro (by decide) ?_)
    refine And.intro (fun h9 => ?_) (fun h9 => ?_)
    · skip
      refine And.intro rfl (Exists.intro _ (And.intro (by decide) (qx_M_mono (c_sfN hI hs) ?_)))
      rintro _ ρ ⟨b, n, rfl, jρ⟩
      refine And.intro ((congrArg Prod.fst (jρ.2.2.1.1.1)).trans rfl) (Exists.intro _ (And.intro (by decide) (qx_M_mono (c_growAll jρ.2.2.self) ?_)))
      rintro _ μ ⟨rfl, vμ⟩
      have hZ : vQ ρ S rf e b μ Z := by rw [q_grn_end, ← eZ] at vμ; exact vμ
      have J : jF σ S rf e 17 (q_en (s_at S) (s_n S 1)) μ := vQ.endJ0 (n := 2001) jρ.1 jρ.2.1 hZ.2.2.1 jρ.2.2.2.1.2.2.2.2.2.2.2.2 (by rw [← eZ]; exact jρ.2.2.bas hZ)
      refine And.intro ((congrArg Prod.fst (vμ.1.1.1)).trans rfl) (Exists.intro _ (And.intro (by decide) (qx_M_mono (c_full hZ.1.1.1 hZ.1.2.2.1 hZ.1.2.2.2.2.1) ?_)))
      rintro _ _ ⟨rfl, rfl⟩
      refine And.intro (fun h36 => ?_) (fun h36 => ?_)
      · skip
        have h36 := bI_f h36
        refine Exists.intro ((-1)) (And.intro (by decide) ?_)
        refine And.intro (fun h44 => ?_) (fun h44 => ?_)
        · skip
          exact absurd (by decide) h44
        · skip
          refine And.intro (by rw [show qx_sh qc_T _ b = _ from vμ.1.1.1]; rfl) (Exists.intro 7 (Exists.intro (nI Z.1) (And.intro rfl (And.intro (vμ.1.2.2.1.trans (by rw [q_grn_end, ← eZ])) ?_))))
          refine ⟨?_, J⟩
          have h36 := of_decide_eq_false h36
          rcases k with ⟨k1, k2, k3⟩ | ⟨k1, k2⟩
          · unfold q_rc; rw [k1, if_neg (by decide), k2.1]
          · omega
      · skip
        have h36 := bI_t h36
        refine Exists.intro ((-3)) (And.intro (by decide) ?_)
        refine ⟨?_, J⟩
        have h36 := of_decide_eq_true h36
        rcases k with ⟨k1, k2, k3⟩ | ⟨k1, k2⟩
        · have := k2.1; omega
        · unfold q_rc; rw [if_pos k1]
    · skip
      exact absurd (by decide) h9
theorem c_reached_ok {G : qx_G} {σ : qx_S} {S : qS} {rf : Option qR} {e : Nat} (hI : cI σ S rf e) (hs : cSe σ S rf e 17 (q_en (s_at S) (s_n S 1))) (h0 : 0 < s_n S 0) {p : Nat} (hp : p < s_n S 1) : qx_M G qc_T 7 YX11_reached [.ref 3, .int (nI p)] σ (fun r s => r = some (.int (q_rc (q_se S rf none) (q_rb (q_se S rf none).1 p (q_se S rf none).1.1))) ∧ jF σ S rf e 17 (q_en (s_at S) (s_n S 1)) s) := by
  have hpe := hI.1.pe
  have k := q_rch S rf
  obtain ⟨Z, eZ⟩ : ∃ Z, Z = q_grn S rf 2001 (q_Q0 (q_en (s_at S) (s_n S 1))) := ⟨_, rfl⟩
  rw [← eZ] at k
  have m1 : nI p ≠ (-1 : Int32) := nI_m1 (by omega)
  refine qx_M_in rfl (Nat.le_of_ble_eq_true rfl) ?_
  refine qy_wp_ok (c := CX11_reached) (cuts := []) vX11_reached wX11_reached 2000 0 _ _ _ ?_
  refine And.intro rfl (Exists.intro _ (And.intro (by decide) (qx_M_mono (c_hasCountry hI.2.1.1 hI.1.1.2.1.1.1 hI.1.1.2.1.1.2) ?_)))
  rintro _ _ ⟨rfl, rfl⟩
  refine And.intro (fun h4 => ?_) (fun h4 => ?_)
  · skip
    have h4 := bI_f h4
    exact absurd (h4.symm.trans (decide_eq_true h0)) (by decide)
  · skip
    have h4 := bI_t h4
    refine Exists.intro ((-1)) (And.intro (by decide) ?_)
    refine And.intro (fun h9 => ?_) (fun h9 => ?_)
    · skip
      exact absurd h9 m1
    · skip
      refine And.intro rfl (Exists.intro _ (And.intro (by decide) (qx_M_mono (c_isPerson hI.2.1.1 hI.1.1.2.1.2.1.1 (nI p)) ?_)))
      rintro _ _ ⟨rfl, rfl⟩
      refine And.intro (fun h17 => ?_) (fun h17 => ?_)
      · skip
        have h17 := bI_t h17
        refine And.intro rfl (Exists.intro _ (And.intro (by decide) (qx_M_mono (c_sfN hI hs) ?_)))
        rintro _ ρ ⟨b, n, rfl, jρ⟩
        refine And.intro ((congrArg Prod.fst (jρ.2.2.1.1.1)).trans rfl) (Exists.intro _ (And.intro (by decide) (qx_M_mono (c_growAll jρ.2.2.self) ?_)))
        rintro _ μ ⟨rfl, vμ⟩
        have hZ : vQ ρ S rf e b μ Z := by rw [q_grn_end, ← eZ] at vμ; exact vμ
        have J : jF σ S rf e 17 (q_en (s_at S) (s_n S 1)) μ := vQ.endJ0 (n := 2001) jρ.1 jρ.2.1 hZ.2.2.1 jρ.2.2.2.1.2.2.2.2.2.2.2.2 (by rw [← eZ]; exact jρ.2.2.bas hZ)
        refine And.intro ((congrArg Prod.fst (vμ.1.1.1)).trans rfl) (Exists.intro _ (And.intro (by decide) (qx_M_mono (c_full hZ.1.1.1 hZ.1.2.2.1 hZ.1.2.2.2.2.1) ?_)))
        rintro _ _ ⟨rfl, rfl⟩
        refine And.intro (fun h36 => ?_) (fun h36 => ?_)
        · skip
          have h36 := bI_f h36
          refine Exists.intro ((-1)) (And.intro (by decide) ?_)
          refine And.intro (fun h44 => ?_) (fun h44 => ?_)
          · skip
            refine And.intro ((congrArg Prod.fst (vμ.1.1.1)).trans rfl) (Exists.intro _ (And.intro (by decide) (qx_M_mono (c_placesOf hZ.1 (by omega)) ?_)))
            rintro _ _ ⟨rfl, rfl⟩
            refine ⟨?_, J⟩
            have h36 := of_decide_eq_false h36
            rcases k with ⟨k1, k2, k3⟩ | ⟨k1, k2⟩
            · unfold q_rc; rw [k1, if_neg (by decide), k2.1, q_pls_rb k2.2 _ (Nat.le_refl _)]
            · omega
          · skip
            exact absurd h44 m1
        · skip
          have h36 := bI_t h36
          refine Exists.intro ((-3)) (And.intro (by decide) ?_)
          refine ⟨?_, J⟩
          have h36 := of_decide_eq_true h36
          rcases k with ⟨k1, k2, k3⟩ | ⟨k1, k2⟩
          · have := k2.1; omega
          · unfold q_rc; rw [if_pos k1]
      · skip
        have h17 := bI_f h17
        exact absurd (h17.symm.trans (q_is_ok hp (by omega))) (by decide)

