/-! THE REFERENCE reckons -/
/-- the stack; with the words -/
abbrev lK : List (Nat × Option Nat) := [(205, none), (197, some 18)]
abbrev lE : List (Nat × Option Nat) := [(205, none), (206, none), (197, some 18)]
def q_stk (f : Nat → Int64) : Nat → List Int64
  | 0 => []
  | n + 1 => f n :: q_stk f n
theorem q_stk_len (f : Nat → Int64) : ∀ n, (q_stk f n).length = n
  | 0 => rfl
  | n + 1 => by simp [q_stk, q_stk_len f n]
theorem q_stk_congr {f g : Nat → Int64} : ∀ n, (∀ j, j < n → g j = f j) → q_stk g n = q_stk f n
  | 0, _ => rfl
  | n + 1, h => by
    show g n :: q_stk g n = f n :: q_stk f n
    rw [h n (by omega), q_stk_congr n (fun j hj => h j (by omega))]
/-- a value comes on the stack -/
theorem q_stk_push {σ : qx_S} {n : Nat} {x : Int64} {y : Int32} : q_stk (qx_ml (qx_wi (qx_wl σ 205 n x) 197 18 y) 205) (n + 1) = x :: q_stk (qx_ml σ 205) n := by
  show qx_ml (qx_wl σ 205 n x) 205 n :: q_stk (qx_ml (qx_wl σ 205 n x) 205) n = _
  rw [show qx_ml (qx_wl σ 205 n x) 205 n = x from qw_leq, q_stk_congr n (f := qx_ml σ 205) (fun j hj => qw_lne (Or.inr (by omega)))]
def mR1 (σ : qx_S) (t : Nat) (R : qR) : Prop := q_wf R ∧ qx_mi σ 202 t = nI (q_nc R) ∧ (∀ i, i < q_len R → qx_mi σ 199 (400 * t + i) = nI (q_sg (q_cd R i))) ∧
  ∀ c, c < q_nc R → qx_mi σ 201 (60 * t + 5 * c) = nI (cond (q_bar R c) 0 1) ∧ qx_mi σ 201 (60 * t + 5 * c + 1) = nI (q_fr R c) ∧ qx_mi σ 201 (60 * t + 5 * c + 2) = nI (q_tf R c) ∧ qx_mi σ 201 (60 * t + 5 * c + 3) = (if q_tf R c = q_to R c then -1 else nI (q_tf R c)) ∧ qx_mi σ 201 (60 * t + 5 * c + 4) = nI (q_to R c)
theorem mR1.fr {σ σ' : qx_S} {t : Nat} {R : qR} {P : Nat → Nat → Bool} (h : mR1 σ t R) (hf : qf P σ σ') (h1 : ∀ j, P 199 j = false) (h2 : ∀ j, P 201 j = false) (h3 : ∀ j, P 202 j = false) : mR1 σ' t R := by
  unfold mR1 qx_mi at *
  rw [hf.row 199 h1, hf.row 201 h2, hf.row 202 h3]
  exact h
theorem q_sg_lt {c : Nat} (h : c < 100024) : q_sg c < 1600000 := by
  unfold q_sg
  split
  · omega
  · split <;> omega
theorem q_sg_0 {c : Nat} (h : c < 100000) : q_sg c % 16 = 0 ∧ q_sg c / 16 = c := by
  unfold q_sg
  rw [if_pos h]
  omega
theorem q_sg_1 {c : Nat} (h : ¬ c < 100000) (h1 : c < 100012) : q_sg c % 16 = 1 ∧ q_sg c / 16 = c - 100000 := by
  unfold q_sg
  rw [if_neg h, if_pos h1]
  omega
theorem q_sg_2 {c : Nat} (h : ¬ c < 100012) (h1 : c < 100024) : q_sg c % 16 = c - 100010 := by
  unfold q_sg
  rw [if_neg (by omega), if_neg h]
  omega
theorem ty_st_two {c : Nat} {ts ts1 : List Bool} (c1 : ¬ c < 100012) (c2 : ¬ c = 100021) (h : ty_st c ts = some ts1) : 2 ≤ ts.length := by
  unfold ty_st at h
  rw [if_neg c1] at h
  split at h
  · split at h
    · simp
    · cases h
  · split at h
    · split at h
      · simp
      · cases h
    · split at h
      · split at h
        · simp
        · cases h
      · cases h
theorem l_reckons {G : qx_G} {t : Nat} {R : qR} (ht : t < 6) {w : Nat → Int64} {e : Nat} (he : e ≤ q_len R) (hl : q_len R ≤ 400) (hcd : ∀ i, i < q_len R → q_cd R i < 100024) {σ0 : qx_S} (hsg : ∀ i, i < q_len R → qx_mi σ0 199 (400 * t + i) = nI (q_sg (q_cd R i))) (hw : ∀ v, v < 12 → qx_ml σ0 206 v = w v) {ts' : List Bool} {b : Nat} (hts' : ts'.length = 1) : ∀ (m i : Nat) (σ : qx_S) (ts : List Bool) (s : List Int64), m = e - i → b ≤ i → i ≤ e → ql lK σ0 σ → qx_mi σ 197 18 = nI s.length → q_stk (qx_ml σ 205) s.length = s → ty_ok ts s → ts.length ≤ 60 → ty_run (q_cd R) (e - i) i ts = some ts' →
   qx_K G qc_T 1 RX12 YX12_reckons 8 [.ref 197, .int (nI t), .retAddr 0, .int (nI e), .int (nI i), .retAddr 0, .retAddr 0, .retAddr 0, .retAddr 0, .retAddr 0, .retAddr 0] [] σ (fun r s' => r = some (.long ((ev_run w (q_cd R) (e - i) i s).headD 0)) ∧ ql lK σ0 s') := by
  intro m
  induction m using Nat.strongRecOn with
  | _ m ih =>
    intro i σ ts s hm hb hie hf htop hstk hty hlen hrun
    have hsl := ty_ok_len _ _ hty
    rcases Nat.lt_or_ge i e with hlt | hge
    · have hc := hcd i (by omega)
      have hlt2 := q_sg_lt hc
      have h16 : q_sg (q_cd R i) &&& 15 = q_sg (q_cd R i) % 16 := Nat.and_two_pow_sub_one_eq_mod _ 4
      have hs1 : ∀ s1 ts1 σ1, ts1.length ≤ 60 → ql lK σ0 σ1 → qx_mi σ1 197 18 = nI (List.length s1) → q_stk (qx_ml σ1 205) s1.length = s1 → ev_st w (q_cd R i) s = s1 → ty_st (q_cd R i) ts = some ts1 → qx_K G qc_T 1 RX12 YX12_reckons 8 [.ref 197, .int (nI t), .retAddr 0, .int (nI e), .int (nI (i + 1)), .retAddr 0, .retAddr 0, .retAddr 0, .retAddr 0, .retAddr 0, .retAddr 0] [] σ1 (fun r s' => r = some (.long ((ev_run w (q_cd R) (e - i) i s).headD 0)) ∧ ql lK σ0 s') := by
        intro s1 ts1 σ1 hl1 hf1 ht1 hk1 he1 hy1
        have e1 : e - i = (e - (i + 1)) + 1 := by omega
        rw [e1] at hrun ⊢
        have hrun2 : ty_run (q_cd R) (e - (i + 1)) (i + 1) ts1 = some ts' := by
          unfold ty_run at hrun
          rw [hy1] at hrun
          exact hrun
        show qx_K _ _ _ _ _ _ _ _ _ (fun r s' => r = some (.long ((ev_run w (q_cd R) (e - (i + 1)) (i + 1) (ev_st w (q_cd R i) s)).headD 0)) ∧ ql lK σ0 s')
        rw [he1]
        exact ih (e - (i + 1)) (by omega) (i + 1) σ1 ts1 s1 rfl (by omega) (by omega) hf1 ht1 hk1 (he1 ▸ ty_st_ok hy1 hty) hl1 hrun2
      obtain ⟨ts1, hy1⟩ : ∃ ts1, ty_st (q_cd R i) ts = some ts1 := by
        rw [show e - i = (e - (i + 1)) + 1 by omega] at hrun
        unfold ty_run at hrun
        cases hq : ty_st (q_cd R i) ts with
        | none => rw [hq] at hrun; cases hrun
        | some q => exact ⟨q, rfl⟩
      have hl1 : ts1.length ≤ 60 := by rcases ty_st_len hy1 with z | z <;> omega
      by_cases c0 : q_cd R i < 100000
      · obtain ⟨g1, g2⟩ := q_sg_0 c0
        have hpush : s.length < 60 := by
          unfold ty_st at hy1
          rw [if_pos (by omega)] at hy1
          split at hy1
          · omega
          · cases hy1
        refine qy_wp_ok (c := CX12_reckons) (cuts := [8]) vX12_reckons wX12_reckons 2000 8 _ _ _ ?_
        refine And.intro (fun h11 => ?_) (fun h11 => ?_)
        · skip
          have h11 := nI_leT (a := e) (b := i) (by omega) (by omega) h11
          exact absurd h11 (by omega)
        · skip
          have h11 := nI_leF (a := e) (b := i) (by omega) (by omega) h11
          refine And.intro rfl (Exists.intro 199 (And.intro rfl ?_))
          refine Exists.intro (nI 400) (And.intro rfl ?_)
          refine Exists.intro (nI (400 * t)) (And.intro (pk_mul _ _) ?_)
          refine Exists.intro (nI (400 * t + i)) (And.intro (nI_add _ _) ?_)
          refine Exists.intro (400 * t + i) (Exists.intro (nI (q_sg (q_cd R i))) (And.intro rfl (And.intro ⟨2400, rfl, by omega, by decide⟩ (And.intro ((hf.i _ _ rfl).trans (hsg i (by omega))) ?_))))
          refine Exists.intro (nI 15) (And.intro rfl ?_)
          refine Exists.intro (nI 0) (And.intro ((nI_and _ _).trans (by rw [h16, g1])) ?_)
          refine And.intro rfl (Exists.intro 199 (And.intro rfl ?_))
          refine Exists.intro (nI 400) (And.intro rfl ?_)
          refine Exists.intro (nI (400 * t)) (And.intro (pk_mul _ _) ?_)
          refine Exists.intro (nI (400 * t + i)) (And.intro (nI_add _ _) ?_)
          refine Exists.intro (400 * t + i) (Exists.intro (nI (q_sg (q_cd R i))) (And.intro rfl (And.intro ⟨2400, rfl, by omega, by decide⟩ (And.intro ((hf.i _ _ rfl).trans (hsg i (by omega))) ?_))))
          refine Exists.intro (nI 4) (And.intro rfl ?_)
          refine Exists.intro (nI (q_cd R i)) (And.intro ((nI_shr (by omega) (by omega)).trans (by rw [show (2:Nat) ^ 4 = 16 from rfl, g2])) ?_)
          refine And.intro (fun h51 => ?_) (fun h51 => ?_)
          · skip
            exact absurd (by decide) h51
          · skip
            refine Exists.intro (lN (q_cd R i)) (And.intro (nI_l (by omega)) ?_)
            refine And.intro rfl (Exists.intro _ (And.intro (by decide) (qx_M_mono (m_push (n := s.length) (x := (lN (q_cd R i))) (by omega) htop) ?_)))
            rintro _ _ ⟨rfl, rfl⟩
            refine Exists.intro (nI (i + 1)) (And.intro (nI_add _ _) ?_)
            refine qx_K_le (ls := [.ref 197, .int (nI t), .retAddr 0, .int (nI e), .int (nI (i + 1)), .retAddr 0, .retAddr 0, .retAddr 0, .retAddr 0, .retAddr 0, .retAddr 0]) ⟨Or.inr rfl, Or.inr rfl, Or.inr rfl, Or.inr rfl, Or.inr rfl, Or.inl rfl, Or.inl rfl, Or.inr rfl, Or.inr rfl, Or.inr rfl, Or.inr rfl, trivial⟩ ?_
            exact hs1 (lN (q_cd R i) :: s) ts1 _ hl1 ((hf.wl _ _ _ rfl).wi _ _ _ rfl) qw_eq (q_stk_push.trans (by rw [hstk])) (by unfold ev_st; rw [if_pos c0]) hy1
      by_cases c1 : q_cd R i < 100012
      · obtain ⟨g1, g2⟩ := q_sg_1 c0 c1
        have hpush : s.length < 60 := by
          unfold ty_st at hy1
          rw [if_pos (by omega)] at hy1
          split at hy1
          · omega
          · cases hy1
        have hwv := (hf.l 206 (q_cd R i - 100000) rfl).trans (hw (q_cd R i - 100000) (by omega))
        refine qy_wp_ok (c := CX12_reckons) (cuts := [8]) vX12_reckons wX12_reckons 2000 8 _ _ _ ?_
        refine And.intro (fun h11 => ?_) (fun h11 => ?_)
        · skip
          have h11 := nI_leT (a := e) (b := i) (by omega) (by omega) h11
          exact absurd h11 (by omega)
        · skip
          have h11 := nI_leF (a := e) (b := i) (by omega) (by omega) h11
          refine And.intro rfl (Exists.intro 199 (And.intro rfl ?_))
          refine Exists.intro (nI 400) (And.intro rfl ?_)
          refine Exists.intro (nI (400 * t)) (And.intro (pk_mul _ _) ?_)
          refine Exists.intro (nI (400 * t + i)) (And.intro (nI_add _ _) ?_)
          refine Exists.intro (400 * t + i) (Exists.intro (nI (q_sg (q_cd R i))) (And.intro rfl (And.intro ⟨2400, rfl, by omega, by decide⟩ (And.intro ((hf.i _ _ rfl).trans (hsg i (by omega))) ?_))))
          refine Exists.intro (nI 15) (And.intro rfl ?_)
          refine Exists.intro (nI 1) (And.intro ((nI_and _ _).trans (by rw [h16, g1])) ?_)
          refine And.intro rfl (Exists.intro 199 (And.intro rfl ?_))
          refine Exists.intro (nI 400) (And.intro rfl ?_)
          refine Exists.intro (nI (400 * t)) (And.intro (pk_mul _ _) ?_)
          refine Exists.intro (nI (400 * t + i)) (And.intro (nI_add _ _) ?_)
          refine Exists.intro (400 * t + i) (Exists.intro (nI (q_sg (q_cd R i))) (And.intro rfl (And.intro ⟨2400, rfl, by omega, by decide⟩ (And.intro ((hf.i _ _ rfl).trans (hsg i (by omega))) ?_))))
          refine Exists.intro (nI 4) (And.intro rfl ?_)
          refine Exists.intro (nI (q_cd R i - 100000)) (And.intro ((nI_shr (by omega) (by omega)).trans (by rw [show (2:Nat) ^ 4 = 16 from rfl, g2])) ?_)
          refine And.intro (fun h51 => ?_) (fun h51 => ?_)
          · skip
            refine Exists.intro (nI 1) (And.intro rfl ?_)
            refine And.intro (fun h67 => ?_) (fun h67 => ?_)
            · skip
              exact absurd (by decide) h67
            · skip
              refine And.intro rfl (Exists.intro 206 (And.intro rfl ?_))
              refine Exists.intro (q_cd R i - 100000) (Exists.intro (w (q_cd R i - 100000)) (And.intro rfl (And.intro ⟨12, rfl, by omega, by decide⟩ (And.intro hwv ?_))))
              refine And.intro rfl (Exists.intro _ (And.intro (by decide) (qx_M_mono (m_push (n := s.length) (x := (w (q_cd R i - 100000))) (by omega) htop) ?_)))
              rintro _ _ ⟨rfl, rfl⟩
              refine Exists.intro (nI (i + 1)) (And.intro (nI_add _ _) ?_)
              refine qx_K_le (ls := [.ref 197, .int (nI t), .retAddr 0, .int (nI e), .int (nI (i + 1)), .retAddr 0, .retAddr 0, .retAddr 0, .retAddr 0, .retAddr 0, .retAddr 0]) ⟨Or.inr rfl, Or.inr rfl, Or.inr rfl, Or.inr rfl, Or.inr rfl, Or.inl rfl, Or.inl rfl, Or.inr rfl, Or.inr rfl, Or.inr rfl, Or.inr rfl, trivial⟩ ?_
              exact hs1 (w (q_cd R i - 100000) :: s) ts1 _ hl1 ((hf.wl _ _ _ rfl).wi _ _ _ rfl) qw_eq (q_stk_push.trans (by rw [hstk])) (by unfold ev_st; rw [if_neg c0, if_pos c1]) hy1
          · skip
            exact absurd h51 (by decide)
      have g1 := q_sg_2 c1 hc
      by_cases c2 : q_cd R i = 100021
      · match s, hty, hsl, htop, hstk, hs1 with
        | [], hty, hsl, htop, hstk, hs1 =>
          exfalso
          have : ts = [] := List.length_eq_zero_iff.mp hsl.symm
          rw [this, c2] at hy1
          cases hy1
        | x :: q, hty, hsl, htop, hstk, hs1 =>
          have hq : q.length < 60 := by
            have : (x :: q).length = q.length + 1 := rfl
            omega
          have hx : qx_ml σ 205 q.length = x := (List.cons.inj hstk).1
          have hk2 : q_stk (qx_ml σ 205) q.length = q := (List.cons.inj hstk).2
          refine qy_wp_ok (c := CX12_reckons) (cuts := [8]) vX12_reckons wX12_reckons 2000 8 _ _ _ ?_
          refine And.intro (fun h11 => ?_) (fun h11 => ?_)
          · skip
            have h11 := nI_leT (a := e) (b := i) (by omega) (by omega) h11
            exact absurd h11 (by omega)
          · skip
            have h11 := nI_leF (a := e) (b := i) (by omega) (by omega) h11
            refine And.intro rfl (Exists.intro 199 (And.intro rfl ?_))
            refine Exists.intro (nI 400) (And.intro rfl ?_)
            refine Exists.intro (nI (400 * t)) (And.intro (pk_mul _ _) ?_)
            refine Exists.intro (nI (400 * t + i)) (And.intro (nI_add _ _) ?_)
            refine Exists.intro (400 * t + i) (Exists.intro (nI (q_sg (q_cd R i))) (And.intro rfl (And.intro ⟨2400, rfl, by omega, by decide⟩ (And.intro ((hf.i _ _ rfl).trans (hsg i (by omega))) ?_))))
            refine Exists.intro (nI 15) (And.intro rfl ?_)
            refine Exists.intro (nI 11) (And.intro ((nI_and _ _).trans (by rw [h16, g1, c2])) ?_)
            refine And.intro rfl (Exists.intro 199 (And.intro rfl ?_))
            refine Exists.intro (nI 400) (And.intro rfl ?_)
            refine Exists.intro (nI (400 * t)) (And.intro (pk_mul _ _) ?_)
            refine Exists.intro (nI (400 * t + i)) (And.intro (nI_add _ _) ?_)
            refine Exists.intro (400 * t + i) (Exists.intro (nI (q_sg (q_cd R i))) (And.intro rfl (And.intro ⟨2400, rfl, by omega, by decide⟩ (And.intro ((hf.i _ _ rfl).trans (hsg i (by omega))) ?_))))
            refine Exists.intro (nI 4) (And.intro rfl ?_)
            refine Exists.intro (nI ((q_sg (q_cd R i)) / 2 ^ 4)) (And.intro (nI_shr (by omega) (by omega)) ?_)
            refine And.intro (fun h51 => ?_) (fun h51 => ?_)
            · skip
              refine Exists.intro (nI 1) (And.intro rfl ?_)
              refine And.intro (fun h67 => ?_) (fun h67 => ?_)
              · skip
                refine Exists.intro (nI 11) (And.intro rfl ?_)
                refine And.intro (fun h88 => ?_) (fun h88 => ?_)
                · skip
                  exact absurd (by decide) h88
                · skip
                  refine Exists.intro (lN 1) (And.intro rfl ?_)
                  refine And.intro rfl (Exists.intro _ (And.intro (by decide) (qx_M_mono (m_pop (n := q.length) (by omega) htop) ?_)))
                  rintro _ _ ⟨rfl, rfl⟩
                  refine Exists.intro ((lN 1) - (qx_ml σ 205 q.length)) (And.intro rfl ?_)
                  refine And.intro rfl (Exists.intro _ (And.intro (by decide) (qx_M_mono (m_push (n := q.length) (x := ((lN 1) - (qx_ml σ 205 q.length))) (by omega) qw_eq) ?_)))
                  rintro _ _ ⟨rfl, rfl⟩
                  refine Exists.intro (nI (i + 1)) (And.intro (nI_add _ _) ?_)
                  refine qx_K_le (ls := [.ref 197, .int (nI t), .retAddr 0, .int (nI e), .int (nI (i + 1)), .retAddr 0, .retAddr 0, .retAddr 0, .retAddr 0, .retAddr 0, .retAddr 0]) ⟨Or.inr rfl, Or.inr rfl, Or.inr rfl, Or.inr rfl, Or.inr rfl, Or.inl rfl, Or.inl rfl, Or.inr rfl, Or.inr rfl, Or.inr rfl, Or.inr rfl, trivial⟩ ?_
                  exact hs1 ((lN 1 - qx_ml σ 205 q.length) :: q) ts1 _ hl1 (((hf.wi _ _ _ rfl).wl _ _ _ rfl).wi _ _ _ rfl) qw_eq (q_stk_push.trans (congrArg (List.cons _) hk2)) (by unfold ev_st; rw [if_neg c0, if_neg c1, if_pos c2, hx]) hy1
              · skip
                exact absurd h67 (by decide)
            · skip
              exact absurd h51 (by decide)
      · match s, hty, hsl, htop, hstk, hs1 with
        | [], hty, hsl, htop, hstk, hs1 => exact absurd (ty_st_two c1 c2 hy1) (by rw [← hsl]; decide)
        | [x], hty, hsl, htop, hstk, hs1 => exact absurd (ty_st_two c1 c2 hy1) (by rw [← hsl]; simp)
        | y :: x :: q, hty, hsl, htop, hstk, hs1 =>
          have hq : q.length < 59 := by
            have : (y :: x :: q).length = q.length + 1 + 1 := rfl
            omega
          have hy : qx_ml σ 205 (q.length + 1) = y := (List.cons.inj hstk).1
          have hx : qx_ml σ 205 q.length = x := (List.cons.inj (List.cons.inj hstk).2).1
          have hk2 : q_stk (qx_ml σ 205) q.length = q := (List.cons.inj (List.cons.inj hstk).2).2
          refine qy_wp_ok (c := CX12_reckons) (cuts := [8]) vX12_reckons wX12_reckons 2000 8 _ _ _ ?_
          refine And.intro (fun h11 => ?_) (fun h11 => ?_)
          · skip
            have h11 := nI_leT (a := e) (b := i) (by omega) (by omega) h11
            exact absurd h11 (by omega)
          · skip
            have h11 := nI_leF (a := e) (b := i) (by omega) (by omega) h11
            refine And.intro rfl (Exists.intro 199 (And.intro rfl ?_))
            refine Exists.intro (nI 400) (And.intro rfl ?_)
            refine Exists.intro (nI (400 * t)) (And.intro (pk_mul _ _) ?_)
            refine Exists.intro (nI (400 * t + i)) (And.intro (nI_add _ _) ?_)
            refine Exists.intro (400 * t + i) (Exists.intro (nI (q_sg (q_cd R i))) (And.intro rfl (And.intro ⟨2400, rfl, by omega, by decide⟩ (And.intro ((hf.i _ _ rfl).trans (hsg i (by omega))) ?_))))
            refine Exists.intro (nI 15) (And.intro rfl ?_)
            refine Exists.intro (nI (q_cd R i - 100010)) (And.intro ((nI_and _ _).trans (by rw [h16, g1])) ?_)
            refine And.intro rfl (Exists.intro 199 (And.intro rfl ?_))
            refine Exists.intro (nI 400) (And.intro rfl ?_)
            refine Exists.intro (nI (400 * t)) (And.intro (pk_mul _ _) ?_)
            refine Exists.intro (nI (400 * t + i)) (And.intro (nI_add _ _) ?_)
            refine Exists.intro (400 * t + i) (Exists.intro (nI (q_sg (q_cd R i))) (And.intro rfl (And.intro ⟨2400, rfl, by omega, by decide⟩ (And.intro ((hf.i _ _ rfl).trans (hsg i (by omega))) ?_))))
            refine Exists.intro (nI 4) (And.intro rfl ?_)
            refine Exists.intro (nI ((q_sg (q_cd R i)) / 2 ^ 4)) (And.intro (nI_shr (by omega) (by omega)) ?_)
            refine And.intro (fun h51 => ?_) (fun h51 => ?_)
            · skip
              have h51 := nI_neT (a := q_cd R i - 100010) (b := 0) (by omega) (by decide) h51
              refine Exists.intro (nI 1) (And.intro rfl ?_)
              refine And.intro (fun h67 => ?_) (fun h67 => ?_)
              · skip
                have h67 := nI_neT (a := q_cd R i - 100010) (b := 1) (by omega) (by decide) h67
                refine Exists.intro (nI 11) (And.intro rfl ?_)
                refine And.intro (fun h88 => ?_) (fun h88 => ?_)
                · skip
                  have h88 := nI_neT (a := q_cd R i - 100010) (b := 11) (by omega) (by decide) h88
                  refine And.intro rfl (Exists.intro _ (And.intro (by decide) (qx_M_mono (m_pop (n := q.length + 1) (by omega) htop) ?_)))
                  rintro _ _ ⟨rfl, rfl⟩
                  refine And.intro rfl (Exists.intro _ (And.intro (by decide) (qx_M_mono (m_pop (n := q.length) (by omega) qw_eq) ?_)))
                  rintro _ _ ⟨rfl, rfl⟩
                  refine Exists.intro _ (And.intro (by decide) (qx_M_mono (m_one (m := (q_cd R i - 100010)) (x := (qx_ml σ 205 q.length)) (y := (qx_ml σ 205 (q.length + 1))) (by omega) (by omega) (by omega)) ?_))
                  rintro _ _ ⟨rfl, rfl⟩
                  refine And.intro rfl (Exists.intro _ (And.intro (by decide) (qx_M_mono (m_push (n := q.length) (x := (q_op (q_cd R i - 100010) (qx_ml σ 205 q.length) (qx_ml σ 205 (q.length + 1)))) (by omega) qw_eq) ?_)))
                  rintro _ _ ⟨rfl, rfl⟩
                  refine Exists.intro (nI (i + 1)) (And.intro (nI_add _ _) ?_)
                  refine qx_K_le (ls := [.ref 197, .int (nI t), .retAddr 0, .int (nI e), .int (nI (i + 1)), .retAddr 0, .retAddr 0, .retAddr 0, .retAddr 0, .retAddr 0, .retAddr 0]) ⟨Or.inr rfl, Or.inr rfl, Or.inr rfl, Or.inr rfl, Or.inr rfl, Or.inl rfl, Or.inl rfl, Or.inl rfl, Or.inr rfl, Or.inl rfl, Or.inr rfl, trivial⟩ ?_
                  exact hs1 (q_op (q_cd R i - 100010) (qx_ml σ 205 q.length) (qx_ml σ 205 (q.length + 1)) :: q) ts1 _ hl1 ((((hf.wi _ _ _ rfl).wi _ _ _ rfl).wl _ _ _ rfl).wi _ _ _ rfl) qw_eq (q_stk_push.trans (congrArg (List.cons _) hk2)) (by unfold ev_st; rw [if_neg c0, if_neg c1, if_neg c2, hx, hy]) hy1
                · skip
                  have h88 := nI_eqT (a := q_cd R i - 100010) (b := 11) (by omega) (by decide) h88
                  exact absurd h88 (by omega)
              · skip
                have h67 := nI_eqT (a := q_cd R i - 100010) (b := 1) (by omega) (by decide) h67
                exact absurd h67 (by omega)
            · skip
              have h51 := nI_eqT (a := q_cd R i - 100010) (b := 0) (by omega) (by decide) h51
              exact absurd h51 (by omega)
    · obtain rfl : i = e := by omega
      rw [Nat.sub_self] at hrun ⊢
      cases hrun
      obtain ⟨x, rfl⟩ := List.length_eq_one_iff.mp (hsl.trans hts')
      skip
      · skip
        refine qy_wp_ok (c := CX12_reckons) (cuts := [8]) vX12_reckons wX12_reckons 2000 8 _ _ _ ?_
        refine And.intro (fun h11 => ?_) (fun h11 => ?_)
        · skip
          have h11 := nI_leT (a := i) (b := i) (by omega) (by omega) h11
          refine And.intro rfl (Exists.intro _ (And.intro (by decide) (qx_M_mono (m_pop (n := 0) (by omega) htop) ?_)))
          rintro _ _ ⟨rfl, rfl⟩
          exact ⟨congrArg (fun z => some (Value.long z)) (List.cons.inj hstk).1, hf.wi _ _ _ rfl⟩
        · skip
          have h11 := nI_leF (a := i) (b := i) (by omega) (by omega) h11
          exact absurd h11 (by omega)
theorem m_reckons {G : qx_G} {t : Nat} {R : qR} (ht : t < 6) {σ : qx_S} (hR : mR1 σ t R) {w : Nat → Int64} (hw : ∀ v, v < 12 → qx_ml σ 206 v = w v) {b e : Nat} {ty : Bool} (hsq : q_sq (q_cd R) b e ty) (he : e ≤ q_len R) : qx_M G qc_T 1 YX12_reckons [.ref 197, .int (nI t), .int (nI b), .int (nI e)] σ (fun r s => r = some (.long (ev (q_cd R) w b e)) ∧ ql lK σ s) := by
  have hl := hR.1.2.1
  have hb := hsq.1
  refine qx_M_in rfl (Nat.le_of_ble_eq_true rfl) ?_
  refine qy_wp_ok (c := CX12_reckons) (cuts := [8]) vX12_reckons wX12_reckons 2000 0 _ _ _ ?_
  refine Exists.intro (nI 0) (And.intro rfl ?_)
  refine And.intro rfl (Exists.intro 18 (Exists.intro (qx_wi σ 197 18 (nI 0)) (And.intro rfl (And.intro rfl ?_))))
  refine qx_K_le (ls := [.ref 197, .int (nI t), .retAddr 0, .int (nI e), .int (nI b), .retAddr 0, .retAddr 0, .retAddr 0, .retAddr 0, .retAddr 0, .retAddr 0]) ⟨Or.inr rfl, Or.inr rfl, Or.inl rfl, Or.inr rfl, Or.inr rfl, Or.inr rfl, Or.inr rfl, Or.inr rfl, Or.inr rfl, Or.inr rfl, Or.inr rfl, trivial⟩ ?_
  exact qx_K_mono (l_reckons (b := b) ht he hl hR.1.2.2.1 hR.2.2.1 hw rfl _ b (qx_wi σ 197 18 (nI 0)) [] [] rfl (Nat.le_refl _) hb (qf.rf.wi _ _ _ rfl) qw_eq rfl trivial (by decide) hsq.2) (fun r s h => h)

