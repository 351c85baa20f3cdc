/-! DONE: class and reference, pure -/
theorem q_fic_first {B : q_B} {n s : Nat} : ∀ m i, q_fic B n m i = some s → ∀ t, i ≤ t → t < s → q_co B t ≠ n
  | 0, i, h => by cases h
  | m + 1, i, h => by
    unfold q_fic at h
    split at h
    · next hc =>
      cases h
      intro t h1 h2
      omega
    · next hc =>
      intro t h1 h2
      by_cases z : t = i
      · rw [z]; exact hc
      · exact q_fic_first m (i + 1) h t (by omega) h2
def eWB (Q : q_Q) (B : q_B) : Prop := Q.1 = B.1 ∧ ∀ i, i < B.1 → Q.2.2.1 i = q_co B i ∧ Q.2.2.2.1 i = q_lv B i ∧ Q.2.2.2.2.2.2 i = q_wy B i ∧ q_wy B i ≤ 2
/-- too many -/
def xDn (N : Nat) (c l : Nat → Nat) (L : Nat) (Q : q_Q) : Prop := 2001 ≤ Q.1 ∧ N ≤ 2000 ∧ (∀ i, i < N → Q.2.2.1 i = c i ∧ Q.2.2.2.1 i = l i) ∧ ∀ i, N ≤ i → i < 2001 → Q.2.2.2.1 i = L + 1
theorem xDn.pf {N : Nat} {c l : Nat → Nat} {L : Nat} {Q Q' : q_Q} (h : xDn N c l L Q) (k : q_pf Q Q') : xDn N c l L Q' := by
  obtain ⟨h1, h2, h3, h4⟩ := h
  exact ⟨Nat.le_trans h1 k.1.1, h2, fun i hi => ⟨(k.2 i (by omega)).1.trans (h3 i hi).1, (k.2 i (by omega)).2.1.trans (h3 i hi).2⟩, fun i h5 h6 => (k.2 i (by omega)).2.1.trans (h4 i h5 h6)⟩
/-- a level grows -/
def lDn (N : Nat) (c l : Nat → Nat) (L : Nat) (Q : q_Q) (B : q_B) : Prop := eWB Q B ∧ B.1 ≤ 2000 ∧ N ≤ B.1 ∧ (∀ i, i < N → q_co B i = c i ∧ q_lv B i = l i) ∧ ∀ i, N ≤ i → i < B.1 → q_lv B i = L + 1
theorem q_m2_eq (s : Nat) : q_m2 s = if 2 < s then 2 else s := by
  unfold q_m2
  split
  · rw [if_neg (by omega)]
  · split <;> omega
theorem q_ld_qv {S : qS} {rf : Option qR} {N : Nat} {c l : Nat → Nat} {L k w a b : Nat} {Q : q_Q} {B : q_B} (hk : k < N) (hw : c k = w) (hl : l k = L) (h : lDn N c l L Q B) : (∃ B', q_ld S rf k a b B = (B', none) ∧ lDn N c l L (q_qv S rf k w a b Q) B') ∨ ∃ B' r, q_ld S rf k a b B = (B', some r) ∧ xDn N c l L (q_qv S rf k w a b Q) := by
  obtain ⟨hE, hz, hN, h3, h4⟩ := h
  have ck : q_co B k = w := (h3 k hk).1.trans hw
  have lk : q_lv B k = L := (h3 k hk).2.trans hl
  have pf := (q_pf_qv S rf k w a b Q).1
  have dk : Q.2.2.2.1 k = L := (hE.2 k (by omega)).2.1.trans lk
  have wk := (hE.2 k (by omega)).2.2
  cases z1 : q_cs S rf w a b with
  | false =>
    rw [q_qv_no z1]
    exact Or.inl ⟨B, q_ld_no (by rw [ck]; exact z1), hE, hz, hN, h3, h4⟩
  | true =>
    have z1' : q_cs S rf (q_co B k) a b = true := by rw [ck]; exact z1
    rw [q_qv_y z1]
    cases z2 : q_fi B (q_sw (s_n S 1) (q_co B k) a b) with
    | some t =>
      rw [q_ld_old z1' z2]
      obtain ⟨t1, t2⟩ := q_fi_some z2
      have tf := q_fic_first _ _ z2
      rw [ck] at t2 tf
      have ix : q_ix Q (q_sw (s_n S 1) w a b) = t := by
        refine q_fst_eq Q.1 0 (Nat.zero_le _) (by rw [hE.1]; omega) (decide_eq_true ((hE.2 t t1).1.trans t2)) (fun u _ hu => decide_eq_false (fun y => tf u (Nat.zero_le _) hu ((hE.2 u (by omega)).1.symm.trans y)))
      have ht : t < Q.1 := by rw [hE.1]; exact t1
      have et := hE.2 t t1
      refine Or.inl ⟨_, rfl, ?_⟩
      unfold q_ad q_wu
      rw [ix, if_pos ht, dk, et.2.1, lk]
      by_cases y : q_lv B t = L + 1
      · rw [if_pos y, if_pos y]
        have e1 : ∀ i, i < B.1 → (va_up B.2 t (q_sy (B.2 t) (if 2 < q_wy B t + q_wy B k then 2 else q_wy B t + q_wy B k)) i).1 = q_co B i ∧ (va_up B.2 t (q_sy (B.2 t) (if 2 < q_wy B t + q_wy B k then 2 else q_wy B t + q_wy B k)) i).2.2.2.2.1 = q_lv B i := fun i _ => by
          rw [q_sy_e]
          split
          · next e => rw [e]; exact ⟨rfl, rfl⟩
          · exact ⟨rfl, rfl⟩
        refine ⟨⟨hE.1, fun i hi => ?_⟩, hz, hN, fun i hi => ⟨(e1 i (by omega)).1.trans (h3 i hi).1, (e1 i (by omega)).2.trans (h3 i hi).2⟩, fun i h5 h6 => (e1 i h6).2.trans (h4 i h5 h6)⟩
        have hi' : i < B.1 := hi
        have ei := hE.2 i hi'
        refine ⟨ei.1.trans (e1 i hi').1.symm, ei.2.1.trans (e1 i hi').2.symm, ?_⟩
        show va_up Q.2.2.2.2.2.2 t (q_m2 (Q.2.2.2.2.2.2 t + Q.2.2.2.2.2.2 k)) i = (va_up B.2 t _ i).2.2.2.2.2 ∧ (va_up B.2 t _ i).2.2.2.2.2 ≤ 2
        by_cases y2 : i = t
        · rw [y2, va_up_self, va_up_self, q_m2_eq, et.2.2.1, wk.1]
          refine ⟨rfl, ?_⟩
          show (if 2 < q_wy B t + q_wy B k then 2 else q_wy B t + q_wy B k) ≤ 2
          split <;> omega
        · rw [va_up_ne _ _ y2, va_up_ne _ _ y2]
          exact ei.2.2
      · rw [if_neg y, if_neg y]
        exact ⟨hE, hz, hN, h3, h4⟩
    | none =>
      have nf := q_fi_none.mp z2
      rw [ck] at nf
      have e := q_ad_new (Q := Q) (w := q_sw (s_n S 1) w a b) (f := k) (pr := a * 10 + b) (fun i hi => by rw [(hE.2 i (by rw [← hE.1]; exact hi)).1]; exact nf i (by rw [← hE.1]; exact hi)) (by rw [hE.1]; exact hz)
      rw [e]
      by_cases z4 : B.1 = 2000
      · rw [q_ld_full z1' z2 z4]
        refine Or.inr ⟨_, _, rfl, by show 2001 ≤ Q.1 + 1; rw [hE.1]; omega, by omega, fun i hi => ?_, fun i h5 h6 => ?_⟩
        · show va_up Q.2.2.1 Q.1 _ i = _ ∧ va_up Q.2.2.2.1 Q.1 _ i = _
          rw [va_up_ne _ _ (by rw [hE.1]; omega), va_up_ne _ _ (by rw [hE.1]; omega)]
          exact ⟨(hE.2 i (by omega)).1.trans (h3 i hi).1, (hE.2 i (by omega)).2.1.trans (h3 i hi).2⟩
        · show va_up Q.2.2.2.1 Q.1 (Q.2.2.2.1 k + 1) i = _
          by_cases y : i = Q.1
          · rw [y, va_up_self, dk]
          · rw [va_up_ne _ _ y]
            have y2 : i < B.1 := by rw [hE.1] at y; omega
            exact (hE.2 i y2).2.1.trans (h4 i h5 y2)
      · rw [q_ld_new z1' z2 z4]
        refine Or.inl ⟨_, rfl, ?_⟩
        rw [ck]
        have old : ∀ i, i < B.1 → (q_ap B (q_sw (s_n S 1) w a b, k, 0, 0, q_lv B k + 1, 0)).2 i = B.2 i := fun i hi => q_ap_old hi
        have new : (q_ap B (q_sw (s_n S 1) w a b, k, 0, 0, q_lv B k + 1, 0)).2 B.1 = (q_sw (s_n S 1) w a b, k, 0, 0, q_lv B k + 1, 0) := q_ap_new
        obtain ⟨A, eA⟩ : ∃ A, A = q_ap B (q_sw (s_n S 1) w a b, k, 0, 0, q_lv B k + 1, 0) := ⟨_, rfl⟩
        have a1 : A.1 = B.1 + 1 := by rw [eA]; rfl
        rw [← eA] at old new ⊢
        have wu : q_wu A k B.1 = (A.1, va_up A.2 B.1 (q_sy (A.2 B.1) (q_wy B k))) := by
          unfold q_wu
          have l1 : q_lv A B.1 = q_lv B k + 1 := congrArg (fun e : q_E => e.2.2.2.2.1) new
          have l2 : q_lv A k = q_lv B k := congrArg (fun e : q_E => e.2.2.2.2.1) (old k (by omega))
          have l3 : q_wy A B.1 = 0 := congrArg (fun e : q_E => e.2.2.2.2.2) new
          have l4 : q_wy A k = q_wy B k := congrArg (fun e : q_E => e.2.2.2.2.2) (old k (by omega))
          rw [l1, l2, if_pos rfl, l3, l4, Nat.zero_add, if_neg (by omega)]
        rw [wu]
        have en : ∀ i, i < B.1 → (va_up A.2 B.1 (q_sy (A.2 B.1) (q_wy B k))) i = B.2 i := fun i hi => (va_up_ne _ _ (by omega)).trans (old i hi)
        have es : (va_up A.2 B.1 (q_sy (A.2 B.1) (q_wy B k))) B.1 = (q_sw (s_n S 1) w a b, k, 0, 0, q_lv B k + 1, q_wy B k) := by
          rw [va_up_self, new]
          rfl
        refine ⟨⟨by show Q.1 + 1 = A.1; rw [hE.1, a1], fun i hi => ?_⟩, by show A.1 ≤ 2000; omega, by show N ≤ A.1; omega, fun i hi => ?_, fun i h5 h6 => ?_⟩
        · have hi : i < A.1 := hi
          show va_up Q.2.2.1 Q.1 (q_sw (s_n S 1) w a b) i = (va_up A.2 B.1 (q_sy (A.2 B.1) (q_wy B k)) i).1 ∧ va_up Q.2.2.2.1 Q.1 (Q.2.2.2.1 k + 1) i = (va_up A.2 B.1 (q_sy (A.2 B.1) (q_wy B k)) i).2.2.2.2.1 ∧ va_up Q.2.2.2.2.2.2 Q.1 (Q.2.2.2.2.2.2 k) i = (va_up A.2 B.1 (q_sy (A.2 B.1) (q_wy B k)) i).2.2.2.2.2 ∧ (va_up A.2 B.1 (q_sy (A.2 B.1) (q_wy B k)) i).2.2.2.2.2 ≤ 2
          by_cases y : i = B.1
          · rw [y, es, ← hE.1, va_up_self, va_up_self, va_up_self, dk, lk]
            exact ⟨rfl, rfl, wk.1, wk.2⟩
          · rw [en i (by omega), va_up_ne _ _ (by rw [hE.1]; exact y), va_up_ne _ _ (by rw [hE.1]; exact y), va_up_ne _ _ (by rw [hE.1]; exact y)]
            exact hE.2 i (by omega)
        · show (va_up A.2 B.1 (q_sy (A.2 B.1) (q_wy B k)) i).1 = c i ∧ (va_up A.2 B.1 (q_sy (A.2 B.1) (q_wy B k)) i).2.2.2.2.1 = l i
          rw [en i (by omega)]
          exact h3 i hi
        · have h6 : i < A.1 := h6
          show (va_up A.2 B.1 (q_sy (A.2 B.1) (q_wy B k)) i).2.2.2.2.1 = L + 1
          by_cases y : i = B.1
          · rw [y, es]
            show q_lv B k + 1 = L + 1
            rw [lk]
          · rw [en i (by omega)]
            exact h4 i h5 (by omega)
theorem q_la_qa {S : qS} {rf : Option qR} {N : Nat} {c l : Nat → Nat} {L k w : Nat} {Q : q_Q} {B : q_B} (hk : k < N) (hw : c k = w) (hl : l k = L) (h : lDn N c l L Q B) : (∃ B', q_la S rf k B = (B', none) ∧ lDn N c l L (q_qa S rf k w Q) B') ∨ ∃ B' r, q_la S rf k B = (B', some r) ∧ xDn N c l L (q_qa S rf k w Q) :=
  q_lp_it (f := q_lb1 S rf k) (F := q_qb S rf k w) (R := lDn N c l L) (X := fun Q _ _ => xDn N c l L Q) (fun a Q B h => q_lp_it (f := q_ld S rf k a) (F := q_qv S rf k w a) (R := lDn N c l L) (X := fun Q _ _ => xDn N c l L Q) (fun b Q B h => q_ld_qv hk hw hl h) (fun b Q B r h => h.pf (q_pf_qv S rf k w a b Q).1) _ _ Q B h) (fun a Q B r h => h.pf (q_pf_it (fun _ _ => q_pf_qv S rf k w a _ _) _ _ _).1) _ _ Q B h
theorem q_lv_grn {S : qS} {rf : Option qR} {N : Nat} {c l : Nat → Nat} {L : Nat} : ∀ (m k : Nat) (Q : q_Q) (B : q_B), m + k = N → (∀ j, k ≤ j → j < N → l j = L) → Q.2.1 = k → lDn N c l L Q B → (∃ B', q_lp (q_la S rf) m k B = (B', none) ∧ lDn N c l L (q_grn S rf m Q) B' ∧ (q_grn S rf m Q).2.1 = N) ∨ ∃ B' r, q_lp (q_la S rf) m k B = (B', some r) ∧ xDn N c l L (q_grn S rf m Q) ∧ (q_grn S rf m Q).2.1 ≤ N
  | 0, k, Q, B, hm, hl, hg, h => Or.inl ⟨B, rfl, h, by show Q.2.1 = N; omega⟩
  | m + 1, k, Q, B, hm, hl, hg, h => by
    have hE := h.1
    have hN := h.2.2.1
    have ok : q_gok Q = true := q_gok_i (by rw [hg, hE.1]; omega) (by rw [hE.1]; exact h.2.1)
    have e1 : q_grn S rf (m + 1) Q = q_grn S rf m (q_qg S rf Q) := by
      show q_grn S rf m (q_gro S rf Q) = _
      rw [q_gro_y ok]
    have eg : q_qg S rf Q = ((q_qa S rf k (Q.2.2.1 k) Q).1, k + 1, (q_qa S rf k (Q.2.2.1 k) Q).2.2) := by
      unfold q_qg
      rw [hg]
    rw [e1, eg]
    rcases q_la_qa (S := S) (rf := rf) (k := k) (w := Q.2.2.1 k) (by omega) ((h.2.2.2.1 k (by omega)).1.symm.trans (hE.2 k (by omega)).1.symm) (hl k (Nat.le_refl _) (by omega)) h with ⟨B', e, h'⟩ | ⟨B', r, e, h'⟩
    · rw [q_lp_n e]
      exact q_lv_grn m (k + 1) _ B' (by omega) (fun j h1 h2 => hl j (by omega) h2) rfl h'
    · rw [q_lp_r e]
      have full : q_gok ((q_qa S rf k (Q.2.2.1 k) Q).1, k + 1, (q_qa S rf k (Q.2.2.1 k) Q).2.2) = false := by
        unfold q_gok
        rw [decide_eq_true (show 2001 ≤ (q_qa S rf k (Q.2.2.1 k) Q).1 from h'.1)]
        exact Bool.and_false _
      rw [q_grn_no full]
      exact Or.inr ⟨B', r, rfl, h', by show k + 1 ≤ N; omega⟩
/-- between two levels -/
def vDn (S : qS) (dp bg : Nat) (Q : q_Q) (B : q_B) : Prop := eWB Q B ∧ B.1 ≤ 2000 ∧ bg ≤ B.1 ∧ Q.2.1 = bg ∧ (∀ i, i < bg → q_lv B i < dp ∧ q_nf S (q_co B i) = true) ∧ ∀ i, bg ≤ i → i < B.1 → q_lv B i = dp
theorem q_fm_0 {S : qS} {B : q_B} : ∀ (m s : Nat) (x : Nat × Nat), (q_fm S B m s x).2 = x.2 → ∀ i, s ≤ i → i < s + m → q_nf S (q_co B i) = true
  | 0, _, _, _, _, h1, h2 => absurd h2 (by omega)
  | m + 1, s, x, h, i, h1, h2 => by
    have ge : ∀ (m s : Nat) (x : Nat × Nat), x.2 ≤ (q_fm S B m s x).2 := by
      intro m
      induction m with
      | zero => intro s x; exact Nat.le_refl _
      | succ m ih =>
        intro s x
        refine Nat.le_trans ?_ (ih (s + 1) _)
        split
        · exact Nat.le_refl _
        · exact Nat.le_succ _
    cases y : q_nf S (q_co B s) with
    | true =>
      have e : q_fm S B (m + 1) s x = q_fm S B m (s + 1) x := by
        show q_fm S B m (s + 1) (if _ then _ else _) = _
        rw [if_pos y]
      rw [e] at h
      by_cases z : i = s
      · rw [z]; exact y
      · exact q_fm_0 m (s + 1) x h i (by omega) (by omega)
    | false =>
      have e : q_fm S B (m + 1) s x = q_fm S B m (s + 1) (if x.2 = 0 then s else x.1, x.2 + 1) := by
        show q_fm S B m (s + 1) (if _ then _ else _) = _
        rw [if_neg (by rw [y]; decide)]
      rw [e] at h
      have k := ge m (s + 1) (if x.2 = 0 then s else x.1, x.2 + 1)
      have k : x.2 + 1 ≤ _ := k
      omega
theorem q_fd_grn {S : qS} {rf : Option qR} {Q0 : q_Q} : ∀ (m dp bg : Nat) (B : q_B), 2001 ≤ m + bg → dp ≤ bg → vDn S dp bg (q_grn S rf bg Q0) B → (∃ dp' bg' B', q_fd S rf m dp bg B = (B', nI dp', q_fm S B' (B'.1 - bg') bg' (0, 0)) ∧ 0 < (q_fm S B' (B'.1 - bg') bg' (0, 0)).2 ∧ dp' ≤ bg' ∧ vDn S dp' bg' (q_grn S rf bg' Q0) B') ∨ ((q_fd S rf m dp bg B).2.1 = -3 ∧ ∃ (N : Nat) (c l : Nat → Nat) (L n : Nat), xDn N c l L (q_grn S rf n Q0) ∧ ((q_grn S rf n Q0).2.1 ≤ N ∧ ∀ i, i < N → l i ≤ L) ∧ ∀ i, i < N → q_nf S (c i) = true) ∨ ((q_fd S rf m dp bg B).2.1 = -2 ∧ ∃ n, q_gok (q_grn S rf n Q0) = false ∧ (q_grn S rf n Q0).1 ≤ 2000 ∧ ∀ i, i < (q_grn S rf n Q0).1 → q_nf S ((q_grn S rf n Q0).2.2.1 i) = true)
  | 0, dp, bg, B, hm, _, h => absurd h.2.2.1 (by have := h.2.1; omega)
  | m + 1, dp, bg, B, hm, hd, h => by
    obtain ⟨hE, hz, hb, hg, h1, h2⟩ := h
    by_cases z : bg < B.1
    · by_cases y : 0 < (q_fm S B (B.1 - bg) bg (0, 0)).2
      · have e : q_fd S rf (m + 1) dp bg B = (B, nI dp, q_fm S B (B.1 - bg) bg (0, 0)) := (if_pos z).trans (if_pos y)
        exact Or.inl ⟨dp, bg, B, e, y, hd, hE, hz, hb, hg, h1, h2⟩
      · have nf := q_fm_0 (S := S) (B := B) (B.1 - bg) bg (0, 0) (by show _ = 0; omega)
        have all : ∀ i, i < B.1 → q_nf S (q_co B i) = true := fun i hi => by
          rcases Nat.lt_or_ge i bg with w | w
          · exact (h1 i w).2
          · exact nf i w (by omega)
        rcases q_lv_grn (S := S) (rf := rf) (N := B.1) (c := q_co B) (l := q_lv B) (L := dp) (B.1 - bg) bg _ B (by omega) h2 hg ⟨hE, hz, Nat.le_refl _, fun i _ => ⟨rfl, rfl⟩, fun i h5 h6 => absurd h6 (by omega)⟩ with ⟨B', e, h', hn⟩ | ⟨B', r, e, h', hx⟩
        · have e2 : q_fd S rf (m + 1) dp bg B = q_fd S rf m (dp + 1) B.1 B' := by
            refine (if_pos z).trans ((if_neg y).trans ?_)
            rw [e]
            exact if_neg (show ¬ (none : Option Int32).isSome = true by decide)
          have e3 : q_grn S rf (B.1 - bg) (q_grn S rf bg Q0) = q_grn S rf B.1 Q0 := by rw [← q_grn_add, Nat.add_sub_cancel' (by omega)]
          rw [e3] at h' hn
          rw [e2]
          obtain ⟨k1, k2, k3, k4, k5⟩ := h'
          refine q_fd_grn m (dp + 1) B.1 B' (by omega) (by omega) ⟨k1, k2, k3, hn, fun i hi => ?_, fun i h5 h6 => k5 i h5 h6⟩
          rw [(k4 i hi).1, (k4 i hi).2]
          refine ⟨?_, all i hi⟩
          rcases Nat.lt_or_ge i bg with w | w
          · have := (h1 i w).1
            omega
          · rw [h2 i w hi]
            omega
        · have e2 : (q_fd S rf (m + 1) dp bg B).2.1 = -3 := by
            have : q_fd S rf (m + 1) dp bg B = ((q_lp (q_la S rf) (B.1 - bg) bg B).1, -3, 0, 0) := by
              refine (if_pos z).trans ((if_neg y).trans ?_)
              rw [e]
              exact if_pos rfl
            rw [this]
          rw [← q_grn_add] at h' hx
          refine Or.inr (Or.inl ⟨e2, B.1, q_co B, q_lv B, dp, _, h', ⟨hx, fun i hi => ?_⟩, all⟩)
          rcases Nat.lt_or_ge i bg with w | w
          · exact Nat.le_of_lt (h1 i w).1
          · rw [h2 i w hi]
            exact Nat.le_refl _
    · have e2 : q_fd S rf (m + 1) dp bg B = (B, -2, 0, 0) := if_neg z
      refine Or.inr (Or.inr ⟨by rw [e2], bg, ?_, by rw [hE.1]; exact hz, fun i hi => ?_⟩)
      · unfold q_gok
        rw [decide_eq_false (show ¬ (q_grn S rf bg Q0).2.1 < (q_grn S rf bg Q0).1 by rw [hg, hE.1]; exact z)]
        rfl
      · rw [(hE.2 i (by rw [← hE.1]; exact hi)).1]
        exact (h1 i (by rw [hE.1] at hi; omega)).2

