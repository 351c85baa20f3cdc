/-! THE CLASS: searches are kept -/
theorem q_bd_it {P : q_Q → Prop} {f : Nat → q_Q → q_Q} (hf : ∀ i Q, P Q → P (f i Q)) : ∀ (m i : Nat) (Q : q_Q), P Q → P (q_itQ f m i Q)
  | 0, _, _, h => h
  | m + 1, i, Q, h => q_bd_it hf m (i + 1) (f i Q) (hf i Q h)
theorem q_grn_bd {S : qS} {rf : Option qR} : ∀ (n : Nat) (Q : q_Q), (∀ i, i < Q.1 → Q.2.2.1 i < 8 ^ s_n S 1) → ∀ i, i < (q_grn S rf n Q).1 → (q_grn S rf n Q).2.2.1 i < 8 ^ s_n S 1
  | 0, _, h => h
  | n + 1, Q, h => q_grn_bd n (q_gro S rf Q) (by
    unfold q_gro
    split
    · exact q_bd_it (P := fun Q => ∀ i, i < Q.1 → Q.2.2.1 i < 8 ^ s_n S 1) (fun a Q h => q_bd_it (P := fun Q => ∀ i, i < Q.1 → Q.2.2.1 i < 8 ^ s_n S 1) (fun b Q h => by
        unfold q_qv
        split
        · exact h
        · split
          · exact q_ad_bd h (q_sw_l8 _ _ _ _)
          · exact h) _ _ Q h) _ _ Q h
    · exact h)
/-- a search that is kept -/
def cSe (σ : qx_S) (S : qS) (rf : Option qR) (e fld w : Nat) : Prop := qx_mr σ 3 fld = none ∨ ∃ b, qx_mr σ 3 fld = some b ∧ (229 ≤ b ∧ b + 7 ≤ σ.1) ∧ shQ σ b ∧ ∃ es, qx_mi σ b 9 = nI es ∧ es ≤ e ∧ (es = e → ∃ n, mQ σ b (q_grn S rf n (q_Q0 w)))
/-- the search that is asked -/
def jA (σ s : qx_S) (b fld : Nat) : Prop := (qx_mr σ 3 fld = some b ∨ (σ.1 ≤ b ∧ qx_mr σ 3 fld = none)) ∧ (∀ j, j ≠ fld → qx_mr s 3 j = qx_mr σ 3 j) ∧ b + 7 ≤ s.1 ∧ 229 ≤ b
def jB (σ : qx_S) (S : qS) (rf : Option qR) (e fld : Nat) (s : qx_S) (b : Nat) (Q : q_Q) : Prop := jA σ s b fld ∧ qx_mr s 3 fld = some b ∧ vQ σ S rf e b s Q
theorem cI.r3 {σ s : qx_S} {S : qS} {rf : Option qR} {e k : Nat} {v : Option Nat} (h : cI σ S rf e) (es : s = qx_wr σ 3 k v) : cI s S rf e := by
  have ri : ∀ a j, qx_mi s a j = qx_mi σ a j := fun _ _ => kw_i es
  have rr : ∀ a j, a ≠ 3 → qx_mr s a j = qx_mr σ a j := fun a j ha => kw_ne es (Or.inl ha)
  have rs : ∀ a, qx_sh qc_T s a = qx_sh qc_T σ a := fun a => kw_s es
  have r1 : s.1 = σ.1 := by rw [es]; rfl
  obtain ⟨a1, a2, a3, a4, a5, a6, a7, a8, a9⟩ := h
  refine ⟨a1, a2.fb a1.1.1 a1.b12 (fun y j _ _ => ri _ _), ?_, (rr _ _ (by decide)).trans a4, ?_, ?_, ⟨(ri _ _).trans a7.1, a7.2.1, (ri _ _).trans a7.2.2.1, fun p a q hp ha hq => ?_⟩, ?_, by omega⟩
  · obtain ⟨b1, b2, b3, b4, b5, b6, b7, b8, b9⟩ := a3
    refine ⟨rfl, b2, b3, rfl, b5, rfl, rfl, fun i hi => ⟨(rr _ _ (by decide)).trans (b8 i hi).1, ?_⟩, fun i hi => ⟨(rr _ _ (by decide)).trans (b9 i hi).1, ?_⟩⟩
    · have w := (b8 i hi).2
      exact ⟨(rs _).trans w.1, (rs _).trans w.2.1, (rs _).trans w.2.2.1, (rs _).trans w.2.2.2.1, (rs _).trans w.2.2.2.2⟩
    · have w := (b9 i hi).2
      exact ⟨(rs _).trans w.1, (rs _).trans w.2⟩
  · cases rf with
    | none => exact (rr _ _ (by decide)).trans a5
    | some R =>
      obtain ⟨x, h1, h2, h3, h4, h5⟩ := a5
      exact ⟨x, (rr _ _ (by decide)).trans h1, ⟨h2.1, by have := h2.2; omega⟩, uR.sh h3 (fun y _ hy => rs _), h4.lo (fun y hy hy2 j => ri _ _), h5⟩
  · rw [show qx_mr s 156 7 = qx_mr σ 156 7 from rr _ _ (by decide)]
    rcases a6 with ⟨a, b⟩ | ⟨g, nr, x, c1, c2, c3, c4, c5, c6⟩
    · exact Or.inl ⟨a, (ri _ _).trans b⟩
    · exact Or.inr ⟨g, nr, x, c1, (ri _ _).trans c2, (ri _ _).trans c3, c4, c5, (rr _ _ (by decide)).trans c6⟩
  · obtain ⟨v, w1, w2⟩ := a7.2.2.2 p a q hp ha hq
    exact ⟨v, (ri _ _).trans w1, w2⟩
  · rcases a8 with t1 | ⟨t, t1⟩
    · exact Or.inl ((rr _ _ (by decide)).trans t1)
    · refine Or.inr ⟨t, (rr _ _ (by decide)).trans t1.1, t1.2.1, by have := t1.2.2.1; omega, (rs _).trans t1.2.2.2.1, fun i j x y hi hj hx hy => ?_⟩
      obtain ⟨v, w1, w2⟩ := t1.2.2.2.2 i j x y hi hj hx hy
      exact ⟨v, (ri _ _).trans w1, w2⟩
/-- a search is made -/
theorem qa_sea_r {σ s1 s2 s3 : qx_S} {c fld : Nat} (h : 229 ≤ σ.1) (hc : σ.1 = c) (hf : fld = 17 ∨ fld = 18) (hn : qx_mr σ 3 fld = none) (e1 : s1 = qx_al σ (46, 0) 10) (q2 : qh c s1 s2) (n2 : s2.1 = c + 7) (m2 : s2.2.1 = σ.2.1 + 14111) (e3 : s3 = qx_wr s2 3 fld (some c)) : ∀ j, j ≠ fld → qx_mr s3 3 j = qx_mr σ 3 j := fun j z => (kw_ne e3 (by omega)).trans ((q2.r (by omega)).trans (ka_r e1 (by omega)))
theorem qa_sea {σ s1 s2 s3 : qx_S} {c fld : Nat} (h : 229 ≤ σ.1) (hc : σ.1 = c) (hf : fld = 17 ∨ fld = 18) (hn : qx_mr σ 3 fld = none) (e1 : s1 = qx_al σ (46, 0) 10) (q2 : qh c s1 s2) (n2 : s2.1 = c + 7) (m2 : s2.2.1 = σ.2.1 + 14111) (e3 : s3 = qx_wr s2 3 fld (some c)) : qg [(c, none)] σ s3 := by
  have rr : ∀ a j, a < c → ¬ (a = 3 ∧ j = fld) → qx_mr s3 a j = qx_mr σ a j := fun a j ha hj => (kw_ne e3 (by omega)).trans ((q2.r ha).trans (ka_r e1 (by omega)))
  have q1 : ∀ a k n, a < c → ¬ (a = 3 ∧ k = fld) → qq s3 a k n = qq σ a k n := fun a k n ha hk => by
    unfold qq
    rw [rr a k ha hk]
  have q3 : ∀ n, qq s3 3 fld n = 0 := fun n => by
    unfold qq
    rw [show qx_mr s3 3 fld = some c from kw_eq e3]
  have q4 : ∀ n, qq σ 3 fld n = n := fun n => by
    unfold qq
    rw [hn]
  have n3 : s3.1 = s2.1 := by rw [e3]; rfl
  have m3 : s3.2.1 = s2.2.1 := by rw [e3]; rfl
  refine ⟨h, by omega, ?_, ?_, fun a ha => by rw [e3]; exact (q2.2.1 a (by omega)).trans (ka_d e1 (by omega)), fun a j ha hp => rr a j (by omega) (fun z => ?_), fun a j t ha ht => (rr a j (by omega) (fun z => ?_)).trans ht, fun a j ha _ _ => ⟨(kw_i e3).trans ((q2.i (by omega)).trans (ka_i e1 (by omega))), (kw_l e3).trans ((q2.l (by omega)).trans (ka_l e1 (by omega)))⟩, fun j => ?_⟩
  · unfold po
    rcases hf with rfl | rfl
    · rw [q3, q4, q1 156 5 _ (by omega) (by omega), q1 3 18 _ (by omega) (by omega)]; omega
    · rw [q3, q4, q1 156 5 _ (by omega) (by omega), q1 3 17 _ (by omega) (by omega)]; omega
  · unfold pcl
    rcases hf with rfl | rfl
    · rw [q3, q4, q1 156 5 _ (by omega) (by omega), q1 3 18 _ (by omega) (by omega)]; omega
    · rw [q3, q4, q1 156 5 _ (by omega) (by omega), q1 3 17 _ (by omega) (by omega)]; omega
  · rw [z.1, z.2] at hp
    rcases hf with rfl | rfl <;> exact absurd hp (by decide)
  · rw [z.1, z.2, hn] at ht
    cases ht
  · by_cases z : j = fld
    · rw [z]
      exact Or.inr ⟨c, kw_eq e3, hn, by omega, by show (Nat.beq c c && true || false) = true; rw [Nat.beq_refl]; rfl⟩
    · exact Or.inl (rr 3 j (by omega) (by omega))
theorem qg.kQ {b : Nat} {σ s : qx_S} (f : ql (kQA b) σ s) (h : 229 ≤ σ.1) : qg (kQL b) σ s := (qg.of f h).mono (fun x j hp => by
    have hp2 : (Nat.beq 157 x && true || (Nat.beq 158 x && true || (Nat.beq 159 x && true || pL (kQA b) x j))) = false := hp
    simp only [Bool.or_eq_false_iff] at hp2
    exact hp2.2.2.2)
theorem l_sfN {G : qx_G} {σ σ1 : qx_S} {S : qS} {rf : Option qR} {e b es : Nat} (f1 : qg [(b, none)] σ σ1) (hj : ∀ j, j ≠ 17 → qx_mr σ1 3 j = qx_mr σ 3 j) (hI : cI σ1 S rf e) (hb : qx_mr σ 3 17 = some b ∨ (σ.1 ≤ b ∧ qx_mr σ 3 17 = none)) (hb1 : qx_mr σ1 3 17 = some b) (hb2 : 229 ≤ b ∧ b + 7 ≤ σ1.1) (hq : shQ σ1 b) (h9 : qx_mi σ1 b 9 = nI es) (he : es ≤ e) (hk : es = e → ∃ n, mQ σ1 b (q_grn S rf n (q_Q0 (q_en (s_at S) (s_n S 1))))) : qx_K G qc_T 3 RX11 YX11_searchFromNow 22 [.ref 3] [] σ1 (fun r s => ∃ b n, r = some (.ref b) ∧ jB σ S rf e 17 s b (q_grn S rf n (q_Q0 (q_en (s_at S) (s_n S 1))))) := by
  have h8 := hI.K.1
  have hel := hI.K.2.1
  have hpe := hI.1.pe
  have h5 : qx_mi σ1 16 5 = nI (s_n S 1) := hI.2.1.1.2.1.trans hI.1.1.2.1.2.1.1
  have hf : ∀ p, p < s_n S 1 → qx_mi σ1 22 p = nI ((s_at S) p) ∧ (s_at S) p < 8 := fun p hp => ⟨hI.at hp, hI.at8 hp⟩
  have hw : q_en (s_at S) (s_n S 1) < 8 ^ s_n S 1 := q_hr_lt _ _ (fun i hi => (hf i hi).2)
  have b0 : ∀ i, i < (q_Q0 (q_en (s_at S) (s_n S 1))).1 → (q_Q0 (q_en (s_at S) (s_n S 1))).2.2.1 i < 8 ^ s_n S 1 := fun _ _ => hw
  have fl : ∀ s, qg (kQL b) σ1 s → qg (kQL b) σ s := fun s f => (f1.mono (fun x j hp => by
    have hp2 : (Nat.beq 157 x && true || (Nat.beq 158 x && true || (Nat.beq 159 x && true || (Nat.beq b x && true || pL [(b + 1, none), (b + 2, none), (b + 3, none), (b + 4, none), (b + 5, none), (b + 6, none)] x j)))) = false := hp
    simp only [Bool.or_eq_false_iff] at hp2
    show (Nat.beq b x && true || false) = false
    rw [hp2.2.2.2.1]
    rfl)).tr f
  refine qy_wp_ok (c := CX11_searchFromNow) (cuts := []) vX11_searchFromNow wX11_searchFromNow 2000 22 _ _ _ ?_
  refine And.intro rfl (Exists.intro 17 (Exists.intro (some b) (And.intro rfl (And.intro hb1 ?_))))
  refine And.intro (by rw [show qx_sh qc_T _ b = _ from hq.1]; rfl) (Exists.intro 9 (Exists.intro (nI es) (And.intro rfl (And.intro h9 ?_))))
  refine And.intro rfl (Exists.intro 156 (And.intro rfl ?_))
  refine And.intro rfl (Exists.intro 8 (Exists.intro (nI e) (And.intro rfl (And.intro h8 ?_))))
  refine And.intro (fun h36 => ?_) (fun h36 => ?_)
  · skip
    have h36 := nI_eqT (a := es) (b := e) (by omega) (by omega) h36
    refine And.intro rfl (Exists.intro 17 (Exists.intro (some b) (And.intro rfl (And.intro hb1 ?_))))
    obtain ⟨n, m⟩ := hk h36
    exact ⟨b, n, rfl, ⟨hb, hj, hb2.2, hb2.1⟩, hb1, m, hI, fl _ (qg.rf hI.2.2.2.2.2.2.2.2), h9.trans (congrArg nI h36), q_grn_bd n _ b0⟩
  · skip
    have h36 := nI_neT (a := es) (b := e) (by omega) (by omega) h36
    refine And.intro rfl (Exists.intro 17 (Exists.intro (some b) (And.intro rfl (And.intro hb1 ?_))))
    refine And.intro rfl (Exists.intro 15 (And.intro rfl ?_))
    refine And.intro rfl (Exists.intro 21 (And.intro rfl ?_))
    refine And.intro rfl (Exists.intro 22 (And.intro rfl ?_))
    refine And.intro ((congrArg Prod.fst (hq.1)).trans rfl) (Exists.intro _ (And.intro (by decide) (qx_M_mono (c_begin hq hb2.1 hb2.2 h5 h8 hpe ⟨10, rfl, by decide, by decide⟩ hf) ?_)))
    rintro _ ρ ⟨rfl, fρ, mρ, hρ⟩
    refine And.intro rfl (Exists.intro 17 (Exists.intro (some b) (And.intro rfl (And.intro ((fρ.r 3 17).trans hb1) ?_))))
    exact ⟨b, 0, rfl, ⟨hb, fun j z => (fρ.r 3 j).trans (hj j z), by rw [fρ.1]; exact hb2.2, hb2.1⟩, (fρ.r 3 17).trans hb1, mρ, hI.qq hq hb2.1 fρ, fl _ (qg.kQ fρ hI.2.2.2.2.2.2.2.2), hρ, b0⟩
theorem c_sfN {G : qx_G} {σ : qx_S} {S : qS} {rf : Option qR} {e : Nat} (hI : cI σ S rf e) (hs : cSe σ S rf e 17 (q_en (s_at S) (s_n S 1))) : qx_M G qc_T 3 YX11_searchFromNow [.ref 3] σ (fun r s => ∃ b n, r = some (.ref b) ∧ jB σ S rf e 17 s b (q_grn S rf n (q_Q0 (q_en (s_at S) (s_n S 1))))) := by
  have h229 := hI.2.2.2.2.2.2.2.2
  rcases hs with hn | ⟨b, h1, h2, hq, es, h9, he, hk⟩
  · obtain ⟨c, hc⟩ : ∃ c, σ.1 = c := ⟨_, rfl⟩
    have nσ : σ.1 = c := hc
    have mσ : σ.2.1 = σ.2.1 + 0 := rfl
    have qσ : qh c σ σ := qh.rf
    have zσ : kz c [] σ := fun a j h1 h2 _ => absurd h2 (by omega)
    have hTc : ∀ a, c ≤ a → qc_T a = none := fun a ha => qc_hi (by omega)
    refine qx_M_in rfl (Nat.le_of_ble_eq_true rfl) ?_
    refine qy_wp_ok (c := CX11_searchFromNow) (cuts := [22]) vX11_searchFromNow wX11_searchFromNow 2000 0 _ _ _ ?_
    refine And.intro rfl (Exists.intro 17 (Exists.intro none (And.intro rfl (And.intro hn ?_))))
    obtain ⟨σ1, eσ1⟩ : ∃ zs, zs = qx_al σ (46, 0) 10 := ⟨_, rfl⟩
    refine Exists.intro c (Exists.intro σ1 (And.intro nσ (And.intro eσ1.symm ?_)))
    have nσ1 : σ1.1 = c + 1 := by have := ka_1 eσ1; omega
    have mσ1 : σ1.2.1 = σ.2.1 + 10 := by have := ka_2 eσ1; omega
    have qσ1 := qσ.al eσ1 (by omega)
    have zσ1 := zσ.al eσ1
    have yσ1 : qx_sh qc_T σ1 c = (46, 0) := ka_n eσ1 nσ (hTc _ (by omega))
    refine And.intro rfl (Exists.intro 156 (And.intro rfl ?_))
    refine Exists.intro _ (And.intro (by decide) (qx_M_mono (c_i6 (by omega) hTc nσ1 (show qx_sh qc_T σ1 c = (46, 0) from yσ1) (fun j => (show qx_mi σ1 c j = nI 0 from ka_0 eσ1 nσ))) ?_))
    rintro _ σ2 ⟨rfl, hσ2, nσ2, mσ2, kσ2, sσ2⟩
    have nσ2 : σ2.1 = c + 7 := by omega
    have mσ2 : σ2.2.1 = σ.2.1 + 14111 := by omega
    have qσ2 := qσ1.tr (hσ2.mn (by omega))
    have zσ2 := zσ1.ca hσ2 (by omega) kσ2 (fun _ _ _ _ => rfl)
    obtain ⟨σ3, eσ3⟩ : ∃ zs, zs = (qx_wr σ2 3 17 (some c)) := ⟨_, rfl⟩
    refine And.intro rfl (Exists.intro 17 (Exists.intro σ3 (And.intro rfl (And.intro eσ3.symm ?_))))
    have nσ3 : σ3.1 = c + 7 := (by rw [eσ3]; exact nσ2)
    have mσ3 : σ3.2.1 = σ.2.1 + 14111 := (by rw [eσ3]; exact mσ2)
    have zσ3 := zσ2.wr eσ3
    have f1 := qa_sea h229 hc (Or.inl rfl) hn eσ1 hσ2 (by omega) (by omega) eσ3
    have hI2 : cI σ2 S rf e := hI.ge (by have k := qσ2; rw [← hc] at k; exact k)
    have hI3 := hI2.r3 eσ3
    have hq3 : shQ σ3 c := ⟨(kw_s eσ3).trans sσ2.1, fun i i1 i2 => (kw_s eσ3).trans (by
      rcases (show i = 1 ∨ i = 2 ∨ i = 3 ∨ i = 4 ∨ i = 5 by omega) with rfl | rfl | rfl | rfl | rfl
      · exact sσ2.2.1
      · exact sσ2.2.2.1
      · exact sσ2.2.2.2.1
      · exact sσ2.2.2.2.2.1
      · exact sσ2.2.2.2.2.2.1), (kw_s eσ3).trans sσ2.2.2.2.2.2.2⟩
    exact l_sfN f1 (qa_sea_r h229 hc (Or.inl rfl) hn eσ1 hσ2 (by omega) (by omega) eσ3) hI3 (Or.inr ⟨by omega, hn⟩) (kw_eq eσ3) ⟨by omega, by omega⟩ hq3 ((kw_i eσ3).trans (kσ2 c 9 (Nat.le_refl _) (by omega) rfl)) (Nat.zero_le _) (fun z => absurd z (by have := hI3.K.2.1; omega))
  · skip
    refine qx_M_in rfl (Nat.le_of_ble_eq_true rfl) ?_
    refine qy_wp_ok (c := CX11_searchFromNow) (cuts := [22]) vX11_searchFromNow wX11_searchFromNow 2000 0 _ _ _ ?_
    refine And.intro rfl (Exists.intro 17 (Exists.intro (some b) (And.intro rfl (And.intro h1 ?_))))
    exact l_sfN (qg.rf h229) (fun _ _ => rfl) hI (Or.inl h1) h1 h2 hq h9 he hk
theorem l_sfH {G : qx_G} {σ σ1 : qx_S} {S : qS} {rf : Option qR} {e b es : Nat} (f1 : qg [(b, none)] σ σ1) (hj : ∀ j, j ≠ 18 → qx_mr σ1 3 j = qx_mr σ 3 j) (hI : cI σ1 S rf e) (hb : qx_mr σ 3 18 = some b ∨ (σ.1 ≤ b ∧ qx_mr σ 3 18 = none)) (hb1 : qx_mr σ1 3 18 = some b) (hb2 : 229 ≤ b ∧ b + 7 ≤ σ1.1) (hq : shQ σ1 b) (h9 : qx_mi σ1 b 9 = nI es) (he : es ≤ e) (hk : es = e → ∃ n, mQ σ1 b (q_grn S rf n (q_Q0 (q_en (fun p => s_n S (10 + 5 * p + 2)) (s_n S 1))))) (hh : gH S) : qx_K G qc_T 3 RX11 YX11_searchFromHome 22 [.ref 3] [] σ1 (fun r s => ∃ b n, r = some (.ref b) ∧ jB σ S rf e 18 s b (q_grn S rf n (q_Q0 (q_en (fun p => s_n S (10 + 5 * p + 2)) (s_n S 1))))) := by
  have h8 := hI.K.1
  have hel := hI.K.2.1
  have hpe := hI.1.pe
  have h5 : qx_mi σ1 16 5 = nI (s_n S 1) := hI.2.1.1.2.1.trans hI.1.1.2.1.2.1.1
  have hf : ∀ p, p < s_n S 1 → qx_mi σ1 18 p = nI ((fun p => s_n S (10 + 5 * p + 2)) p) ∧ (fun p => s_n S (10 + 5 * p + 2)) p < 8 := fun p hp => ⟨(hI.2.1.1.2.2.2.1 p hp).2.trans (hh p hp).1, Nat.lt_of_lt_of_le (hh p hp).2 hI.1.pl⟩
  have hw : q_en (fun p => s_n S (10 + 5 * p + 2)) (s_n S 1) < 8 ^ s_n S 1 := q_hr_lt _ _ (fun i hi => (hf i hi).2)
  have b0 : ∀ i, i < (q_Q0 (q_en (fun p => s_n S (10 + 5 * p + 2)) (s_n S 1))).1 → (q_Q0 (q_en (fun p => s_n S (10 + 5 * p + 2)) (s_n S 1))).2.2.1 i < 8 ^ s_n S 1 := fun _ _ => hw
  have fl : ∀ s, qg (kQL b) σ1 s → qg (kQL b) σ s := fun s f => (f1.mono (fun x j hp => by
    have hp2 : (Nat.beq 157 x && true || (Nat.beq 158 x && true || (Nat.beq 159 x && true || (Nat.beq b x && true || pL [(b + 1, none), (b + 2, none), (b + 3, none), (b + 4, none), (b + 5, none), (b + 6, none)] x j)))) = false := hp
    simp only [Bool.or_eq_false_iff] at hp2
    show (Nat.beq b x && true || false) = false
    rw [hp2.2.2.2.1]
    rfl)).tr f
  refine qy_wp_ok (c := CX11_searchFromHome) (cuts := []) vX11_searchFromHome wX11_searchFromHome 2000 22 _ _ _ ?_
  refine And.intro rfl (Exists.intro 18 (Exists.intro (some b) (And.intro rfl (And.intro hb1 ?_))))
  refine And.intro (by rw [show qx_sh qc_T _ b = _ from hq.1]; rfl) (Exists.intro 9 (Exists.intro (nI es) (And.intro rfl (And.intro h9 ?_))))
  refine And.intro rfl (Exists.intro 156 (And.intro rfl ?_))
  refine And.intro rfl (Exists.intro 8 (Exists.intro (nI e) (And.intro rfl (And.intro h8 ?_))))
  refine And.intro (fun h36 => ?_) (fun h36 => ?_)
  · skip
    have h36 := nI_eqT (a := es) (b := e) (by omega) (by omega) h36
    refine And.intro rfl (Exists.intro 18 (Exists.intro (some b) (And.intro rfl (And.intro hb1 ?_))))
    obtain ⟨n, m⟩ := hk h36
    exact ⟨b, n, rfl, ⟨hb, hj, hb2.2, hb2.1⟩, hb1, m, hI, fl _ (qg.rf hI.2.2.2.2.2.2.2.2), h9.trans (congrArg nI h36), q_grn_bd n _ b0⟩
  · skip
    have h36 := nI_neT (a := es) (b := e) (by omega) (by omega) h36
    refine And.intro rfl (Exists.intro 18 (Exists.intro (some b) (And.intro rfl (And.intro hb1 ?_))))
    refine And.intro rfl (Exists.intro 15 (And.intro rfl ?_))
    refine And.intro rfl (Exists.intro 16 (And.intro rfl ?_))
    refine And.intro rfl (Exists.intro 18 (And.intro rfl ?_))
    refine And.intro ((congrArg Prod.fst (hq.1)).trans rfl) (Exists.intro _ (And.intro (by decide) (qx_M_mono (c_begin hq hb2.1 hb2.2 h5 h8 hpe ⟨10, rfl, by decide, by decide⟩ hf) ?_)))
    rintro _ ρ ⟨rfl, fρ, mρ, hρ⟩
    refine And.intro rfl (Exists.intro 18 (Exists.intro (some b) (And.intro rfl (And.intro ((fρ.r 3 18).trans hb1) ?_))))
    exact ⟨b, 0, rfl, ⟨hb, fun j z => (fρ.r 3 j).trans (hj j z), by rw [fρ.1]; exact hb2.2, hb2.1⟩, (fρ.r 3 18).trans hb1, mρ, hI.qq hq hb2.1 fρ, fl _ (qg.kQ fρ hI.2.2.2.2.2.2.2.2), hρ, b0⟩
theorem c_sfH {G : qx_G} {σ : qx_S} {S : qS} {rf : Option qR} {e : Nat} (hI : cI σ S rf e) (hs : cSe σ S rf e 18 (q_en (fun p => s_n S (10 + 5 * p + 2)) (s_n S 1))) (hh : gH S) : qx_M G qc_T 3 YX11_searchFromHome [.ref 3] σ (fun r s => ∃ b n, r = some (.ref b) ∧ jB σ S rf e 18 s b (q_grn S rf n (q_Q0 (q_en (fun p => s_n S (10 + 5 * p + 2)) (s_n S 1))))) := by
  have h229 := hI.2.2.2.2.2.2.2.2
  rcases hs with hn | ⟨b, h1, h2, hq, es, h9, he, hk⟩
  · obtain ⟨c, hc⟩ : ∃ c, σ.1 = c := ⟨_, rfl⟩
    have nσ : σ.1 = c := hc
    have mσ : σ.2.1 = σ.2.1 + 0 := rfl
    have qσ : qh c σ σ := qh.rf
    have zσ : kz c [] σ := fun a j h1 h2 _ => absurd h2 (by omega)
    have hTc : ∀ a, c ≤ a → qc_T a = none := fun a ha => qc_hi (by omega)
    refine qx_M_in rfl (Nat.le_of_ble_eq_true rfl) ?_
    refine qy_wp_ok (c := CX11_searchFromHome) (cuts := [22]) vX11_searchFromHome wX11_searchFromHome 2000 0 _ _ _ ?_
    refine And.intro rfl (Exists.intro 18 (Exists.intro none (And.intro rfl (And.intro hn ?_))))
    obtain ⟨σ1, eσ1⟩ : ∃ zs, zs = qx_al σ (46, 0) 10 := ⟨_, rfl⟩
    refine Exists.intro c (Exists.intro σ1 (And.intro nσ (And.intro eσ1.symm ?_)))
    have nσ1 : σ1.1 = c + 1 := by have := ka_1 eσ1; omega
    have mσ1 : σ1.2.1 = σ.2.1 + 10 := by have := ka_2 eσ1; omega
    have qσ1 := qσ.al eσ1 (by omega)
    have zσ1 := zσ.al eσ1
    have yσ1 : qx_sh qc_T σ1 c = (46, 0) := ka_n eσ1 nσ (hTc _ (by omega))
    refine And.intro rfl (Exists.intro 156 (And.intro rfl ?_))
    refine Exists.intro _ (And.intro (by decide) (qx_M_mono (c_i6 (by omega) hTc nσ1 (show qx_sh qc_T σ1 c = (46, 0) from yσ1) (fun j => (show qx_mi σ1 c j = nI 0 from ka_0 eσ1 nσ))) ?_))
    rintro _ σ2 ⟨rfl, hσ2, nσ2, mσ2, kσ2, sσ2⟩
    have nσ2 : σ2.1 = c + 7 := by omega
    have mσ2 : σ2.2.1 = σ.2.1 + 14111 := by omega
    have qσ2 := qσ1.tr (hσ2.mn (by omega))
    have zσ2 := zσ1.ca hσ2 (by omega) kσ2 (fun _ _ _ _ => rfl)
    obtain ⟨σ3, eσ3⟩ : ∃ zs, zs = (qx_wr σ2 3 18 (some c)) := ⟨_, rfl⟩
    refine And.intro rfl (Exists.intro 18 (Exists.intro σ3 (And.intro rfl (And.intro eσ3.symm ?_))))
    have nσ3 : σ3.1 = c + 7 := (by rw [eσ3]; exact nσ2)
    have mσ3 : σ3.2.1 = σ.2.1 + 14111 := (by rw [eσ3]; exact mσ2)
    have zσ3 := zσ2.wr eσ3
    have f1 := qa_sea h229 hc (Or.inr rfl) hn eσ1 hσ2 (by omega) (by omega) eσ3
    have hI2 : cI σ2 S rf e := hI.ge (by have k := qσ2; rw [← hc] at k; exact k)
    have hI3 := hI2.r3 eσ3
    have hq3 : shQ σ3 c := ⟨(kw_s eσ3).trans sσ2.1, fun i i1 i2 => (kw_s eσ3).trans (by
      rcases (show i = 1 ∨ i = 2 ∨ i = 3 ∨ i = 4 ∨ i = 5 by omega) with rfl | rfl | rfl | rfl | rfl
      · exact sσ2.2.1
      · exact sσ2.2.2.1
      · exact sσ2.2.2.2.1
      · exact sσ2.2.2.2.2.1
      · exact sσ2.2.2.2.2.2.1), (kw_s eσ3).trans sσ2.2.2.2.2.2.2⟩
    exact l_sfH f1 (qa_sea_r h229 hc (Or.inr rfl) hn eσ1 hσ2 (by omega) (by omega) eσ3) hI3 (Or.inr ⟨by omega, hn⟩) (kw_eq eσ3) ⟨by omega, by omega⟩ hq3 ((kw_i eσ3).trans (kσ2 c 9 (Nat.le_refl _) (by omega) rfl)) (Nat.zero_le _) (fun z => absurd z (by have := hI3.K.2.1; omega)) hh
  · skip
    refine qx_M_in rfl (Nat.le_of_ble_eq_true rfl) ?_
    refine qy_wp_ok (c := CX11_searchFromHome) (cuts := [22]) vX11_searchFromHome wX11_searchFromHome 2000 0 _ _ _ ?_
    refine And.intro rfl (Exists.intro 18 (Exists.intro (some b) (And.intro rfl (And.intro h1 ?_))))
    exact l_sfH (qg.rf h229) (fun _ _ => rfl) hI (Or.inl h1) h1 h2 hq h9 he hk hh

