/-! THE CLASS: one SITUATION more -/
/-- size, grown, situation, depth, cameFrom, cameBy, ways -/
abbrev q_Q : Type := Nat × Nat × (Nat → Nat) × (Nat → Nat) × (Nat → Nat) × (Nat → Nat) × (Nat → Nat)
def q_ix (Q : q_Q) (w : Nat) : Nat := q_fst (fun i => decide (Q.2.2.1 i = w)) Q.1 Q.1 0
def q_m2 (s : Nat) : Nat := if s < 2 then s else 2
def q_ad (Q : q_Q) (w f pr : Nat) : q_Q := if q_ix Q w < Q.1 then (if Q.2.2.2.1 (q_ix Q w) = Q.2.2.2.1 f + 1 then (Q.1, Q.2.1, Q.2.2.1, Q.2.2.2.1, Q.2.2.2.2.1, Q.2.2.2.2.2.1, va_up Q.2.2.2.2.2.2 (q_ix Q w) (q_m2 (Q.2.2.2.2.2.2 (q_ix Q w) + Q.2.2.2.2.2.2 f))) else Q) else if 2001 ≤ Q.1 then Q else (Q.1 + 1, Q.2.1, va_up Q.2.2.1 Q.1 w, va_up Q.2.2.2.1 Q.1 (Q.2.2.2.1 f + 1), va_up Q.2.2.2.2.1 Q.1 f, va_up Q.2.2.2.2.2.1 Q.1 pr, va_up Q.2.2.2.2.2.2 Q.1 (Q.2.2.2.2.2.2 f))
def mQc (σ : qx_S) (b : Nat) (Q : q_Q) : Prop := ∀ i, i < Q.1 → (qx_mi σ (b + 1) i = nI (Q.2.2.1 i) ∧ Q.2.2.1 i < 1073741824) ∧ (qx_mi σ (b + 2) i = nI (Q.2.2.2.1 i) ∧ Q.2.2.2.1 i ≤ i) ∧ qx_mi σ (b + 3) i = nI (Q.2.2.2.2.1 i) ∧ qx_mi σ (b + 4) i = nI (Q.2.2.2.2.2.1 i) ∧ (qx_mi σ (b + 5) i = nI (Q.2.2.2.2.2.2 i) ∧ Q.2.2.2.2.2.2 i ≤ 2)
def mQ (σ : qx_S) (b : Nat) (Q : q_Q) : Prop := shQ σ b ∧ (229 ≤ b ∧ b + 7 ≤ σ.1) ∧ qx_mi σ b 7 = nI Q.1 ∧ qx_mi σ b 8 = nI Q.2.1 ∧ Q.1 ≤ 2001 ∧ Q.2.1 ≤ Q.1 ∧ mQc σ b Q ∧ ∃ sl, hI q_h2 Q.2.2.1 Q.1 sl ∧ ∀ j, j < 4096 → qx_mi σ (b + 6) j = nI (sl j)
abbrev kQ (b : Nat) : List (Nat × Option Nat) := [(b, some 7), (b + 1, none), (b + 2, none), (b + 3, none), (b + 4, none), (b + 5, none), (b + 6, none)]
theorem q_ix_none {Q : q_Q} {w : Nat} (h : ∀ i, i < Q.1 → Q.2.2.1 i ≠ w) : q_ix Q w = Q.1 := by
  rcases q_fst_in (fun i => decide (Q.2.2.1 i = w)) Q.1 Q.1 0 with z | ⟨_, z1, z2⟩
  · exact z
  · exact absurd (of_decide_eq_true z2) (h _ (by omega))
theorem q_ix_some {Q : q_Q} {w i : Nat} {sl : Nat → Nat} (H : hI q_h2 Q.2.2.1 Q.1 sl) (hi : i < Q.1) (hw : Q.2.2.1 i = w) : q_ix Q w = i := by
  refine q_fst_eq Q.1 0 (Nat.zero_le _) (by omega) (decide_eq_true hw) (fun t _ ht => decide_eq_false (fun z => ?_))
  have := H.2.2.2 t i (by omega) hi (by rw [z, hw])
  omega
theorem c_full {G : qx_G} {σ : qx_S} {b size : Nat} (hs : qx_sh qc_T σ b = (14, 0)) (hsz : qx_mi σ b 7 = nI size) (hz : size ≤ 2001) : qx_M G qc_T 0 YX6_full [.ref b] σ (qr (bI (decide (2001 ≤ size))) σ) := by
  refine qx_M_in rfl (Nat.le_of_ble_eq_true rfl) ?_
  refine qy_wp_ok (c := CX6_full) (cuts := []) vX6_full wX6_full 2000 0 _ _ _ ?_
  refine And.intro (by rw [show qx_sh qc_T _ b = _ from hs]; rfl) (Exists.intro 7 (Exists.intro (nI size) (And.intro rfl (And.intro hsz ?_))))
  refine Exists.intro (nI 2001) (And.intro rfl ?_)
  refine And.intro (fun h7 => ?_) (fun h7 => ?_)
  · skip
    have h7 := nI_ltT (a := size) (b := 2001) (by omega) (by decide) h7
    refine Exists.intro (nI 0) (And.intro rfl ?_)
    refine And.intro (Or.inl rfl) ?_
    first | exact ⟨by rw [decide_eq_false (show ¬ 2001 ≤ size by omega)]; rfl, rfl⟩ | exact ⟨by rw [decide_eq_true (show 2001 ≤ size by omega)]; rfl, rfl⟩
  · skip
    have h7 := nI_ltF (a := size) (b := 2001) (by omega) (by decide) h7
    refine Exists.intro (nI 1) (And.intro rfl ?_)
    refine And.intro (Or.inr rfl) ?_
    first | exact ⟨by rw [decide_eq_false (show ¬ 2001 ≤ size by omega)]; rfl, rfl⟩ | exact ⟨by rw [decide_eq_true (show 2001 ≤ size by omega)]; rfl, rfl⟩
theorem c_qadd {G : qx_G} {σ : qx_S} {b w f pr : Nat} {Q : q_Q} (hm : mQ σ b Q) (hw : w < 1073741824) (hf : f < Q.1) (hpr : pr < 1000) : qx_M G qc_T 1 YX6_add [.ref b, .int (nI w), .int (nI f), .int (nI pr)] σ (fun r s => r = none ∧ ql (kQ b) σ s ∧ mQ s b (q_ad Q w f pr)) := by
  obtain ⟨hq, ⟨hb, hb2⟩, h7, h8, hz, hg, hc, sl, H, hsl⟩ := hm
  obtain ⟨sz, gr, sit, dep, frm, by', wy⟩ := Q
  dsimp only at h7 h8 hz hg H hf
  have hc : mQc σ b (sz, gr, sit, dep, frm, by', wy) := hc
  obtain ⟨j, ⟨hj, hE⟩, cs⟩ := c_slotOf (G := G) (n := w) hb hq hz H hsl (fun i hi => (hc i hi).1) hw
  have hl := H.1 j hj
  have cf := hc f hf
  have cf1 : qx_mi σ (b + 2) f = nI (dep f) := cf.2.1.1
  have cf2 : dep f ≤ f := cf.2.1.2
  have cf3 : qx_mi σ (b + 5) f = nI (wy f) := cf.2.2.2.2.1
  have cf4 : wy f ≤ 2 := cf.2.2.2.2.2
  have sh : ∀ i, 1 ≤ i → i ≤ 5 → qx_sh qc_T σ (b + i) = (0, 2001) := hq.2.1
  rcases Nat.eq_zero_or_pos (sl j) with h0 | h0
  · have ix : q_ix (sz, gr, sit, dep, frm, by', wy) w = sz := q_ix_none (hE.none H h0)
    rcases Nat.lt_or_ge sz 2001 with hlt | hge
    · have ead : q_ad (sz, gr, sit, dep, frm, by', wy) w f pr = (sz + 1, gr, va_up sit sz w, va_up dep sz (dep f + 1), va_up frm sz f, va_up by' sz pr, va_up wy sz (wy f)) := by
        unfold q_ad
        rw [ix]
        dsimp only
        rw [if_neg (Nat.lt_irrefl _), if_neg (by omega)]
      rw [ead]
      have fin : ∀ s1 s2 s3 s4 s5 s6 s, s1 = qx_wi σ (b + 1) sz (nI w) → s2 = qx_wi s1 (b + 2) sz (nI (dep f + 1)) → s3 = qx_wi s2 (b + 3) sz (nI f) → s4 = qx_wi s3 (b + 4) sz (nI pr) → s5 = qx_wi s4 (b + 5) sz (nI (wy f)) → s6 = qx_wi s5 b 7 (nI (sz + 1)) → s = qx_wi s6 (b + 6) j (nI (sz + 1)) → ql (kQ b) σ s ∧ mQ s b (sz + 1, gr, va_up sit sz w, va_up dep sz (dep f + 1), va_up frm sz f, va_up by' sz pr, va_up wy sz (wy f)) := by
        intro s1 s2 s3 s4 s5 s6 s e1 e2 e3 e4 e5 e6 e7
        have fr : ql (kQ b) σ s := (qf.cv (qn_wi e1) (by simp)).tr ((qf.cv (qn_wi e2) (by simp)).tr ((qf.cv (qn_wi e3) (by simp)).tr ((qf.cv (qn_wi e4) (by simp)).tr ((qf.cv (qn_wi e5) (by simp)).tr ((cv1 (qn_wif e6) (List.mem_cons_self ..)).tr (qf.cv (qn_wi e7) (by simp)))))))
        have m : ∀ y k, (y ≠ b + 1 ∨ k ≠ sz) → (y ≠ b + 2 ∨ k ≠ sz) → (y ≠ b + 3 ∨ k ≠ sz) → (y ≠ b + 4 ∨ k ≠ sz) → (y ≠ b + 5 ∨ k ≠ sz) → (y ≠ b ∨ k ≠ 7) → (y ≠ b + 6 ∨ k ≠ j) → qx_mi s y k = qx_mi σ y k := fun y k a1 a2 a3 a4 a5 a6 a7 => (qn_ne e7 a7).trans ((qn_ne e6 a6).trans ((qn_ne e5 a5).trans ((qn_ne e4 a4).trans ((qn_ne e3 a3).trans ((qn_ne e2 a2).trans (qn_ne e1 a1))))))
        have n1 : qx_mi s (b + 1) sz = nI w := (qn_ne e7 (by omega)).trans ((qn_ne e6 (by omega)).trans ((qn_ne e5 (by omega)).trans ((qn_ne e4 (by omega)).trans ((qn_ne e3 (by omega)).trans ((qn_ne e2 (by omega)).trans (qn_eq e1))))))
        have n2 : qx_mi s (b + 2) sz = nI (dep f + 1) := (qn_ne e7 (by omega)).trans ((qn_ne e6 (by omega)).trans ((qn_ne e5 (by omega)).trans ((qn_ne e4 (by omega)).trans ((qn_ne e3 (by omega)).trans (qn_eq e2)))))
        have n3 : qx_mi s (b + 3) sz = nI f := (qn_ne e7 (by omega)).trans ((qn_ne e6 (by omega)).trans ((qn_ne e5 (by omega)).trans ((qn_ne e4 (by omega)).trans (qn_eq e3))))
        have n4 : qx_mi s (b + 4) sz = nI pr := (qn_ne e7 (by omega)).trans ((qn_ne e6 (by omega)).trans ((qn_ne e5 (by omega)).trans (qn_eq e4)))
        have n5 : qx_mi s (b + 5) sz = nI (wy f) := (qn_ne e7 (by omega)).trans ((qn_ne e6 (by omega)).trans (qn_eq e5))
        refine ⟨fr, hq.fr fr, ⟨hb, by rw [fr.1]; exact hb2⟩, (qn_ne e7 (by omega)).trans (qn_eq e6), (m _ _ (by omega) (by omega) (by omega) (by omega) (by omega) (by omega) (by omega)).trans h8, by dsimp only; omega, by dsimp only; omega, fun i hi => ?_, va_up sl j (sz + 1), H.add hE h0, fun k hk => ?_⟩
        · dsimp only at hi ⊢
          by_cases z : i = sz
          · rw [z, va_up_self, va_up_self, va_up_self, va_up_self, va_up_self]
            exact ⟨⟨n1, hw⟩, ⟨n2, by omega⟩, n3, n4, n5, cf4⟩
          · rw [va_up_ne _ _ z, va_up_ne _ _ z, va_up_ne _ _ z, va_up_ne _ _ z, va_up_ne _ _ z]
            have c := hc i (show i < sz by omega)
            exact ⟨⟨(m _ _ (by omega) (by omega) (by omega) (by omega) (by omega) (by omega) (by omega)).trans c.1.1, c.1.2⟩, ⟨(m _ _ (by omega) (by omega) (by omega) (by omega) (by omega) (by omega) (by omega)).trans c.2.1.1, c.2.1.2⟩, (m _ _ (by omega) (by omega) (by omega) (by omega) (by omega) (by omega) (by omega)).trans c.2.2.1, (m _ _ (by omega) (by omega) (by omega) (by omega) (by omega) (by omega) (by omega)).trans c.2.2.2.1, (m _ _ (by omega) (by omega) (by omega) (by omega) (by omega) (by omega) (by omega)).trans c.2.2.2.2.1, c.2.2.2.2.2⟩
        · by_cases z : k = j
          · rw [z, va_up_self]; exact qn_eq e7
          · rw [va_up_ne _ _ z]
            exact (m _ _ (by omega) (by omega) (by omega) (by omega) (by omega) (by omega) (by omega)).trans (hsl k hk)
      refine qx_M_in rfl (Nat.le_of_ble_eq_true rfl) ?_
      refine qy_wp_ok (c := CX6_add) (cuts := []) vX6_add wX6_add 2000 0 _ _ _ ?_
      refine And.intro ((congrArg Prod.fst (hq.1)).trans rfl) (Exists.intro _ (And.intro (by decide) (qx_M_mono (cs) ?_)))
      rintro _ _ ⟨rfl, rfl⟩
      refine And.intro (by rw [show qx_sh qc_T _ b = _ from hq.1]; rfl) (Exists.intro (b + 6) (And.intro rfl ?_))
      refine Exists.intro (j) (Exists.intro (nI 0) (And.intro rfl (And.intro ⟨4096, hq.2.2, by omega, by decide⟩ (And.intro ((hsl j hj).trans (congrArg nI h0)) ?_))))
      refine And.intro (fun h18 => ?_) (fun h18 => ?_)
      · skip
        refine And.intro ((congrArg Prod.fst (hq.1)).trans rfl) (Exists.intro _ (And.intro (by decide) (qx_M_mono (c_full hq.1 h7 hz) ?_)))
        rintro _ _ ⟨rfl, rfl⟩
        refine And.intro (fun h75 => ?_) (fun h75 => ?_)
        · skip
          have h75 := bI_f h75
          refine And.intro (by rw [show qx_sh qc_T _ b = _ from hq.1]; rfl) (Exists.intro (b + 1) (And.intro rfl ?_))
          refine And.intro (by rw [show qx_sh qc_T _ b = _ from hq.1]; rfl) (Exists.intro 7 (Exists.intro (nI sz) (And.intro rfl (And.intro h7 ?_))))
          obtain ⟨σ1, eσ1⟩ : ∃ zs, zs = (qx_wi σ (b + 1) sz (nI w)) := ⟨_, rfl⟩
          have fσ1 := qn_wi eσ1
          refine Exists.intro (sz) (Exists.intro σ1 (And.intro rfl (And.intro ⟨2001, (sh 1 (by decide) (by decide)), by omega, by decide⟩ (And.intro eσ1.symm ?_))))
          refine And.intro (by rw [show qx_sh qc_T _ b = _ from (fσ1.s _).trans (hq.1)]; rfl) (Exists.intro (b + 2) (And.intro rfl ?_))
          refine And.intro (by rw [show qx_sh qc_T _ b = _ from (fσ1.s _).trans (hq.1)]; rfl) (Exists.intro 7 (Exists.intro (nI sz) (And.intro rfl (And.intro ((qn_ne eσ1 (Or.inl (by omega))).trans (h7)) ?_))))
          refine And.intro (by rw [show qx_sh qc_T _ b = _ from (fσ1.s _).trans (hq.1)]; rfl) (Exists.intro (b + 2) (And.intro rfl ?_))
          refine Exists.intro (f) (Exists.intro (nI (dep f)) (And.intro rfl (And.intro ⟨2001, (fσ1.s _).trans ((sh 2 (by decide) (by decide))), by omega, by decide⟩ (And.intro ((qn_ne eσ1 (Or.inl (by omega))).trans (cf1)) ?_))))
          refine Exists.intro (nI 1) (And.intro rfl ?_)
          refine Exists.intro (nI (dep f + 1)) (And.intro (nI_add _ _) ?_)
          obtain ⟨σ2, eσ2⟩ : ∃ zs, zs = (qx_wi σ1 (b + 2) sz (nI (dep f + 1))) := ⟨_, rfl⟩
          have fσ2 := qn_wi eσ2
          refine Exists.intro (sz) (Exists.intro σ2 (And.intro rfl (And.intro ⟨2001, (fσ1.s _).trans ((sh 2 (by decide) (by decide))), by omega, by decide⟩ (And.intro eσ2.symm ?_))))
          refine And.intro (by rw [show qx_sh qc_T _ b = _ from (fσ2.s _).trans ((fσ1.s _).trans (hq.1))]; rfl) (Exists.intro (b + 3) (And.intro rfl ?_))
          refine And.intro (by rw [show qx_sh qc_T _ b = _ from (fσ2.s _).trans ((fσ1.s _).trans (hq.1))]; rfl) (Exists.intro 7 (Exists.intro (nI sz) (And.intro rfl (And.intro ((qn_ne eσ2 (Or.inl (by omega))).trans ((qn_ne eσ1 (Or.inl (by omega))).trans (h7))) ?_))))
          obtain ⟨σ3, eσ3⟩ : ∃ zs, zs = (qx_wi σ2 (b + 3) sz (nI f)) := ⟨_, rfl⟩
          have fσ3 := qn_wi eσ3
          refine Exists.intro (sz) (Exists.intro σ3 (And.intro rfl (And.intro ⟨2001, (fσ2.s _).trans ((fσ1.s _).trans ((sh 3 (by decide) (by decide)))), by omega, by decide⟩ (And.intro eσ3.symm ?_))))
          refine And.intro (by rw [show qx_sh qc_T _ b = _ from (fσ3.s _).trans ((fσ2.s _).trans ((fσ1.s _).trans (hq.1)))]; rfl) (Exists.intro (b + 4) (And.intro rfl ?_))
          refine And.intro (by rw [show qx_sh qc_T _ b = _ from (fσ3.s _).trans ((fσ2.s _).trans ((fσ1.s _).trans (hq.1)))]; rfl) (Exists.intro 7 (Exists.intro (nI sz) (And.intro rfl (And.intro ((qn_ne eσ3 (Or.inl (by omega))).trans ((qn_ne eσ2 (Or.inl (by omega))).trans ((qn_ne eσ1 (Or.inl (by omega))).trans (h7)))) ?_))))
          obtain ⟨σ4, eσ4⟩ : ∃ zs, zs = (qx_wi σ3 (b + 4) sz (nI pr)) := ⟨_, rfl⟩
          have fσ4 := qn_wi eσ4
          refine Exists.intro (sz) (Exists.intro σ4 (And.intro rfl (And.intro ⟨2001, (fσ3.s _).trans ((fσ2.s _).trans ((fσ1.s _).trans ((sh 4 (by decide) (by decide))))), by omega, by decide⟩ (And.intro eσ4.symm ?_))))
          refine And.intro (by rw [show qx_sh qc_T _ b = _ from (fσ4.s _).trans ((fσ3.s _).trans ((fσ2.s _).trans ((fσ1.s _).trans (hq.1))))]; rfl) (Exists.intro (b + 5) (And.intro rfl ?_))
          refine And.intro (by rw [show qx_sh qc_T _ b = _ from (fσ4.s _).trans ((fσ3.s _).trans ((fσ2.s _).trans ((fσ1.s _).trans (hq.1))))]; rfl) (Exists.intro 7 (Exists.intro (nI sz) (And.intro rfl (And.intro ((qn_ne eσ4 (Or.inl (by omega))).trans ((qn_ne eσ3 (Or.inl (by omega))).trans ((qn_ne eσ2 (Or.inl (by omega))).trans ((qn_ne eσ1 (Or.inl (by omega))).trans (h7))))) ?_))))
          refine And.intro (by rw [show qx_sh qc_T _ b = _ from (fσ4.s _).trans ((fσ3.s _).trans ((fσ2.s _).trans ((fσ1.s _).trans (hq.1))))]; rfl) (Exists.intro (b + 5) (And.intro rfl ?_))
          refine Exists.intro (f) (Exists.intro (nI (wy f)) (And.intro rfl (And.intro ⟨2001, (fσ4.s _).trans ((fσ3.s _).trans ((fσ2.s _).trans ((fσ1.s _).trans ((sh 5 (by decide) (by decide)))))), by omega, by decide⟩ (And.intro ((qn_ne eσ4 (Or.inl (by omega))).trans ((qn_ne eσ3 (Or.inl (by omega))).trans ((qn_ne eσ2 (Or.inl (by omega))).trans ((qn_ne eσ1 (Or.inl (by omega))).trans (cf3))))) ?_))))
          obtain ⟨σ5, eσ5⟩ : ∃ zs, zs = (qx_wi σ4 (b + 5) sz (nI (wy f))) := ⟨_, rfl⟩
          have fσ5 := qn_wi eσ5
          refine Exists.intro (sz) (Exists.intro σ5 (And.intro rfl (And.intro ⟨2001, (fσ4.s _).trans ((fσ3.s _).trans ((fσ2.s _).trans ((fσ1.s _).trans ((sh 5 (by decide) (by decide)))))), by omega, by decide⟩ (And.intro eσ5.symm ?_))))
          refine And.intro (by rw [show qx_sh qc_T _ b = _ from (fσ5.s _).trans ((fσ4.s _).trans ((fσ3.s _).trans ((fσ2.s _).trans ((fσ1.s _).trans (hq.1)))))]; rfl) (Exists.intro 7 (Exists.intro (nI sz) (And.intro rfl (And.intro ((qn_ne eσ5 (Or.inl (by omega))).trans ((qn_ne eσ4 (Or.inl (by omega))).trans ((qn_ne eσ3 (Or.inl (by omega))).trans ((qn_ne eσ2 (Or.inl (by omega))).trans ((qn_ne eσ1 (Or.inl (by omega))).trans (h7)))))) ?_))))
          refine Exists.intro (nI 1) (And.intro rfl ?_)
          refine Exists.intro (nI (sz + 1)) (And.intro (nI_add _ _) ?_)
          obtain ⟨σ6, eσ6⟩ : ∃ zs, zs = (qx_wi σ5 b 7 (nI (sz + 1))) := ⟨_, rfl⟩
          have fσ6 := qn_wif eσ6
          refine And.intro (by rw [show qx_sh qc_T _ b = _ from (fσ5.s _).trans ((fσ4.s _).trans ((fσ3.s _).trans ((fσ2.s _).trans ((fσ1.s _).trans (hq.1)))))]; rfl) (Exists.intro 7 (Exists.intro σ6 (And.intro rfl (And.intro eσ6.symm ?_))))
          refine And.intro (by rw [show qx_sh qc_T _ b = _ from (fσ6.s _).trans ((fσ5.s _).trans ((fσ4.s _).trans ((fσ3.s _).trans ((fσ2.s _).trans ((fσ1.s _).trans (hq.1))))))]; rfl) (Exists.intro (b + 6) (And.intro rfl ?_))
          refine And.intro (by rw [show qx_sh qc_T _ b = _ from (fσ6.s _).trans ((fσ5.s _).trans ((fσ4.s _).trans ((fσ3.s _).trans ((fσ2.s _).trans ((fσ1.s _).trans (hq.1))))))]; rfl) (Exists.intro 7 (Exists.intro (nI (sz + 1)) (And.intro rfl (And.intro (qn_eq eσ6) ?_))))
          obtain ⟨σ7, eσ7⟩ : ∃ zs, zs = (qx_wi σ6 (b + 6) j (nI (sz + 1))) := ⟨_, rfl⟩
          have fσ7 := qn_wi eσ7
          refine Exists.intro (j) (Exists.intro σ7 (And.intro rfl (And.intro ⟨4096, (fσ6.s _).trans ((fσ5.s _).trans ((fσ4.s _).trans ((fσ3.s _).trans ((fσ2.s _).trans ((fσ1.s _).trans (hq.2.2)))))), by omega, by decide⟩ (And.intro eσ7.symm ?_))))
          exact ⟨rfl, fin _ _ _ _ _ _ _ eσ1 eσ2 eσ3 eσ4 eσ5 eσ6 eσ7⟩
        · skip
          have h75 := bI_t h75
          exact absurd (h75.symm.trans (decide_eq_false (by omega))) (by decide)
      · skip
        exact absurd (by decide) h18
    · have ead : q_ad (sz, gr, sit, dep, frm, by', wy) w f pr = (sz, gr, sit, dep, frm, by', wy) := by
        unfold q_ad
        rw [ix]
        dsimp only
        rw [if_neg (Nat.lt_irrefl _), if_pos hge]
      rw [ead]
      refine qx_M_in rfl (Nat.le_of_ble_eq_true rfl) ?_
      refine qy_wp_ok (c := CX6_add) (cuts := []) vX6_add wX6_add 2000 0 _ _ _ ?_
      refine And.intro ((congrArg Prod.fst (hq.1)).trans rfl) (Exists.intro _ (And.intro (by decide) (qx_M_mono (cs) ?_)))
      rintro _ _ ⟨rfl, rfl⟩
      refine And.intro (by rw [show qx_sh qc_T _ b = _ from hq.1]; rfl) (Exists.intro (b + 6) (And.intro rfl ?_))
      refine Exists.intro (j) (Exists.intro (nI 0) (And.intro rfl (And.intro ⟨4096, hq.2.2, by omega, by decide⟩ (And.intro ((hsl j hj).trans (congrArg nI h0)) ?_))))
      refine And.intro (fun h18 => ?_) (fun h18 => ?_)
      · skip
        refine And.intro ((congrArg Prod.fst (hq.1)).trans rfl) (Exists.intro _ (And.intro (by decide) (qx_M_mono (c_full hq.1 h7 hz) ?_)))
        rintro _ _ ⟨rfl, rfl⟩
        refine And.intro (fun h75 => ?_) (fun h75 => ?_)
        · skip
          have h75 := bI_f h75
          exact absurd (h75.symm.trans (decide_eq_true hge)) (by decide)
        · skip
          have h75 := bI_t h75
          exact ⟨rfl, qf.rf, hq, ⟨hb, hb2⟩, h7, h8, hz, hg, hc, sl, H, hsl⟩
      · skip
        exact absurd (by decide) h18
  · obtain ⟨i1, i2⟩ := hE.some H (by omega)
    have ix : q_ix (sz, gr, sit, dep, frm, by', wy) w = sl j - 1 := q_ix_some H i1 i2
    have ci := hc (sl j - 1) i1
    have ci1 : qx_mi σ (b + 2) (sl j - 1) = nI (dep (sl j - 1)) := ci.2.1.1
    have ci2 : dep (sl j - 1) ≤ sl j - 1 := ci.2.1.2
    have ci3 : qx_mi σ (b + 5) (sl j - 1) = nI (wy (sl j - 1)) := ci.2.2.2.2.1
    have ci4 : wy (sl j - 1) ≤ 2 := ci.2.2.2.2.2
    have eT : dep (sl j - 1) = dep f + 1 → q_ad (sz, gr, sit, dep, frm, by', wy) w f pr = (sz, gr, sit, dep, frm, by', va_up wy (sl j - 1) (q_m2 (wy (sl j - 1) + wy f))) := fun h => by
      unfold q_ad
      rw [ix]
      dsimp only
      rw [if_pos i1, if_pos h]
    have eF : ¬ dep (sl j - 1) = dep f + 1 → q_ad (sz, gr, sit, dep, frm, by', wy) w f pr = (sz, gr, sit, dep, frm, by', wy) := fun h => by
      unfold q_ad
      rw [ix]
      dsimp only
      rw [if_pos i1, if_neg h]
    have em : ∀ s, s ≤ 4 → (if nI s < nI 2 then nI s else nI 2) = nI (q_m2 s) := fun s hs => by
      unfold q_m2
      by_cases z : s < 2
      · rw [if_pos z, if_pos ((nI_ltI (by omega) (by decide)).mpr z)]
      · rw [if_neg z, if_neg (fun y => z ((nI_ltI (by omega) (by decide)).mp y))]
    have fin : ∀ s, s = qx_wi σ (b + 5) (sl j - 1) (nI (q_m2 (wy (sl j - 1) + wy f))) → ql (kQ b) σ s ∧ mQ s b (sz, gr, sit, dep, frm, by', va_up wy (sl j - 1) (q_m2 (wy (sl j - 1) + wy f))) := by
      intro s es
      have fr : ql (kQ b) σ s := qf.cv (qn_wi es) (by simp)
      have m : ∀ y k, y ≠ b + 5 → qx_mi s y k = qx_mi σ y k := fun y k h => qn_ne es (Or.inl h)
      refine ⟨fr, hq.fr fr, ⟨hb, by rw [fr.1]; exact hb2⟩, (m _ _ (by omega)).trans h7, (m _ _ (by omega)).trans h8, hz, hg, fun i hi => ?_, sl, H, fun k hk => (m _ _ (by omega)).trans (hsl k hk)⟩
      have c := hc i hi
      refine ⟨⟨(m _ _ (by omega)).trans c.1.1, c.1.2⟩, ⟨(m _ _ (by omega)).trans c.2.1.1, c.2.1.2⟩, (m _ _ (by omega)).trans c.2.2.1, (m _ _ (by omega)).trans c.2.2.2.1, ?_⟩
      dsimp only
      by_cases z : i = sl j - 1
      · rw [z, va_up_self]
        refine ⟨qn_eq es, ?_⟩
        unfold q_m2
        split <;> omega
      · rw [va_up_ne _ _ z]
        exact ⟨(qn_ne es (Or.inr z)).trans c.2.2.2.2.1, c.2.2.2.2.2⟩
    refine qx_M_in rfl (Nat.le_of_ble_eq_true rfl) ?_
    refine qy_wp_ok (c := CX6_add) (cuts := []) vX6_add wX6_add 2000 0 _ _ _ ?_
    refine And.intro ((congrArg Prod.fst (hq.1)).trans rfl) (Exists.intro _ (And.intro (by decide) (qx_M_mono (cs) ?_)))
    rintro _ _ ⟨rfl, rfl⟩
    refine And.intro (by rw [show qx_sh qc_T _ b = _ from hq.1]; rfl) (Exists.intro (b + 6) (And.intro rfl ?_))
    refine Exists.intro (j) (Exists.intro (nI (sl j)) (And.intro rfl (And.intro ⟨4096, hq.2.2, by omega, by decide⟩ (And.intro (hsl j hj) ?_))))
    refine And.intro (fun h18 => ?_) (fun h18 => ?_)
    · skip
      have h18 := nI_eqT (a := sl j) (b := 0) (by omega) (by decide) h18
      exact absurd h18 (by omega)
    · skip
      have h18 := nI_neT (a := sl j) (b := 0) (by omega) (by decide) h18
      refine And.intro (by rw [show qx_sh qc_T _ b = _ from hq.1]; rfl) (Exists.intro (b + 2) (And.intro rfl ?_))
      refine Exists.intro (nI 1) (And.intro rfl ?_)
      refine Exists.intro (nI ((sl j) - 1)) (And.intro (nI_sub (by omega)) ?_)
      refine Exists.intro ((sl j) - 1) (Exists.intro (nI (dep (sl j - 1))) (And.intro rfl (And.intro ⟨2001, (sh 2 (by decide) (by decide)), by omega, by decide⟩ (And.intro ci1 ?_))))
      refine And.intro (by rw [show qx_sh qc_T _ b = _ from hq.1]; rfl) (Exists.intro (b + 2) (And.intro rfl ?_))
      refine Exists.intro (f) (Exists.intro (nI (dep f)) (And.intro rfl (And.intro ⟨2001, (sh 2 (by decide) (by decide)), by omega, by decide⟩ (And.intro cf1 ?_))))
      refine Exists.intro (nI 1) (And.intro rfl ?_)
      refine Exists.intro (nI (dep f + 1)) (And.intro (nI_add _ _) ?_)
      refine And.intro (fun h38 => ?_) (fun h38 => ?_)
      · skip
        have h38 := nI_neT (a := dep (sl j - 1)) (b := dep f + 1) (by omega) (by omega) h38
        first
          | (rw [eT h38]; exact ⟨rfl, fin _ eσ1⟩)
          | (rw [eF h38]; exact ⟨rfl, qf.rf, hq, ⟨hb, hb2⟩, h7, h8, hz, hg, hc, sl, H, hsl⟩)
      · skip
        have h38 := nI_eqT (a := dep (sl j - 1)) (b := dep f + 1) (by omega) (by omega) h38
        refine And.intro (by rw [show qx_sh qc_T _ b = _ from hq.1]; rfl) (Exists.intro (b + 5) (And.intro rfl ?_))
        refine Exists.intro (nI 1) (And.intro rfl ?_)
        refine Exists.intro (nI ((sl j) - 1)) (And.intro (nI_sub (by omega)) ?_)
        refine Exists.intro (nI 2) (And.intro rfl ?_)
        refine And.intro (by rw [show qx_sh qc_T _ b = _ from hq.1]; rfl) (Exists.intro (b + 5) (And.intro rfl ?_))
        refine Exists.intro (nI 1) (And.intro rfl ?_)
        refine Exists.intro (nI ((sl j) - 1)) (And.intro (nI_sub (by omega)) ?_)
        refine Exists.intro ((sl j) - 1) (Exists.intro (nI (wy (sl j - 1))) (And.intro rfl (And.intro ⟨2001, (sh 5 (by decide) (by decide)), by omega, by decide⟩ (And.intro ci3 ?_))))
        refine And.intro (by rw [show qx_sh qc_T _ b = _ from hq.1]; rfl) (Exists.intro (b + 5) (And.intro rfl ?_))
        refine Exists.intro (f) (Exists.intro (nI (wy f)) (And.intro rfl (And.intro ⟨2001, (sh 5 (by decide) (by decide)), by omega, by decide⟩ (And.intro cf3 ?_))))
        refine Exists.intro (nI (wy (sl j - 1) + (wy f))) (And.intro (nI_add _ _) ?_)
        refine Exists.intro (nI (q_m2 (wy (sl j - 1) + wy f))) (And.intro (em _ (by omega)) ?_)
        obtain ⟨σ1, eσ1⟩ : ∃ zs, zs = (qx_wi σ (b + 5) ((sl j) - 1) (nI (q_m2 (wy (sl j - 1) + wy f)))) := ⟨_, rfl⟩
        have fσ1 := qn_wi eσ1
        refine Exists.intro ((sl j) - 1) (Exists.intro σ1 (And.intro rfl (And.intro ⟨2001, (sh 5 (by decide) (by decide)), by omega, by decide⟩ (And.intro eσ1.symm ?_))))
        first
          | (rw [eT h38]; exact ⟨rfl, fin _ eσ1⟩)
          | (rw [eF h38]; exact ⟨rfl, qf.rf, hq, ⟨hb, hb2⟩, h7, h8, hz, hg, hc, sl, H, hsl⟩)

