/-! THE CLASS: MOST, rings are chosen -/
theorem q_find_cg {α : Type} {P Q : α → Bool} : ∀ l : List α, (∀ o, o ∈ l → P o = Q o) → l.find? P = l.find? Q
  | [], _ => rfl
  | x :: l, h => by
    rw [List.find?_cons, List.find?_cons, h x List.mem_cons_self, q_find_cg l (fun o ho => h o (List.mem_cons_of_mem _ ho))]
theorem q_D_s {S : qS} {rf : Option qR} {ly : Option (Nat × Nat)} {k s : Nat} (h : s < 2 ^ s_n S 1) : q_D S rf ly k s = q_Ds (q_cn S rf ly) (q_gn S rf ly) (s_n S 1) k s := q_Dt_st _ _ _ _ _ (by omega)
/-- what is left of the reference's set, and of ours -/
theorem q_fw_skip {S : qS} {rf : Option qR} {ly : Option (Nat × Nat)} {k s : Nat} {t : Nat → Nat} (hs : s < 1024) (h0 : 0 < s) (hc : (q_D S rf ly k s).2.2 % 8 = 0) : q_fwc (fun s => (q_D S rf ly k s).2.2) s s t = q_fwc (fun s => (q_D S rf ly k s).2.2) (q_wo s (2 ^ q_lo s)) (q_wo s (2 ^ q_lo s)) t := by
  have wl : q_wo s (2 ^ q_lo s) < s := q_wo_lt (q_lo_ok h0 hs).1 (by rw [q_bit1]; exact decide_eq_true rfl)
  have key : ∀ f, q_fwc (fun s => (q_D S rf ly k s).2.2) (f + 1) s t = q_fwc (fun s => (q_D S rf ly k s).2.2) f (q_wo s (2 ^ q_lo s)) t := fun f => by
    show (if s = 0 then t else if (q_D S rf ly k s).2.2 % 8 = 0 then _ else _) = _
    rw [if_neg (by omega), if_pos hc]
  have k1 := key (s - 1)
  rw [Nat.sub_add_cancel h0] at k1
  rw [k1]
  exact q_fwc_f _ _ _ _ _ (by omega) (Nat.le_refl _) (by omega)
theorem q_fw_take {S : qS} {rf : Option qR} {ly : Option (Nat × Nat)} {k s : Nat} {t : Nat → Nat} (hs : s < 1024) (h0 : 0 < s) (hc : ¬ (q_D S rf ly k s).2.2 % 8 = 0) : q_fwc (fun s => (q_D S rf ly k s).2.2) s s t = q_fwc (fun s => (q_D S rf ly k s).2.2) (q_wo s (2 ^ q_lo s ||| q_fwl (q_D S rf ly k s).2.2)) (q_wo s (2 ^ q_lo s ||| q_fwl (q_D S rf ly k s).2.2)) (q_fws (q_D S rf ly k s).2.2 (q_lo s) t) := by
  rw [q_wo_or]
  have wl : q_wo s (2 ^ q_lo s) < s := q_wo_lt (q_lo_ok h0 hs).1 (by rw [q_bit1]; exact decide_eq_true rfl)
  have wl2 := q_wo_le (q_wo s (2 ^ q_lo s)) (q_fwl (q_D S rf ly k s).2.2)
  have key : ∀ f, q_fwc (fun s => (q_D S rf ly k s).2.2) (f + 1) s t = q_fwc (fun s => (q_D S rf ly k s).2.2) f (q_wo (q_wo s (2 ^ q_lo s)) (q_fwl (q_D S rf ly k s).2.2)) (q_fws (q_D S rf ly k s).2.2 (q_lo s) t) := fun f => by
    show (if s = 0 then t else if (q_D S rf ly k s).2.2 % 8 = 0 then _ else _) = _
    rw [if_neg (by omega), if_neg hc]
  have k1 := key (s - 1)
  rw [Nat.sub_add_cancel h0] at k1
  rw [k1]
  exact q_fwc_f _ _ _ _ _ (by omega) (Nat.le_refl _) (by omega)
theorem bX.aO {σ : qx_S} {S : qS} {rf : Option qR} {ly : Option (Nat × Nat)} {e k : Nat} {rg : Nat → Nat} {M : q_Mt} (h : bX σ S rf ly e k rg M) : q_aO (q_cn S rf ly) (q_gn S rf ly) (s_n S 1) k M.2.2.2 := fun p s g n num hr i hi => by
  obtain ⟨f1, f2, f3, f4, f5⟩ := q_Mfin h.2.2.2.2.2.1 h.2.2.2.2.2.2 h.gB h.2.1
  exact (f5 i).mpr ⟨p, s, g, n, num, (q_RG_p hr).2.2.2.1, hr, hi⟩
theorem bX.tr {σ s : qx_S} {S : qS} {rf : Option qR} {ly : Option (Nat × Nat)} {e k : Nat} {rg : Nat → Nat} {M : q_Mt} (h : bX σ S rf ly e k rg M) (f : ql kTr σ s) : bX s S rf ly e k rg M := ⟨⟨h.1.1.fr f rfl rfl, h.1.2.1.fr f (fun _ => rfl), fun n h1 h2 => (h.1.2.2.1 n h1 h2).fr f (fun _ => rfl), (f.i _ _ rfl).trans h.1.2.2.2⟩, h.2.1, h.2.2.1.fr f (fun _ => rfl) (fun _ => rfl) rfl rfl, h.2.2.2.1, fun q hq => (f.i _ _ rfl).trans (h.2.2.2.2.1 q hq), h.2.2.2.2.2⟩
theorem q_KB.tr {σ s : qx_S} {S : qS} {rf : Option qR} {ly : Option (Nat × Nat)} {k act j : Nat} (h : q_KB σ S rf ly k act j) (f : ql kTr σ s) : q_KB s S rf ly k act j := fun t h1 h2 => by
  rw [show qx_mi s 172 t = qx_mi σ 172 t from f.i _ _ rfl]
  exact h t h1 h2
theorem l_cho {G : qx_G} {σ0 : qx_S} {S : qS} {rf : Option qR} {ly : Option (Nat × Nat)} {e k : Nat} {rg : Nat → Nat} {M : q_Mt} {T : Nat → Nat} : ∀ (m p : Nat) (σ : qx_S) (sr : Nat) (t : Nat → Nat), m + p = s_n S 1 → bX σ S rf ly e k rg M → q_KB σ S rf ly k M.2.2.2 0 → ql kTr σ0 σ → tkC σ (s_n S 1) t → (∀ i, sr.testBit i = true → p ≤ i ∧ i < s_n S 1) → q_fwc (fun s => (q_D S rf ly k s).2.2) sr sr t = T → (sr &&& M.2.2.2 = M.2.2.2 ∨ ∀ i, (sr &&& M.2.2.2).testBit i = true → q_lo M.2.2.2 < i) → qx_K G qc_T 5 RX3 YX3_choose 36 [.ref 160, .int (nI (sr &&& M.2.2.2)), .int (nI p), .retAddr 0] [] σ (fun r s => r = none ∧ ql kTr σ0 s ∧ bX s S rf ly e k rg M ∧ tkC s (s_n S 1) T) := by
  intro m
  induction m with
  | zero =>
    intro p σ sr t hm hX hK hf ht hs hT hJ
    have hpe := hX.1.1.1.pe
    have e5 := hX.1.1.2.1.1.2.1.trans hX.1.1.1.1.2.1.2.1.1
    have z : sr = 0 := by
      apply Nat.eq_of_testBit_eq
      intro i
      rw [Nat.zero_testBit]
      exact Bool.eq_false_iff.mpr (fun w => by have := hs i w; omega)
    rw [z] at hT
    have hT : t = T := hT
    rw [hT] at ht
    obtain ⟨lf, elf⟩ : ∃ lf, lf = sr &&& M.2.2.2 := ⟨_, rfl⟩
    rw [← elf, show p = s_n S 1 by omega]
    refine qy_wp_ok (c := CX3_choose) (cuts := [36]) vX3_choose wX3_choose 2000 36 _ _ _ ?_
    refine And.intro rfl (Exists.intro 156 (And.intro rfl ?_))
    refine And.intro rfl (Exists.intro 16 (And.intro rfl ?_))
    refine And.intro rfl (Exists.intro 5 (Exists.intro (nI (s_n S 1)) (And.intro rfl (And.intro e5 ?_))))
    refine And.intro (fun h47 => ?_) (fun h47 => ?_)
    · skip
      have h47 := nI_leT (a := s_n S 1) (b := s_n S 1) (by omega) (by omega) h47
      exact ⟨rfl, hf, hX, ht⟩
    · skip
      have h47 := nI_leF (a := s_n S 1) (b := s_n S 1) (by omega) (by omega) h47
      exact absurd h47 (by omega)
  | succ m ih =>
    intro p σ sr t hm hX hK hf ht hs hT hJ
    have hpe := hX.1.1.1.pe
    have k4 := hX.2.2.2.2.2.2
    have hg := hX.gB
    have h1024 : 2 ^ s_n S 1 ≤ 1024 := Nat.pow_le_pow_right (by decide) hpe
    have e5 := hX.1.1.2.1.1.2.1.trans hX.1.1.1.1.2.1.2.1.1
    have hp : p < s_n S 1 := by omega
    have srl : sr < 2 ^ s_n S 1 := q_lt_bits (fun i hi => (hs i hi).2)
    have actl : M.2.2.2 < 2 ^ s_n S 1 := q_lt_bits hX.act
    obtain ⟨lf, elf⟩ : ∃ lf, lf = sr &&& M.2.2.2 := ⟨_, rfl⟩
    have lfb : ∀ i, lf.testBit i = true ↔ sr.testBit i = true ∧ M.2.2.2.testBit i = true := fun i => by rw [elf, Nat.testBit_and, Bool.and_eq_true]
    have lfl : lf < 2 ^ s_n S 1 := by rw [elf]; exact Nat.lt_of_le_of_lt Nat.and_le_left srl
    have hl1 : lf / 2 ^ p &&& 1 ≤ 1 := Nat.and_le_right
    rw [← elf]
    by_cases hb : lf.testBit p = true
    · obtain ⟨sb, ab⟩ := (lfb p).mp hb
      have hbn : ¬ lf / 2 ^ p &&& 1 = 0 := fun z => by have := q_tb.mpr hb; omega
      obtain ⟨slo, s0⟩ := q_lo_min (s := sr) (by omega) sb
      obtain ⟨l1, l2, l3⟩ := q_lo_ok (s := sr) s0 (by omega)
      have ep : p = q_lo sr := by have := (hs _ l1).1; omega
      have alo := q_lo_min (s := M.2.2.2) (by omega) ab
      have p2 : 2 ^ p < 1024 := Nat.pow_lt_pow_right (n := 10) (by decide) (by omega)
      have xe : lf ^^^ 2 ^ p = q_wo lf (2 ^ p) := q_wo_xor (q_wo_0.mpr (fun i hi => by rw [q_bit1] at hi; rw [← of_decide_eq_true hi]; exact hb))
      have gt : ∀ x : Nat, (∀ i, x.testBit i = true → lf.testBit i = true) → x.testBit p = false → (qx_mi σ 172 x).toInt = q_F (q_cn S rf ly) (q_gn S rf ly) (s_n S 1) k x := fun x hx hxp => by
        have xb : ∀ i, x.testBit i = true → p < i := fun i hi => by
          have := (hs i ((lfb i).mp (hx i hi)).1).1
          have : i ≠ p := fun z => by rw [z, hxp] at hi; cases hi
          omega
        refine hK x (fun i hi => ⟨((lfb i).mp (hx i hi)).2, Nat.zero_le _⟩) ?_
        rcases Nat.eq_zero_or_pos x with z | z
        · exact Or.inl z
        · right
          left
          have xl : x < 2 ^ s_n S 1 := q_lt_bits (fun i hi => (hs i ((lfb i).mp (hx i hi)).1).2)
          have := xb _ (q_lo_ok z (by omega)).1
          have := alo.1
          omega
      have kl : (qx_mi σ 172 lf).toInt = q_F (q_cn S rf ly) (q_gn S rf ly) (s_n S 1) k lf := hK lf (fun i hi => ⟨((lfb i).mp hi).2, Nat.zero_le _⟩) (by
        rcases hJ with z | z
        · exact Or.inr (Or.inr (by rw [elf]; exact z))
        · right
          left
          obtain ⟨_, lf0⟩ := q_lo_min (s := lf) (by omega) hb
          have w := z (q_lo lf) (by rw [← elf]; exact (q_lo_ok lf0 (by omega)).1)
          omega)
      have kr := gt (q_wo lf (2 ^ p)) (fun i hi => by rw [q_wo_bit, Bool.and_eq_true] at hi; exact hi.1) (by rw [q_wo_bit, q_bit1, decide_eq_true rfl]; exact Bool.and_false _)
      have fl : q_F (q_cn S rf ly) (q_gn S rf ly) (s_n S 1) k lf = q_F (q_cn S rf ly) (q_gn S rf ly) (s_n S 1) k sr := by rw [elf]; exact q_F_act hpe k4 hg hX.aO sr srl
      have fr : q_F (q_cn S rf ly) (q_gn S rf ly) (s_n S 1) k (q_wo lf (2 ^ p)) = q_F (q_cn S rf ly) (q_gn S rf ly) (s_n S 1) k (q_wo sr (2 ^ p)) := by
        rw [elf, q_wo_and]
        exact q_F_act hpe k4 hg hX.aO _ (by have := q_wo_le sr (2 ^ p); omega)
      have dm := q_Dm (can := q_cn S rf ly) hpe k4 hg s0 srl
      rw [← ep] at dm
      have eD := q_D_s (rf := rf) (ly := ly) (k := k) srl
      -- what is left goes on
      have nj : ∀ r : Nat, r.testBit p = true → (∀ i, (q_wo sr r).testBit i = true → p + 1 ≤ i ∧ i < s_n S 1) ∧ (q_wo sr r &&& M.2.2.2 = M.2.2.2 ∨ ∀ i, (q_wo sr r &&& M.2.2.2).testBit i = true → q_lo M.2.2.2 < i) := fun r hr => by
        have bb : ∀ i, (q_wo sr r).testBit i = true → p + 1 ≤ i ∧ i < s_n S 1 := fun i hi => by
          rw [q_wo_bit, Bool.and_eq_true, Bool.not_eq_true'] at hi
          have h1 := hs i hi.1
          have : i ≠ p := fun z => by rw [z, hr] at hi; cases hi.2
          omega
        refine ⟨bb, Or.inr (fun i hi => ?_)⟩
        rw [Nat.testBit_and, Bool.and_eq_true] at hi
        have := (bb i hi.1).1
        have := alo.1
        omega
      have caseT : q_F (q_cn S rf ly) (q_gn S rf ly) (s_n S 1) k (q_wo lf (2 ^ p)) = q_F (q_cn S rf ly) (q_gn S rf ly) (s_n S 1) k lf → qx_K G qc_T 5 RX3 YX3_choose 36 [.ref 160, .int (nI (q_wo lf (2 ^ p))), .int (nI (p + 1)), .retAddr 0] [] σ (fun r s => r = none ∧ ql kTr σ0 s ∧ bX s S rf ly e k rg M ∧ tkC s (s_n S 1) T) := by
        intro he
        have hc : (q_D S rf ly k sr).2.2 % 8 = 0 := by
          rw [eD]
          rcases dm.2.2 with w | ⟨w1, _⟩
          · rw [w]; rfl
          · omega
        have hT2 := q_fw_skip (t := t) (by omega) s0 hc
        rw [← ep] at hT2
        rw [elf, q_wo_and]
        obtain ⟨n1, n2⟩ := nj (2 ^ p) (by rw [q_bit1]; exact decide_eq_true rfl)
        exact ih (p + 1) σ (q_wo sr (2 ^ p)) t (by omega) hX hK hf ht n1 (hT2.symm.trans hT) n2
      obtain ⟨X, eX⟩ : ∃ X, X = (q_o2 (q_cn S rf ly) (q_gn S rf ly) (s_n S 1) k lf p (s_n S 1 - (p + 1)) (p + 1)).find? (q_prd S rf ly k lf) := ⟨_, rfl⟩
      have caseF : ¬ q_F (q_cn S rf ly) (q_gn S rf ly) (s_n S 1) k (q_wo lf (2 ^ p)) = q_F (q_cn S rf ly) (q_gn S rf ly) (s_n S 1) k lf → ∀ s, ql kTr σ s → tkC s (s_n S 1) (q_fbr t p X).2 → qx_K G qc_T 5 RX3 YX3_choose 36 [.ref 160, .int (nI (q_wo lf (2 ^ p ||| (q_fbr t p X).1))), .int (nI (p + 1)), .retAddr 0] [] s (fun r s => r = none ∧ ql kTr σ0 s ∧ bX s S rf ly e k rg M ∧ tkC s (s_n S 1) T) := by
        intro he s f hts
        rcases dm.2.2 with w | ⟨w1, o, w2, w3⟩
        · exfalso
          apply he
          rw [fl, fr]
          unfold q_F
          rw [w]
          rfl
        · have om := List.mem_of_find?_eq_some w2
          have r1 := ((q_o2_RG k4 hp).mp om).1
          have rw1 := q_RG_fwl hpe r1
          have rp := q_RG_p r1
          have ex : X = some o := by
            rw [eX, elf, q_o2_act hX.aO hp, ← w2]
            refine q_find_cg _ (fun o' ho' => ?_)
            have r2 := ((q_o2_RG k4 hp).mp ho').1
            have e1 : q_vo (q_cn S rf ly) (q_gn S rf ly) (s_n S 1) k (sr &&& M.2.2.2) o' = q_vo (q_cn S rf ly) (q_gn S rf ly) (s_n S 1) k sr o' := by
              unfold q_vo
              rw [q_wo_and, q_F_act hpe k4 hg hX.aO _ (by have := q_wo_le sr o'.1; omega)]
            show decide (_ = _) = decide (_ = _)
            rw [e1, ← elf, fl]
          have ch : (q_D S rf ly k sr).2.2 = o.2.2.2 := by rw [eD, w3]
          have hT2 := q_fw_take (t := t) (by omega) s0 (by rw [ch]; exact rw1.2)
          rw [← ep, ch, rw1.1] at hT2
          have po : 2 ^ p ||| o.1 = o.1 := by
            apply Nat.eq_of_testBit_eq
            intro i
            rw [Nat.testBit_or, q_bit1]
            by_cases z : p = i
            · rw [← z, rp.1]; exact Bool.or_true _
            · rw [decide_eq_false z]; rfl
          rw [ex] at hts ⊢
          show qx_K G qc_T 5 RX3 YX3_choose 36 [.ref 160, .int (nI (q_wo lf (2 ^ p ||| o.1))), .int (nI (p + 1)), .retAddr 0] [] s _
          rw [po, elf, q_wo_and]
          obtain ⟨n1, n2⟩ := nj o.1 rp.1
          exact ih (p + 1) s (q_wo sr o.1) (q_fws o.2.2.2 p t) (by omega) (hX.tr f) (hK.tr f) (hf.tr f) hts n1 (hT2.symm.trans hT) n2
      have aft : ∀ s, s = qx_wi σ 173 0 (nI p) → fX s S rf ly e k rg M lf p ∧ tkC s (s_n S 1) t ∧ ql kTr σ s := fun s es => by
        have f : ql kTr σ s := (qn_wi es).mn rfl
        refine ⟨⟨hX.tr f, ?_, fun x h1 h2 => ?_, fun i hi => (hs i ((lfb i).mp hi).1).2, hb, qn_eq es⟩, fun i hi => ((qn_wi es).i _ _ rfl).trans (ht i hi), f⟩
        · rw [show qx_mi s 172 lf = qx_mi σ 172 lf from qn_ne es (Or.inl (by decide))]; exact kl
        · rw [show qx_mi s 172 x = qx_mi σ 172 x from qn_ne es (Or.inl (by decide))]; exact gt x h1 h2
      have call : ∀ s, s = qx_wi σ 173 0 (nI p) → qx_M G qc_T 4 YX3_firstBest [.ref 160, .int (nI 1), .int (nI (2 ^ p)), .int (nI lf)] s (fun r s' => r = some (.int (nI (q_fbr t p X).1)) ∧ tkC s' (s_n S 1) (q_fbr t p X).2 ∧ ql kTr s s') := fun s es => by
        rw [eX]
        exact c_f1 (aft s es).1 (aft s es).2.1
      obtain ⟨zz, ezz⟩ : ∃ zz, zz = (q_fbr t p X).1 := ⟨_, rfl⟩
      rw [← ezz] at call caseF
      obtain ⟨B1, eB1⟩ : ∃ B1, qx_mi σ 172 (lf ^^^ 2 ^ p) = B1 := ⟨_, rfl⟩
      obtain ⟨B2, eB2⟩ : ∃ B2, qx_mi σ 172 lf = B2 := ⟨_, rfl⟩
      have kB1 : B1.toInt = q_F (q_cn S rf ly) (q_gn S rf ly) (s_n S 1) k (q_wo lf (2 ^ p)) := by rw [← eB1, xe]; exact kr
      have kB2 : B2.toInt = q_F (q_cn S rf ly) (q_gn S rf ly) (s_n S 1) k lf := by rw [← eB2]; exact kl
      have xl : lf ^^^ 2 ^ p < 1024 := Nat.xor_lt_two_pow (n := 10) (by omega) p2
      refine qy_wp_ok (c := CX3_choose) (cuts := [36]) vX3_choose wX3_choose 2000 36 _ _ _ ?_
      refine And.intro rfl (Exists.intro 156 (And.intro rfl ?_))
      refine And.intro rfl (Exists.intro 16 (And.intro rfl ?_))
      refine And.intro rfl (Exists.intro 5 (Exists.intro (nI (s_n S 1)) (And.intro rfl (And.intro e5 ?_))))
      refine And.intro (fun h47 => ?_) (fun h47 => ?_)
      · skip
        have h47 := nI_leT (a := s_n S 1) (b := p) (by omega) (by omega) h47
        exact absurd h47 (by omega)
      · skip
        have h47 := nI_leF (a := s_n S 1) (b := p) (by omega) (by omega) h47
        refine Exists.intro (nI (lf / 2 ^ p)) (And.intro (nI_shr (by omega) (by omega)) ?_)
        refine Exists.intro (nI 1) (And.intro rfl ?_)
        refine Exists.intro (nI ((lf / 2 ^ p) &&& 1)) (And.intro (nI_and _ _) ?_)
        refine And.intro (fun h55 => ?_) (fun h55 => ?_)
        · skip
          have h55 := nI_neT (a := (lf / 2 ^ p) &&& 1) (b := 0) (by omega) (by decide) h55
          refine Exists.intro (nI 1) (And.intro rfl ?_)
          refine Exists.intro (nI (2 ^ p)) (And.intro (nI_sh1 (by omega)) ?_)
          refine And.intro rfl (Exists.intro 172 (And.intro rfl ?_))
          refine Exists.intro (nI (lf ^^^ (2 ^ p))) (And.intro (nI_xor _ _) ?_)
          refine Exists.intro (lf ^^^ (2 ^ p)) (Exists.intro B1 (And.intro rfl (And.intro ⟨1024, rfl, by omega, by decide⟩ (And.intro eB1 ?_))))
          refine And.intro rfl (Exists.intro 172 (And.intro rfl ?_))
          refine Exists.intro (lf) (Exists.intro B2 (And.intro rfl (And.intro ⟨1024, rfl, by omega, by decide⟩ (And.intro eB2 ?_))))
          refine And.intro (fun h79 => ?_) (fun h79 => ?_)
          · skip
            refine Exists.intro ((-1)) (And.intro (by decide) ?_)
            refine Exists.intro ((nI (2 ^ p)) ^^^ (-1)) (And.intro rfl ?_)
            refine Exists.intro (nI (q_wo lf (2 ^ p))) (And.intro (nI_andn _ _ (by omega)) ?_)
            refine Exists.intro (nI (p + 1)) (And.intro (nI_add _ _) ?_)
            refine qx_K_le (ls := [.ref 160, .int (nI (q_wo lf (2 ^ p))), .int (nI (p + 1)), .retAddr 0]) ⟨Or.inr rfl, Or.inr rfl, Or.inr rfl, Or.inl rfl, trivial⟩ ?_
            exact caseT (by rw [← kB1, ← kB2, h79])
          · skip
            refine And.intro rfl (Exists.intro 173 (And.intro rfl ?_))
            refine Exists.intro (nI 0) (And.intro rfl ?_)
            obtain ⟨σ1, eσ1⟩ : ∃ zs, zs = (qx_wi σ 173 0 (nI p)) := ⟨_, rfl⟩
            have fσ1 := qn_wi eσ1
            refine Exists.intro (0) (Exists.intro σ1 (And.intro rfl (And.intro ⟨5, rfl, by decide, by decide⟩ (And.intro eσ1.symm ?_))))
            refine Exists.intro (nI 1) (And.intro rfl ?_)
            refine And.intro rfl (Exists.intro _ (And.intro (by decide) (qx_M_mono (call _ eσ1) ?_)))
            rintro _ ρ ⟨rfl, tρ, fρ⟩
            refine Exists.intro (nI (2 ^ p ||| zz)) (And.intro (nI_or _ _) ?_)
            refine Exists.intro ((-1)) (And.intro (by decide) ?_)
            refine Exists.intro ((nI (2 ^ p ||| zz)) ^^^ (-1)) (And.intro rfl ?_)
            refine Exists.intro (nI (q_wo lf (2 ^ p ||| zz))) (And.intro (nI_andn _ _ (by omega)) ?_)
            refine Exists.intro (nI (p + 1)) (And.intro (nI_add _ _) ?_)
            refine qx_K_le (ls := [.ref 160, .int (nI (q_wo lf (2 ^ p ||| zz))), .int (nI (p + 1)), .retAddr 0]) ⟨Or.inr rfl, Or.inr rfl, Or.inr rfl, Or.inl rfl, trivial⟩ ?_
            exact caseF (fun z => h79 (Int32.toInt_inj.mp (by rw [kB1, kB2, z]))) _ ((aft _ eσ1).2.2.tr fρ) tρ
        · skip
          have h55 := nI_eqT (a := (lf / 2 ^ p) &&& 1) (b := 0) (by omega) (by decide) h55
          exact absurd h55 hbn
    · have hbn : lf / 2 ^ p &&& 1 = 0 := by
        rcases Nat.eq_zero_or_pos (lf / 2 ^ p &&& 1) with z | z
        · exact z
        · exact absurd (q_tb.mp (by omega)) hb
      have nx : qx_K G qc_T 5 RX3 YX3_choose 36 [.ref 160, .int (nI lf), .int (nI (p + 1)), .retAddr 0] [] σ (fun r s => r = none ∧ ql kTr σ0 s ∧ bX s S rf ly e k rg M ∧ tkC s (s_n S 1) T) := by
        by_cases sb : sr.testBit p = true
        · have na : ¬ M.2.2.2.testBit p = true := fun z => hb ((lfb p).mpr ⟨sb, z⟩)
          obtain ⟨slo, s0⟩ := q_lo_min (s := sr) (by omega) sb
          obtain ⟨l1, l2, l3⟩ := q_lo_ok (s := sr) s0 (by omega)
          have ep : p = q_lo sr := by have := (hs _ l1).1; omega
          have dm := q_Dm (can := q_cn S rf ly) hpe k4 hg s0 srl
          rw [← ep] at dm
          have eD := q_D_s (rf := rf) (ly := ly) (k := k) srl
          have hc : (q_D S rf ly k sr).2.2 % 8 = 0 := by
            rw [eD]
            rcases dm.2.2 with w | ⟨w1, o, w2, w3⟩
            · rw [w]; rfl
            · have r1 := ((q_o2_RG k4 hp).mp (List.mem_of_find?_eq_some w2)).1
              exact absurd (hX.aO _ _ _ _ _ r1 p (q_RG_p r1).1) na
          have hT2 := q_fw_skip (t := t) (by omega) s0 hc
          rw [← ep] at hT2
          have e2 : q_wo sr (2 ^ p) &&& M.2.2.2 = sr &&& M.2.2.2 := by
            apply Nat.eq_of_testBit_eq
            intro i
            rw [Nat.testBit_and, Nat.testBit_and, q_wo_bit, q_bit1]
            by_cases y : p = i
            · rw [← y, Bool.eq_false_iff.mpr na, Bool.and_false, Bool.and_false]
            · rw [decide_eq_false y, Bool.not_false, Bool.and_true]
          have z := ih (p + 1) σ (q_wo sr (2 ^ p)) t (by omega) hX hK hf ht (fun i hi => by
            rw [q_wo_bit, q_bit1, Bool.and_eq_true, Bool.not_eq_true'] at hi
            have h1 := hs i hi.1
            have h2 := of_decide_eq_false hi.2
            omega) (hT2.symm.trans hT) (by rw [e2]; exact hJ)
          rw [e2, ← elf] at z
          exact z
        · have z := ih (p + 1) σ sr t (by omega) hX hK hf ht (fun i hi => by
            have h1 := hs i hi
            have : i ≠ p := fun z => sb (by rw [← z]; exact hi)
            omega) hT hJ
          rw [← elf] at z
          exact z
      refine qy_wp_ok (c := CX3_choose) (cuts := [36, 61]) vX3_choose wX3_choose 2000 36 _ _ _ ?_
      refine And.intro rfl (Exists.intro 156 (And.intro rfl ?_))
      refine And.intro rfl (Exists.intro 16 (And.intro rfl ?_))
      refine And.intro rfl (Exists.intro 5 (Exists.intro (nI (s_n S 1)) (And.intro rfl (And.intro e5 ?_))))
      refine And.intro (fun h47 => ?_) (fun h47 => ?_)
      · skip
        have h47 := nI_leT (a := s_n S 1) (b := p) (by omega) (by omega) h47
        exact absurd h47 (by omega)
      · skip
        have h47 := nI_leF (a := s_n S 1) (b := p) (by omega) (by omega) h47
        refine Exists.intro (nI (lf / 2 ^ p)) (And.intro (nI_shr (by omega) (by omega)) ?_)
        refine Exists.intro (nI 1) (And.intro rfl ?_)
        refine Exists.intro (nI ((lf / 2 ^ p) &&& 1)) (And.intro (nI_and _ _) ?_)
        refine And.intro (fun h55 => ?_) (fun h55 => ?_)
        · skip
          have h55 := nI_neT (a := (lf / 2 ^ p) &&& 1) (b := 0) (by omega) (by decide) h55
          exact absurd hbn h55
        · skip
          have h55 := nI_eqT (a := (lf / 2 ^ p) &&& 1) (b := 0) (by omega) (by decide) h55
          refine Exists.intro (nI (p + 1)) (And.intro (nI_add _ _) ?_)
          exact nx
theorem l_ch0 {G : qx_G} {σ0 : qx_S} {S : qS} {rf : Option qR} {e : Nat} {Φ : qx_F} (key : ∀ s, cI s S rf e → ql [(161, none)] σ0 s → tkC s (s_n S 1) (fun i => i) → qx_K G qc_T 5 RX3 YX3_choose 29 [.ref 160, .retAddr 0, .retAddr 0, .retAddr 0] [] s Φ) : ∀ (m p : Nat) (σ : qx_S), m + p = s_n S 1 → cI σ S rf e → ql [(161, none)] σ0 σ → (∀ i, i < p → qx_mi σ 161 i = nI i) → qx_K G qc_T 5 RX3 YX3_choose 2 [.ref 160, .int (nI p), .retAddr 0, .retAddr 0] [] σ Φ := by
  intro m
  induction m with
  | zero =>
    intro p σ hm hI hf h1
    have hpe := hI.1.pe
    have e5 := hI.2.1.1.2.1.trans hI.1.1.2.1.2.1.1
    rw [show p = s_n S 1 by omega] at h1 ⊢
    refine qy_wp_ok (c := CX3_choose) (cuts := [2, 29]) vX3_choose wX3_choose 2000 2 _ _ _ ?_
    refine And.intro rfl (Exists.intro 156 (And.intro rfl ?_))
    refine And.intro rfl (Exists.intro 16 (And.intro rfl ?_))
    refine And.intro rfl (Exists.intro 5 (Exists.intro (nI (s_n S 1)) (And.intro rfl (And.intro e5 ?_))))
    refine And.intro (fun h13 => ?_) (fun h13 => ?_)
    · skip
      have h13 := nI_leT (a := s_n S 1) (b := s_n S 1) (by omega) (by omega) h13
      refine qx_K_le (ls := [.ref 160, .retAddr 0, .retAddr 0, .retAddr 0]) ⟨Or.inr rfl, Or.inl rfl, Or.inr rfl, Or.inr rfl, trivial⟩ ?_
      exact key _ hI hf h1
    · skip
      have h13 := nI_leF (a := s_n S 1) (b := s_n S 1) (by omega) (by omega) h13
      exact absurd h13 (by omega)
  | succ m ih =>
    intro p σ hm hI hf h1
    have hpe := hI.1.pe
    have e5 := hI.2.1.1.2.1.trans hI.1.1.2.1.2.1.1
    refine qy_wp_ok (c := CX3_choose) (cuts := [2, 29]) vX3_choose wX3_choose 2000 2 _ _ _ ?_
    refine And.intro rfl (Exists.intro 156 (And.intro rfl ?_))
    refine And.intro rfl (Exists.intro 16 (And.intro rfl ?_))
    refine And.intro rfl (Exists.intro 5 (Exists.intro (nI (s_n S 1)) (And.intro rfl (And.intro e5 ?_))))
    refine And.intro (fun h13 => ?_) (fun h13 => ?_)
    · skip
      have h13 := nI_leT (a := s_n S 1) (b := p) (by omega) (by omega) h13
      exact absurd h13 (by omega)
    · skip
      have h13 := nI_leF (a := s_n S 1) (b := p) (by omega) (by omega) h13
      refine And.intro rfl (Exists.intro 161 (And.intro rfl ?_))
      obtain ⟨σ1, eσ1⟩ : ∃ zs, zs = (qx_wi σ 161 p (nI p)) := ⟨_, rfl⟩
      have fσ1 := qn_wi eσ1
      refine Exists.intro (p) (Exists.intro σ1 (And.intro rfl (And.intro ⟨10, rfl, by omega, by decide⟩ (And.intro eσ1.symm ?_))))
      refine Exists.intro (nI (p + 1)) (And.intro (nI_add _ _) ?_)
      refine ih (p + 1) _ (by omega) (hI.fr fσ1 rfl rfl) (hf.tr fσ1) (fun i hi => ?_)
      by_cases z : i = p
      · rw [z]; exact qn_eq eσ1
      · exact (qn_ne eσ1 (Or.inr z)).trans (h1 i (by omega))
theorem c_choose {G : qx_G} {σ : qx_S} {S : qS} {rf : Option qR} {ly : Option (Nat × Nat)} {e k : Nat} {rg : Nat → Nat} {M : q_Mt} (hX : bX σ S rf ly e k rg M) (hK : q_KB σ S rf ly k M.2.2.2 0) : qx_M G qc_T 5 YX3_choose [.ref 160] σ (fun r s => r = none ∧ ql kTr σ s ∧ bX s S rf ly e k rg M ∧ tkC s (s_n S 1) (q_tk S rf ly k)) := by
  have hpe := hX.1.1.1.pe
  have h1024 : 2 ^ s_n S 1 ≤ 1024 := Nat.pow_le_pow_right (by decide) hpe
  have fu : (2 ^ s_n S 1 - 1) &&& M.2.2.2 = M.2.2.2 := by
    apply Nat.eq_of_testBit_eq
    intro i
    rw [Nat.testBit_and, Nat.testBit_two_pow_sub_one]
    cases h : M.2.2.2.testBit i with
    | false => exact Bool.and_false _
    | true => rw [decide_eq_true (hX.act i h)]; rfl
  have k29 : ∀ s, cI s S rf e → ql [(161, none)] σ s → tkC s (s_n S 1) (fun i => i) → qx_K G qc_T 5 RX3 YX3_choose 29 [.ref 160, .retAddr 0, .retAddr 0, .retAddr 0] [] s (fun r s => r = none ∧ ql kTr σ s ∧ bX s S rf ly e k rg M ∧ tkC s (s_n S 1) (q_tk S rf ly k)) := by
    intro s i1 f1 t1
    have f : ql kTr σ s := f1.mn rfl
    have lo := l_cho (G := G) (σ0 := σ) (T := q_tk S rf ly k) (s_n S 1) 0 s (2 ^ s_n S 1 - 1) (fun i => i) (by omega) (hX.tr f) (hK.tr f) f t1 (fun i hi => by
      rw [Nat.testBit_two_pow_sub_one] at hi
      exact ⟨Nat.zero_le _, of_decide_eq_true hi⟩) rfl (Or.inl fu)
    rw [fu] at lo
    refine qy_wp_ok (c := CX3_choose) (cuts := [36]) vX3_choose wX3_choose 2000 29 _ _ _ ?_
    refine And.intro rfl (Exists.intro 16 (Exists.intro (nI M.2.2.2) (And.intro rfl (And.intro ((hX.tr f).2.2.1.2.2.2) ?_))))
    refine Exists.intro (nI 0) (And.intro rfl ?_)
    exact lo
  refine qx_M_in rfl (Nat.le_of_ble_eq_true rfl) ?_
  refine qy_wp_ok (c := CX3_choose) (cuts := [2]) vX3_choose wX3_choose 2000 0 _ _ _ ?_
  refine Exists.intro (nI 0) (And.intro rfl ?_)
  exact l_ch0 k29 (s_n S 1) 0 σ (by omega) hX.1.1 qf.rf (fun i hi => absurd hi (Nat.not_lt_zero i))

