/-! THE CLASS: MOST, what is gained, who changes -/
def q_gs (gn : Nat → Nat → Int32) (t : Nat → Nat) (pe : Nat) : Int32 := q_sum (fun i => gn i (t i)) pe
def q_ns (t : Nat → Nat) : Nat → Nat
  | 0 => 0
  | i + 1 => q_ns t i + (if t i = i then 0 else 1)
theorem q_gs_up {gn : Nat → Nat → Int32} {t : Nat → Nat} {pe x y : Nat} (hx : x < pe) (ht : t x = x) (h0 : gn x x = 0) : q_gs gn (va_up t x y) pe = q_gs gn t pe + gn x y := by
  refine q_sum_add (q := x) pe hx (fun k _ hk => ?_) ?_
  · rw [va_up_ne _ _ hk]
  · rw [va_up_self, ht, h0, Int32.zero_add]
theorem q_ns_cg {t t' : Nat → Nat} : ∀ n, (∀ i, i < n → t' i = t i) → q_ns t' n = q_ns t n
  | 0, _ => rfl
  | n + 1, h => by
    show _ + (if t' n = n then 0 else 1) = _ + (if t n = n then 0 else 1)
    rw [q_ns_cg n (fun i hi => h i (by omega)), h n (by omega)]
theorem q_ns_up {t : Nat → Nat} {x y : Nat} (ht : t x = x) (hy : y ≠ x) : ∀ n, x < n → q_ns (va_up t x y) n = q_ns t n + 1
  | 0, h => absurd h (Nat.not_lt_zero x)
  | n + 1, h => by
    show q_ns (va_up t x y) n + (if va_up t x y n = n then 0 else 1) = q_ns t n + (if t n = n then 0 else 1) + 1
    by_cases z : x = n
    · rw [← z, va_up_self, if_neg hy, ht, if_pos rfl, q_ns_cg x (fun i hi => va_up_ne _ _ (by omega))]
    · rw [va_up_ne _ _ (fun w => z w.symm), q_ns_up ht hy n (by omega)]
      omega
/-- one ring more -/
theorem q_RG_gs {can : Nat → Nat → Nat → Bool} {gn : Nat → Nat → Int32} {pe k p s n num : Nat} {g : Int32} {t : Nat → Nat} (hpe : pe ≤ 10) (h : q_RG can gn pe k p s g n num) (h0 : ∀ x, x < pe → gn x x = 0) (ht : ∀ i, s.testBit i = true → t i = i) : q_gs gn (q_fws num p t) pe = q_gs gn t pe + g ∧ q_ns (q_fws num p t) pe = q_ns t pe + n ∧ ∀ i, s.testBit i = false → q_fws num p t i = t i := by
  rcases h with ⟨hn, b, h1, h2, h3, h4, h5, h6, h7⟩ | ⟨hn, h0', b, c, h1, h2, h3, h4, h5, h6, h7, h8, h9, i1, i2⟩ | ⟨hn, h0', b, c, d, h1, h2, h3, h4, h5, h6, h7, h8, h9, i1, i2, i3, i4, i5, i6, i7⟩
  · rw [h5] at ht ⊢
    have tp := ht p (by rw [q_bit2, decide_eq_true rfl]; rfl)
    have tb := ht b (by rw [q_bit2, decide_eq_true (show b = b from rfl), Bool.or_true])
    have t1 : va_up t p b b = b := (va_up_ne _ _ (by omega)).trans tb
    rw [h7, q_fws2 (by omega), hn, h6]
    refine ⟨?_, ?_, fun i hi => ?_⟩
    · rw [q_gs_up h2 t1 (h0 b h2), q_gs_up (by omega) tp (h0 p (by omega)), Int32.add_assoc]
    · rw [q_ns_up t1 (by omega) pe h2, q_ns_up tp (by omega) pe (by omega)]
    · rw [q_bit2, Bool.or_eq_false_iff] at hi
      rw [va_up_ne _ _ (fun z => of_decide_eq_false hi.2 z.symm), va_up_ne _ _ (fun z => of_decide_eq_false hi.1 z.symm)]
  · rw [h9] at ht ⊢
    have tp := ht p (by rw [q_bit3, decide_eq_true rfl]; rfl)
    have tb := ht b (by rw [q_bit3, decide_eq_true (show b = b from rfl), Bool.or_true, Bool.true_or])
    have tc := ht c (by rw [q_bit3, decide_eq_true (show c = c from rfl), Bool.or_true])
    have t1 : va_up t p b b = b := (va_up_ne _ _ (by omega)).trans tb
    have t2 : va_up (va_up t p b) b c c = c := (va_up_ne _ _ h5).trans ((va_up_ne _ _ (by omega)).trans tc)
    rw [i2, q_fws3 (by omega) (by omega), hn, i1]
    refine ⟨?_, ?_, fun i hi => ?_⟩
    · rw [q_gs_up h4 t2 (h0 c h4), q_gs_up h2 t1 (h0 b h2), q_gs_up (by omega) tp (h0 p (by omega)), Int32.add_assoc, Int32.add_assoc, Int32.add_assoc]
    · rw [q_ns_up t2 (by omega) pe h4, q_ns_up t1 h5 pe h2, q_ns_up tp (by omega) pe (by omega)]
    · rw [q_bit3, Bool.or_eq_false_iff, Bool.or_eq_false_iff] at hi
      rw [va_up_ne _ _ (fun z => of_decide_eq_false hi.2 z.symm), va_up_ne _ _ (fun z => of_decide_eq_false hi.1.2 z.symm), va_up_ne _ _ (fun z => of_decide_eq_false hi.1.1 z.symm)]
  · rw [i5] at ht ⊢
    have tp := ht p (by rw [q_bit4, decide_eq_true rfl]; rfl)
    have tb := ht b (by rw [q_bit4, decide_eq_true (show b = b from rfl), Bool.or_true, Bool.true_or, Bool.true_or])
    have tc := ht c (by rw [q_bit4, decide_eq_true (show c = c from rfl), Bool.or_true, Bool.true_or])
    have td := ht d (by rw [q_bit4, decide_eq_true (show d = d from rfl), Bool.or_true])
    have t1 : va_up t p b b = b := (va_up_ne _ _ (by omega)).trans tb
    have t2 : va_up (va_up t p b) b c c = c := (va_up_ne _ _ h5).trans ((va_up_ne _ _ (by omega)).trans tc)
    have t3 : va_up (va_up (va_up t p b) b c) c d d = d := (va_up_ne _ _ h9).trans ((va_up_ne _ _ h8).trans ((va_up_ne _ _ (by omega)).trans td))
    rw [i7, q_fws4 (by omega) (by omega) (by omega), hn, i6]
    refine ⟨?_, ?_, fun i hi => ?_⟩
    · rw [q_gs_up h7 t3 (h0 d h7), q_gs_up h4 t2 (h0 c h4), q_gs_up h2 t1 (h0 b h2), q_gs_up (by omega) tp (h0 p (by omega))]
      simp only [Int32.add_assoc]
    · rw [q_ns_up t3 (by omega) pe h7, q_ns_up t2 h9 pe h4, q_ns_up t1 h5 pe h2, q_ns_up tp (by omega) pe (by omega)]
    · rw [q_bit4, Bool.or_eq_false_iff, Bool.or_eq_false_iff, Bool.or_eq_false_iff] at hi
      rw [va_up_ne _ _ (fun z => of_decide_eq_false hi.2 z.symm), va_up_ne _ _ (fun z => of_decide_eq_false hi.1.2 z.symm), va_up_ne _ _ (fun z => of_decide_eq_false hi.1.1.2 z.symm), va_up_ne _ _ (fun z => of_decide_eq_false hi.1.1.1 z.symm)]
theorem q_tk_sum {S : qS} {rf : Option qR} {ly : Option (Nat × Nat)} {k : Nat} (hpe : s_n S 1 ≤ 10) (hk : k ≤ 4) (hg : q_gB (q_gn S rf ly) (s_n S 1)) : ∀ (s : Nat) (t : Nat → Nat), s < 2 ^ s_n S 1 → (∀ i, s.testBit i = true → t i = i) → q_gs (q_gn S rf ly) (q_fwc (fun s => (q_D S rf ly k s).2.2) s s t) (s_n S 1) = q_gs (q_gn S rf ly) t (s_n S 1) + (q_D S rf ly k s).1 ∧ q_ns (q_fwc (fun s => (q_D S rf ly k s).2.2) s s t) (s_n S 1) = q_ns t (s_n S 1) + (q_D S rf ly k s).2.1 := by
  have h1024 : 2 ^ s_n S 1 ≤ 1024 := Nat.pow_le_pow_right (by decide) hpe
  have g0 : ∀ x, x < s_n S 1 → q_gn S rf ly x x = 0 := fun x _ => by
    unfold q_gn
    exact Int32.sub_self _
  intro s
  induction s using Nat.strongRecOn with
  | _ s ih =>
    intro t hs ht
    rcases Nat.eq_zero_or_pos s with h0 | h0
    · subst h0
      rw [q_D_s hs, q_Ds_0]
      exact ⟨(Int32.add_zero _).symm, rfl⟩
    · obtain ⟨l1, l2, l3⟩ := q_lo_ok (s := s) h0 (by omega)
      have lp := q_tb_lt hs l1
      have wl : q_wo s (2 ^ q_lo s) < s := q_wo_lt l1 (by rw [q_bit1]; exact decide_eq_true rfl)
      have dm := (q_Dm (can := q_cn S rf ly) hpe hk hg h0 hs).2.2
      rw [← q_D_s hs] at dm
      rcases dm with w | ⟨w1, o, w2, w3⟩
      · rw [q_fw_skip (by omega) h0 (by rw [w]; rfl)]
        have k1 := ih _ wl t (by omega) (fun i hi => ht i (by rw [q_wo_bit, Bool.and_eq_true] at hi; exact hi.1))
        rw [q_D_s (show q_wo s (2 ^ q_lo s) < 2 ^ s_n S 1 by omega)] at k1
        rw [w]
        exact k1
      · have r1 := (q_o2_RG hk lp).mp (List.mem_of_find?_eq_some w2)
        have rp := q_RG_p r1.1
        have sub : ∀ i, o.1.testBit i = true → s.testBit i = true := fun i hi => (r1.2 i hi).elim (fun z => by rw [z]; exact l1) id
        have wo : q_wo s o.1 < s := q_wo_lt l1 rp.1
        have rw1 := q_RG_fwl hpe r1.1
        have ch : (q_D S rf ly k s).2.2 = o.2.2.2 := by rw [w3]
        rw [q_fw_take (by omega) h0 (by rw [ch]; exact rw1.2), ch, rw1.1]
        obtain ⟨a1, a2, a3⟩ := q_RG_gs (t := t) hpe r1.1 g0 (fun i hi => ht i (sub i hi))
        have k1 := ih _ wo (q_fws o.2.2.2 (q_lo s) t) (by omega) (fun i hi => by
          rw [q_wo_bit, Bool.and_eq_true, Bool.not_eq_true'] at hi
          rw [a3 i hi.2]
          exact ht i hi.1)
        rw [q_D_s (show q_wo s o.1 < 2 ^ s_n S 1 by omega)] at k1
        rw [k1.1, k1.2, a1, a2, w3]
        exact ⟨Int32.add_assoc .., by dsimp only; omega⟩
theorem q_tk_all {S : qS} {rf : Option qR} {ly : Option (Nat × Nat)} {k : Nat} (hpe : s_n S 1 ≤ 10) (hk : k ≤ 4) (hg : q_gB (q_gn S rf ly) (s_n S 1)) : q_gs (q_gn S rf ly) (q_tk S rf ly k) (s_n S 1) = (q_D S rf ly k (2 ^ s_n S 1 - 1)).1 ∧ q_ns (q_tk S rf ly k) (s_n S 1) = (q_D S rf ly k (2 ^ s_n S 1 - 1)).2.1 := by
  have hp : 0 < 2 ^ s_n S 1 := Nat.two_pow_pos _
  have z := q_tk_sum (k := k) hpe hk hg (2 ^ s_n S 1 - 1) (fun i => i) (by omega) (fun _ _ => rfl)
  have z1 : q_gs (q_gn S rf ly) (fun i => i) (s_n S 1) = 0 := by
    have : ∀ n, q_sum (fun i => q_gn S rf ly i i) n = 0 := by
      intro n
      induction n with
      | zero => rfl
      | succ n ihn =>
        show q_sum (fun i => q_gn S rf ly i i) n + q_gn S rf ly n n = 0
        rw [ihn, show q_gn S rf ly n n = 0 from Int32.sub_self _]
        rfl
    exact this _
  have z2 : q_ns (fun i => i) (s_n S 1) = 0 := by
    have : ∀ n, q_ns (fun i => i) n = 0 := by
      intro n
      induction n with
      | zero => rfl
      | succ n ihn =>
        show q_ns (fun i => i) n + (if n = n then 0 else 1) = 0
        rw [ihn, if_pos rfl]
    exact this _
  rw [z1, z2, Int32.zero_add, Nat.zero_add] at z
  exact z
theorem l_gained {G : qx_G} {σ : qx_S} {S : qS} {rf : Option qR} {e : Nat} {t : Nat → Nat} (hI : cI σ S rf e) (hg : gA σ S rf none) (ht : tkC σ (s_n S 1) t) (hl : ∀ i, i < s_n S 1 → t i < s_n S 1) : ∀ (m p : Nat), m + p = s_n S 1 → qx_K G qc_T 0 RX3 YX3_gained 4 [.ref 160, .int (q_gs (q_gn S rf none) t p), .int (nI p)] [] σ (qr (q_gs (q_gn S rf none) t (s_n S 1)) σ) := by
  have hpe := hI.1.pe
  have e5 := hI.2.1.1.2.1.trans hI.1.1.2.1.2.1.1
  intro m
  induction m with
  | zero =>
    intro p hm
    obtain rfl : p = s_n S 1 := by omega
    refine qy_wp_ok (c := CX3_gained) (cuts := [4]) vX3_gained wX3_gained 2000 4 _ _ _ ?_
    refine And.intro rfl (Exists.intro 156 (And.intro rfl ?_))
    refine And.intro rfl (Exists.intro 16 (And.intro rfl ?_))
    refine And.intro rfl (Exists.intro 5 (Exists.intro (nI (s_n S 1)) (And.intro rfl (And.intro e5 ?_))))
    refine And.intro (fun h15 => ?_) (fun h15 => ?_)
    · skip
      have h15 := nI_leT (a := s_n S 1) (b := s_n S 1) (by omega) (by omega) h15
      exact ⟨rfl, rfl⟩
    · skip
      have h15 := nI_leF (a := s_n S 1) (b := s_n S 1) (by omega) (by omega) h15
      exact absurd h15 (by omega)
  | succ m ih =>
    intro p hm
    have hp : p < s_n S 1 := by omega
    have tp := hl p hp
    have z := ih (p + 1) (by omega)
    have st : q_gs (q_gn S rf none) t (p + 1) = q_gs (q_gn S rf none) t p + q_gn S rf none p (t p) := rfl
    rw [st] at z
    refine qy_wp_ok (c := CX3_gained) (cuts := [4]) vX3_gained wX3_gained 2000 4 _ _ _ ?_
    refine And.intro rfl (Exists.intro 156 (And.intro rfl ?_))
    refine And.intro rfl (Exists.intro 16 (And.intro rfl ?_))
    refine And.intro rfl (Exists.intro 5 (Exists.intro (nI (s_n S 1)) (And.intro rfl (And.intro e5 ?_))))
    refine And.intro (fun h15 => ?_) (fun h15 => ?_)
    · skip
      have h15 := nI_leT (a := s_n S 1) (b := p) (by omega) (by omega) h15
      exact absurd h15 (by omega)
    · skip
      have h15 := nI_leF (a := s_n S 1) (b := p) (by omega) (by omega) h15
      refine And.intro rfl (Exists.intro 168 (And.intro rfl ?_))
      refine Exists.intro (nI 10) (And.intro rfl ?_)
      refine Exists.intro (nI (p * 10)) (And.intro (pk_mul _ _) ?_)
      refine And.intro rfl (Exists.intro 161 (And.intro rfl ?_))
      refine Exists.intro (p) (Exists.intro (nI (t p)) (And.intro rfl (And.intro ⟨10, rfl, by omega, by decide⟩ (And.intro (ht p hp) ?_))))
      refine Exists.intro (nI (p * 10 + (t p))) (And.intro (nI_add _ _) ?_)
      refine Exists.intro (p * 10 + (t p)) (Exists.intro (q_gn S rf none p (t p)) (And.intro rfl (And.intro ⟨100, rfl, by omega, by decide⟩ (And.intro (hg p (t p) hp tp) ?_))))
      refine Exists.intro ((q_gs (q_gn S rf none) t p) + (q_gn S rf none p (t p))) (And.intro rfl ?_)
      refine Exists.intro (nI (p + 1)) (And.intro (nI_add _ _) ?_)
      exact z
theorem l_changing {G : qx_G} {σ : qx_S} {S : qS} {rf : Option qR} {e : Nat} {t : Nat → Nat} (hI : cI σ S rf e) (ht : tkC σ (s_n S 1) t) (hl : ∀ i, i < s_n S 1 → t i < s_n S 1) : ∀ (m p : Nat), m + p = s_n S 1 → qx_K G qc_T 0 RX3 YX3_changing 4 [.ref 160, .int (nI (q_ns t p)), .int (nI p)] [] σ (qr (nI (q_ns t (s_n S 1))) σ) := by
  have hpe := hI.1.pe
  have e5 := hI.2.1.1.2.1.trans hI.1.1.2.1.2.1.1
  intro m
  induction m with
  | zero =>
    intro p hm
    obtain rfl : p = s_n S 1 := by omega
    refine qy_wp_ok (c := CX3_changing) (cuts := [4]) vX3_changing wX3_changing 2000 4 _ _ _ ?_
    refine And.intro rfl (Exists.intro 156 (And.intro rfl ?_))
    refine And.intro rfl (Exists.intro 16 (And.intro rfl ?_))
    refine And.intro rfl (Exists.intro 5 (Exists.intro (nI (s_n S 1)) (And.intro rfl (And.intro e5 ?_))))
    refine And.intro (fun h15 => ?_) (fun h15 => ?_)
    · skip
      have h15 := nI_leT (a := s_n S 1) (b := s_n S 1) (by omega) (by omega) h15
      exact ⟨rfl, rfl⟩
    · skip
      have h15 := nI_leF (a := s_n S 1) (b := s_n S 1) (by omega) (by omega) h15
      exact absurd h15 (by omega)
  | succ m ih =>
    intro p hm
    have hp : p < s_n S 1 := by omega
    have tp := hl p hp
    have z := ih (p + 1) (by omega)
    have st : q_ns t (p + 1) = q_ns t p + (if t p = p then 0 else 1) := rfl
    rw [st] at z
    refine qy_wp_ok (c := CX3_changing) (cuts := [4]) vX3_changing wX3_changing 2000 4 _ _ _ ?_
    refine And.intro rfl (Exists.intro 156 (And.intro rfl ?_))
    refine And.intro rfl (Exists.intro 16 (And.intro rfl ?_))
    refine And.intro rfl (Exists.intro 5 (Exists.intro (nI (s_n S 1)) (And.intro rfl (And.intro e5 ?_))))
    refine And.intro (fun h15 => ?_) (fun h15 => ?_)
    · skip
      have h15 := nI_leT (a := s_n S 1) (b := p) (by omega) (by omega) h15
      exact absurd h15 (by omega)
    · skip
      have h15 := nI_leF (a := s_n S 1) (b := p) (by omega) (by omega) h15
      refine And.intro rfl (Exists.intro 161 (And.intro rfl ?_))
      refine Exists.intro (p) (Exists.intro (nI (t p)) (And.intro rfl (And.intro ⟨10, rfl, by omega, by decide⟩ (And.intro (ht p hp) ?_))))
      refine And.intro (fun h25 => ?_) (fun h25 => ?_)
      · skip
        have h25 := nI_eqT (a := t p) (b := p) (by omega) (by omega) h25
        refine Exists.intro (nI (p + 1)) (And.intro (nI_add _ _) ?_)
        first | (rw [if_pos h25, Nat.add_zero] at z; exact z) | (rw [if_neg h25] at z; exact z)
      · skip
        have h25 := nI_neT (a := t p) (b := p) (by omega) (by omega) h25
        refine Exists.intro (nI (q_ns t p + 1)) (And.intro (nI_add _ _) ?_)
        refine Exists.intro (nI (p + 1)) (And.intro (nI_add _ _) ?_)
        first | (rw [if_neg h25] at z; exact z) | (rw [if_pos h25, Nat.add_zero] at z; exact z)
theorem c_gained {G : qx_G} {σ : qx_S} {S : qS} {rf : Option qR} {e : Nat} {t : Nat → Nat} (hI : cI σ S rf e) (hg : gA σ S rf none) (ht : tkC σ (s_n S 1) t) (hl : ∀ i, i < s_n S 1 → t i < s_n S 1) : qx_M G qc_T 0 YX3_gained [.ref 160] σ (qr (q_gs (q_gn S rf none) t (s_n S 1)) σ) := by
  refine qx_M_in rfl (Nat.le_of_ble_eq_true rfl) ?_
  refine qy_wp_ok (c := CX3_gained) (cuts := [4]) vX3_gained wX3_gained 2000 0 _ _ _ ?_
  refine Exists.intro (nI 0) (And.intro rfl ?_)
  refine Exists.intro (nI 0) (And.intro rfl ?_)
  exact l_gained hI hg ht hl (s_n S 1) 0 (by omega)
theorem c_changing {G : qx_G} {σ : qx_S} {S : qS} {rf : Option qR} {e : Nat} {t : Nat → Nat} (hI : cI σ S rf e) (ht : tkC σ (s_n S 1) t) (hl : ∀ i, i < s_n S 1 → t i < s_n S 1) : qx_M G qc_T 0 YX3_changing [.ref 160] σ (qr (nI (q_ns t (s_n S 1))) σ) := by
  refine qx_M_in rfl (Nat.le_of_ble_eq_true rfl) ?_
  refine qy_wp_ok (c := CX3_changing) (cuts := [4]) vX3_changing wX3_changing 2000 0 _ _ _ ?_
  refine Exists.intro (nI 0) (And.intro rfl ?_)
  refine Exists.intro (nI 0) (And.intro rfl ?_)
  exact l_changing hI ht hl (s_n S 1) 0 (by omega)
abbrev kMn : List (Nat × Option Nat) := kMo ++ kLn
theorem cMs.fr {σ s : qx_S} {S : qS} {rf : Option qR} {e : Nat} {l : List (Nat × Option Nat)} (h : cMs σ S rf e) (f : ql l σ s) (h1 : ∀ x j, (160 ≤ x ∧ x ≤ 161) ∨ (165 ≤ x ∧ x ≤ 170) → pL l x j = false) : cMs s S rf e := by
  obtain ⟨a, b, ku, es, k1, k2, k3, k4, k5⟩ := h
  exact ⟨a.fr f (fun j => h1 _ _ (by omega)) (fun j => h1 _ _ (by omega)), b.fr f (fun j => h1 _ _ (by omega)) (fun j => h1 _ _ (by omega)) (h1 _ _ (by omega)) (h1 _ _ (by omega)), ku, es, k1, (f.i _ _ (h1 _ _ (by omega))).trans k2, (f.i _ _ (h1 _ _ (by omega))).trans k3, k4, fun z => ⟨(k5 z).1, fun i hi => (f.i _ _ (h1 _ _ (by omega))).trans ((k5 z).2.1 i hi), (k5 z).2.2.fr f (fun j => h1 _ _ (by omega))⟩⟩
theorem c_most_no {G : qx_G} {σ : qx_S} {S : qS} {rf : Option qR} {e : Nat} (hI : cI σ S rf e) {k w : Int32} (hb : (decide (0 < s_n S 0) && q_in64 k.toInt64 (lN 2) (lN 4) && q_in64 w.toInt64 (lN 0) (lN 1)) = false) : qx_M G qc_T 9 YX11_most [.ref 3, .int k, .int w] σ (qr (-1) σ) := by
  refine qx_M_in rfl (Nat.le_of_ble_eq_true rfl) ?_
  refine qy_wp_ok (c := CX11_most) (cuts := []) vX11_most wX11_most 2000 0 _ _ _ ?_
  refine And.intro rfl (Exists.intro _ (And.intro (by decide) (qx_M_mono (c_hasCountry hI.2.1.1 hI.1.1.2.1.1.1 hI.1.1.2.1.1.2) ?_)))
  rintro _ _ ⟨rfl, rfl⟩
  refine And.intro (fun h4 => ?_) (fun h4 => ?_)
  · skip
    have h4 := bI_f h4
    refine Exists.intro ((-1)) (And.intro (by decide) ?_)
    exact ⟨rfl, rfl⟩
  · skip
    have h4 := bI_t h4
    refine Exists.intro (nI 2) (And.intro rfl ?_)
    refine And.intro (fun h9 => ?_) (fun h9 => ?_)
    · skip
      refine Exists.intro ((-1)) (And.intro (by decide) ?_)
      exact ⟨rfl, rfl⟩
    · skip
      refine Exists.intro (nI 4) (And.intro rfl ?_)
      refine And.intro (fun h14 => ?_) (fun h14 => ?_)
      · skip
        refine Exists.intro ((-1)) (And.intro (by decide) ?_)
        exact ⟨rfl, rfl⟩
      · skip
        refine And.intro (fun h18 => ?_) (fun h18 => ?_)
        · skip
          refine Exists.intro ((-1)) (And.intro (by decide) ?_)
          exact ⟨rfl, rfl⟩
        · skip
          refine Exists.intro (nI 1) (And.intro rfl ?_)
          refine And.intro (fun h23 => ?_) (fun h23 => ?_)
          · skip
            exfalso; rw [h4, q_in_iff k (by decide) (by decide), q_in_iff w (by decide) (by decide), decide_eq_true ⟨Int32.not_lt.mp h9, Int32.not_lt.mp h14⟩, decide_eq_true (show nI 0 ≤ w ∧ w ≤ nI 1 from ⟨Int32.not_lt.mp h18, h23⟩)] at hb
            cases hb
          · skip
            refine Exists.intro ((-1)) (And.intro (by decide) ?_)
            exact ⟨rfl, rfl⟩
theorem c_most_ok {G : qx_G} {σ : qx_S} {S : qS} {rf : Option qR} {e : Nat} (hI : cI σ S rf e) (hL : cLk σ S rf e) (hS : cMs σ S rf e) (hc : 0 < s_n S 0) {k w : Nat} (hk2 : 2 ≤ k) (hk4 : k ≤ 4) (hw : w ≤ 1) : qx_M G qc_T 9 YX11_most [.ref 3, .int (nI k), .int (nI w)] σ (fun r s => r = some (.int (if w = 0 then (q_D S rf none k (2 ^ s_n S 1 - 1)).1 else nI (q_D S rf none k (2 ^ s_n S 1 - 1)).2.1)) ∧ ql kMn σ s ∧ cI s S rf e ∧ cLk s S rf e ∧ cMs s S rf e) := by
  have hpe := hI.1.pe
  have hg : q_gB (q_gn S rf none) (s_n S 1) := fun a b ha hb => q_gn_b hI.1.1 ha hb
  have sums := q_tk_all (rf := rf) (ly := none) (k := k) hpe hk4 hg
  have hl : ∀ i, i < s_n S 1 → q_tk S rf none k i < s_n S 1 := q_tk_lt hpe
  rw [← sums.1, ← sums.2]
  obtain ⟨v, ev⟩ : ∃ v, v = q_gs (q_gn S rf none) (q_tk S rf none k) (s_n S 1) := ⟨_, rfl⟩
  obtain ⟨u, eu⟩ : ∃ u, u = q_ns (q_tk S rf none k) (s_n S 1) := ⟨_, rfl⟩
  rw [← ev, ← eu]
  have cg : ∀ s, cI s S rf e → gA s S rf none → tkC s (s_n S 1) (q_tk S rf none k) → qx_M G qc_T 0 YX3_gained [.ref 160] s (qr v s) := fun s a b c => by rw [ev]; exact c_gained a b c hl
  have cc : ∀ s, cI s S rf e → tkC s (s_n S 1) (q_tk S rf none k) → qx_M G qc_T 0 YX3_changing [.ref 160] s (qr (nI u) s) := fun s a c => by rw [eu]; exact c_changing a c hl
  refine qx_M_in rfl (Nat.le_of_ble_eq_true rfl) ?_
  refine qy_wp_ok (c := CX11_most) (cuts := []) vX11_most wX11_most 2000 0 _ _ _ ?_
  refine And.intro rfl (Exists.intro _ (And.intro (by decide) (qx_M_mono (c_hasCountry hI.2.1.1 hI.1.1.2.1.1.1 hI.1.1.2.1.1.2) ?_)))
  rintro _ _ ⟨rfl, rfl⟩
  refine And.intro (fun h4 => ?_) (fun h4 => ?_)
  · skip
    have h4 := bI_f h4
    exact absurd (h4.symm.trans (decide_eq_true hc)) (by decide)
  · skip
    have h4 := bI_t h4
    refine Exists.intro (nI 2) (And.intro rfl ?_)
    refine And.intro (fun h9 => ?_) (fun h9 => ?_)
    · skip
      have h9 := nI_ltT (a := k) (b := 2) (by omega) (by decide) h9
      exact absurd h9 (by omega)
    · skip
      have h9 := nI_ltF (a := k) (b := 2) (by omega) (by decide) h9
      refine Exists.intro (nI 4) (And.intro rfl ?_)
      refine And.intro (fun h14 => ?_) (fun h14 => ?_)
      · skip
        have h14 := nI_ltT (a := 4) (b := k) (by decide) (by omega) h14
        exact absurd h14 (by omega)
      · skip
        have h14 := nI_ltF (a := 4) (b := k) (by decide) (by omega) h14
        refine And.intro (fun h18 => ?_) (fun h18 => ?_)
        · skip
          have h18 := nI_ltT (a := w) (b := 0) (by omega) (by decide) h18
          exact absurd h18 (by omega)
        · skip
          have h18 := nI_ltF (a := w) (b := 0) (by omega) (by decide) h18
          refine Exists.intro (nI 1) (And.intro rfl ?_)
          refine And.intro (fun h23 => ?_) (fun h23 => ?_)
          · skip
            have h23 := nI_leT (a := w) (b := 1) (by omega) (by decide) h23
            refine And.intro rfl (Exists.intro 160 (And.intro rfl ?_))
            refine And.intro rfl (Exists.intro _ (And.intro (by decide) (qx_M_mono (c_likesNow hI hL) ?_)))
            rintro _ ρ ⟨rfl, fρ, iρ, aρ, lρ⟩
            refine And.intro rfl (Exists.intro _ (And.intro (by decide) (qx_M_mono (c_settleOnce hk2 hk4 iρ (hS.fr fρ (fun x j h => pL_ne (by simp; omega))) (by decide) rfl aρ) ?_)))
            rintro _ τ ⟨rfl, fτ, iτ, sτ, tτ, gτ⟩
            refine And.intro (fun h41 => ?_) (fun h41 => ?_)
            · skip
              have h41 := nI_neT (a := w) (b := 0) (by omega) (by decide) h41
              refine And.intro rfl (Exists.intro 160 (And.intro rfl ?_))
              refine And.intro rfl (Exists.intro _ (And.intro (by decide) (qx_M_mono (cc _ iτ tτ) ?_)))
              rintro _ _ ⟨rfl, rfl⟩
              first
                | exact ⟨by rw [if_pos h41], (fρ.mn rfl).tr (fτ.mn rfl), iτ, lρ.fr fτ rfl (fun _ => rfl), sτ⟩
                | exact ⟨by rw [if_neg h41], (fρ.mn rfl).tr (fτ.mn rfl), iτ, lρ.fr fτ rfl (fun _ => rfl), sτ⟩
            · skip
              have h41 := nI_eqT (a := w) (b := 0) (by omega) (by decide) h41
              refine And.intro rfl (Exists.intro 160 (And.intro rfl ?_))
              refine And.intro rfl (Exists.intro _ (And.intro (by decide) (qx_M_mono (cg _ iτ gτ tτ) ?_)))
              rintro _ _ ⟨rfl, rfl⟩
              first
                | exact ⟨by rw [if_pos h41], (fρ.mn rfl).tr (fτ.mn rfl), iτ, lρ.fr fτ rfl (fun _ => rfl), sτ⟩
                | exact ⟨by rw [if_neg h41], (fρ.mn rfl).tr (fτ.mn rfl), iτ, lρ.fr fτ rfl (fun _ => rfl), sτ⟩
          · skip
            have h23 := nI_leF (a := w) (b := 1) (by omega) (by decide) h23
            exact absurd h23 (by omega)
theorem c_mostOf_no {G : qx_G} {σ : qx_S} {S : qS} {rf : Option qR} {e : Nat} (hI : cI σ S rf e) {k x : Int32} (hb : (q_is x (s_n S 1) && q_in64 k.toInt64 (lN 2) (lN 4)) = false) : qx_M G qc_T 9 YX11_mostOf [.ref 3, .int k, .int x] σ (qr (-1) σ) := by
  refine qx_M_in rfl (Nat.le_of_ble_eq_true rfl) ?_
  refine qy_wp_ok (c := CX11_mostOf) (cuts := []) vX11_mostOf wX11_mostOf 2000 0 _ _ _ ?_
  refine And.intro rfl (Exists.intro _ (And.intro (by decide) (qx_M_mono (c_isPerson hI.2.1.1 hI.1.1.2.1.2.1.1 x) ?_)))
  rintro _ _ ⟨rfl, rfl⟩
  refine And.intro (fun h5 => ?_) (fun h5 => ?_)
  · skip
    have h5 := bI_f h5
    refine Exists.intro ((-1)) (And.intro (by decide) ?_)
    exact ⟨rfl, rfl⟩
  · skip
    have h5 := bI_t h5
    refine Exists.intro (nI 2) (And.intro rfl ?_)
    refine And.intro (fun h10 => ?_) (fun h10 => ?_)
    · skip
      refine Exists.intro ((-1)) (And.intro (by decide) ?_)
      exact ⟨rfl, rfl⟩
    · skip
      refine Exists.intro (nI 4) (And.intro rfl ?_)
      refine And.intro (fun h15 => ?_) (fun h15 => ?_)
      · skip
        exfalso; rw [h5, q_in_iff k (by decide) (by decide), decide_eq_true ⟨Int32.not_lt.mp h10, h15⟩] at hb
        cases hb
      · skip
        refine Exists.intro ((-1)) (And.intro (by decide) ?_)
        exact ⟨rfl, rfl⟩
theorem c_mostOf_ok {G : qx_G} {σ : qx_S} {S : qS} {rf : Option qR} {e : Nat} (hI : cI σ S rf e) (hL : cLk σ S rf e) (hS : cMs σ S rf e) {k p : Nat} (hk2 : 2 ≤ k) (hk4 : k ≤ 4) (hp : p < s_n S 1) : qx_M G qc_T 9 YX11_mostOf [.ref 3, .int (nI k), .int (nI p)] σ (fun r s => r = some (.int (nI (q_tk S rf none k p))) ∧ ql kMn σ s ∧ cI s S rf e ∧ cLk s S rf e ∧ cMs s S rf e) := by
  have hpe := hI.1.pe
  obtain ⟨v, ev⟩ : ∃ v, v = q_tk S rf none k p := ⟨_, rfl⟩
  rw [← ev]
  refine qx_M_in rfl (Nat.le_of_ble_eq_true rfl) ?_
  refine qy_wp_ok (c := CX11_mostOf) (cuts := []) vX11_mostOf wX11_mostOf 2000 0 _ _ _ ?_
  refine And.intro rfl (Exists.intro _ (And.intro (by decide) (qx_M_mono (c_isPerson hI.2.1.1 hI.1.1.2.1.2.1.1 (nI p)) ?_)))
  rintro _ _ ⟨rfl, rfl⟩
  refine And.intro (fun h5 => ?_) (fun h5 => ?_)
  · skip
    have h5 := bI_f h5
    exact absurd (h5.symm.trans (q_is_ok hp (by omega))) (by decide)
  · skip
    have h5 := bI_t h5
    refine Exists.intro (nI 2) (And.intro rfl ?_)
    refine And.intro (fun h10 => ?_) (fun h10 => ?_)
    · skip
      have h10 := nI_ltT (a := k) (b := 2) (by omega) (by decide) h10
      exact absurd h10 (by omega)
    · skip
      have h10 := nI_ltF (a := k) (b := 2) (by omega) (by decide) h10
      refine Exists.intro (nI 4) (And.intro rfl ?_)
      refine And.intro (fun h15 => ?_) (fun h15 => ?_)
      · skip
        have h15 := nI_leT (a := k) (b := 4) (by omega) (by decide) h15
        refine And.intro rfl (Exists.intro 160 (And.intro rfl ?_))
        refine And.intro rfl (Exists.intro _ (And.intro (by decide) (qx_M_mono (c_likesNow hI hL) ?_)))
        rintro _ ρ ⟨rfl, fρ, iρ, aρ, lρ⟩
        refine And.intro rfl (Exists.intro _ (And.intro (by decide) (qx_M_mono (c_settleOnce hk2 hk4 iρ (hS.fr fρ (fun x j h => pL_ne (by simp; omega))) (by decide) rfl aρ) ?_)))
        rintro _ τ ⟨rfl, fτ, iτ, sτ, tτ, gτ⟩
        refine And.intro rfl (Exists.intro 160 (And.intro rfl ?_))
        refine And.intro rfl (Exists.intro 161 (And.intro rfl ?_))
        refine Exists.intro (p) (Exists.intro (nI v) (And.intro rfl (And.intro ⟨10, rfl, by omega, by decide⟩ (And.intro ((tτ p hp).trans (congrArg nI ev.symm)) ?_))))
        exact ⟨rfl, (fρ.mn rfl).tr (fτ.mn rfl), iτ, lρ.fr fτ rfl (fun _ => rfl), sτ⟩
      · skip
        have h15 := nI_leF (a := k) (b := 4) (by omega) (by decide) h15
        exact absurd h15 (by omega)

