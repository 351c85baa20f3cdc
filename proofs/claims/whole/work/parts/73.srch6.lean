/-! THE REFERENCE: searches, loops -/
def gR (S : qS) (go : Option (Nat × Nat)) (gp gq : Int32) : Prop := match go with
  | none => gp < 0
  | some x => gp = nI x.1 ∧ gq = nI x.2 ∧ x.1 < s_n S 1 ∧ x.2 < 8
def qI (σ0 : qx_S) (S : qS) (rf : Option qR) (B : q_B) (σ : qx_S) : Prop := ql lQ σ0 σ ∧ (∃ S', mX σ S' rf none ∧ sP S S') ∧ mS σ B ∧ 0 < B.1 ∧ ∀ i, i < B.1 → q_vd S (q_co B i)
theorem qI.ap {σ0 σ s : qx_S} {S S' : qS} {rf : Option qR} {B : q_B} {e : q_E} (hf : ql lQ σ0 σ) (hX : mX σ S' rf none) (hs : sP S S') (f : ql lS σ s) (hB : mS s (q_ap B e)) (hv : ∀ i, i < B.1 → q_vd S (q_co B i)) (he : q_vd S e.1) : qI σ0 S rf (q_ap B e) s := by
  refine ⟨hf.tr (f.mn (by decide)), ⟨S', hX.fr f rfl, hs⟩, hB, Nat.succ_pos _, fun i hi => ?_⟩
  have hi' : i < B.1 + 1 := hi
  rw [q_co_ap]
  by_cases z : i = B.1
  · rw [z, va_up_self]
    exact he
  · rw [va_up_ne _ _ z]
    exact hv i (by omega)
theorem l_ev {G : qx_G} {Φ : qx_F} {σ0 : qx_S} {S : qS} {rf : Option qR} {go : Option (Nat × Nat)} {gp gq : Int32} (g : gS S) (hg : gR S go gp gq) {k a b : Nat} {B : q_B} {σ : qx_S} (hI : qI σ0 S rf B σ) (hle : B.1 ≤ 2000) (hk : k < B.1) (hab : a < b) (hb : b < s_n S 1)
    (hno : ∀ s B', q_ev S rf go k a b B = (B', none) → qI σ0 S rf B' s → B'.1 ≤ 2000 → k < B'.1 → qx_K G qc_T 7 RX12 YX12_searches 176 [.ref 197, .int gp, .int gq, .int (nI k), .int (nI a), .int (nI b), .retAddr 0, .retAddr 0] [] s Φ)
    (hre : ∀ s B' r, q_ev S rf go k a b B = (B', some r) → qI σ0 S rf B' s → Φ (some (.int r)) s) :
    qx_K G qc_T 7 RX12 YX12_searches 60 [.ref 197, .int gp, .int gq, .int (nI k), .int (nI a), .int (nI b), .retAddr 0, .retAddr 0] [] σ Φ := by
  obtain ⟨hf, ⟨S', hX, hs⟩, hB, h0, hv⟩ := hI
  have h10 := g.2.1.2
  have ha : a < s_n S 1 := by omega
  have hvk := hv k hk
  have hw := q_sw_vd g hvk ha hb
  refine l_evA g hX hs hB hk rfl hvk ha hb (by omega) ?_ ?_
  · intro s S'' f x y z w
    refine hno s B ?_ ⟨hf.tr f, ⟨S'', x, y⟩, z, h0, hv⟩ hle hk
    rcases w with w | w
    · exact q_ev_no w
    · exact q_ev_old w
  · intro s f x z hc hfi
    have hgr : sP S (q_gr (q_two a b) 2 (q_st S (q_co B k))) := (sP.st _).gr ha hb
    have key : qx_K G qc_T 7 RX12 YX12_searches 131 [.ref 197, .int gp, .int gq, .int (nI k), .int (nI a), .int (nI b), .int (nI (q_sw (s_n S 1) (q_co B k) a b)), .int (bI (q_gl1 go (q_sw (s_n S 1) (q_co B k) a b)))] [] s Φ := by
      refine l_evC z h0 hle hk (by omega) (by omega) hw.1 hfi ?_ ?_ ?_
      · intro y1 y2
        exact hre s B _ (q_ev_full hc hfi y1 y2) ⟨hf.tr f, ⟨_, x, hgr⟩, z, h0, hv⟩
      · intro s' y1 y2 y3
        exact hre s' _ _ (q_ev_goal hc hfi y1) (qI.ap (hf.tr f) x hgr y2 y3 hv hw)
      · intro s' y1 y2 y3 y4
        exact hno s' _ (q_ev_new hc hfi y2 y1) (qI.ap (hf.tr f) x hgr y3 y4 hv hw) y2 (Nat.lt_succ_of_lt hk)
    match go, hg, key with
    | none, hg, key => exact l_evB0 hg key
    | some (w, q), hg, key =>
      obtain ⟨rfl, rfl, y1, y2⟩ := hg
      have y1 : w < s_n S 1 := y1
      refine l_evB1 (d := q_sd (q_co B k) a b w) (by omega) y2 (q_sd_lt _ _ _ _) ?_ ?_
      · rw [x.1]
        exact q_gr_st ha hb (by omega) y1
      · have e : q_gl1 (some (w, q)) (q_sw (s_n S 1) (q_co B k) a b) = decide (q_sd (q_co B k) a b w = q) := by
          show decide (q_dg _ w = q) = _
          rw [q_sw_dg y1]
        rw [e] at key
        exact key

