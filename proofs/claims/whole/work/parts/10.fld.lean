/-! FIELDS -/
def qx_tyc (ty : FieldType) (k : Nat) : Bool := match ty with
  | .int => Nat.beq k 0
  | .boolean => Nat.beq k 5
  | .long => Nat.beq k 1
  | .object _ => Nat.beq k 2 || (Nat.beq k 3 || Nat.beq k 4)
  | .array _ => Nat.beq k 2 || (Nat.beq k 3 || Nat.beq k 4)
  | _ => false
/-- what is known of class ci -/
def qx_cf (ci : Nat) (C : String) (T' : u_T) (N : Nat) (ty : Nat → FieldType) : Prop :=
  qx_cls[ci]? = some (C, T', N) ∧ qx_nf ci = N ∧ (∀ w ∈ u_ws C T' N, w ∈ qx_tbl) ∧ (∀ k, k < N → parseFieldDescriptor (T' k).2.2.1 = some (ty k)) ∧ (∀ a, a < N → ∀ b, b < N → a ≠ b → (T' a).2.1 ≠ (T' b).2.1) ∧
  (∀ k, k < N → qx_tyc (ty k) (qx_fk ci k).1 = true ∧ (T' k).2.2.2 = (Nat.beq (qx_fk ci k).1 3 || Nat.beq (qx_fk ci k).1 4))
def qx_fw (own : String) (idx : Nat) (T' : u_T) (k : Nat) : Prop := ∃ ref, (Cond.fieldLink own idx ref (T' k).2.1 (T' k).2.2.1 ∈ qx_tbl ∨ ∃ host, Cond.fieldLinkNest own idx ref (T' k).2.1 (T' k).2.2.1 host ∈ qx_nst) ∧ (ref = (T' k).1 ∨ Cond.sameField ref (T' k).1 (T' k).2.1 (T' k).2.2.1 ∈ qx_tbl)
def qx_fU (own : String) (idx : Nat) (T' : u_T) (k : Nat) : Prop := Cond.fieldLink own idx own (T' k).2.1 (T' k).2.2.1 ∈ qx_tbl ∧ (T' k).1 = own
theorem qx_ft_len : qx_ft.length = 12 := by decide +kernel
theorem qx_cf.lt {ci : Nat} {C : String} {T' : u_T} {N : Nat} {ty : Nat → FieldType} (h : qx_cf ci C T' N ty) : ci < 12 := (List.getElem?_eq_some_iff.mp h.1).1
theorem qx_R.obj {G : qx_G} {T : qx_T} {s : State} {σ : qx_S} {H : Heap} (h : qx_R G T s σ H) {a ci : Nat} (hk : (qx_sh T σ a).1 = 8 + ci) (hc : ci < 12) : 3 ≤ a ∧ a < σ.1 ∧ t_OB (qx_ad G a) ((qx_D G).1 ci) (qx_nf ci) ((qx_D G).2 ci) H (fun k => qx_fv G true σ ci a k) := by
  obtain ⟨g1, g2, g3⟩ := h.2.2.2.2.2.2.2.2 a (Or.inl (by omega))
  refine ⟨g1, g2, ?_⟩
  unfold qx_at at g3
  rw [if_neg (by omega), if_neg (by omega), if_neg (by omega), if_pos (by omega), hk, show 8 + ci - 8 = ci by omega] at g3
  exact g3
theorem qx_R.objU {G : qx_G} {T : qx_T} {s : State} {σ : qx_S} {H : Heap} (h : qx_R G T s σ H) {a ci : Nat} (hk : (qx_sh T σ a).1 = 40 + ci) (hc : ci < 12) : 3 ≤ a ∧ a < σ.1 ∧ t_OB (qx_ad G a) ((qx_D G).1 ci) (qx_nf ci) ((qx_D G).2 ci) H (fun k => qx_fv G false σ ci a k) := by
  obtain ⟨g1, g2, g3⟩ := h.2.2.2.2.2.2.2.2 a (Or.inr (by omega))
  refine ⟨g1, g2, ?_⟩
  unfold qx_at at g3
  rw [if_neg (by omega), if_neg (by omega), if_neg (by omega), if_neg (by omega), if_pos (by omega), hk, show 40 + ci - 40 = ci by omega] at g3
  exact g3
section QF
variable {p : Program} {l : Launch} {e : Env} {R : Room} {s : State} {m : MethodId} {args : Array Value} {below : List Frame} {meth : Method} {c : Code} {H : Heap} {locs : List Loc} {cells slots : Nat} {Q : State → Prop}
variable {G : qx_G} {own : String} {Y : qx_Y} {ci k idx pc : Nat} {C : String} {T' : u_T} {N : Nat} {ty : Nat → FieldType} {a : Nat} {V : Nat → Value} {rest : List Value} {lsA : Array Slot}
theorem qx_getW (hcx : qx_cx own Y p s m args meth c) (hK : va_K (qx_D G) qx_cls (qx_tys G) s) (hn : qx_ne s) (hcf : qx_cf ci C T' N ty) (hk : k < N) (hw : qx_fw own idx T' k) (hO : t_OB a ((qx_D G).1 ci) N ((qx_D G).2 ci) H V)
    (hd : decode Y.2.1 pc = .ok (.getfield idx, 3)) (kk : W p l e R s m args below meth c H locs cells slots Q (F0 m (pc + 3) lsA (V k :: rest))) : W p l e R s m args below meth c H locs cells slots Q (F0 m pc lsA (.ref a :: rest)) := by
  obtain ⟨h1, h2, h3, h4, h5, h6⟩ := hcf
  obtain ⟨ref, hl, hs⟩ := hw
  have hsame : ∀ x, s.fieldFound? (T' k).1 (T' k).2.1 (T' k).2.2.1 = some x → s.fieldFound? ref (T' k).2.1 (T' k).2.2.1 = some x := by
    rcases hs with rfl | hs
    · exact fun _ h => h
    · exact u_same (hcx.2.2.2.2.2.1 _ hs)
  have hP : va_P (qx_D G) qx_cls [(a, .inr (ci, (List.range N).map V))] H := by
    intro i q hq
    cases i with
    | succ i => simp at hq
    | zero =>
      cases hq
      refine ⟨_, h1, hO.to fun j hj => ?_⟩
      have hj : j < N := hj
      simp [vp_V, hj]
  have hv : ((List.range N).map V)[k]? = some (V k) := by simp [hk]
  rcases hl with hl | ⟨host, hl⟩
  · exact va_get hcx.1 hcx.2.1 hcx.2.2.2.2.2.1 h3 hcx.2.2.2.2.1 hK hP 0 rfl h1 k hk (hcx.2.2.2.2.2.1 _ hl) hsame hv hd kk
  · exact va_getN hcx.1 hcx.2.1 hcx.2.2.2.2.2.1 h3 hcx.2.2.2.2.1 hK hP 0 rfl h1 k hk ((hn.1 _ hl).use rfl) hsame hv hd kk
theorem qx_putW (hcx : qx_cx own Y p s m args meth c) (hK : va_K (qx_D G) qx_cls (qx_tys G) s) (hn : qx_ne s) (hcf : qx_cf ci C T' N ty) (hk : k < N) (hw : qx_fw own idx T' k) (hO : t_OB a ((qx_D G).1 ci) N ((qx_D G).2 ci) H V) (hfin : (T' k).2.2.2 = false) {v : Value} (hnv : narrow (ty k) v = v) (hfit : fits (ty k) v = true)
    (hd : decode Y.2.1 pc = .ok (.putfield idx, 3)) (kk : ∀ (H1 : Heap) (i : Nat), t_OB a ((qx_D G).1 ci) N ((qx_D G).2 ci) H1 (updV V k v) → H1.size = H.size → (∀ q, q ≠ a → H1[q]? = H[q]?) → W p l e R s m args below meth c H1 (locs ++ [⟨a, i⟩]) cells slots Q (F0 m (pc + 3) lsA rest)) : W p l e R s m args below meth c H locs cells slots Q (F0 m pc lsA (v :: .ref a :: rest)) := by
  obtain ⟨h1, h2, h3, h4, h5, h6⟩ := hcf
  obtain ⟨ref, hl, hs⟩ := hw
  have hts := hcx.2.2.2.2.2.1
  have hsame : ∀ x, s.fieldFound? (T' k).1 (T' k).2.1 (T' k).2.2.1 = some x → s.fieldFound? ref (T' k).2.1 (T' k).2.2.1 = some x := by
    rcases hs with rfl | hs
    · exact fun _ h => h
    · exact u_same (hts _ hs)
  have hap := va_apart (own := own) hts h3 ty h4 h5 hK h1
  obtain ⟨cell, q1, q2, q3, q4⟩ := hO
  obtain ⟨hS, hfc, kC, hkC, hkind⟩ := hK.1 ci _ h1
  obtain ⟨cf, kf, fi, f, hi, hsl⟩ := hS k hk
  have hlay := hts _ (h3 _ (u_in_lay hk))
  unfold u_lay at hlay
  rw [if_neg (by rw [hfin]; decide)] at hlay
  have hst := (u_facts hfc hkC (u_lays hts h3 hk) hi).1
  have h7 := u_store hfc hkC hkind hlay hi (h4 k hk) hnv hfit
  rcases hl with hl | ⟨host, hl⟩
  · refine W.putK hcx.1 hcx.2.1 (f := f) ⟨hcx.2.2.2.2.1, hts _ hl, ⟨_, _, _, hsame _ hi⟩, hst⟩ (by rw [q2]; exact h7) q1 q3 (by rw [hsl]; exact k2_hasslot (q4 k hk)) rfl rfl hd fun H' e1 e2 e3 => ?_
    rw [hsl] at e1 ⊢
    exact kk H' _ ⟨_, e1, q2, q3, t_set q4 hap hk v⟩ e2 e3
  · refine va_WputK hcx.1 hcx.2.1 (f := f) hcx.2.2.2.2.1 ((hn.1 _ hl).use rfl) (hsame _ hi) hst (by rw [q2]; exact h7) q1 q3 (by rw [hsl]; exact k2_hasslot (q4 k hk)) rfl rfl hd fun H' e1 e2 e3 => ?_
    rw [hsl] at e1 ⊢
    exact kk H' _ ⟨_, e1, q2, q3, t_set q4 hap hk v⟩ e2 e3
theorem qx_putU (hcx : qx_cx own Y p s m args meth c) (hy : Y.1.name = "<init>") (hK : va_K (qx_D G) qx_cls (qx_tys G) s) (hcf : qx_cf ci C T' N ty) (hk : k < N) (hw : qx_fU own idx T' k) (hO : t_OB a ((qx_D G).1 ci) N ((qx_D G).2 ci) H V) (hfin : (T' k).2.2.2 = true) {v : Value} (hnv : narrow (ty k) v = v) (hfit : fits (ty k) v = true)
    (hd : decode Y.2.1 pc = .ok (.putfield idx, 3)) (kk : ∀ (H1 : Heap) (i : Nat), t_OB a ((qx_D G).1 ci) N ((qx_D G).2 ci) H1 (updV V k v) → H1.size = H.size → (∀ q, q ≠ a → H1[q]? = H[q]?) → W p l e R s m args below meth c H1 (locs ++ [⟨a, i⟩]) cells slots Q (F0 m (pc + 3) lsA rest)) : W p l e R s m args below meth c H locs cells slots Q (F0 m pc lsA (v :: .ref a :: rest)) := by
  obtain ⟨h1, h2, h3, h4, h5, h6⟩ := hcf
  obtain ⟨hl, hdecl⟩ := hw
  have hts := hcx.2.2.2.2.2.1
  have hap := va_apart (own := own) hts h3 ty h4 h5 hK h1
  obtain ⟨cell, q1, q2, q3, q4⟩ := hO
  obtain ⟨hS, hfc, kC, hkC, hkind⟩ := hK.1 ci _ h1
  obtain ⟨cf, kf, fi, f, hi, hsl⟩ := hS k hk
  have hlay := hts _ (h3 _ (u_in_lay hk))
  unfold u_lay at hlay
  rw [if_pos hfin] at hlay
  have hst := (u_facts hfc hkC (u_lays hts h3 hk) hi).1
  have hcf : m.cls = cf := by
    obtain ⟨_, _, c', _, _, _, -, -, hf', -, -, -, hown2, -⟩ := Cond.laysFinal_spec hlay
    have e1 : c' = cf := by have := hi.symm.trans hf'; simp at this; exact this.1.symm
    rw [hdecl] at hown2
    rw [← e1]; exact Option.some.inj (hcx.2.2.2.2.1.symm.trans hown2)
  have h7 := u_fits hfc hkC hkind (Or.inr hlay) hi (h4 k hk) hnv hfit
  refine W.putFinK hcx.1 hcx.2.1 hcx.2.2.2.2.1 (hts _ hl) (by rw [← hdecl]; exact hi) hst hcf (by rw [hcx.2.2.2.2.2.2.2]; exact hy) (by rw [q2]; exact h7) q1 q3 (by rw [hsl]; exact k2_hasslot (q4 k hk)) rfl rfl hd fun H' e1 e2 e3 => ?_
  rw [hsl] at e1 ⊢
  exact kk H' _ ⟨_, e1, q2, q3, t_set q4 hap hk v⟩ e2 e3
end QF
