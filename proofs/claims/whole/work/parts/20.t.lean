theorem qx_j1 {i : Nat} {w : Cond} (h : tables_1_1[i]? = some w) : w ∈ tables_1 := (List.mem_append_left _ (List.mem_of_getElem? h))
theorem qx_t1 (i : Nat) {w : Cond} (h : tables_1_1[i]? = some w) (hg : goodWord w = true) : w ∈ qx_tbl := List.mem_filter.mpr ⟨List.mem_append_right _ (List.mem_append_right _ (qx_j1 h)), hg⟩
theorem qx_n1 (i : Nat) {w : Cond} (h : tables_1_1[i]? = some w) (hg : qx_isN w = true) : w ∈ qx_nst := List.mem_filter.mpr ⟨List.mem_append_right _ (qx_j1 h), hg⟩
theorem qx_j2 {i : Nat} {w : Cond} (h : tables_1_2[i]? = some w) : w ∈ tables_1 := (List.mem_append_right _ (List.mem_append_left _ (List.mem_of_getElem? h)))
theorem qx_t2 (i : Nat) {w : Cond} (h : tables_1_2[i]? = some w) (hg : goodWord w = true) : w ∈ qx_tbl := List.mem_filter.mpr ⟨List.mem_append_right _ (List.mem_append_right _ (qx_j2 h)), hg⟩
theorem qx_n2 (i : Nat) {w : Cond} (h : tables_1_2[i]? = some w) (hg : qx_isN w = true) : w ∈ qx_nst := List.mem_filter.mpr ⟨List.mem_append_right _ (qx_j2 h), hg⟩
theorem qx_j3 {i : Nat} {w : Cond} (h : tables_1_3[i]? = some w) : w ∈ tables_1 := (List.mem_append_right _ (List.mem_append_right _ (List.mem_append_left _ (List.mem_of_getElem? h))))
theorem qx_t3 (i : Nat) {w : Cond} (h : tables_1_3[i]? = some w) (hg : goodWord w = true) : w ∈ qx_tbl := List.mem_filter.mpr ⟨List.mem_append_right _ (List.mem_append_right _ (qx_j3 h)), hg⟩
theorem qx_n3 (i : Nat) {w : Cond} (h : tables_1_3[i]? = some w) (hg : qx_isN w = true) : w ∈ qx_nst := List.mem_filter.mpr ⟨List.mem_append_right _ (qx_j3 h), hg⟩
theorem qx_j4 {i : Nat} {w : Cond} (h : tables_1_4[i]? = some w) : w ∈ tables_1 := (List.mem_append_right _ (List.mem_append_right _ (List.mem_append_right _ (List.mem_append_left _ (List.mem_of_getElem? h)))))
theorem qx_t4 (i : Nat) {w : Cond} (h : tables_1_4[i]? = some w) (hg : goodWord w = true) : w ∈ qx_tbl := List.mem_filter.mpr ⟨List.mem_append_right _ (List.mem_append_right _ (qx_j4 h)), hg⟩
theorem qx_n4 (i : Nat) {w : Cond} (h : tables_1_4[i]? = some w) (hg : qx_isN w = true) : w ∈ qx_nst := List.mem_filter.mpr ⟨List.mem_append_right _ (qx_j4 h), hg⟩
theorem qx_j5 {i : Nat} {w : Cond} (h : tables_1_5[i]? = some w) : w ∈ tables_1 := (List.mem_append_right _ (List.mem_append_right _ (List.mem_append_right _ (List.mem_append_right _ (List.mem_append_left _ (List.mem_of_getElem? h))))))
theorem qx_t5 (i : Nat) {w : Cond} (h : tables_1_5[i]? = some w) (hg : goodWord w = true) : w ∈ qx_tbl := List.mem_filter.mpr ⟨List.mem_append_right _ (List.mem_append_right _ (qx_j5 h)), hg⟩
theorem qx_n5 (i : Nat) {w : Cond} (h : tables_1_5[i]? = some w) (hg : qx_isN w = true) : w ∈ qx_nst := List.mem_filter.mpr ⟨List.mem_append_right _ (qx_j5 h), hg⟩
theorem qx_j6 {i : Nat} {w : Cond} (h : tables_1_6[i]? = some w) : w ∈ tables_1 := (List.mem_append_right _ (List.mem_append_right _ (List.mem_append_right _ (List.mem_append_right _ (List.mem_append_right _ (List.mem_append_left _ (List.mem_of_getElem? h)))))))
theorem qx_t6 (i : Nat) {w : Cond} (h : tables_1_6[i]? = some w) (hg : goodWord w = true) : w ∈ qx_tbl := List.mem_filter.mpr ⟨List.mem_append_right _ (List.mem_append_right _ (qx_j6 h)), hg⟩
theorem qx_n6 (i : Nat) {w : Cond} (h : tables_1_6[i]? = some w) (hg : qx_isN w = true) : w ∈ qx_nst := List.mem_filter.mpr ⟨List.mem_append_right _ (qx_j6 h), hg⟩
theorem qx_j7 {i : Nat} {w : Cond} (h : tables_1_7[i]? = some w) : w ∈ tables_1 := (List.mem_append_right _ (List.mem_append_right _ (List.mem_append_right _ (List.mem_append_right _ (List.mem_append_right _ (List.mem_append_right _ (List.mem_append_left _ (List.mem_of_getElem? h))))))))
theorem qx_t7 (i : Nat) {w : Cond} (h : tables_1_7[i]? = some w) (hg : goodWord w = true) : w ∈ qx_tbl := List.mem_filter.mpr ⟨List.mem_append_right _ (List.mem_append_right _ (qx_j7 h)), hg⟩
theorem qx_n7 (i : Nat) {w : Cond} (h : tables_1_7[i]? = some w) (hg : qx_isN w = true) : w ∈ qx_nst := List.mem_filter.mpr ⟨List.mem_append_right _ (qx_j7 h), hg⟩
theorem qx_j8 {i : Nat} {w : Cond} (h : tables_1_8[i]? = some w) : w ∈ tables_1 := (List.mem_append_right _ (List.mem_append_right _ (List.mem_append_right _ (List.mem_append_right _ (List.mem_append_right _ (List.mem_append_right _ (List.mem_append_right _ (List.mem_append_left _ (List.mem_of_getElem? h)))))))))
theorem qx_t8 (i : Nat) {w : Cond} (h : tables_1_8[i]? = some w) (hg : goodWord w = true) : w ∈ qx_tbl := List.mem_filter.mpr ⟨List.mem_append_right _ (List.mem_append_right _ (qx_j8 h)), hg⟩
theorem qx_n8 (i : Nat) {w : Cond} (h : tables_1_8[i]? = some w) (hg : qx_isN w = true) : w ∈ qx_nst := List.mem_filter.mpr ⟨List.mem_append_right _ (qx_j8 h), hg⟩
theorem qx_j9 {i : Nat} {w : Cond} (h : tables_1_9[i]? = some w) : w ∈ tables_1 := (List.mem_append_right _ (List.mem_append_right _ (List.mem_append_right _ (List.mem_append_right _ (List.mem_append_right _ (List.mem_append_right _ (List.mem_append_right _ (List.mem_append_right _ (List.mem_of_getElem? h)))))))))
theorem qx_t9 (i : Nat) {w : Cond} (h : tables_1_9[i]? = some w) (hg : goodWord w = true) : w ∈ qx_tbl := List.mem_filter.mpr ⟨List.mem_append_right _ (List.mem_append_right _ (qx_j9 h)), hg⟩
theorem qx_n9 (i : Nat) {w : Cond} (h : tables_1_9[i]? = some w) (hg : qx_isN w = true) : w ∈ qx_nst := List.mem_filter.mpr ⟨List.mem_append_right _ (qx_j9 h), hg⟩
theorem qx_tp (i : Nat) {w : Cond} (h : (k2_sels lw_privs)[i]? = some w) (hg : goodWord w = true) : w ∈ qx_tbl := List.mem_filter.mpr ⟨List.mem_append_right _ (List.mem_append_left _ (List.mem_of_getElem? h)), hg⟩
theorem qx_tx_ (i : Nat) {w : Cond} (h : qx_xs[i]? = some w) (hg : goodWord w = true) : w ∈ qx_tbl := List.mem_filter.mpr ⟨List.mem_append_left _ (List.mem_of_getElem? h), hg⟩
