theorem rx_in0 {p : Nat} {w : Cond} (h : (k2_sels lw_privs)[p]? = some w) (hg : goodWord w = true) : w ∈ rx_all :=
  List.mem_filter.mpr ⟨List.mem_append_left _ (List.mem_of_getElem? h), hg⟩
theorem rx_in1 {p : Nat} {w : Cond} (h : tables_1_1[p]? = some w) (hg : goodWord w = true) : w ∈ rx_all :=
  List.mem_filter.mpr ⟨List.mem_append_right _ (show w ∈ tables_1 from List.mem_append_left _ (List.mem_of_getElem? h)), hg⟩
theorem rx_in2 {p : Nat} {w : Cond} (h : tables_1_2[p]? = some w) (hg : goodWord w = true) : w ∈ rx_all :=
  List.mem_filter.mpr ⟨List.mem_append_right _ (show w ∈ tables_1 from List.mem_append_right _ (List.mem_append_left _ (List.mem_of_getElem? h))), hg⟩
theorem rx_in3 {p : Nat} {w : Cond} (h : tables_1_3[p]? = some w) (hg : goodWord w = true) : w ∈ rx_all :=
  List.mem_filter.mpr ⟨List.mem_append_right _ (show w ∈ tables_1 from List.mem_append_right _ (List.mem_append_right _ (List.mem_append_left _ (List.mem_of_getElem? h)))), hg⟩
theorem rx_in4 {p : Nat} {w : Cond} (h : tables_1_4[p]? = some w) (hg : goodWord w = true) : w ∈ rx_all :=
  List.mem_filter.mpr ⟨List.mem_append_right _ (show w ∈ tables_1 from List.mem_append_right _ (List.mem_append_right _ (List.mem_append_right _ (List.mem_append_left _ (List.mem_of_getElem? h))))), hg⟩
theorem rx_in5 {p : Nat} {w : Cond} (h : tables_1_5[p]? = some w) (hg : goodWord w = true) : w ∈ rx_all :=
  List.mem_filter.mpr ⟨List.mem_append_right _ (show w ∈ tables_1 from List.mem_append_right _ (List.mem_append_right _ (List.mem_append_right _ (List.mem_append_right _ (List.mem_append_left _ (List.mem_of_getElem? h)))))), hg⟩
theorem rx_in6 {p : Nat} {w : Cond} (h : tables_1_6[p]? = some w) (hg : goodWord w = true) : w ∈ rx_all :=
  List.mem_filter.mpr ⟨List.mem_append_right _ (show w ∈ tables_1 from List.mem_append_right _ (List.mem_append_right _ (List.mem_append_right _ (List.mem_append_right _ (List.mem_append_right _ (List.mem_append_left _ (List.mem_of_getElem? h))))))), hg⟩
theorem rx_in7 {p : Nat} {w : Cond} (h : tables_1_7[p]? = some w) (hg : goodWord w = true) : w ∈ rx_all :=
  List.mem_filter.mpr ⟨List.mem_append_right _ (show w ∈ tables_1 from List.mem_append_right _ (List.mem_append_right _ (List.mem_append_right _ (List.mem_append_right _ (List.mem_append_right _ (List.mem_append_right _ (List.mem_of_getElem? h))))))), hg⟩
