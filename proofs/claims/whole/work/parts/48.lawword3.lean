set_option maxRecDepth 20000
theorem mem_of_app {α : Type} {Q : α → Prop} {a b : List α} (ha : ∀ w ∈ a, Q w) (hb : ∀ w ∈ b, Q w) : ∀ w ∈ a ++ b, Q w := fun w h => (List.mem_append.mp h).elim (ha w) (hb w)
theorem ax_X7 : ∀ w ∈ wsX70, w ∈ lw_tbl := by decide +kernel
theorem ax_X8 : ∀ w ∈ wsX80, w ∈ lw_tbl := by decide +kernel
theorem ax_X1 : ∀ w ∈ wsX10, w ∈ lw_tbl := by decide +kernel
theorem ax_X5 : ∀ w ∈ wsX50, w ∈ lw_tbl := by decide +kernel
theorem ax_X0 : ∀ w ∈ wsX00, w ∈ lw_tbl := by decide +kernel
theorem ax_X2 : ∀ w ∈ wsX20, w ∈ lw_tbl := by decide +kernel
theorem ax_X6 : ∀ w ∈ wsX60, w ∈ lw_tbl := by decide +kernel
theorem ax_X3 : ∀ w ∈ wsX30, w ∈ lw_tbl := by decide +kernel
theorem ax_X4 : ∀ w ∈ wsX40, w ∈ lw_tbl := by decide +kernel
theorem wsL_law_in0 : ∀ w ∈ wsL_law0, w ∈ lw_tbl := by
  unfold wsL_law0
  exact mem_of_app (mem_of_app (mem_of_app (mem_of_app (mem_of_app (mem_of_app (mem_of_app (mem_of_app (mem_of_app (mem_of_app (mem_of_app llr_1 (mem_of_app llr_2 (mem_of_app llr_3 (mem_of_app llr_4 (mem_of_app llr_5 (mem_of_app llr_6 (mem_of_app llr_7 (mem_of_app llr_8 (mem_of_app llr_9 (mem_of_app llr_10 (mem_of_app llr_11 (mem_of_app llr_12 (mem_of_app llr_13 (mem_of_app llr_14 (mem_of_app llr_15 (mem_of_app llr_16 (mem_of_app llr_17 (mem_of_app llr_18 (mem_of_app llr_19 (mem_of_app llr_20 (mem_of_app llr_21 (mem_of_app llr_22 (mem_of_app llr_23 (mem_of_app llr_24 (mem_of_app llr_25 (mem_of_app llr_26 (mem_of_app llr_27 (mem_of_app llr_28 (mem_of_app llr_29 (mem_of_app llr_30 (mem_of_app llr_31 (mem_of_app llr_32 (mem_of_app llr_33 (mem_of_app llr_34 (mem_of_app llr_35 (mem_of_app llr_36 (mem_of_app llr_37 (mem_of_app llr_38 (mem_of_app llr_39 (mem_of_app llr_40 (mem_of_app llr_41 (mem_of_app llr_42 (mem_of_app llr_43 (mem_of_app llr_44 (mem_of_app llr_45 (mem_of_app llr_46 (mem_of_app llr_47 (mem_of_app llr_48 (mem_of_app llr_49 (mem_of_app llr_50 (llr_51))))))))))))))))))))))))))))))))))))))))))))))))))) ax_X7) ax_X8) ax_X1) ax_X5) ax_X0) ax_X2) ax_X6) ax_X3) ax_X4) (fun w h => absurd h List.not_mem_nil)
theorem wsL_law_x0 : ∀ w ∈ (vx_at0 RX7 63 "java/lang/IllegalStateException" ["java/lang/RuntimeException", "java/lang/Exception"]).filter goodWord, w ∈ lw_tbl := by decide +kernel
theorem wsL_law_x1 : ∀ w ∈ (vx_at0 RX7 130 "java/lang/IllegalArgumentException" ["java/lang/RuntimeException", "java/lang/Exception"]).filter goodWord, w ∈ lw_tbl := by decide +kernel
theorem wsL_law_x2 : ∀ w ∈ (vx_at0 RX7 269 "java/lang/IndexOutOfBoundsException" ["java/lang/RuntimeException", "java/lang/Exception"]).filter goodWord, w ∈ lw_tbl := by decide +kernel
theorem wsL_law_x3 : ∀ w ∈ (vx_at0 RX7 193 "java/util/NoSuchElementException" ["java/lang/RuntimeException", "java/lang/Exception"]).filter goodWord, w ∈ lw_tbl := by decide +kernel
theorem wsL_law_in : ∀ w ∈ wsL_law, w ∈ lw_tbl := fun w h => (List.mem_append.mp h).elim (fun h => (List.mem_append.mp h).elim (fun h => (List.mem_append.mp h).elim (fun h => (List.mem_append.mp h).elim (fun h => wsL_law_in0 w h) (fun h => wsL_law_x0 w h)) (fun h => wsL_law_x1 w h)) (fun h => wsL_law_x2 w h)) (fun h => wsL_law_x3 w h)
theorem inlX0 : ∀ w ∈ wsX00, w ∈ wsL_law := fun _ h => List.mem_append_left _ (List.mem_append_left _ (List.mem_append_left _ (List.mem_append_left _ (List.mem_append_left _ (List.mem_append_left _ (List.mem_append_left _ (List.mem_append_left _ (List.mem_append_left _ (List.mem_append_right _ h)))))))))
theorem inX0 : ∀ w ∈ wsX00, w ∈ lw_tbl := fun w h => wsL_law_in w (inlX0 w h)
theorem inlX1 : ∀ w ∈ wsX10, w ∈ wsL_law := fun _ h => List.mem_append_left _ (List.mem_append_left _ (List.mem_append_left _ (List.mem_append_left _ (List.mem_append_left _ (List.mem_append_left _ (List.mem_append_left _ (List.mem_append_left _ (List.mem_append_left _ (List.mem_append_left _ (List.mem_append_left _ (List.mem_append_right _ h)))))))))))
theorem inX1 : ∀ w ∈ wsX10, w ∈ lw_tbl := fun w h => wsL_law_in w (inlX1 w h)
theorem inlX2 : ∀ w ∈ wsX20, w ∈ wsL_law := fun _ h => List.mem_append_left _ (List.mem_append_left _ (List.mem_append_left _ (List.mem_append_left _ (List.mem_append_left _ (List.mem_append_left _ (List.mem_append_left _ (List.mem_append_left _ (List.mem_append_right _ h))))))))
theorem inX2 : ∀ w ∈ wsX20, w ∈ lw_tbl := fun w h => wsL_law_in w (inlX2 w h)
theorem inlX3 : ∀ w ∈ wsX30, w ∈ wsL_law := fun _ h => List.mem_append_left _ (List.mem_append_left _ (List.mem_append_left _ (List.mem_append_left _ (List.mem_append_left _ (List.mem_append_left _ (List.mem_append_right _ h))))))
theorem inX3 : ∀ w ∈ wsX30, w ∈ lw_tbl := fun w h => wsL_law_in w (inlX3 w h)
theorem inlX4 : ∀ w ∈ wsX40, w ∈ wsL_law := fun _ h => List.mem_append_left _ (List.mem_append_left _ (List.mem_append_left _ (List.mem_append_left _ (List.mem_append_left _ (List.mem_append_right _ h)))))
theorem inX4 : ∀ w ∈ wsX40, w ∈ lw_tbl := fun w h => wsL_law_in w (inlX4 w h)
theorem inlX5 : ∀ w ∈ wsX50, w ∈ wsL_law := fun _ h => List.mem_append_left _ (List.mem_append_left _ (List.mem_append_left _ (List.mem_append_left _ (List.mem_append_left _ (List.mem_append_left _ (List.mem_append_left _ (List.mem_append_left _ (List.mem_append_left _ (List.mem_append_left _ (List.mem_append_right _ h))))))))))
theorem inX5 : ∀ w ∈ wsX50, w ∈ lw_tbl := fun w h => wsL_law_in w (inlX5 w h)
theorem inlX6 : ∀ w ∈ wsX60, w ∈ wsL_law := fun _ h => List.mem_append_left _ (List.mem_append_left _ (List.mem_append_left _ (List.mem_append_left _ (List.mem_append_left _ (List.mem_append_left _ (List.mem_append_left _ (List.mem_append_right _ h)))))))
theorem inX6 : ∀ w ∈ wsX60, w ∈ lw_tbl := fun w h => wsL_law_in w (inlX6 w h)
theorem inlX7 : ∀ w ∈ wsX70, w ∈ wsL_law := fun _ h => List.mem_append_left _ (List.mem_append_left _ (List.mem_append_left _ (List.mem_append_left _ (List.mem_append_left _ (List.mem_append_left _ (List.mem_append_left _ (List.mem_append_left _ (List.mem_append_left _ (List.mem_append_left _ (List.mem_append_left _ (List.mem_append_left _ (List.mem_append_left _ (List.mem_append_right _ h)))))))))))))
theorem inX7 : ∀ w ∈ wsX70, w ∈ lw_tbl := fun w h => wsL_law_in w (inlX7 w h)
theorem inlX8 : ∀ w ∈ wsX80, w ∈ wsL_law := fun _ h => List.mem_append_left _ (List.mem_append_left _ (List.mem_append_left _ (List.mem_append_left _ (List.mem_append_left _ (List.mem_append_left _ (List.mem_append_left _ (List.mem_append_left _ (List.mem_append_left _ (List.mem_append_left _ (List.mem_append_left _ (List.mem_append_left _ (List.mem_append_right _ h))))))))))))
theorem inX8 : ∀ w ∈ wsX80, w ∈ lw_tbl := fun w h => wsL_law_in w (inlX8 w h)
