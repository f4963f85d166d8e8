/-! ## the law: its callees' words among its own, decode rows -/
theorem inr_1 : ∀ w ∈ wsL_law_r1, w ∈ wsL_law := fun _ h => List.mem_append_left _ (List.mem_append_left _ (List.mem_append_left _ (List.mem_append_left _ (List.mem_append_left _ (List.mem_append_left _ (List.mem_append_left _ (List.mem_append_left _ (List.mem_append_left _ (List.mem_append_left _ (List.mem_append_left _ (List.mem_append_left _ (List.mem_append_left _ (List.mem_append_left _ (List.mem_append_left _ h))))))))))))))
theorem inr_2 : ∀ w ∈ wsL_law_r2, w ∈ wsL_law := fun _ h => List.mem_append_left _ (List.mem_append_left _ (List.mem_append_left _ (List.mem_append_left _ (List.mem_append_left _ (List.mem_append_left _ (List.mem_append_left _ (List.mem_append_left _ (List.mem_append_left _ (List.mem_append_left _ (List.mem_append_left _ (List.mem_append_left _ (List.mem_append_left _ (List.mem_append_left _ (List.mem_append_right _ (List.mem_append_left _ h)))))))))))))))
theorem inr_3 : ∀ w ∈ wsL_law_r3, w ∈ wsL_law := fun _ h => List.mem_append_left _ (List.mem_append_left _ (List.mem_append_left _ (List.mem_append_left _ (List.mem_append_left _ (List.mem_append_left _ (List.mem_append_left _ (List.mem_append_left _ (List.mem_append_left _ (List.mem_append_left _ (List.mem_append_left _ (List.mem_append_left _ (List.mem_append_left _ (List.mem_append_left _ (List.mem_append_right _ (List.mem_append_right _ (List.mem_append_left _ h))))))))))))))))
theorem inr_4 : ∀ w ∈ wsL_law_r4, w ∈ wsL_law := fun _ h => List.mem_append_left _ (List.mem_append_left _ (List.mem_append_left _ (List.mem_append_left _ (List.mem_append_left _ (List.mem_append_left _ (List.mem_append_left _ (List.mem_append_left _ (List.mem_append_left _ (List.mem_append_left _ (List.mem_append_left _ (List.mem_append_left _ (List.mem_append_left _ (List.mem_append_left _ (List.mem_append_right _ (List.mem_append_right _ (List.mem_append_right _ (List.mem_append_left _ h)))))))))))))))))
theorem inr_5 : ∀ w ∈ wsL_law_r5, w ∈ wsL_law := fun _ h => List.mem_append_left _ (List.mem_append_left _ (List.mem_append_left _ (List.mem_append_left _ (List.mem_append_left _ (List.mem_append_left _ (List.mem_append_left _ (List.mem_append_left _ (List.mem_append_left _ (List.mem_append_left _ (List.mem_append_left _ (List.mem_append_left _ (List.mem_append_left _ (List.mem_append_left _ (List.mem_append_right _ (List.mem_append_right _ (List.mem_append_right _ (List.mem_append_right _ (List.mem_append_left _ h))))))))))))))))))
theorem inr_6 : ∀ w ∈ wsL_law_r6, w ∈ wsL_law := fun _ h => List.mem_append_left _ (List.mem_append_left _ (List.mem_append_left _ (List.mem_append_left _ (List.mem_append_left _ (List.mem_append_left _ (List.mem_append_left _ (List.mem_append_left _ (List.mem_append_left _ (List.mem_append_left _ (List.mem_append_left _ (List.mem_append_left _ (List.mem_append_left _ (List.mem_append_left _ (List.mem_append_right _ (List.mem_append_right _ (List.mem_append_right _ (List.mem_append_right _ (List.mem_append_right _ (List.mem_append_left _ h)))))))))))))))))))
theorem inr_7 : ∀ w ∈ wsL_law_r7, w ∈ wsL_law := fun _ h => List.mem_append_left _ (List.mem_append_left _ (List.mem_append_left _ (List.mem_append_left _ (List.mem_append_left _ (List.mem_append_left _ (List.mem_append_left _ (List.mem_append_left _ (List.mem_append_left _ (List.mem_append_left _ (List.mem_append_left _ (List.mem_append_left _ (List.mem_append_left _ (List.mem_append_left _ (List.mem_append_right _ (List.mem_append_right _ (List.mem_append_right _ (List.mem_append_right _ (List.mem_append_right _ (List.mem_append_right _ (List.mem_append_left _ h))))))))))))))))))))
theorem inr_8 : ∀ w ∈ wsL_law_r8, w ∈ wsL_law := fun _ h => List.mem_append_left _ (List.mem_append_left _ (List.mem_append_left _ (List.mem_append_left _ (List.mem_append_left _ (List.mem_append_left _ (List.mem_append_left _ (List.mem_append_left _ (List.mem_append_left _ (List.mem_append_left _ (List.mem_append_left _ (List.mem_append_left _ (List.mem_append_left _ (List.mem_append_left _ (List.mem_append_right _ (List.mem_append_right _ (List.mem_append_right _ (List.mem_append_right _ (List.mem_append_right _ (List.mem_append_right _ (List.mem_append_right _ (List.mem_append_left _ h)))))))))))))))))))))
theorem inr_9 : ∀ w ∈ wsL_law_r9, w ∈ wsL_law := fun _ h => List.mem_append_left _ (List.mem_append_left _ (List.mem_append_left _ (List.mem_append_left _ (List.mem_append_left _ (List.mem_append_left _ (List.mem_append_left _ (List.mem_append_left _ (List.mem_append_left _ (List.mem_append_left _ (List.mem_append_left _ (List.mem_append_left _ (List.mem_append_left _ (List.mem_append_left _ (List.mem_append_right _ (List.mem_append_right _ (List.mem_append_right _ (List.mem_append_right _ (List.mem_append_right _ (List.mem_append_right _ (List.mem_append_right _ (List.mem_append_right _ (List.mem_append_left _ h))))))))))))))))))))))
theorem inr_10 : ∀ w ∈ wsL_law_r10, w ∈ wsL_law := fun _ h => List.mem_append_left _ (List.mem_append_left _ (List.mem_append_left _ (List.mem_append_left _ (List.mem_append_left _ (List.mem_append_left _ (List.mem_append_left _ (List.mem_append_left _ (List.mem_append_left _ (List.mem_append_left _ (List.mem_append_left _ (List.mem_append_left _ (List.mem_append_left _ (List.mem_append_left _ (List.mem_append_right _ (List.mem_append_right _ (List.mem_append_right _ (List.mem_append_right _ (List.mem_append_right _ (List.mem_append_right _ (List.mem_append_right _ (List.mem_append_right _ (List.mem_append_right _ (List.mem_append_left _ h)))))))))))))))))))))))
theorem inr_11 : ∀ w ∈ wsL_law_r11, w ∈ wsL_law := fun _ h => List.mem_append_left _ (List.mem_append_left _ (List.mem_append_left _ (List.mem_append_left _ (List.mem_append_left _ (List.mem_append_left _ (List.mem_append_left _ (List.mem_append_left _ (List.mem_append_left _ (List.mem_append_left _ (List.mem_append_left _ (List.mem_append_left _ (List.mem_append_left _ (List.mem_append_left _ (List.mem_append_right _ (List.mem_append_right _ (List.mem_append_right _ (List.mem_append_right _ (List.mem_append_right _ (List.mem_append_right _ (List.mem_append_right _ (List.mem_append_right _ (List.mem_append_right _ (List.mem_append_right _ (List.mem_append_left _ h))))))))))))))))))))))))
theorem inr_12 : ∀ w ∈ wsL_law_r12, w ∈ wsL_law := fun _ h => List.mem_append_left _ (List.mem_append_left _ (List.mem_append_left _ (List.mem_append_left _ (List.mem_append_left _ (List.mem_append_left _ (List.mem_append_left _ (List.mem_append_left _ (List.mem_append_left _ (List.mem_append_left _ (List.mem_append_left _ (List.mem_append_left _ (List.mem_append_left _ (List.mem_append_left _ (List.mem_append_right _ (List.mem_append_right _ (List.mem_append_right _ (List.mem_append_right _ (List.mem_append_right _ (List.mem_append_right _ (List.mem_append_right _ (List.mem_append_right _ (List.mem_append_right _ (List.mem_append_right _ (List.mem_append_right _ (List.mem_append_left _ h)))))))))))))))))))))))))
theorem inr_13 : ∀ w ∈ wsL_law_r13, w ∈ wsL_law := fun _ h => List.mem_append_left _ (List.mem_append_left _ (List.mem_append_left _ (List.mem_append_left _ (List.mem_append_left _ (List.mem_append_left _ (List.mem_append_left _ (List.mem_append_left _ (List.mem_append_left _ (List.mem_append_left _ (List.mem_append_left _ (List.mem_append_left _ (List.mem_append_left _ (List.mem_append_left _ (List.mem_append_right _ (List.mem_append_right _ (List.mem_append_right _ (List.mem_append_right _ (List.mem_append_right _ (List.mem_append_right _ (List.mem_append_right _ (List.mem_append_right _ (List.mem_append_right _ (List.mem_append_right _ (List.mem_append_right _ (List.mem_append_right _ (List.mem_append_left _ h))))))))))))))))))))))))))
theorem inr_14 : ∀ w ∈ wsL_law_r14, w ∈ wsL_law := fun _ h => List.mem_append_left _ (List.mem_append_left _ (List.mem_append_left _ (List.mem_append_left _ (List.mem_append_left _ (List.mem_append_left _ (List.mem_append_left _ (List.mem_append_left _ (List.mem_append_left _ (List.mem_append_left _ (List.mem_append_left _ (List.mem_append_left _ (List.mem_append_left _ (List.mem_append_left _ (List.mem_append_right _ (List.mem_append_right _ (List.mem_append_right _ (List.mem_append_right _ (List.mem_append_right _ (List.mem_append_right _ (List.mem_append_right _ (List.mem_append_right _ (List.mem_append_right _ (List.mem_append_right _ (List.mem_append_right _ (List.mem_append_right _ (List.mem_append_right _ (List.mem_append_left _ h)))))))))))))))))))))))))))
theorem inr_15 : ∀ w ∈ wsL_law_r15, w ∈ wsL_law := fun _ h => List.mem_append_left _ (List.mem_append_left _ (List.mem_append_left _ (List.mem_append_left _ (List.mem_append_left _ (List.mem_append_left _ (List.mem_append_left _ (List.mem_append_left _ (List.mem_append_left _ (List.mem_append_left _ (List.mem_append_left _ (List.mem_append_left _ (List.mem_append_left _ (List.mem_append_left _ (List.mem_append_right _ (List.mem_append_right _ (List.mem_append_right _ (List.mem_append_right _ (List.mem_append_right _ (List.mem_append_right _ (List.mem_append_right _ (List.mem_append_right _ (List.mem_append_right _ (List.mem_append_right _ (List.mem_append_right _ (List.mem_append_right _ (List.mem_append_right _ (List.mem_append_right _ (List.mem_append_left _ h))))))))))))))))))))))))))))
theorem inr_16 : ∀ w ∈ wsL_law_r16, w ∈ wsL_law := fun _ h => List.mem_append_left _ (List.mem_append_left _ (List.mem_append_left _ (List.mem_append_left _ (List.mem_append_left _ (List.mem_append_left _ (List.mem_append_left _ (List.mem_append_left _ (List.mem_append_left _ (List.mem_append_left _ (List.mem_append_left _ (List.mem_append_left _ (List.mem_append_left _ (List.mem_append_left _ (List.mem_append_right _ (List.mem_append_right _ (List.mem_append_right _ (List.mem_append_right _ (List.mem_append_right _ (List.mem_append_right _ (List.mem_append_right _ (List.mem_append_right _ (List.mem_append_right _ (List.mem_append_right _ (List.mem_append_right _ (List.mem_append_right _ (List.mem_append_right _ (List.mem_append_right _ (List.mem_append_right _ (List.mem_append_left _ h)))))))))))))))))))))))))))))
theorem inr_17 : ∀ w ∈ wsL_law_r17, w ∈ wsL_law := fun _ h => List.mem_append_left _ (List.mem_append_left _ (List.mem_append_left _ (List.mem_append_left _ (List.mem_append_left _ (List.mem_append_left _ (List.mem_append_left _ (List.mem_append_left _ (List.mem_append_left _ (List.mem_append_left _ (List.mem_append_left _ (List.mem_append_left _ (List.mem_append_left _ (List.mem_append_left _ (List.mem_append_right _ (List.mem_append_right _ (List.mem_append_right _ (List.mem_append_right _ (List.mem_append_right _ (List.mem_append_right _ (List.mem_append_right _ (List.mem_append_right _ (List.mem_append_right _ (List.mem_append_right _ (List.mem_append_right _ (List.mem_append_right _ (List.mem_append_right _ (List.mem_append_right _ (List.mem_append_right _ (List.mem_append_right _ (List.mem_append_left _ h))))))))))))))))))))))))))))))
theorem inr_18 : ∀ w ∈ wsL_law_r18, w ∈ wsL_law := fun _ h => List.mem_append_left _ (List.mem_append_left _ (List.mem_append_left _ (List.mem_append_left _ (List.mem_append_left _ (List.mem_append_left _ (List.mem_append_left _ (List.mem_append_left _ (List.mem_append_left _ (List.mem_append_left _ (List.mem_append_left _ (List.mem_append_left _ (List.mem_append_left _ (List.mem_append_left _ (List.mem_append_right _ (List.mem_append_right _ (List.mem_append_right _ (List.mem_append_right _ (List.mem_append_right _ (List.mem_append_right _ (List.mem_append_right _ (List.mem_append_right _ (List.mem_append_right _ (List.mem_append_right _ (List.mem_append_right _ (List.mem_append_right _ (List.mem_append_right _ (List.mem_append_right _ (List.mem_append_right _ (List.mem_append_right _ (List.mem_append_right _ (List.mem_append_left _ h)))))))))))))))))))))))))))))))
theorem inr_19 : ∀ w ∈ wsL_law_r19, w ∈ wsL_law := fun _ h => List.mem_append_left _ (List.mem_append_left _ (List.mem_append_left _ (List.mem_append_left _ (List.mem_append_left _ (List.mem_append_left _ (List.mem_append_left _ (List.mem_append_left _ (List.mem_append_left _ (List.mem_append_left _ (List.mem_append_left _ (List.mem_append_left _ (List.mem_append_left _ (List.mem_append_left _ (List.mem_append_right _ (List.mem_append_right _ (List.mem_append_right _ (List.mem_append_right _ (List.mem_append_right _ (List.mem_append_right _ (List.mem_append_right _ (List.mem_append_right _ (List.mem_append_right _ (List.mem_append_right _ (List.mem_append_right _ (List.mem_append_right _ (List.mem_append_right _ (List.mem_append_right _ (List.mem_append_right _ (List.mem_append_right _ (List.mem_append_right _ (List.mem_append_right _ (List.mem_append_left _ h))))))))))))))))))))))))))))))))
theorem inr_20 : ∀ w ∈ wsL_law_r20, w ∈ wsL_law := fun _ h => List.mem_append_left _ (List.mem_append_left _ (List.mem_append_left _ (List.mem_append_left _ (List.mem_append_left _ (List.mem_append_left _ (List.mem_append_left _ (List.mem_append_left _ (List.mem_append_left _ (List.mem_append_left _ (List.mem_append_left _ (List.mem_append_left _ (List.mem_append_left _ (List.mem_append_left _ (List.mem_append_right _ (List.mem_append_right _ (List.mem_append_right _ (List.mem_append_right _ (List.mem_append_right _ (List.mem_append_right _ (List.mem_append_right _ (List.mem_append_right _ (List.mem_append_right _ (List.mem_append_right _ (List.mem_append_right _ (List.mem_append_right _ (List.mem_append_right _ (List.mem_append_right _ (List.mem_append_right _ (List.mem_append_right _ (List.mem_append_right _ (List.mem_append_right _ (List.mem_append_right _ (List.mem_append_left _ h)))))))))))))))))))))))))))))))))
theorem inr_21 : ∀ w ∈ wsL_law_r21, w ∈ wsL_law := fun _ h => List.mem_append_left _ (List.mem_append_left _ (List.mem_append_left _ (List.mem_append_left _ (List.mem_append_left _ (List.mem_append_left _ (List.mem_append_left _ (List.mem_append_left _ (List.mem_append_left _ (List.mem_append_left _ (List.mem_append_left _ (List.mem_append_left _ (List.mem_append_left _ (List.mem_append_left _ (List.mem_append_right _ (List.mem_append_right _ (List.mem_append_right _ (List.mem_append_right _ (List.mem_append_right _ (List.mem_append_right _ (List.mem_append_right _ (List.mem_append_right _ (List.mem_append_right _ (List.mem_append_right _ (List.mem_append_right _ (List.mem_append_right _ (List.mem_append_right _ (List.mem_append_right _ (List.mem_append_right _ (List.mem_append_right _ (List.mem_append_right _ (List.mem_append_right _ (List.mem_append_right _ (List.mem_append_right _ (List.mem_append_left _ h))))))))))))))))))))))))))))))))))
theorem inr_22 : ∀ w ∈ wsL_law_r22, w ∈ wsL_law := fun _ h => List.mem_append_left _ (List.mem_append_left _ (List.mem_append_left _ (List.mem_append_left _ (List.mem_append_left _ (List.mem_append_left _ (List.mem_append_left _ (List.mem_append_left _ (List.mem_append_left _ (List.mem_append_left _ (List.mem_append_left _ (List.mem_append_left _ (List.mem_append_left _ (List.mem_append_left _ (List.mem_append_right _ (List.mem_append_right _ (List.mem_append_right _ (List.mem_append_right _ (List.mem_append_right _ (List.mem_append_right _ (List.mem_append_right _ (List.mem_append_right _ (List.mem_append_right _ (List.mem_append_right _ (List.mem_append_right _ (List.mem_append_right _ (List.mem_append_right _ (List.mem_append_right _ (List.mem_append_right _ (List.mem_append_right _ (List.mem_append_right _ (List.mem_append_right _ (List.mem_append_right _ (List.mem_append_right _ (List.mem_append_right _ (List.mem_append_left _ h)))))))))))))))))))))))))))))))))))
theorem inr_23 : ∀ w ∈ wsL_law_r23, w ∈ wsL_law := fun _ h => List.mem_append_left _ (List.mem_append_left _ (List.mem_append_left _ (List.mem_append_left _ (List.mem_append_left _ (List.mem_append_left _ (List.mem_append_left _ (List.mem_append_left _ (List.mem_append_left _ (List.mem_append_left _ (List.mem_append_left _ (List.mem_append_left _ (List.mem_append_left _ (List.mem_append_left _ (List.mem_append_right _ (List.mem_append_right _ (List.mem_append_right _ (List.mem_append_right _ (List.mem_append_right _ (List.mem_append_right _ (List.mem_append_right _ (List.mem_append_right _ (List.mem_append_right _ (List.mem_append_right _ (List.mem_append_right _ (List.mem_append_right _ (List.mem_append_right _ (List.mem_append_right _ (List.mem_append_right _ (List.mem_append_right _ (List.mem_append_right _ (List.mem_append_right _ (List.mem_append_right _ (List.mem_append_right _ (List.mem_append_right _ (List.mem_append_right _ (List.mem_append_left _ h))))))))))))))))))))))))))))))))))))
theorem inr_24 : ∀ w ∈ wsL_law_r24, w ∈ wsL_law := fun _ h => List.mem_append_left _ (List.mem_append_left _ (List.mem_append_left _ (List.mem_append_left _ (List.mem_append_left _ (List.mem_append_left _ (List.mem_append_left _ (List.mem_append_left _ (List.mem_append_left _ (List.mem_append_left _ (List.mem_append_left _ (List.mem_append_left _ (List.mem_append_left _ (List.mem_append_left _ (List.mem_append_right _ (List.mem_append_right _ (List.mem_append_right _ (List.mem_append_right _ (List.mem_append_right _ (List.mem_append_right _ (List.mem_append_right _ (List.mem_append_right _ (List.mem_append_right _ (List.mem_append_right _ (List.mem_append_right _ (List.mem_append_right _ (List.mem_append_right _ (List.mem_append_right _ (List.mem_append_right _ (List.mem_append_right _ (List.mem_append_right _ (List.mem_append_right _ (List.mem_append_right _ (List.mem_append_right _ (List.mem_append_right _ (List.mem_append_right _ (List.mem_append_right _ (List.mem_append_left _ h)))))))))))))))))))))))))))))))))))))
theorem inr_25 : ∀ w ∈ wsL_law_r25, w ∈ wsL_law := fun _ h => List.mem_append_left _ (List.mem_append_left _ (List.mem_append_left _ (List.mem_append_left _ (List.mem_append_left _ (List.mem_append_left _ (List.mem_append_left _ (List.mem_append_left _ (List.mem_append_left _ (List.mem_append_left _ (List.mem_append_left _ (List.mem_append_left _ (List.mem_append_left _ (List.mem_append_left _ (List.mem_append_right _ (List.mem_append_right _ (List.mem_append_right _ (List.mem_append_right _ (List.mem_append_right _ (List.mem_append_right _ (List.mem_append_right _ (List.mem_append_right _ (List.mem_append_right _ (List.mem_append_right _ (List.mem_append_right _ (List.mem_append_right _ (List.mem_append_right _ (List.mem_append_right _ (List.mem_append_right _ (List.mem_append_right _ (List.mem_append_right _ (List.mem_append_right _ (List.mem_append_right _ (List.mem_append_right _ (List.mem_append_right _ (List.mem_append_right _ (List.mem_append_right _ (List.mem_append_right _ (List.mem_append_left _ h))))))))))))))))))))))))))))))))))))))
theorem inr_26 : ∀ w ∈ wsL_law_r26, w ∈ wsL_law := fun _ h => List.mem_append_left _ (List.mem_append_left _ (List.mem_append_left _ (List.mem_append_left _ (List.mem_append_left _ (List.mem_append_left _ (List.mem_append_left _ (List.mem_append_left _ (List.mem_append_left _ (List.mem_append_left _ (List.mem_append_left _ (List.mem_append_left _ (List.mem_append_left _ (List.mem_append_left _ (List.mem_append_right _ (List.mem_append_right _ (List.mem_append_right _ (List.mem_append_right _ (List.mem_append_right _ (List.mem_append_right _ (List.mem_append_right _ (List.mem_append_right _ (List.mem_append_right _ (List.mem_append_right _ (List.mem_append_right _ (List.mem_append_right _ (List.mem_append_right _ (List.mem_append_right _ (List.mem_append_right _ (List.mem_append_right _ (List.mem_append_right _ (List.mem_append_right _ (List.mem_append_right _ (List.mem_append_right _ (List.mem_append_right _ (List.mem_append_right _ (List.mem_append_right _ (List.mem_append_right _ (List.mem_append_right _ (List.mem_append_left _ h)))))))))))))))))))))))))))))))))))))))
theorem inr_27 : ∀ w ∈ wsL_law_r27, w ∈ wsL_law := fun _ h => List.mem_append_left _ (List.mem_append_left _ (List.mem_append_left _ (List.mem_append_left _ (List.mem_append_left _ (List.mem_append_left _ (List.mem_append_left _ (List.mem_append_left _ (List.mem_append_left _ (List.mem_append_left _ (List.mem_append_left _ (List.mem_append_left _ (List.mem_append_left _ (List.mem_append_left _ (List.mem_append_right _ (List.mem_append_right _ (List.mem_append_right _ (List.mem_append_right _ (List.mem_append_right _ (List.mem_append_right _ (List.mem_append_right _ (List.mem_append_right _ (List.mem_append_right _ (List.mem_append_right _ (List.mem_append_right _ (List.mem_append_right _ (List.mem_append_right _ (List.mem_append_right _ (List.mem_append_right _ (List.mem_append_right _ (List.mem_append_right _ (List.mem_append_right _ (List.mem_append_right _ (List.mem_append_right _ (List.mem_append_right _ (List.mem_append_right _ (List.mem_append_right _ (List.mem_append_right _ (List.mem_append_right _ (List.mem_append_right _ (List.mem_append_left _ h))))))))))))))))))))))))))))))))))))))))
theorem inr_28 : ∀ w ∈ wsL_law_r28, w ∈ wsL_law := fun _ h => List.mem_append_left _ (List.mem_append_left _ (List.mem_append_left _ (List.mem_append_left _ (List.mem_append_left _ (List.mem_append_left _ (List.mem_append_left _ (List.mem_append_left _ (List.mem_append_left _ (List.mem_append_left _ (List.mem_append_left _ (List.mem_append_left _ (List.mem_append_left _ (List.mem_append_left _ (List.mem_append_right _ (List.mem_append_right _ (List.mem_append_right _ (List.mem_append_right _ (List.mem_append_right _ (List.mem_append_right _ (List.mem_append_right _ (List.mem_append_right _ (List.mem_append_right _ (List.mem_append_right _ (List.mem_append_right _ (List.mem_append_right _ (List.mem_append_right _ (List.mem_append_right _ (List.mem_append_right _ (List.mem_append_right _ (List.mem_append_right _ (List.mem_append_right _ (List.mem_append_right _ (List.mem_append_right _ (List.mem_append_right _ (List.mem_append_right _ (List.mem_append_right _ (List.mem_append_right _ (List.mem_append_right _ (List.mem_append_right _ (List.mem_append_right _ (List.mem_append_left _ h)))))))))))))))))))))))))))))))))))))))))
theorem inr_29 : ∀ w ∈ wsL_law_r29, w ∈ wsL_law := fun _ h => List.mem_append_left _ (List.mem_append_left _ (List.mem_append_left _ (List.mem_append_left _ (List.mem_append_left _ (List.mem_append_left _ (List.mem_append_left _ (List.mem_append_left _ (List.mem_append_left _ (List.mem_append_left _ (List.mem_append_left _ (List.mem_append_left _ (List.mem_append_left _ (List.mem_append_left _ (List.mem_append_right _ (List.mem_append_right _ (List.mem_append_right _ (List.mem_append_right _ (List.mem_append_right _ (List.mem_append_right _ (List.mem_append_right _ (List.mem_append_right _ (List.mem_append_right _ (List.mem_append_right _ (List.mem_append_right _ (List.mem_append_right _ (List.mem_append_right _ (List.mem_append_right _ (List.mem_append_right _ (List.mem_append_right _ (List.mem_append_right _ (List.mem_append_right _ (List.mem_append_right _ (List.mem_append_right _ (List.mem_append_right _ (List.mem_append_right _ (List.mem_append_right _ (List.mem_append_right _ (List.mem_append_right _ (List.mem_append_right _ (List.mem_append_right _ (List.mem_append_right _ (List.mem_append_left _ h))))))))))))))))))))))))))))))))))))))))))
theorem inr_30 : ∀ w ∈ wsL_law_r30, w ∈ wsL_law := fun _ h => List.mem_append_left _ (List.mem_append_left _ (List.mem_append_left _ (List.mem_append_left _ (List.mem_append_left _ (List.mem_append_left _ (List.mem_append_left _ (List.mem_append_left _ (List.mem_append_left _ (List.mem_append_left _ (List.mem_append_left _ (List.mem_append_left _ (List.mem_append_left _ (List.mem_append_left _ (List.mem_append_right _ (List.mem_append_right _ (List.mem_append_right _ (List.mem_append_right _ (List.mem_append_right _ (List.mem_append_right _ (List.mem_append_right _ (List.mem_append_right _ (List.mem_append_right _ (List.mem_append_right _ (List.mem_append_right _ (List.mem_append_right _ (List.mem_append_right _ (List.mem_append_right _ (List.mem_append_right _ (List.mem_append_right _ (List.mem_append_right _ (List.mem_append_right _ (List.mem_append_right _ (List.mem_append_right _ (List.mem_append_right _ (List.mem_append_right _ (List.mem_append_right _ (List.mem_append_right _ (List.mem_append_right _ (List.mem_append_right _ (List.mem_append_right _ (List.mem_append_right _ (List.mem_append_right _ (List.mem_append_left _ h)))))))))))))))))))))))))))))))))))))))))))
theorem inr_31 : ∀ w ∈ wsL_law_r31, w ∈ wsL_law := fun _ h => List.mem_append_left _ (List.mem_append_left _ (List.mem_append_left _ (List.mem_append_left _ (List.mem_append_left _ (List.mem_append_left _ (List.mem_append_left _ (List.mem_append_left _ (List.mem_append_left _ (List.mem_append_left _ (List.mem_append_left _ (List.mem_append_left _ (List.mem_append_left _ (List.mem_append_left _ (List.mem_append_right _ (List.mem_append_right _ (List.mem_append_right _ (List.mem_append_right _ (List.mem_append_right _ (List.mem_append_right _ (List.mem_append_right _ (List.mem_append_right _ (List.mem_append_right _ (List.mem_append_right _ (List.mem_append_right _ (List.mem_append_right _ (List.mem_append_right _ (List.mem_append_right _ (List.mem_append_right _ (List.mem_append_right _ (List.mem_append_right _ (List.mem_append_right _ (List.mem_append_right _ (List.mem_append_right _ (List.mem_append_right _ (List.mem_append_right _ (List.mem_append_right _ (List.mem_append_right _ (List.mem_append_right _ (List.mem_append_right _ (List.mem_append_right _ (List.mem_append_right _ (List.mem_append_right _ (List.mem_append_right _ (List.mem_append_left _ h))))))))))))))))))))))))))))))))))))))))))))
theorem inr_32 : ∀ w ∈ wsL_law_r32, w ∈ wsL_law := fun _ h => List.mem_append_left _ (List.mem_append_left _ (List.mem_append_left _ (List.mem_append_left _ (List.mem_append_left _ (List.mem_append_left _ (List.mem_append_left _ (List.mem_append_left _ (List.mem_append_left _ (List.mem_append_left _ (List.mem_append_left _ (List.mem_append_left _ (List.mem_append_left _ (List.mem_append_left _ (List.mem_append_right _ (List.mem_append_right _ (List.mem_append_right _ (List.mem_append_right _ (List.mem_append_right _ (List.mem_append_right _ (List.mem_append_right _ (List.mem_append_right _ (List.mem_append_right _ (List.mem_append_right _ (List.mem_append_right _ (List.mem_append_right _ (List.mem_append_right _ (List.mem_append_right _ (List.mem_append_right _ (List.mem_append_right _ (List.mem_append_right _ (List.mem_append_right _ (List.mem_append_right _ (List.mem_append_right _ (List.mem_append_right _ (List.mem_append_right _ (List.mem_append_right _ (List.mem_append_right _ (List.mem_append_right _ (List.mem_append_right _ (List.mem_append_right _ (List.mem_append_right _ (List.mem_append_right _ (List.mem_append_right _ (List.mem_append_right _ (List.mem_append_left _ h)))))))))))))))))))))))))))))))))))))))))))))
theorem inr_33 : ∀ w ∈ wsL_law_r33, w ∈ wsL_law := fun _ h => List.mem_append_left _ (List.mem_append_left _ (List.mem_append_left _ (List.mem_append_left _ (List.mem_append_left _ (List.mem_append_left _ (List.mem_append_left _ (List.mem_append_left _ (List.mem_append_left _ (List.mem_append_left _ (List.mem_append_left _ (List.mem_append_left _ (List.mem_append_left _ (List.mem_append_left _ (List.mem_append_right _ (List.mem_append_right _ (List.mem_append_right _ (List.mem_append_right _ (List.mem_append_right _ (List.mem_append_right _ (List.mem_append_right _ (List.mem_append_right _ (List.mem_append_right _ (List.mem_append_right _ (List.mem_append_right _ (List.mem_append_right _ (List.mem_append_right _ (List.mem_append_right _ (List.mem_append_right _ (List.mem_append_right _ (List.mem_append_right _ (List.mem_append_right _ (List.mem_append_right _ (List.mem_append_right _ (List.mem_append_right _ (List.mem_append_right _ (List.mem_append_right _ (List.mem_append_right _ (List.mem_append_right _ (List.mem_append_right _ (List.mem_append_right _ (List.mem_append_right _ (List.mem_append_right _ (List.mem_append_right _ (List.mem_append_right _ (List.mem_append_right _ (List.mem_append_left _ h))))))))))))))))))))))))))))))))))))))))))))))
theorem inr_34 : ∀ w ∈ wsL_law_r34, w ∈ wsL_law := fun _ h => List.mem_append_left _ (List.mem_append_left _ (List.mem_append_left _ (List.mem_append_left _ (List.mem_append_left _ (List.mem_append_left _ (List.mem_append_left _ (List.mem_append_left _ (List.mem_append_left _ (List.mem_append_left _ (List.mem_append_left _ (List.mem_append_left _ (List.mem_append_left _ (List.mem_append_left _ (List.mem_append_right _ (List.mem_append_right _ (List.mem_append_right _ (List.mem_append_right _ (List.mem_append_right _ (List.mem_append_right _ (List.mem_append_right _ (List.mem_append_right _ (List.mem_append_right _ (List.mem_append_right _ (List.mem_append_right _ (List.mem_append_right _ (List.mem_append_right _ (List.mem_append_right _ (List.mem_append_right _ (List.mem_append_right _ (List.mem_append_right _ (List.mem_append_right _ (List.mem_append_right _ (List.mem_append_right _ (List.mem_append_right _ (List.mem_append_right _ (List.mem_append_right _ (List.mem_append_right _ (List.mem_append_right _ (List.mem_append_right _ (List.mem_append_right _ (List.mem_append_right _ (List.mem_append_right _ (List.mem_append_right _ (List.mem_append_right _ (List.mem_append_right _ (List.mem_append_right _ (List.mem_append_left _ h)))))))))))))))))))))))))))))))))))))))))))))))
theorem inr_35 : ∀ w ∈ wsL_law_r35, w ∈ wsL_law := fun _ h => List.mem_append_left _ (List.mem_append_left _ (List.mem_append_left _ (List.mem_append_left _ (List.mem_append_left _ (List.mem_append_left _ (List.mem_append_left _ (List.mem_append_left _ (List.mem_append_left _ (List.mem_append_left _ (List.mem_append_left _ (List.mem_append_left _ (List.mem_append_left _ (List.mem_append_left _ (List.mem_append_right _ (List.mem_append_right _ (List.mem_append_right _ (List.mem_append_right _ (List.mem_append_right _ (List.mem_append_right _ (List.mem_append_right _ (List.mem_append_right _ (List.mem_append_right _ (List.mem_append_right _ (List.mem_append_right _ (List.mem_append_right _ (List.mem_append_right _ (List.mem_append_right _ (List.mem_append_right _ (List.mem_append_right _ (List.mem_append_right _ (List.mem_append_right _ (List.mem_append_right _ (List.mem_append_right _ (List.mem_append_right _ (List.mem_append_right _ (List.mem_append_right _ (List.mem_append_right _ (List.mem_append_right _ (List.mem_append_right _ (List.mem_append_right _ (List.mem_append_right _ (List.mem_append_right _ (List.mem_append_right _ (List.mem_append_right _ (List.mem_append_right _ (List.mem_append_right _ (List.mem_append_right _ (List.mem_append_left _ h))))))))))))))))))))))))))))))))))))))))))))))))
theorem inr_36 : ∀ w ∈ wsL_law_r36, w ∈ wsL_law := fun _ h => List.mem_append_left _ (List.mem_append_left _ (List.mem_append_left _ (List.mem_append_left _ (List.mem_append_left _ (List.mem_append_left _ (List.mem_append_left _ (List.mem_append_left _ (List.mem_append_left _ (List.mem_append_left _ (List.mem_append_left _ (List.mem_append_left _ (List.mem_append_left _ (List.mem_append_left _ (List.mem_append_right _ (List.mem_append_right _ (List.mem_append_right _ (List.mem_append_right _ (List.mem_append_right _ (List.mem_append_right _ (List.mem_append_right _ (List.mem_append_right _ (List.mem_append_right _ (List.mem_append_right _ (List.mem_append_right _ (List.mem_append_right _ (List.mem_append_right _ (List.mem_append_right _ (List.mem_append_right _ (List.mem_append_right _ (List.mem_append_right _ (List.mem_append_right _ (List.mem_append_right _ (List.mem_append_right _ (List.mem_append_right _ (List.mem_append_right _ (List.mem_append_right _ (List.mem_append_right _ (List.mem_append_right _ (List.mem_append_right _ (List.mem_append_right _ (List.mem_append_right _ (List.mem_append_right _ (List.mem_append_right _ (List.mem_append_right _ (List.mem_append_right _ (List.mem_append_right _ (List.mem_append_right _ (List.mem_append_right _ (List.mem_append_left _ h)))))))))))))))))))))))))))))))))))))))))))))))))
theorem inr_37 : ∀ w ∈ wsL_law_r37, w ∈ wsL_law := fun _ h => List.mem_append_left _ (List.mem_append_left _ (List.mem_append_left _ (List.mem_append_left _ (List.mem_append_left _ (List.mem_append_left _ (List.mem_append_left _ (List.mem_append_left _ (List.mem_append_left _ (List.mem_append_left _ (List.mem_append_left _ (List.mem_append_left _ (List.mem_append_left _ (List.mem_append_left _ (List.mem_append_right _ (List.mem_append_right _ (List.mem_append_right _ (List.mem_append_right _ (List.mem_append_right _ (List.mem_append_right _ (List.mem_append_right _ (List.mem_append_right _ (List.mem_append_right _ (List.mem_append_right _ (List.mem_append_right _ (List.mem_append_right _ (List.mem_append_right _ (List.mem_append_right _ (List.mem_append_right _ (List.mem_append_right _ (List.mem_append_right _ (List.mem_append_right _ (List.mem_append_right _ (List.mem_append_right _ (List.mem_append_right _ (List.mem_append_right _ (List.mem_append_right _ (List.mem_append_right _ (List.mem_append_right _ (List.mem_append_right _ (List.mem_append_right _ (List.mem_append_right _ (List.mem_append_right _ (List.mem_append_right _ (List.mem_append_right _ (List.mem_append_right _ (List.mem_append_right _ (List.mem_append_right _ (List.mem_append_right _ (List.mem_append_right _ (List.mem_append_left _ h))))))))))))))))))))))))))))))))))))))))))))))))))
theorem inr_38 : ∀ w ∈ wsL_law_r38, w ∈ wsL_law := fun _ h => List.mem_append_left _ (List.mem_append_left _ (List.mem_append_left _ (List.mem_append_left _ (List.mem_append_left _ (List.mem_append_left _ (List.mem_append_left _ (List.mem_append_left _ (List.mem_append_left _ (List.mem_append_left _ (List.mem_append_left _ (List.mem_append_left _ (List.mem_append_left _ (List.mem_append_left _ (List.mem_append_right _ (List.mem_append_right _ (List.mem_append_right _ (List.mem_append_right _ (List.mem_append_right _ (List.mem_append_right _ (List.mem_append_right _ (List.mem_append_right _ (List.mem_append_right _ (List.mem_append_right _ (List.mem_append_right _ (List.mem_append_right _ (List.mem_append_right _ (List.mem_append_right _ (List.mem_append_right _ (List.mem_append_right _ (List.mem_append_right _ (List.mem_append_right _ (List.mem_append_right _ (List.mem_append_right _ (List.mem_append_right _ (List.mem_append_right _ (List.mem_append_right _ (List.mem_append_right _ (List.mem_append_right _ (List.mem_append_right _ (List.mem_append_right _ (List.mem_append_right _ (List.mem_append_right _ (List.mem_append_right _ (List.mem_append_right _ (List.mem_append_right _ (List.mem_append_right _ (List.mem_append_right _ (List.mem_append_right _ (List.mem_append_right _ (List.mem_append_right _ (List.mem_append_left _ h)))))))))))))))))))))))))))))))))))))))))))))))))))
theorem inr_39 : ∀ w ∈ wsL_law_r39, w ∈ wsL_law := fun _ h => List.mem_append_left _ (List.mem_append_left _ (List.mem_append_left _ (List.mem_append_left _ (List.mem_append_left _ (List.mem_append_left _ (List.mem_append_left _ (List.mem_append_left _ (List.mem_append_left _ (List.mem_append_left _ (List.mem_append_left _ (List.mem_append_left _ (List.mem_append_left _ (List.mem_append_left _ (List.mem_append_right _ (List.mem_append_right _ (List.mem_append_right _ (List.mem_append_right _ (List.mem_append_right _ (List.mem_append_right _ (List.mem_append_right _ (List.mem_append_right _ (List.mem_append_right _ (List.mem_append_right _ (List.mem_append_right _ (List.mem_append_right _ (List.mem_append_right _ (List.mem_append_right _ (List.mem_append_right _ (List.mem_append_right _ (List.mem_append_right _ (List.mem_append_right _ (List.mem_append_right _ (List.mem_append_right _ (List.mem_append_right _ (List.mem_append_right _ (List.mem_append_right _ (List.mem_append_right _ (List.mem_append_right _ (List.mem_append_right _ (List.mem_append_right _ (List.mem_append_right _ (List.mem_append_right _ (List.mem_append_right _ (List.mem_append_right _ (List.mem_append_right _ (List.mem_append_right _ (List.mem_append_right _ (List.mem_append_right _ (List.mem_append_right _ (List.mem_append_right _ (List.mem_append_right _ (h))))))))))))))))))))))))))))))))))))))))))))))))))))
theorem mwL_0 : Cond.classLink RL 7 RX11 ∈ wsL_law := inr_1 _ (List.mem_of_getElem? (i := 0) rfl)
theorem mwL_1 : Cond.instantiable RX11 6 ∈ wsL_law := inr_1 _ (List.mem_of_getElem? (i := 1) rfl)
theorem mwL_2 : Cond.initialized RX11 ∈ wsL_law := inr_1 _ (List.mem_of_getElem? (i := 2) rfl)
theorem mwL_3 : Cond.classLink RL 10 RX12 ∈ wsL_law := inr_1 _ (List.mem_of_getElem? (i := 3) rfl)
theorem mwL_4 : Cond.instantiable RX12 18 ∈ wsL_law := inr_1 _ (List.mem_of_getElem? (i := 4) rfl)
theorem mwL_5 : Cond.initialized RX12 ∈ wsL_law := inr_1 _ (List.mem_of_getElem? (i := 5) rfl)
theorem mwL_6 : Cond.methodLink RL 9 yX11_init ∈ wsL_law := inr_1 _ (List.mem_of_getElem? (i := 6) rfl)
theorem mwL_7 : Cond.instanceMethod yX11_init ∈ wsL_law := inr_1 _ (List.mem_of_getElem? (i := 7) rfl)
theorem mwL_8 : Cond.code yX11_init cX11_init 1 none ∈ wsL_law := inr_1 _ (List.mem_of_getElem? (i := 8) rfl)
theorem mwL_9 : Cond.methodLink RX11 3 objectInit ∈ wsL_law := inr_1 _ (List.mem_of_getElem? (i := 9) rfl)
theorem mwL_10 : Cond.instanceMethod objectInit ∈ wsL_law := inr_1 _ (List.mem_of_getElem? (i := 10) rfl)
theorem mwL_11 : Cond.code objectInit ⟨#[0xb1]⟩ 1 none ∈ wsL_law := inr_1 _ (List.mem_of_getElem? (i := 11) rfl)
theorem mwL_12 : Cond.classLink RX11 9 RX2 ∈ wsL_law := inr_1 _ (List.mem_of_getElem? (i := 12) rfl)
theorem mwL_13 : Cond.instantiable RX2 3 ∈ wsL_law := inr_1 _ (List.mem_of_getElem? (i := 13) rfl)
theorem mwL_14 : Cond.initialized RX2 ∈ wsL_law := inr_1 _ (List.mem_of_getElem? (i := 14) rfl)
theorem mwL_15 : Cond.fieldLink RX11 12 "MiddleSpans" "line" "LMiddleSpans$Line;" ∈ wsL_law := inr_1 _ (List.mem_of_getElem? (i := 15) rfl)
theorem mwL_16 : Cond.classLink RX11 16 RX1 ∈ wsL_law := inr_1 _ (List.mem_of_getElem? (i := 16) rfl)
theorem mwL_17 : Cond.instantiable RX1 2 ∈ wsL_law := inr_1 _ (List.mem_of_getElem? (i := 17) rfl)
theorem mwL_18 : Cond.initialized RX1 ∈ wsL_law := inr_1 _ (List.mem_of_getElem? (i := 18) rfl)
theorem mwL_19 : Cond.fieldLink RX11 19 "MiddleSpans" "history" "LMiddleSpans$History;" ∈ wsL_law := inr_1 _ (List.mem_of_getElem? (i := 19) rfl)
theorem mwL_20 : Cond.classLink RX11 23 RX6 ∈ wsL_law := inr_1 _ (List.mem_of_getElem? (i := 20) rfl)
theorem mwL_21 : Cond.instantiable RX6 4 ∈ wsL_law := inr_1 _ (List.mem_of_getElem? (i := 21) rfl)
theorem mwL_22 : Cond.initialized RX6 ∈ wsL_law := inr_1 _ (List.mem_of_getElem? (i := 22) rfl)
theorem mwL_23 : Cond.fieldLink RX11 26 "MiddleSpans" "snapshot" "LMiddleSpans$State;" ∈ wsL_law := inr_1 _ (List.mem_of_getElem? (i := 23) rfl)
theorem mwL_24 : Cond.classLink RX11 30 RX7 ∈ wsL_law := inr_2 _ (List.mem_of_getElem? (i := 0) rfl)
theorem mwL_25 : Cond.instantiable RX7 2 ∈ wsL_law := inr_2 _ (List.mem_of_getElem? (i := 1) rfl)
theorem mwL_26 : Cond.initialized RX7 ∈ wsL_law := inr_2 _ (List.mem_of_getElem? (i := 2) rfl)
theorem mwL_27 : Cond.fieldLink RX11 33 "MiddleSpans" "text" "LMiddleSpans$Text;" ∈ wsL_law := inr_2 _ (List.mem_of_getElem? (i := 3) rfl)
theorem mwL_28 : Cond.classLink RX11 37 RX4 ∈ wsL_law := inr_2 _ (List.mem_of_getElem? (i := 4) rfl)
theorem mwL_29 : Cond.instantiable RX4 6 ∈ wsL_law := inr_2 _ (List.mem_of_getElem? (i := 5) rfl)
theorem mwL_30 : Cond.initialized RX4 ∈ wsL_law := inr_2 _ (List.mem_of_getElem? (i := 6) rfl)
theorem mwL_31 : Cond.fieldLink RX11 40 "MiddleSpans" "reader" "LMiddleSpans$Reader;" ∈ wsL_law := inr_2 _ (List.mem_of_getElem? (i := 7) rfl)
theorem mwL_32 : Cond.instanceMethod yX2_init ∈ wsL_law := inr_2 _ (List.mem_of_getElem? (i := 8) rfl)
theorem mwL_33 : Cond.code yX2_init cX2_init 1 none ∈ wsL_law := inr_2 _ (List.mem_of_getElem? (i := 9) rfl)
theorem mwL_34 : Cond.methodLink RX2 3 objectInit ∈ wsL_law := inr_2 _ (List.mem_of_getElem? (i := 10) rfl)
theorem mwL_35 : Cond.classLink RX2 9 RX6 ∈ wsL_law := inr_2 _ (List.mem_of_getElem? (i := 11) rfl)
theorem mwL_36 : Cond.fieldLink RX2 12 "MiddleSpans$Line" "state" "LMiddleSpans$State;" ∈ wsL_law := inr_2 _ (List.mem_of_getElem? (i := 12) rfl)
theorem mwL_37 : Cond.classLink RX2 18 RX0 ∈ wsL_law := inr_2 _ (List.mem_of_getElem? (i := 13) rfl)
theorem mwL_38 : Cond.instantiable RX0 1 ∈ wsL_law := inr_2 _ (List.mem_of_getElem? (i := 14) rfl)
theorem mwL_39 : Cond.initialized RX0 ∈ wsL_law := inr_2 _ (List.mem_of_getElem? (i := 15) rfl)
theorem mwL_40 : Cond.fieldLink RX2 21 "MiddleSpans$Line" "cover" "LMiddleSpans$Cover;" ∈ wsL_law := inr_2 _ (List.mem_of_getElem? (i := 16) rfl)
theorem mwL_41 : Cond.classLink RX2 25 RX8 ∈ wsL_law := inr_2 _ (List.mem_of_getElem? (i := 17) rfl)
theorem mwL_42 : Cond.instantiable RX8 5 ∈ wsL_law := inr_2 _ (List.mem_of_getElem? (i := 18) rfl)
theorem mwL_43 : Cond.initialized RX8 ∈ wsL_law := inr_2 _ (List.mem_of_getElem? (i := 19) rfl)
theorem mwL_44 : Cond.fieldLink RX2 28 "MiddleSpans$Line" "tree" "LMiddleSpans$Tree;" ∈ wsL_law := inr_2 _ (List.mem_of_getElem? (i := 20) rfl)
theorem mwL_45 : Cond.instanceMethod yX6_init ∈ wsL_law := inr_2 _ (List.mem_of_getElem? (i := 21) rfl)
theorem mwL_46 : Cond.code yX6_init cX6_init 1 none ∈ wsL_law := inr_2 _ (List.mem_of_getElem? (i := 22) rfl)
theorem mwL_47 : Cond.methodLink RX6 1 objectInit ∈ wsL_law := inr_2 _ (List.mem_of_getElem? (i := 23) rfl)
theorem mwL_48 : Cond.classLink RX6 7 RX5 ∈ wsL_law := inr_3 _ (List.mem_of_getElem? (i := 0) rfl)
theorem mwL_49 : Cond.instantiable RX5 8 ∈ wsL_law := inr_3 _ (List.mem_of_getElem? (i := 1) rfl)
theorem mwL_50 : Cond.initialized RX5 ∈ wsL_law := inr_3 _ (List.mem_of_getElem? (i := 2) rfl)
theorem mwL_51 : Cond.fieldLink RX6 10 "MiddleSpans$State" "spans" "LMiddleSpans$Spans;" ∈ wsL_law := inr_3 _ (List.mem_of_getElem? (i := 3) rfl)
theorem mwL_52 : Cond.classLink RX6 16 RX9 ∈ wsL_law := inr_3 _ (List.mem_of_getElem? (i := 4) rfl)
theorem mwL_53 : Cond.instantiable RX9 9 ∈ wsL_law := inr_3 _ (List.mem_of_getElem? (i := 5) rfl)
theorem mwL_54 : Cond.initialized RX9 ∈ wsL_law := inr_3 _ (List.mem_of_getElem? (i := 6) rfl)
theorem mwL_55 : Cond.fieldLink RX6 19 "MiddleSpans$State" "walkers" "LMiddleSpans$Walkers;" ∈ wsL_law := inr_3 _ (List.mem_of_getElem? (i := 7) rfl)
theorem mwL_56 : Cond.classLink RX6 23 RX3 ∈ wsL_law := inr_3 _ (List.mem_of_getElem? (i := 8) rfl)
theorem mwL_57 : Cond.instantiable RX3 6 ∈ wsL_law := inr_3 _ (List.mem_of_getElem? (i := 9) rfl)
theorem mwL_58 : Cond.initialized RX3 ∈ wsL_law := inr_3 _ (List.mem_of_getElem? (i := 10) rfl)
theorem mwL_59 : Cond.fieldLink RX6 26 "MiddleSpans$State" "log" "LMiddleSpans$Log;" ∈ wsL_law := inr_3 _ (List.mem_of_getElem? (i := 11) rfl)
theorem mwL_60 : Cond.instanceMethod yX5_init ∈ wsL_law := inr_3 _ (List.mem_of_getElem? (i := 12) rfl)
theorem mwL_61 : Cond.code yX5_init cX5_init 1 none ∈ wsL_law := inr_3 _ (List.mem_of_getElem? (i := 13) rfl)
theorem mwL_62 : Cond.methodLink RX5 3 objectInit ∈ wsL_law := inr_3 _ (List.mem_of_getElem? (i := 14) rfl)
theorem mwL_63 : Cond.arrayClass .int ∈ wsL_law := inr_3 _ (List.mem_of_getElem? (i := 15) rfl)
theorem mwL_64 : Cond.fieldLink RX5 9 "MiddleSpans$Spans" "left" "[I" ∈ wsL_law := inr_3 _ (List.mem_of_getElem? (i := 16) rfl)
theorem mwL_65 : Cond.fieldLink RX5 15 "MiddleSpans$Spans" "right" "[I" ∈ wsL_law := inr_3 _ (List.mem_of_getElem? (i := 17) rfl)
theorem mwL_66 : Cond.fieldLink RX5 18 "MiddleSpans$Spans" "first" "[I" ∈ wsL_law := inr_3 _ (List.mem_of_getElem? (i := 18) rfl)
theorem mwL_67 : Cond.fieldLink RX5 21 "MiddleSpans$Spans" "last" "[I" ∈ wsL_law := inr_3 _ (List.mem_of_getElem? (i := 19) rfl)
theorem mwL_68 : Cond.fieldLink RX5 24 "MiddleSpans$Spans" "ticksInside" "[I" ∈ wsL_law := inr_3 _ (List.mem_of_getElem? (i := 20) rfl)
theorem mwL_69 : Cond.fieldLink RX5 27 "MiddleSpans$Spans" "timesEntered" "[I" ∈ wsL_law := inr_3 _ (List.mem_of_getElem? (i := 21) rfl)
theorem mwL_70 : Cond.instanceMethod yX9_init ∈ wsL_law := inr_3 _ (List.mem_of_getElem? (i := 22) rfl)
theorem mwL_71 : Cond.code yX9_init cX9_init 1 none ∈ wsL_law := inr_3 _ (List.mem_of_getElem? (i := 23) rfl)
theorem mwL_72 : Cond.methodLink RX9 3 objectInit ∈ wsL_law := inr_4 _ (List.mem_of_getElem? (i := 0) rfl)
theorem mwL_73 : Cond.fieldLink RX9 9 "MiddleSpans$Walkers" "place" "[I" ∈ wsL_law := inr_4 _ (List.mem_of_getElem? (i := 1) rfl)
theorem mwL_74 : Cond.fieldLink RX9 15 "MiddleSpans$Walkers" "speed" "[I" ∈ wsL_law := inr_4 _ (List.mem_of_getElem? (i := 2) rfl)
theorem mwL_75 : Cond.arrayClass .long ∈ wsL_law := inr_4 _ (List.mem_of_getElem? (i := 3) rfl)
theorem mwL_76 : Cond.fieldLink RX9 18 "MiddleSpans$Walkers" "inside" "[J" ∈ wsL_law := inr_4 _ (List.mem_of_getElem? (i := 4) rfl)
theorem mwL_77 : Cond.fieldLink RX9 22 "MiddleSpans$Walkers" "entered" "[I" ∈ wsL_law := inr_4 _ (List.mem_of_getElem? (i := 5) rfl)
theorem mwL_78 : Cond.fieldLink RX9 25 "MiddleSpans$Walkers" "left" "[I" ∈ wsL_law := inr_4 _ (List.mem_of_getElem? (i := 6) rfl)
theorem mwL_79 : Cond.fieldLink RX9 28 "MiddleSpans$Walkers" "way" "[I" ∈ wsL_law := inr_4 _ (List.mem_of_getElem? (i := 7) rfl)
theorem mwL_80 : Cond.fieldLink RX9 31 "MiddleSpans$Walkers" "turns" "[I" ∈ wsL_law := inr_4 _ (List.mem_of_getElem? (i := 8) rfl)
theorem mwL_81 : Cond.classLink RX9 34 "[[I" ∈ wsL_law := inr_4 _ (List.mem_of_getElem? (i := 9) rfl)
theorem mwL_82 : Cond.fieldLink RX9 36 "MiddleSpans$Walkers" "enteredAt" "[[I" ∈ wsL_law := inr_4 _ (List.mem_of_getElem? (i := 10) rfl)
theorem mwL_83 : Cond.instanceMethod yX3_init ∈ wsL_law := inr_4 _ (List.mem_of_getElem? (i := 11) rfl)
theorem mwL_84 : Cond.code yX3_init cX3_init 1 none ∈ wsL_law := inr_4 _ (List.mem_of_getElem? (i := 12) rfl)
theorem mwL_85 : Cond.methodLink RX3 3 objectInit ∈ wsL_law := inr_4 _ (List.mem_of_getElem? (i := 13) rfl)
theorem mwL_86 : Cond.fieldLink RX3 9 "MiddleSpans$Log" "kind" "[I" ∈ wsL_law := inr_4 _ (List.mem_of_getElem? (i := 14) rfl)
theorem mwL_87 : Cond.fieldLink RX3 15 "MiddleSpans$Log" "walker" "[I" ∈ wsL_law := inr_4 _ (List.mem_of_getElem? (i := 15) rfl)
theorem mwL_88 : Cond.fieldLink RX3 18 "MiddleSpans$Log" "subject" "[I" ∈ wsL_law := inr_4 _ (List.mem_of_getElem? (i := 16) rfl)
theorem mwL_89 : Cond.fieldLink RX3 21 "MiddleSpans$Log" "tick" "[I" ∈ wsL_law := inr_4 _ (List.mem_of_getElem? (i := 17) rfl)
theorem mwL_90 : Cond.instanceMethod yX0_init ∈ wsL_law := inr_4 _ (List.mem_of_getElem? (i := 18) rfl)
theorem mwL_91 : Cond.code yX0_init cX0_init 1 none ∈ wsL_law := inr_4 _ (List.mem_of_getElem? (i := 19) rfl)
theorem mwL_92 : Cond.methodLink RX0 3 objectInit ∈ wsL_law := inr_4 _ (List.mem_of_getElem? (i := 20) rfl)
theorem mwL_93 : Cond.fieldLink RX0 9 "MiddleSpans$Cover" "sets" "[J" ∈ wsL_law := inr_4 _ (List.mem_of_getElem? (i := 21) rfl)
theorem mwL_94 : Cond.instanceMethod yX8_init ∈ wsL_law := inr_4 _ (List.mem_of_getElem? (i := 22) rfl)
theorem mwL_95 : Cond.code yX8_init cX8_init 1 none ∈ wsL_law := inr_4 _ (List.mem_of_getElem? (i := 23) rfl)
theorem mwL_96 : Cond.methodLink RX8 3 objectInit ∈ wsL_law := inr_5 _ (List.mem_of_getElem? (i := 0) rfl)
theorem mwL_97 : Cond.fieldLink RX8 9 "MiddleSpans$Tree" "middleOf" "[I" ∈ wsL_law := inr_5 _ (List.mem_of_getElem? (i := 1) rfl)
theorem mwL_98 : Cond.fieldLink RX8 15 "MiddleSpans$Tree" "depthOf" "[I" ∈ wsL_law := inr_5 _ (List.mem_of_getElem? (i := 2) rfl)
theorem mwL_99 : Cond.fieldLink RX8 18 "MiddleSpans$Tree" "lying" "[I" ∈ wsL_law := inr_5 _ (List.mem_of_getElem? (i := 3) rfl)
theorem mwL_100 : Cond.fieldLink RX8 21 "MiddleSpans$Tree" "ways" "[I" ∈ wsL_law := inr_5 _ (List.mem_of_getElem? (i := 4) rfl)
theorem mwL_101 : Cond.classLink RX8 24 RX10 ∈ wsL_law := inr_5 _ (List.mem_of_getElem? (i := 5) rfl)
theorem mwL_102 : Cond.instantiable RX10 4 ∈ wsL_law := inr_5 _ (List.mem_of_getElem? (i := 6) rfl)
theorem mwL_103 : Cond.initialized RX10 ∈ wsL_law := inr_5 _ (List.mem_of_getElem? (i := 7) rfl)
theorem mwL_104 : Cond.fieldLink RX8 27 "MiddleSpans$Tree" "way" "LMiddleSpans$Way;" ∈ wsL_law := inr_5 _ (List.mem_of_getElem? (i := 8) rfl)
theorem mwL_105 : Cond.instanceMethod yX10_init ∈ wsL_law := inr_5 _ (List.mem_of_getElem? (i := 9) rfl)
theorem mwL_106 : Cond.code yX10_init cX10_init 1 none ∈ wsL_law := inr_5 _ (List.mem_of_getElem? (i := 10) rfl)
theorem mwL_107 : Cond.methodLink RX10 3 objectInit ∈ wsL_law := inr_5 _ (List.mem_of_getElem? (i := 11) rfl)
theorem mwL_108 : Cond.methodLink RX11 18 yX1_init ∈ wsL_law := inr_5 _ (List.mem_of_getElem? (i := 12) rfl)
theorem mwL_109 : Cond.instanceMethod yX1_init ∈ wsL_law := inr_5 _ (List.mem_of_getElem? (i := 13) rfl)
theorem mwL_110 : Cond.code yX1_init cX1_init 2 none ∈ wsL_law := inr_5 _ (List.mem_of_getElem? (i := 14) rfl)
theorem mwL_111 : Cond.methodLink RX1 3 objectInit ∈ wsL_law := inr_5 _ (List.mem_of_getElem? (i := 15) rfl)
theorem mwL_112 : Cond.classLink RX1 9 RX6 ∈ wsL_law := inr_5 _ (List.mem_of_getElem? (i := 16) rfl)
theorem mwL_113 : Cond.fieldLink RX1 11 "MiddleSpans$History" "states" "[LMiddleSpans$State;" ∈ wsL_law := inr_5 _ (List.mem_of_getElem? (i := 17) rfl)
theorem mwL_114 : Cond.instanceMethod yX7_init ∈ wsL_law := inr_5 _ (List.mem_of_getElem? (i := 18) rfl)
theorem mwL_115 : Cond.code yX7_init cX7_init 1 none ∈ wsL_law := inr_5 _ (List.mem_of_getElem? (i := 19) rfl)
theorem mwL_116 : Cond.methodLink RX7 3 objectInit ∈ wsL_law := inr_5 _ (List.mem_of_getElem? (i := 20) rfl)
theorem mwL_117 : Cond.arrayClass .char ∈ wsL_law := inr_5 _ (List.mem_of_getElem? (i := 21) rfl)
theorem mwL_118 : Cond.fieldLink RX7 9 "MiddleSpans$Text" "characters" "[C" ∈ wsL_law := inr_5 _ (List.mem_of_getElem? (i := 22) rfl)
theorem mwL_119 : Cond.instanceMethod yX4_init ∈ wsL_law := inr_5 _ (List.mem_of_getElem? (i := 23) rfl)
theorem mwL_120 : Cond.code yX4_init cX4_init 1 none ∈ wsL_law := inr_6 _ (List.mem_of_getElem? (i := 0) rfl)
theorem mwL_121 : Cond.methodLink RX4 3 objectInit ∈ wsL_law := inr_6 _ (List.mem_of_getElem? (i := 1) rfl)
theorem mwL_122 : Cond.fieldLink RX4 11 "MiddleSpans$Reader" "left" "[I" ∈ wsL_law := inr_6 _ (List.mem_of_getElem? (i := 2) rfl)
theorem mwL_123 : Cond.fieldLink RX4 15 "MiddleSpans$Reader" "right" "[I" ∈ wsL_law := inr_6 _ (List.mem_of_getElem? (i := 3) rfl)
theorem mwL_124 : Cond.arrayClass .boolean ∈ wsL_law := inr_6 _ (List.mem_of_getElem? (i := 4) rfl)
theorem mwL_125 : Cond.fieldLink RX4 18 "MiddleSpans$Reader" "leftBelongs" "[Z" ∈ wsL_law := inr_6 _ (List.mem_of_getElem? (i := 5) rfl)
theorem mwL_126 : Cond.fieldLink RX4 22 "MiddleSpans$Reader" "rightBelongs" "[Z" ∈ wsL_law := inr_6 _ (List.mem_of_getElem? (i := 6) rfl)
theorem mwL_127 : Cond.methodLink RL 12 yX12_init ∈ wsL_law := inr_6 _ (List.mem_of_getElem? (i := 7) rfl)
theorem mwL_128 : Cond.instanceMethod yX12_init ∈ wsL_law := inr_6 _ (List.mem_of_getElem? (i := 8) rfl)
theorem mwL_129 : Cond.code yX12_init cX12_init 1 none ∈ wsL_law := inr_6 _ (List.mem_of_getElem? (i := 9) rfl)
theorem mwL_130 : Cond.methodLink RX12 1 objectInit ∈ wsL_law := inr_6 _ (List.mem_of_getElem? (i := 10) rfl)
theorem mwL_131 : Cond.fieldLink RX12 7 "MiddleSpansModel" "now" "[I" ∈ wsL_law := inr_6 _ (List.mem_of_getElem? (i := 11) rfl)
theorem mwL_132 : Cond.fieldLink RX12 13 "MiddleSpansModel" "history" "[I" ∈ wsL_law := inr_6 _ (List.mem_of_getElem? (i := 12) rfl)
theorem mwL_133 : Cond.fieldLink RX12 16 "MiddleSpansModel" "slot" "[I" ∈ wsL_law := inr_6 _ (List.mem_of_getElem? (i := 13) rfl)
theorem mwL_134 : Cond.fieldLink RX12 19 "MiddleSpansModel" "text" "[C" ∈ wsL_law := inr_6 _ (List.mem_of_getElem? (i := 14) rfl)
theorem mwL_135 : Cond.fieldLink RX12 23 "MiddleSpansModel" "isNode" "[Z" ∈ wsL_law := inr_6 _ (List.mem_of_getElem? (i := 15) rfl)
theorem mwL_136 : Cond.fieldLink RX12 27 "MiddleSpansModel" "load" "[I" ∈ wsL_law := inr_6 _ (List.mem_of_getElem? (i := 16) rfl)
theorem mwL_137 : Cond.methodLink RL 13 yX11_add ∈ wsL_law := inr_6 _ (List.mem_of_getElem? (i := 17) rfl)
theorem mwL_138 : Cond.instanceMethod yX11_add ∈ wsL_law := inr_6 _ (List.mem_of_getElem? (i := 18) rfl)
theorem mwL_139 : Cond.selects RX11 yX11_add yX11_add ∈ wsL_law := inr_6 _ (List.mem_of_getElem? (i := 19) rfl)
theorem mwL_140 : Cond.code yX11_add cX11_add 3 (some .int) ∈ wsL_law := inr_6 _ (List.mem_of_getElem? (i := 20) rfl)
theorem mwL_141 : Cond.fieldLink RX11 48 "MiddleSpans$Line" "state" "LMiddleSpans$State;" ∈ wsL_law := inr_6 _ (List.mem_of_getElem? (i := 21) rfl)
theorem mwL_142 : Cond.fieldLink RX11 51 "MiddleSpans$State" "spans" "LMiddleSpans$Spans;" ∈ wsL_law := inr_6 _ (List.mem_of_getElem? (i := 22) rfl)
theorem mwL_143 : Cond.fieldLink RX11 55 "MiddleSpans$Spans" "size" "I" ∈ wsL_law := inr_6 _ (List.mem_of_getElem? (i := 23) rfl)
theorem mwL_144 : Cond.methodLink RX11 44 yX11_isPlace ∈ wsL_law := inr_7 _ (List.mem_of_getElem? (i := 0) rfl)
theorem mwL_145 : Cond.static yX11_isPlace ∈ wsL_law := inr_7 _ (List.mem_of_getElem? (i := 1) rfl)
theorem mwL_146 : Cond.code yX11_isPlace cX11_isPlace 1 (some .boolean) ∈ wsL_law := inr_7 _ (List.mem_of_getElem? (i := 2) rfl)
theorem mwL_147 : Cond.methodLink RX11 61 yX1_record ∈ wsL_law := inr_7 _ (List.mem_of_getElem? (i := 3) rfl)
theorem mwL_148 : Cond.instanceMethod yX1_record ∈ wsL_law := inr_7 _ (List.mem_of_getElem? (i := 4) rfl)
theorem mwL_149 : Cond.selects RX1 yX1_record yX1_record ∈ wsL_law := inr_7 _ (List.mem_of_getElem? (i := 5) rfl)
theorem mwL_150 : Cond.code yX1_record cX1_record 3 none ∈ wsL_law := inr_7 _ (List.mem_of_getElem? (i := 6) rfl)
theorem mwL_151 : Cond.fieldLink RX1 18 "MiddleSpans$History" "size" "I" ∈ wsL_law := inr_7 _ (List.mem_of_getElem? (i := 7) rfl)
theorem mwL_152 : Cond.methodLink RX1 22 yX1_dropOldest ∈ wsL_law := inr_7 _ (List.mem_of_getElem? (i := 8) rfl)
theorem mwL_153 : Cond.instanceMethod yX1_dropOldest ∈ wsL_law := inr_7 _ (List.mem_of_getElem? (i := 9) rfl)
theorem mwL_154 : Cond.selects RX1 yX1_dropOldest yX1_dropOldest ∈ wsL_law := inr_7 _ (List.mem_of_getElem? (i := 10) rfl)
theorem mwL_155 : Cond.code yX1_dropOldest cX1_dropOldest 3 none ∈ wsL_law := inr_7 _ (List.mem_of_getElem? (i := 11) rfl)
theorem mwL_156 : Cond.methodLink RX1 25 yX6_copyFrom ∈ wsL_law := inr_7 _ (List.mem_of_getElem? (i := 12) rfl)
theorem mwL_157 : Cond.instanceMethod yX6_copyFrom ∈ wsL_law := inr_7 _ (List.mem_of_getElem? (i := 13) rfl)
theorem mwL_158 : Cond.selects RX6 yX6_copyFrom yX6_copyFrom ∈ wsL_law := inr_7 _ (List.mem_of_getElem? (i := 14) rfl)
theorem mwL_159 : Cond.code yX6_copyFrom cX6_copyFrom 2 none ∈ wsL_law := inr_7 _ (List.mem_of_getElem? (i := 15) rfl)
theorem mwL_160 : Cond.fieldLink RX6 30 "MiddleSpans$State" "tick" "I" ∈ wsL_law := inr_7 _ (List.mem_of_getElem? (i := 16) rfl)
theorem mwL_161 : Cond.methodLink RX6 34 yX5_copyFrom ∈ wsL_law := inr_7 _ (List.mem_of_getElem? (i := 17) rfl)
theorem mwL_162 : Cond.instanceMethod yX5_copyFrom ∈ wsL_law := inr_7 _ (List.mem_of_getElem? (i := 18) rfl)
theorem mwL_163 : Cond.selects RX5 yX5_copyFrom yX5_copyFrom ∈ wsL_law := inr_7 _ (List.mem_of_getElem? (i := 19) rfl)
theorem mwL_164 : Cond.code yX5_copyFrom cX5_copyFrom 2 none ∈ wsL_law := inr_7 _ (List.mem_of_getElem? (i := 20) rfl)
theorem mwL_165 : Cond.fieldLink RX5 30 "MiddleSpans$Spans" "size" "I" ∈ wsL_law := inr_7 _ (List.mem_of_getElem? (i := 21) rfl)
theorem mwL_166 : Cond.fieldLink RX5 38 "MiddleSpans$Spans" "there" "J" ∈ wsL_law := inr_7 _ (List.mem_of_getElem? (i := 22) rfl)
theorem mwL_167 : Cond.methodLink RX5 58 arraycopyName ∈ wsL_law := inr_7 _ (List.mem_of_getElem? (i := 23) rfl)
theorem mwL_168 : Cond.native arraycopyName ∈ wsL_law := inr_8 _ (List.mem_of_getElem? (i := 0) rfl)
theorem mwL_169 : Cond.static arraycopyName ∈ wsL_law := inr_8 _ (List.mem_of_getElem? (i := 1) rfl)
theorem mwL_170 : Cond.initialized "java/lang/System" ∈ wsL_law := inr_8 _ (List.mem_of_getElem? (i := 2) rfl)
theorem mwL_171 : Cond.methodLink RX6 38 yX9_copyFrom ∈ wsL_law := inr_8 _ (List.mem_of_getElem? (i := 3) rfl)
theorem mwL_172 : Cond.instanceMethod yX9_copyFrom ∈ wsL_law := inr_8 _ (List.mem_of_getElem? (i := 4) rfl)
theorem mwL_173 : Cond.selects RX9 yX9_copyFrom yX9_copyFrom ∈ wsL_law := inr_8 _ (List.mem_of_getElem? (i := 5) rfl)
theorem mwL_174 : Cond.code yX9_copyFrom cX9_copyFrom 3 none ∈ wsL_law := inr_8 _ (List.mem_of_getElem? (i := 6) rfl)
theorem mwL_175 : Cond.fieldLink RX9 39 "MiddleSpans$Walkers" "size" "I" ∈ wsL_law := inr_8 _ (List.mem_of_getElem? (i := 7) rfl)
theorem mwL_176 : Cond.methodLink RX9 64 arraycopyName ∈ wsL_law := inr_8 _ (List.mem_of_getElem? (i := 8) rfl)
theorem mwL_177 : Cond.methodLink RX6 41 yX3_copyFrom ∈ wsL_law := inr_8 _ (List.mem_of_getElem? (i := 9) rfl)
theorem mwL_178 : Cond.instanceMethod yX3_copyFrom ∈ wsL_law := inr_8 _ (List.mem_of_getElem? (i := 10) rfl)
theorem mwL_179 : Cond.selects RX3 yX3_copyFrom yX3_copyFrom ∈ wsL_law := inr_8 _ (List.mem_of_getElem? (i := 11) rfl)
theorem mwL_180 : Cond.code yX3_copyFrom cX3_copyFrom 2 none ∈ wsL_law := inr_8 _ (List.mem_of_getElem? (i := 12) rfl)
theorem mwL_181 : Cond.fieldLink RX3 34 "MiddleSpans$Log" "size" "I" ∈ wsL_law := inr_8 _ (List.mem_of_getElem? (i := 13) rfl)
theorem mwL_182 : Cond.fieldLink RX3 24 "MiddleSpans$Log" "latest" "I" ∈ wsL_law := inr_8 _ (List.mem_of_getElem? (i := 14) rfl)
theorem mwL_183 : Cond.methodLink RX3 37 arraycopyName ∈ wsL_law := inr_8 _ (List.mem_of_getElem? (i := 15) rfl)
theorem mwL_184 : Cond.methodLink RX11 65 yX2_addSpan ∈ wsL_law := inr_8 _ (List.mem_of_getElem? (i := 16) rfl)
theorem mwL_185 : Cond.instanceMethod yX2_addSpan ∈ wsL_law := inr_8 _ (List.mem_of_getElem? (i := 17) rfl)
theorem mwL_186 : Cond.selects RX2 yX2_addSpan yX2_addSpan ∈ wsL_law := inr_8 _ (List.mem_of_getElem? (i := 18) rfl)
theorem mwL_187 : Cond.code yX2_addSpan cX2_addSpan 6 (some .int) ∈ wsL_law := inr_8 _ (List.mem_of_getElem? (i := 19) rfl)
theorem mwL_188 : Cond.fieldLink RX2 39 "MiddleSpans$State" "spans" "LMiddleSpans$Spans;" ∈ wsL_law := inr_8 _ (List.mem_of_getElem? (i := 20) rfl)
theorem mwL_189 : Cond.methodLink RX2 48 yX5_append ∈ wsL_law := inr_8 _ (List.mem_of_getElem? (i := 21) rfl)
theorem mwL_190 : Cond.instanceMethod yX5_append ∈ wsL_law := inr_8 _ (List.mem_of_getElem? (i := 22) rfl)
theorem mwL_191 : Cond.selects RX5 yX5_append yX5_append ∈ wsL_law := inr_8 _ (List.mem_of_getElem? (i := 23) rfl)
theorem mwL_192 : Cond.code yX5_append cX5_append 6 (some .int) ∈ wsL_law := inr_9 _ (List.mem_of_getElem? (i := 0) rfl)
theorem mwL_193 : Cond.methodLink RX2 36 yX2_layOut ∈ wsL_law := inr_9 _ (List.mem_of_getElem? (i := 1) rfl)
theorem mwL_194 : Cond.instanceMethod yX2_layOut ∈ wsL_law := inr_9 _ (List.mem_of_getElem? (i := 2) rfl)
theorem mwL_195 : Cond.selects RX2 yX2_layOut yX2_layOut ∈ wsL_law := inr_9 _ (List.mem_of_getElem? (i := 3) rfl)
theorem mwL_196 : Cond.code yX2_layOut cX2_layOut 1 none ∈ wsL_law := inr_9 _ (List.mem_of_getElem? (i := 4) rfl)
theorem mwL_197 : Cond.methodLink RX2 43 yX0_build ∈ wsL_law := inr_9 _ (List.mem_of_getElem? (i := 5) rfl)
theorem mwL_198 : Cond.instanceMethod yX0_build ∈ wsL_law := inr_9 _ (List.mem_of_getElem? (i := 6) rfl)
theorem mwL_199 : Cond.selects RX0 yX0_build yX0_build ∈ wsL_law := inr_9 _ (List.mem_of_getElem? (i := 7) rfl)
theorem mwL_200 : Cond.code yX0_build cX0_build 3 none ∈ wsL_law := inr_9 _ (List.mem_of_getElem? (i := 8) rfl)
theorem mwL_201 : Cond.fieldLink RX0 21 "MiddleSpans$Spans" "size" "I" ∈ wsL_law := inr_9 _ (List.mem_of_getElem? (i := 9) rfl)
theorem mwL_202 : Cond.fieldLink RX0 31 "MiddleSpans$Spans" "first" "[I" ∈ wsL_law := inr_9 _ (List.mem_of_getElem? (i := 10) rfl)
theorem mwL_203 : Cond.fieldLink RX0 39 "MiddleSpans$Spans" "last" "[I" ∈ wsL_law := inr_9 _ (List.mem_of_getElem? (i := 11) rfl)
theorem mwL_204 : Cond.methodLink RX0 15 yJ7_fill_d0a16 ∈ wsL_law := inr_9 _ (List.mem_of_getElem? (i := 12) rfl)
theorem mwL_205 : Cond.static yJ7_fill_d0a16 ∈ wsL_law := inr_9 _ (List.mem_of_getElem? (i := 13) rfl)
theorem mwL_206 : Cond.initialized RJ7 ∈ wsL_law := inr_9 _ (List.mem_of_getElem? (i := 14) rfl)
theorem mwL_207 : Cond.code yJ7_fill_d0a16 cJ7_fill_d0a16 5 none ∈ wsL_law := inr_9 _ (List.mem_of_getElem? (i := 15) rfl)
theorem mwL_208 : Cond.methodLink RX0 27 yX5_isThere ∈ wsL_law := inr_9 _ (List.mem_of_getElem? (i := 16) rfl)
theorem mwL_209 : Cond.instanceMethod yX5_isThere ∈ wsL_law := inr_9 _ (List.mem_of_getElem? (i := 17) rfl)
theorem mwL_210 : Cond.selects RX5 yX5_isThere yX5_isThere ∈ wsL_law := inr_9 _ (List.mem_of_getElem? (i := 18) rfl)
theorem mwL_211 : Cond.code yX5_isThere cX5_isThere 2 (some .boolean) ∈ wsL_law := inr_9 _ (List.mem_of_getElem? (i := 19) rfl)
theorem mwL_212 : Cond.static yX11_isMember ∈ wsL_law := inr_9 _ (List.mem_of_getElem? (i := 20) rfl)
theorem mwL_213 : Cond.code yX11_isMember cX11_isMember 3 (some .boolean) ∈ wsL_law := inr_9 _ (List.mem_of_getElem? (i := 21) rfl)
theorem mwL_214 : Cond.methodLink RX0 35 yX0_flip ∈ wsL_law := inr_9 _ (List.mem_of_getElem? (i := 22) rfl)
theorem mwL_215 : Cond.instanceMethod yX0_flip ∈ wsL_law := inr_9 _ (List.mem_of_getElem? (i := 23) rfl)
theorem mwL_216 : Cond.selects RX0 yX0_flip yX0_flip ∈ wsL_law := inr_10 _ (List.mem_of_getElem? (i := 0) rfl)
theorem mwL_217 : Cond.code yX0_flip cX0_flip 3 none ∈ wsL_law := inr_10 _ (List.mem_of_getElem? (i := 1) rfl)
theorem mwL_218 : Cond.methodLink RX2 47 yX8_build ∈ wsL_law := inr_10 _ (List.mem_of_getElem? (i := 2) rfl)
theorem mwL_219 : Cond.instanceMethod yX8_build ∈ wsL_law := inr_10 _ (List.mem_of_getElem? (i := 3) rfl)
theorem mwL_220 : Cond.selects RX8 yX8_build yX8_build ∈ wsL_law := inr_10 _ (List.mem_of_getElem? (i := 4) rfl)
theorem mwL_221 : Cond.code yX8_build cX8_build 3 none ∈ wsL_law := inr_10 _ (List.mem_of_getElem? (i := 5) rfl)
theorem mwL_222 : Cond.fieldLink RX8 37 "MiddleSpans$Spans" "size" "I" ∈ wsL_law := inr_10 _ (List.mem_of_getElem? (i := 6) rfl)
theorem mwL_223 : Cond.fieldLink RX8 47 "MiddleSpans$Spans" "first" "[I" ∈ wsL_law := inr_10 _ (List.mem_of_getElem? (i := 7) rfl)
theorem mwL_224 : Cond.fieldLink RX8 50 "MiddleSpans$Spans" "last" "[I" ∈ wsL_law := inr_10 _ (List.mem_of_getElem? (i := 8) rfl)
theorem mwL_225 : Cond.methodLink RX8 31 yJ7_fill_53178 ∈ wsL_law := inr_10 _ (List.mem_of_getElem? (i := 9) rfl)
theorem mwL_226 : Cond.static yJ7_fill_53178 ∈ wsL_law := inr_10 _ (List.mem_of_getElem? (i := 10) rfl)
theorem mwL_227 : Cond.code yJ7_fill_53178 cJ7_fill_53178 4 none ∈ wsL_law := inr_10 _ (List.mem_of_getElem? (i := 11) rfl)
theorem mwL_228 : Cond.methodLink RX8 43 yX5_isThere ∈ wsL_law := inr_10 _ (List.mem_of_getElem? (i := 12) rfl)
theorem mwL_229 : Cond.methodLink RX8 53 yX8_lay ∈ wsL_law := inr_10 _ (List.mem_of_getElem? (i := 13) rfl)
theorem mwL_230 : Cond.instanceMethod yX8_lay ∈ wsL_law := inr_10 _ (List.mem_of_getElem? (i := 14) rfl)
theorem mwL_231 : Cond.selects RX8 yX8_lay yX8_lay ∈ wsL_law := inr_10 _ (List.mem_of_getElem? (i := 15) rfl)
theorem mwL_232 : Cond.code yX8_lay cX8_lay 6 none ∈ wsL_law := inr_10 _ (List.mem_of_getElem? (i := 16) rfl)
theorem mwL_233 : Cond.fieldLink RX8 64 "MiddleSpans$Way" "middle" "I" ∈ wsL_law := inr_10 _ (List.mem_of_getElem? (i := 17) rfl)
theorem mwL_234 : Cond.fieldLink RX8 73 "MiddleSpans$Way" "depth" "I" ∈ wsL_law := inr_10 _ (List.mem_of_getElem? (i := 18) rfl)
theorem mwL_235 : Cond.methodLink RX8 57 yX10_start ∈ wsL_law := inr_10 _ (List.mem_of_getElem? (i := 19) rfl)
theorem mwL_236 : Cond.instanceMethod yX10_start ∈ wsL_law := inr_10 _ (List.mem_of_getElem? (i := 20) rfl)
theorem mwL_237 : Cond.selects RX10 yX10_start yX10_start ∈ wsL_law := inr_10 _ (List.mem_of_getElem? (i := 21) rfl)
theorem mwL_238 : Cond.code yX10_start cX10_start 1 none ∈ wsL_law := inr_10 _ (List.mem_of_getElem? (i := 22) rfl)
theorem mwL_239 : Cond.fieldLink RX10 9 "MiddleSpans$Way" "lowest" "I" ∈ wsL_law := inr_10 _ (List.mem_of_getElem? (i := 23) rfl)
theorem mwL_240 : Cond.fieldLink RX10 15 "MiddleSpans$Way" "highest" "I" ∈ wsL_law := inr_11 _ (List.mem_of_getElem? (i := 0) rfl)
theorem mwL_241 : Cond.fieldLink RX10 22 "MiddleSpans$Way" "middle" "I" ∈ wsL_law := inr_11 _ (List.mem_of_getElem? (i := 1) rfl)
theorem mwL_242 : Cond.fieldLink RX10 25 "MiddleSpans$Way" "depth" "I" ∈ wsL_law := inr_11 _ (List.mem_of_getElem? (i := 2) rfl)
theorem mwL_243 : Cond.methodLink RX10 18 yX10_halfway ∈ wsL_law := inr_11 _ (List.mem_of_getElem? (i := 3) rfl)
theorem mwL_244 : Cond.static yX10_halfway ∈ wsL_law := inr_11 _ (List.mem_of_getElem? (i := 4) rfl)
theorem mwL_245 : Cond.code yX10_halfway cX10_halfway 2 (some .int) ∈ wsL_law := inr_11 _ (List.mem_of_getElem? (i := 5) rfl)
theorem mwL_246 : Cond.methodLink RX8 60 yX10_hasPlaces ∈ wsL_law := inr_11 _ (List.mem_of_getElem? (i := 6) rfl)
theorem mwL_247 : Cond.instanceMethod yX10_hasPlaces ∈ wsL_law := inr_11 _ (List.mem_of_getElem? (i := 7) rfl)
theorem mwL_248 : Cond.selects RX10 yX10_hasPlaces yX10_hasPlaces ∈ wsL_law := inr_11 _ (List.mem_of_getElem? (i := 8) rfl)
theorem mwL_249 : Cond.code yX10_hasPlaces cX10_hasPlaces 1 (some .boolean) ∈ wsL_law := inr_11 _ (List.mem_of_getElem? (i := 9) rfl)
theorem mwL_250 : Cond.methodLink RX8 67 yX10_goLeft ∈ wsL_law := inr_11 _ (List.mem_of_getElem? (i := 10) rfl)
theorem mwL_251 : Cond.instanceMethod yX10_goLeft ∈ wsL_law := inr_11 _ (List.mem_of_getElem? (i := 11) rfl)
theorem mwL_252 : Cond.selects RX10 yX10_goLeft yX10_goLeft ∈ wsL_law := inr_11 _ (List.mem_of_getElem? (i := 12) rfl)
theorem mwL_253 : Cond.code yX10_goLeft cX10_goLeft 1 none ∈ wsL_law := inr_11 _ (List.mem_of_getElem? (i := 13) rfl)
theorem mwL_254 : Cond.methodLink RX8 70 yX10_goRight ∈ wsL_law := inr_11 _ (List.mem_of_getElem? (i := 14) rfl)
theorem mwL_255 : Cond.instanceMethod yX10_goRight ∈ wsL_law := inr_11 _ (List.mem_of_getElem? (i := 15) rfl)
theorem mwL_256 : Cond.selects RX10 yX10_goRight yX10_goRight ∈ wsL_law := inr_11 _ (List.mem_of_getElem? (i := 16) rfl)
theorem mwL_257 : Cond.code yX10_goRight cX10_goRight 1 none ∈ wsL_law := inr_11 _ (List.mem_of_getElem? (i := 17) rfl)
theorem mwL_258 : Cond.methodLink RX2 54 yX2_tellAll ∈ wsL_law := inr_11 _ (List.mem_of_getElem? (i := 18) rfl)
theorem mwL_259 : Cond.instanceMethod yX2_tellAll ∈ wsL_law := inr_11 _ (List.mem_of_getElem? (i := 19) rfl)
theorem mwL_260 : Cond.selects RX2 yX2_tellAll yX2_tellAll ∈ wsL_law := inr_11 _ (List.mem_of_getElem? (i := 20) rfl)
theorem mwL_261 : Cond.code yX2_tellAll cX2_tellAll 3 (some .int) ∈ wsL_law := inr_11 _ (List.mem_of_getElem? (i := 21) rfl)
theorem mwL_262 : Cond.fieldLink RX2 66 "MiddleSpans$State" "walkers" "LMiddleSpans$Walkers;" ∈ wsL_law := inr_11 _ (List.mem_of_getElem? (i := 22) rfl)
theorem mwL_263 : Cond.fieldLink RX2 87 "MiddleSpans$Walkers" "size" "I" ∈ wsL_law := inr_11 _ (List.mem_of_getElem? (i := 23) rfl)
theorem mwL_264 : Cond.methodLink RX2 79 yX2_tell ∈ wsL_law := inr_12 _ (List.mem_of_getElem? (i := 0) rfl)
theorem mwL_265 : Cond.instanceMethod yX2_tell ∈ wsL_law := inr_12 _ (List.mem_of_getElem? (i := 1) rfl)
theorem mwL_266 : Cond.selects RX2 yX2_tell yX2_tell ∈ wsL_law := inr_12 _ (List.mem_of_getElem? (i := 2) rfl)
theorem mwL_267 : Cond.code yX2_tell cX2_tell 7 (some .int) ∈ wsL_law := inr_12 _ (List.mem_of_getElem? (i := 3) rfl)
theorem mwL_268 : Cond.fieldLink RX2 108 "MiddleSpans$Walkers" "inside" "[J" ∈ wsL_law := inr_12 _ (List.mem_of_getElem? (i := 4) rfl)
theorem mwL_269 : Cond.fieldLink RX2 75 "MiddleSpans$Walkers" "place" "[I" ∈ wsL_law := inr_12 _ (List.mem_of_getElem? (i := 5) rfl)
theorem mwL_270 : Cond.fieldLink RX2 107 "MiddleSpans$Spans" "size" "I" ∈ wsL_law := inr_12 _ (List.mem_of_getElem? (i := 6) rfl)
theorem mwL_271 : Cond.constantLong RX2 123 (-1) ∈ wsL_law := inr_12 _ (List.mem_of_getElem? (i := 7) rfl)
theorem mwL_272 : Cond.methodLink RX2 119 yX0_over ∈ wsL_law := inr_12 _ (List.mem_of_getElem? (i := 8) rfl)
theorem mwL_273 : Cond.instanceMethod yX0_over ∈ wsL_law := inr_12 _ (List.mem_of_getElem? (i := 9) rfl)
theorem mwL_274 : Cond.selects RX0 yX0_over yX0_over ∈ wsL_law := inr_12 _ (List.mem_of_getElem? (i := 10) rfl)
theorem mwL_275 : Cond.code yX0_over cX0_over 2 (some .long) ∈ wsL_law := inr_12 _ (List.mem_of_getElem? (i := 11) rfl)
theorem mwL_276 : Cond.methodLink RX2 125 yX2_tellLeft ∈ wsL_law := inr_12 _ (List.mem_of_getElem? (i := 12) rfl)
theorem mwL_277 : Cond.instanceMethod yX2_tellLeft ∈ wsL_law := inr_12 _ (List.mem_of_getElem? (i := 13) rfl)
theorem mwL_278 : Cond.selects RX2 yX2_tellLeft yX2_tellLeft ∈ wsL_law := inr_12 _ (List.mem_of_getElem? (i := 14) rfl)
theorem mwL_279 : Cond.code yX2_tellLeft cX2_tellLeft 3 none ∈ wsL_law := inr_12 _ (List.mem_of_getElem? (i := 15) rfl)
theorem mwL_280 : Cond.fieldLink RX2 137 "MiddleSpans$Walkers" "left" "[I" ∈ wsL_law := inr_12 _ (List.mem_of_getElem? (i := 16) rfl)
theorem mwL_281 : Cond.fieldLink RX2 94 "MiddleSpans$State" "log" "LMiddleSpans$Log;" ∈ wsL_law := inr_12 _ (List.mem_of_getElem? (i := 17) rfl)
theorem mwL_282 : Cond.fieldLink RX2 83 "MiddleSpans$State" "tick" "I" ∈ wsL_law := inr_12 _ (List.mem_of_getElem? (i := 18) rfl)
theorem mwL_283 : Cond.methodLink RX2 98 yX3_write ∈ wsL_law := inr_12 _ (List.mem_of_getElem? (i := 19) rfl)
theorem mwL_284 : Cond.instanceMethod yX3_write ∈ wsL_law := inr_12 _ (List.mem_of_getElem? (i := 20) rfl)
theorem mwL_285 : Cond.selects RX3 yX3_write yX3_write ∈ wsL_law := inr_12 _ (List.mem_of_getElem? (i := 21) rfl)
theorem mwL_286 : Cond.code yX3_write cX3_write 5 none ∈ wsL_law := inr_12 _ (List.mem_of_getElem? (i := 22) rfl)
theorem mwL_287 : Cond.methodLink RX3 28 yJ9_floorMod_7cf53 ∈ wsL_law := inr_12 _ (List.mem_of_getElem? (i := 23) rfl)
theorem mwL_288 : Cond.static yJ9_floorMod_7cf53 ∈ wsL_law := inr_13 _ (List.mem_of_getElem? (i := 0) rfl)
theorem mwL_289 : Cond.initialized RJ9 ∈ wsL_law := inr_13 _ (List.mem_of_getElem? (i := 1) rfl)
theorem mwL_290 : Cond.code yJ9_floorMod_7cf53 cJ9_floorMod_7cf53 3 (some .int) ∈ wsL_law := inr_13 _ (List.mem_of_getElem? (i := 2) rfl)
theorem mwL_291 : Cond.methodLink RX2 128 yX2_tellEntered ∈ wsL_law := inr_13 _ (List.mem_of_getElem? (i := 3) rfl)
theorem mwL_292 : Cond.instanceMethod yX2_tellEntered ∈ wsL_law := inr_13 _ (List.mem_of_getElem? (i := 4) rfl)
theorem mwL_293 : Cond.selects RX2 yX2_tellEntered yX2_tellEntered ∈ wsL_law := inr_13 _ (List.mem_of_getElem? (i := 5) rfl)
theorem mwL_294 : Cond.code yX2_tellEntered cX2_tellEntered 3 none ∈ wsL_law := inr_13 _ (List.mem_of_getElem? (i := 6) rfl)
theorem mwL_295 : Cond.fieldLink RX2 140 "MiddleSpans$Walkers" "entered" "[I" ∈ wsL_law := inr_13 _ (List.mem_of_getElem? (i := 7) rfl)
theorem mwL_296 : Cond.fieldLink RX2 143 "MiddleSpans$Walkers" "enteredAt" "[[I" ∈ wsL_law := inr_13 _ (List.mem_of_getElem? (i := 8) rfl)
theorem mwL_297 : Cond.fieldLink RX2 147 "MiddleSpans$Spans" "timesEntered" "[I" ∈ wsL_law := inr_13 _ (List.mem_of_getElem? (i := 9) rfl)
theorem mwL_298 : Cond.methodLink RX2 131 yJ13_bitCount_95d88 ∈ wsL_law := inr_13 _ (List.mem_of_getElem? (i := 10) rfl)
theorem mwL_299 : Cond.static yJ13_bitCount_95d88 ∈ wsL_law := inr_13 _ (List.mem_of_getElem? (i := 11) rfl)
theorem mwL_300 : Cond.initialized RJ13 ∈ wsL_law := inr_13 _ (List.mem_of_getElem? (i := 12) rfl)
theorem mwL_301 : Cond.code yJ13_bitCount_95d88 cJ13_bitCount_95d88 2 (some .int) ∈ wsL_law := inr_13 _ (List.mem_of_getElem? (i := 13) rfl)
theorem mwL_302 : Cond.constantLong RJ13 314 (6148914691236517205) ∈ wsL_law := inr_13 _ (List.mem_of_getElem? (i := 14) rfl)
theorem mwL_303 : Cond.constantLong RJ13 316 (3689348814741910323) ∈ wsL_law := inr_13 _ (List.mem_of_getElem? (i := 15) rfl)
theorem mwL_304 : Cond.constantLong RJ13 318 (1085102592571150095) ∈ wsL_law := inr_13 _ (List.mem_of_getElem? (i := 16) rfl)
theorem mwL_305 : Cond.methodLink RL 17 yX12_add ∈ wsL_law := inr_13 _ (List.mem_of_getElem? (i := 17) rfl)
theorem mwL_306 : Cond.instanceMethod yX12_add ∈ wsL_law := inr_13 _ (List.mem_of_getElem? (i := 18) rfl)
theorem mwL_307 : Cond.selects RX12 yX12_add yX12_add ∈ wsL_law := inr_13 _ (List.mem_of_getElem? (i := 19) rfl)
theorem mwL_308 : Cond.code yX12_add cX12_add 3 (some .int) ∈ wsL_law := inr_13 _ (List.mem_of_getElem? (i := 20) rfl)
theorem mwL_309 : Cond.methodLink RX12 34 yX12_in ∈ wsL_law := inr_13 _ (List.mem_of_getElem? (i := 21) rfl)
theorem mwL_310 : Cond.static yX12_in ∈ wsL_law := inr_13 _ (List.mem_of_getElem? (i := 22) rfl)
theorem mwL_311 : Cond.code yX12_in cX12_in 3 (some .boolean) ∈ wsL_law := inr_13 _ (List.mem_of_getElem? (i := 23) rfl)
theorem mwL_312 : Cond.methodLink RX12 74 yX12_record ∈ wsL_law := inr_14 _ (List.mem_of_getElem? (i := 0) rfl)
theorem mwL_313 : Cond.instanceMethod yX12_record ∈ wsL_law := inr_14 _ (List.mem_of_getElem? (i := 1) rfl)
theorem mwL_314 : Cond.selects RX12 yX12_record yX12_record ∈ wsL_law := inr_14 _ (List.mem_of_getElem? (i := 2) rfl)
theorem mwL_315 : Cond.code yX12_record cX12_record 2 none ∈ wsL_law := inr_14 _ (List.mem_of_getElem? (i := 3) rfl)
theorem mwL_316 : Cond.fieldLink RX12 42 "MiddleSpansModel" "kept" "I" ∈ wsL_law := inr_14 _ (List.mem_of_getElem? (i := 4) rfl)
theorem mwL_317 : Cond.methodLink RX12 77 yX12_adds ∈ wsL_law := inr_14 _ (List.mem_of_getElem? (i := 5) rfl)
theorem mwL_318 : Cond.instanceMethod yX12_adds ∈ wsL_law := inr_14 _ (List.mem_of_getElem? (i := 6) rfl)
theorem mwL_319 : Cond.selects RX12 yX12_adds yX12_adds ∈ wsL_law := inr_14 _ (List.mem_of_getElem? (i := 7) rfl)
theorem mwL_320 : Cond.code yX12_adds cX12_adds 6 (some .int) ∈ wsL_law := inr_14 _ (List.mem_of_getElem? (i := 8) rfl)
theorem mwL_321 : Cond.methodLink RX12 63 yX12_puts ∈ wsL_law := inr_14 _ (List.mem_of_getElem? (i := 9) rfl)
theorem mwL_322 : Cond.instanceMethod yX12_puts ∈ wsL_law := inr_14 _ (List.mem_of_getElem? (i := 10) rfl)
theorem mwL_323 : Cond.selects RX12 yX12_puts yX12_puts ∈ wsL_law := inr_14 _ (List.mem_of_getElem? (i := 11) rfl)
theorem mwL_324 : Cond.code yX12_puts cX12_puts 4 none ∈ wsL_law := inr_14 _ (List.mem_of_getElem? (i := 12) rfl)
theorem mwL_325 : Cond.methodLink RX12 70 yX12_allChanges ∈ wsL_law := inr_14 _ (List.mem_of_getElem? (i := 13) rfl)
theorem mwL_326 : Cond.instanceMethod yX12_allChanges ∈ wsL_law := inr_14 _ (List.mem_of_getElem? (i := 14) rfl)
theorem mwL_327 : Cond.selects RX12 yX12_allChanges yX12_allChanges ∈ wsL_law := inr_14 _ (List.mem_of_getElem? (i := 15) rfl)
theorem mwL_328 : Cond.code yX12_allChanges cX12_allChanges 3 (some .int) ∈ wsL_law := inr_14 _ (List.mem_of_getElem? (i := 16) rfl)
theorem mwL_329 : Cond.methodLink RX12 66 yX12_changes ∈ wsL_law := inr_14 _ (List.mem_of_getElem? (i := 17) rfl)
theorem mwL_330 : Cond.instanceMethod yX12_changes ∈ wsL_law := inr_14 _ (List.mem_of_getElem? (i := 18) rfl)
theorem mwL_331 : Cond.selects RX12 yX12_changes yX12_changes ∈ wsL_law := inr_14 _ (List.mem_of_getElem? (i := 19) rfl)
theorem mwL_332 : Cond.code yX12_changes cX12_changes 5 (some .int) ∈ wsL_law := inr_14 _ (List.mem_of_getElem? (i := 20) rfl)
theorem mwL_333 : Cond.methodLink RX12 46 yX12_its ∈ wsL_law := inr_14 _ (List.mem_of_getElem? (i := 21) rfl)
theorem mwL_334 : Cond.instanceMethod yX12_its ∈ wsL_law := inr_14 _ (List.mem_of_getElem? (i := 22) rfl)
theorem mwL_335 : Cond.selects RX12 yX12_its yX12_its ∈ wsL_law := inr_14 _ (List.mem_of_getElem? (i := 23) rfl)
theorem mwL_336 : Cond.code yX12_its cX12_its 3 (some .int) ∈ wsL_law := inr_15 _ (List.mem_of_getElem? (i := 0) rfl)
theorem mwL_337 : Cond.methodLink RX12 49 yX12_isInside ∈ wsL_law := inr_15 _ (List.mem_of_getElem? (i := 1) rfl)
theorem mwL_338 : Cond.instanceMethod yX12_isInside ∈ wsL_law := inr_15 _ (List.mem_of_getElem? (i := 2) rfl)
theorem mwL_339 : Cond.selects RX12 yX12_isInside yX12_isInside ∈ wsL_law := inr_15 _ (List.mem_of_getElem? (i := 3) rfl)
theorem mwL_340 : Cond.code yX12_isInside cX12_isInside 3 (some .boolean) ∈ wsL_law := inr_15 _ (List.mem_of_getElem? (i := 4) rfl)
theorem mwL_341 : Cond.methodLink RX12 53 yX12_covers ∈ wsL_law := inr_15 _ (List.mem_of_getElem? (i := 5) rfl)
theorem mwL_342 : Cond.instanceMethod yX12_covers ∈ wsL_law := inr_15 _ (List.mem_of_getElem? (i := 6) rfl)
theorem mwL_343 : Cond.selects RX12 yX12_covers yX12_covers ∈ wsL_law := inr_15 _ (List.mem_of_getElem? (i := 7) rfl)
theorem mwL_344 : Cond.code yX12_covers cX12_covers 3 (some .boolean) ∈ wsL_law := inr_15 _ (List.mem_of_getElem? (i := 8) rfl)
theorem mwL_345 : Cond.methodLink RX12 38 yX12_isThere ∈ wsL_law := inr_15 _ (List.mem_of_getElem? (i := 9) rfl)
theorem mwL_346 : Cond.instanceMethod yX12_isThere ∈ wsL_law := inr_15 _ (List.mem_of_getElem? (i := 10) rfl)
theorem mwL_347 : Cond.selects RX12 yX12_isThere yX12_isThere ∈ wsL_law := inr_15 _ (List.mem_of_getElem? (i := 11) rfl)
theorem mwL_348 : Cond.code yX12_isThere cX12_isThere 2 (some .boolean) ∈ wsL_law := inr_15 _ (List.mem_of_getElem? (i := 12) rfl)
theorem mwL_349 : Cond.methodLink RX12 30 yX12_of ∈ wsL_law := inr_15 _ (List.mem_of_getElem? (i := 13) rfl)
theorem mwL_350 : Cond.instanceMethod yX12_of ∈ wsL_law := inr_15 _ (List.mem_of_getElem? (i := 14) rfl)
theorem mwL_351 : Cond.selects RX12 yX12_of yX12_of ∈ wsL_law := inr_15 _ (List.mem_of_getElem? (i := 15) rfl)
theorem mwL_352 : Cond.code yX12_of cX12_of 3 (some .int) ∈ wsL_law := inr_15 _ (List.mem_of_getElem? (i := 16) rfl)
theorem mwL_353 : Cond.methodLink RX12 56 yX12_gives ∈ wsL_law := inr_15 _ (List.mem_of_getElem? (i := 17) rfl)
theorem mwL_354 : Cond.instanceMethod yX12_gives ∈ wsL_law := inr_15 _ (List.mem_of_getElem? (i := 18) rfl)
theorem mwL_355 : Cond.selects RX12 yX12_gives yX12_gives ∈ wsL_law := inr_15 _ (List.mem_of_getElem? (i := 19) rfl)
theorem mwL_356 : Cond.code yX12_gives cX12_gives 4 none ∈ wsL_law := inr_15 _ (List.mem_of_getElem? (i := 20) rfl)
theorem mwL_357 : Cond.methodLink RX12 60 yX12_tells ∈ wsL_law := inr_15 _ (List.mem_of_getElem? (i := 21) rfl)
theorem mwL_358 : Cond.instanceMethod yX12_tells ∈ wsL_law := inr_15 _ (List.mem_of_getElem? (i := 22) rfl)
theorem mwL_359 : Cond.selects RX12 yX12_tells yX12_tells ∈ wsL_law := inr_15 _ (List.mem_of_getElem? (i := 23) rfl)
theorem mwL_360 : Cond.code yX12_tells cX12_tells 5 none ∈ wsL_law := inr_16 _ (List.mem_of_getElem? (i := 0) rfl)
theorem mwL_361 : Cond.methodLink RL 18 yX11_readSpans ∈ wsL_law := inr_16 _ (List.mem_of_getElem? (i := 1) rfl)
theorem mwL_362 : Cond.instanceMethod yX11_readSpans ∈ wsL_law := inr_16 _ (List.mem_of_getElem? (i := 2) rfl)
theorem mwL_363 : Cond.selects RX11 yX11_readSpans yX11_readSpans ∈ wsL_law := inr_16 _ (List.mem_of_getElem? (i := 3) rfl)
theorem mwL_364 : Cond.code yX11_readSpans cX11_readSpans 3 (some .int) ∈ wsL_law := inr_16 _ (List.mem_of_getElem? (i := 4) rfl)
theorem mwL_365 : Cond.fieldLink RX11 77 "MiddleSpans$Reader" "size" "I" ∈ wsL_law := inr_16 _ (List.mem_of_getElem? (i := 5) rfl)
theorem mwL_366 : Cond.fieldLink RX11 78 "MiddleSpans$Reader" "left" "[I" ∈ wsL_law := inr_16 _ (List.mem_of_getElem? (i := 6) rfl)
theorem mwL_367 : Cond.fieldLink RX11 82 "MiddleSpans$Reader" "right" "[I" ∈ wsL_law := inr_16 _ (List.mem_of_getElem? (i := 7) rfl)
theorem mwL_368 : Cond.fieldLink RX11 85 "MiddleSpans$Reader" "leftBelongs" "[Z" ∈ wsL_law := inr_16 _ (List.mem_of_getElem? (i := 8) rfl)
theorem mwL_369 : Cond.fieldLink RX11 89 "MiddleSpans$Reader" "rightBelongs" "[Z" ∈ wsL_law := inr_16 _ (List.mem_of_getElem? (i := 9) rfl)
theorem mwL_370 : Cond.methodLink RX11 69 yX4_readRow ∈ wsL_law := inr_16 _ (List.mem_of_getElem? (i := 10) rfl)
theorem mwL_371 : Cond.instanceMethod yX4_readRow ∈ wsL_law := inr_16 _ (List.mem_of_getElem? (i := 11) rfl)
theorem mwL_372 : Cond.selects RX4 yX4_readRow yX4_readRow ∈ wsL_law := inr_16 _ (List.mem_of_getElem? (i := 12) rfl)
theorem mwL_373 : Cond.code yX4_readRow cX4_readRow 3 (some .int) ∈ wsL_law := inr_16 _ (List.mem_of_getElem? (i := 13) rfl)
theorem mwL_374 : Cond.fieldLink RX4 25 "MiddleSpans$Reader" "size" "I" ∈ wsL_law := inr_16 _ (List.mem_of_getElem? (i := 14) rfl)
theorem mwL_375 : Cond.fieldLink RX4 29 "MiddleSpans$Reader" "position" "I" ∈ wsL_law := inr_16 _ (List.mem_of_getElem? (i := 15) rfl)
theorem mwL_376 : Cond.fieldLink RX4 36 "MiddleSpans$Text" "length" "I" ∈ wsL_law := inr_16 _ (List.mem_of_getElem? (i := 16) rfl)
theorem mwL_377 : Cond.methodLink RX4 32 yX4_readOne ∈ wsL_law := inr_16 _ (List.mem_of_getElem? (i := 17) rfl)
theorem mwL_378 : Cond.instanceMethod yX4_readOne ∈ wsL_law := inr_16 _ (List.mem_of_getElem? (i := 18) rfl)
theorem mwL_379 : Cond.selects RX4 yX4_readOne yX4_readOne ∈ wsL_law := inr_16 _ (List.mem_of_getElem? (i := 19) rfl)
theorem mwL_380 : Cond.code yX4_readOne cX4_readOne 3 (some .boolean) ∈ wsL_law := inr_16 _ (List.mem_of_getElem? (i := 20) rfl)
theorem mwL_381 : Cond.methodLink RX4 45 yX7_hasAt ∈ wsL_law := inr_16 _ (List.mem_of_getElem? (i := 21) rfl)
theorem mwL_382 : Cond.instanceMethod yX7_hasAt ∈ wsL_law := inr_16 _ (List.mem_of_getElem? (i := 22) rfl)
theorem mwL_383 : Cond.selects RX7 yX7_hasAt yX7_hasAt ∈ wsL_law := inr_16 _ (List.mem_of_getElem? (i := 23) rfl)
theorem mwL_384 : Cond.code yX7_hasAt cX7_hasAt 3 (some .boolean) ∈ wsL_law := inr_17 _ (List.mem_of_getElem? (i := 0) rfl)
theorem mwL_385 : Cond.fieldLink RX7 15 "MiddleSpans$Text" "length" "I" ∈ wsL_law := inr_17 _ (List.mem_of_getElem? (i := 1) rfl)
theorem mwL_386 : Cond.methodLink RX4 49 yX4_readNumber ∈ wsL_law := inr_17 _ (List.mem_of_getElem? (i := 2) rfl)
theorem mwL_387 : Cond.instanceMethod yX4_readNumber ∈ wsL_law := inr_17 _ (List.mem_of_getElem? (i := 3) rfl)
theorem mwL_388 : Cond.selects RX4 yX4_readNumber yX4_readNumber ∈ wsL_law := inr_17 _ (List.mem_of_getElem? (i := 4) rfl)
theorem mwL_389 : Cond.code yX4_readNumber cX4_readNumber 4 (some .int) ∈ wsL_law := inr_17 _ (List.mem_of_getElem? (i := 5) rfl)
theorem mwL_390 : Cond.methodLink RX4 53 yX7_hasDigitAt ∈ wsL_law := inr_17 _ (List.mem_of_getElem? (i := 6) rfl)
theorem mwL_391 : Cond.instanceMethod yX7_hasDigitAt ∈ wsL_law := inr_17 _ (List.mem_of_getElem? (i := 7) rfl)
theorem mwL_392 : Cond.selects RX7 yX7_hasDigitAt yX7_hasDigitAt ∈ wsL_law := inr_17 _ (List.mem_of_getElem? (i := 8) rfl)
theorem mwL_393 : Cond.code yX7_hasDigitAt cX7_hasDigitAt 2 (some .boolean) ∈ wsL_law := inr_17 _ (List.mem_of_getElem? (i := 9) rfl)
theorem mwL_394 : Cond.methodLink RX4 57 yX7_digitAt ∈ wsL_law := inr_17 _ (List.mem_of_getElem? (i := 10) rfl)
theorem mwL_395 : Cond.instanceMethod yX7_digitAt ∈ wsL_law := inr_17 _ (List.mem_of_getElem? (i := 11) rfl)
theorem mwL_396 : Cond.selects RX7 yX7_digitAt yX7_digitAt ∈ wsL_law := inr_17 _ (List.mem_of_getElem? (i := 12) rfl)
theorem mwL_397 : Cond.code yX7_digitAt cX7_digitAt 2 (some .int) ∈ wsL_law := inr_17 _ (List.mem_of_getElem? (i := 13) rfl)
theorem mwL_398 : Cond.methodLink RX7 19 yX7_hasDigitAt ∈ wsL_law := inr_17 _ (List.mem_of_getElem? (i := 14) rfl)
theorem mwL_399 : Cond.methodLink RX4 41 yX4_readSign ∈ wsL_law := inr_17 _ (List.mem_of_getElem? (i := 15) rfl)
theorem mwL_400 : Cond.instanceMethod yX4_readSign ∈ wsL_law := inr_17 _ (List.mem_of_getElem? (i := 16) rfl)
theorem mwL_401 : Cond.selects RX4 yX4_readSign yX4_readSign ∈ wsL_law := inr_17 _ (List.mem_of_getElem? (i := 17) rfl)
theorem mwL_402 : Cond.code yX4_readSign cX4_readSign 3 (some .boolean) ∈ wsL_law := inr_17 _ (List.mem_of_getElem? (i := 18) rfl)
theorem mwL_403 : Cond.methodLink RX11 73 yX4_allAreSpans ∈ wsL_law := inr_17 _ (List.mem_of_getElem? (i := 19) rfl)
theorem mwL_404 : Cond.instanceMethod yX4_allAreSpans ∈ wsL_law := inr_17 _ (List.mem_of_getElem? (i := 20) rfl)
theorem mwL_405 : Cond.selects RX4 yX4_allAreSpans yX4_allAreSpans ∈ wsL_law := inr_17 _ (List.mem_of_getElem? (i := 21) rfl)
theorem mwL_406 : Cond.code yX4_allAreSpans cX4_allAreSpans 4 (some .boolean) ∈ wsL_law := inr_17 _ (List.mem_of_getElem? (i := 22) rfl)
theorem mwL_407 : Cond.methodLink RL 22 yX12_readSpans ∈ wsL_law := inr_17 _ (List.mem_of_getElem? (i := 23) rfl)
theorem mwL_408 : Cond.instanceMethod yX12_readSpans ∈ wsL_law := inr_18 _ (List.mem_of_getElem? (i := 0) rfl)
theorem mwL_409 : Cond.selects RX12 yX12_readSpans yX12_readSpans ∈ wsL_law := inr_18 _ (List.mem_of_getElem? (i := 1) rfl)
theorem mwL_410 : Cond.code yX12_readSpans cX12_readSpans 3 (some .int) ∈ wsL_law := inr_18 _ (List.mem_of_getElem? (i := 2) rfl)
theorem mwL_411 : Cond.fieldLink RX12 99 "MiddleSpansModel" "at" "I" ∈ wsL_law := inr_18 _ (List.mem_of_getElem? (i := 3) rfl)
theorem mwL_412 : Cond.fieldLink RX12 115 "MiddleSpansModel" "left" "I" ∈ wsL_law := inr_18 _ (List.mem_of_getElem? (i := 4) rfl)
theorem mwL_413 : Cond.fieldLink RX12 121 "MiddleSpansModel" "right" "I" ∈ wsL_law := inr_18 _ (List.mem_of_getElem? (i := 5) rfl)
theorem mwL_414 : Cond.fieldLink RX12 118 "MiddleSpansModel" "first" "I" ∈ wsL_law := inr_18 _ (List.mem_of_getElem? (i := 6) rfl)
theorem mwL_415 : Cond.fieldLink RX12 124 "MiddleSpansModel" "last" "I" ∈ wsL_law := inr_18 _ (List.mem_of_getElem? (i := 7) rfl)
theorem mwL_416 : Cond.methodLink RX12 130 yX12_spansOfText ∈ wsL_law := inr_18 _ (List.mem_of_getElem? (i := 8) rfl)
theorem mwL_417 : Cond.instanceMethod yX12_spansOfText ∈ wsL_law := inr_18 _ (List.mem_of_getElem? (i := 9) rfl)
theorem mwL_418 : Cond.selects RX12 yX12_spansOfText yX12_spansOfText ∈ wsL_law := inr_18 _ (List.mem_of_getElem? (i := 10) rfl)
theorem mwL_419 : Cond.code yX12_spansOfText cX12_spansOfText 3 (some .int) ∈ wsL_law := inr_18 _ (List.mem_of_getElem? (i := 11) rfl)
theorem mwL_420 : Cond.fieldLink RX12 96 "MiddleSpansModel" "typed" "I" ∈ wsL_law := inr_18 _ (List.mem_of_getElem? (i := 12) rfl)
theorem mwL_421 : Cond.methodLink RX12 127 yX12_takesSpan ∈ wsL_law := inr_18 _ (List.mem_of_getElem? (i := 13) rfl)
theorem mwL_422 : Cond.instanceMethod yX12_takesSpan ∈ wsL_law := inr_18 _ (List.mem_of_getElem? (i := 14) rfl)
theorem mwL_423 : Cond.selects RX12 yX12_takesSpan yX12_takesSpan ∈ wsL_law := inr_18 _ (List.mem_of_getElem? (i := 15) rfl)
theorem mwL_424 : Cond.code yX12_takesSpan cX12_takesSpan 3 (some .boolean) ∈ wsL_law := inr_18 _ (List.mem_of_getElem? (i := 16) rfl)
theorem mwL_425 : Cond.fieldLink RX12 106 "MiddleSpansModel" "number" "I" ∈ wsL_law := inr_18 _ (List.mem_of_getElem? (i := 17) rfl)
theorem mwL_426 : Cond.methodLink RX12 109 yX12_takes ∈ wsL_law := inr_18 _ (List.mem_of_getElem? (i := 18) rfl)
theorem mwL_427 : Cond.instanceMethod yX12_takes ∈ wsL_law := inr_18 _ (List.mem_of_getElem? (i := 19) rfl)
theorem mwL_428 : Cond.selects RX12 yX12_takes yX12_takes ∈ wsL_law := inr_18 _ (List.mem_of_getElem? (i := 20) rfl)
theorem mwL_429 : Cond.code yX12_takes cX12_takes 2 (some .boolean) ∈ wsL_law := inr_18 _ (List.mem_of_getElem? (i := 21) rfl)
theorem mwL_430 : Cond.methodLink RX12 112 yX12_takesNumber ∈ wsL_law := inr_18 _ (List.mem_of_getElem? (i := 22) rfl)
theorem mwL_431 : Cond.instanceMethod yX12_takesNumber ∈ wsL_law := inr_18 _ (List.mem_of_getElem? (i := 23) rfl)
theorem mwL_432 : Cond.selects RX12 yX12_takesNumber yX12_takesNumber ∈ wsL_law := inr_19 _ (List.mem_of_getElem? (i := 0) rfl)
theorem mwL_433 : Cond.code yX12_takesNumber cX12_takesNumber 2 (some .boolean) ∈ wsL_law := inr_19 _ (List.mem_of_getElem? (i := 1) rfl)
theorem mwL_434 : Cond.methodLink RX12 102 yX12_isDigit ∈ wsL_law := inr_19 _ (List.mem_of_getElem? (i := 2) rfl)
theorem mwL_435 : Cond.instanceMethod yX12_isDigit ∈ wsL_law := inr_19 _ (List.mem_of_getElem? (i := 3) rfl)
theorem mwL_436 : Cond.selects RX12 yX12_isDigit yX12_isDigit ∈ wsL_law := inr_19 _ (List.mem_of_getElem? (i := 4) rfl)
theorem mwL_437 : Cond.code yX12_isDigit cX12_isDigit 1 (some .boolean) ∈ wsL_law := inr_19 _ (List.mem_of_getElem? (i := 5) rfl)
theorem mwL_438 : Cond.methodLink RL 23 yX11_remove ∈ wsL_law := inr_19 _ (List.mem_of_getElem? (i := 6) rfl)
theorem mwL_439 : Cond.instanceMethod yX11_remove ∈ wsL_law := inr_19 _ (List.mem_of_getElem? (i := 7) rfl)
theorem mwL_440 : Cond.selects RX11 yX11_remove yX11_remove ∈ wsL_law := inr_19 _ (List.mem_of_getElem? (i := 8) rfl)
theorem mwL_441 : Cond.code yX11_remove cX11_remove 2 (some .int) ∈ wsL_law := inr_19 _ (List.mem_of_getElem? (i := 9) rfl)
theorem mwL_442 : Cond.methodLink RX11 92 yX5_has ∈ wsL_law := inr_19 _ (List.mem_of_getElem? (i := 10) rfl)
theorem mwL_443 : Cond.instanceMethod yX5_has ∈ wsL_law := inr_19 _ (List.mem_of_getElem? (i := 11) rfl)
theorem mwL_444 : Cond.selects RX5 yX5_has yX5_has ∈ wsL_law := inr_19 _ (List.mem_of_getElem? (i := 12) rfl)
theorem mwL_445 : Cond.code yX5_has cX5_has 2 (some .boolean) ∈ wsL_law := inr_19 _ (List.mem_of_getElem? (i := 13) rfl)
theorem mwL_446 : Cond.methodLink RX5 34 yX5_isThere ∈ wsL_law := inr_19 _ (List.mem_of_getElem? (i := 14) rfl)
theorem mwL_447 : Cond.methodLink RX11 95 yX2_removeSpan ∈ wsL_law := inr_19 _ (List.mem_of_getElem? (i := 15) rfl)
theorem mwL_448 : Cond.instanceMethod yX2_removeSpan ∈ wsL_law := inr_19 _ (List.mem_of_getElem? (i := 16) rfl)
theorem mwL_449 : Cond.selects RX2 yX2_removeSpan yX2_removeSpan ∈ wsL_law := inr_19 _ (List.mem_of_getElem? (i := 17) rfl)
theorem mwL_450 : Cond.code yX2_removeSpan cX2_removeSpan 2 (some .int) ∈ wsL_law := inr_19 _ (List.mem_of_getElem? (i := 18) rfl)
theorem mwL_451 : Cond.methodLink RX2 58 yX5_takeAway ∈ wsL_law := inr_19 _ (List.mem_of_getElem? (i := 19) rfl)
theorem mwL_452 : Cond.instanceMethod yX5_takeAway ∈ wsL_law := inr_19 _ (List.mem_of_getElem? (i := 20) rfl)
theorem mwL_453 : Cond.selects RX5 yX5_takeAway yX5_takeAway ∈ wsL_law := inr_19 _ (List.mem_of_getElem? (i := 21) rfl)
theorem mwL_454 : Cond.code yX5_takeAway cX5_takeAway 2 none ∈ wsL_law := inr_19 _ (List.mem_of_getElem? (i := 22) rfl)
theorem mwL_455 : Cond.constantLong RX5 46 (-1) ∈ wsL_law := inr_19 _ (List.mem_of_getElem? (i := 23) rfl)
theorem mwL_456 : Cond.methodLink RL 27 yX12_remove ∈ wsL_law := inr_20 _ (List.mem_of_getElem? (i := 0) rfl)
theorem mwL_457 : Cond.instanceMethod yX12_remove ∈ wsL_law := inr_20 _ (List.mem_of_getElem? (i := 1) rfl)
theorem mwL_458 : Cond.selects RX12 yX12_remove yX12_remove ∈ wsL_law := inr_20 _ (List.mem_of_getElem? (i := 2) rfl)
theorem mwL_459 : Cond.code yX12_remove cX12_remove 2 (some .int) ∈ wsL_law := inr_20 _ (List.mem_of_getElem? (i := 3) rfl)
theorem mwL_460 : Cond.methodLink RX12 81 yX12_noSpan ∈ wsL_law := inr_20 _ (List.mem_of_getElem? (i := 4) rfl)
theorem mwL_461 : Cond.instanceMethod yX12_noSpan ∈ wsL_law := inr_20 _ (List.mem_of_getElem? (i := 5) rfl)
theorem mwL_462 : Cond.selects RX12 yX12_noSpan yX12_noSpan ∈ wsL_law := inr_20 _ (List.mem_of_getElem? (i := 6) rfl)
theorem mwL_463 : Cond.code yX12_noSpan cX12_noSpan 2 (some .boolean) ∈ wsL_law := inr_20 _ (List.mem_of_getElem? (i := 7) rfl)
theorem mwL_464 : Cond.methodLink RL 28 yX11_move ∈ wsL_law := inr_20 _ (List.mem_of_getElem? (i := 8) rfl)
theorem mwL_465 : Cond.instanceMethod yX11_move ∈ wsL_law := inr_20 _ (List.mem_of_getElem? (i := 9) rfl)
theorem mwL_466 : Cond.selects RX11 yX11_move yX11_move ∈ wsL_law := inr_20 _ (List.mem_of_getElem? (i := 10) rfl)
theorem mwL_467 : Cond.code yX11_move cX11_move 4 (some .int) ∈ wsL_law := inr_20 _ (List.mem_of_getElem? (i := 11) rfl)
theorem mwL_468 : Cond.fieldLink RX11 99 "MiddleSpans$Spans" "left" "[I" ∈ wsL_law := inr_20 _ (List.mem_of_getElem? (i := 12) rfl)
theorem mwL_469 : Cond.fieldLink RX11 100 "MiddleSpans$Spans" "right" "[I" ∈ wsL_law := inr_20 _ (List.mem_of_getElem? (i := 13) rfl)
theorem mwL_470 : Cond.methodLink RX11 101 yX2_moveSpan ∈ wsL_law := inr_20 _ (List.mem_of_getElem? (i := 14) rfl)
theorem mwL_471 : Cond.instanceMethod yX2_moveSpan ∈ wsL_law := inr_20 _ (List.mem_of_getElem? (i := 15) rfl)
theorem mwL_472 : Cond.selects RX2 yX2_moveSpan yX2_moveSpan ∈ wsL_law := inr_20 _ (List.mem_of_getElem? (i := 16) rfl)
theorem mwL_473 : Cond.code yX2_moveSpan cX2_moveSpan 3 (some .int) ∈ wsL_law := inr_20 _ (List.mem_of_getElem? (i := 17) rfl)
theorem mwL_474 : Cond.methodLink RX2 62 yX5_shift ∈ wsL_law := inr_20 _ (List.mem_of_getElem? (i := 18) rfl)
theorem mwL_475 : Cond.instanceMethod yX5_shift ∈ wsL_law := inr_20 _ (List.mem_of_getElem? (i := 19) rfl)
theorem mwL_476 : Cond.selects RX5 yX5_shift yX5_shift ∈ wsL_law := inr_20 _ (List.mem_of_getElem? (i := 20) rfl)
theorem mwL_477 : Cond.code yX5_shift cX5_shift 3 none ∈ wsL_law := inr_20 _ (List.mem_of_getElem? (i := 21) rfl)
theorem mwL_478 : Cond.methodLink RL 31 yX12_move ∈ wsL_law := inr_20 _ (List.mem_of_getElem? (i := 22) rfl)
theorem mwL_479 : Cond.instanceMethod yX12_move ∈ wsL_law := inr_20 _ (List.mem_of_getElem? (i := 23) rfl)
theorem mwL_480 : Cond.selects RX12 yX12_move yX12_move ∈ wsL_law := inr_21 _ (List.mem_of_getElem? (i := 0) rfl)
theorem mwL_481 : Cond.code yX12_move cX12_move 4 (some .int) ∈ wsL_law := inr_21 _ (List.mem_of_getElem? (i := 1) rfl)
theorem mwL_482 : Cond.methodLink RL 32 yX11_come ∈ wsL_law := inr_21 _ (List.mem_of_getElem? (i := 2) rfl)
theorem mwL_483 : Cond.instanceMethod yX11_come ∈ wsL_law := inr_21 _ (List.mem_of_getElem? (i := 3) rfl)
theorem mwL_484 : Cond.selects RX11 yX11_come yX11_come ∈ wsL_law := inr_21 _ (List.mem_of_getElem? (i := 4) rfl)
theorem mwL_485 : Cond.code yX11_come cX11_come 3 (some .int) ∈ wsL_law := inr_21 _ (List.mem_of_getElem? (i := 5) rfl)
theorem mwL_486 : Cond.fieldLink RX11 108 "MiddleSpans$State" "walkers" "LMiddleSpans$Walkers;" ∈ wsL_law := inr_21 _ (List.mem_of_getElem? (i := 6) rfl)
theorem mwL_487 : Cond.fieldLink RX11 112 "MiddleSpans$Walkers" "size" "I" ∈ wsL_law := inr_21 _ (List.mem_of_getElem? (i := 7) rfl)
theorem mwL_488 : Cond.methodLink RX11 105 yX11_isSpeed ∈ wsL_law := inr_21 _ (List.mem_of_getElem? (i := 8) rfl)
theorem mwL_489 : Cond.static yX11_isSpeed ∈ wsL_law := inr_21 _ (List.mem_of_getElem? (i := 9) rfl)
theorem mwL_490 : Cond.code yX11_isSpeed cX11_isSpeed 1 (some .boolean) ∈ wsL_law := inr_21 _ (List.mem_of_getElem? (i := 10) rfl)
theorem mwL_491 : Cond.methodLink RX11 115 yX2_addWalker ∈ wsL_law := inr_21 _ (List.mem_of_getElem? (i := 11) rfl)
theorem mwL_492 : Cond.instanceMethod yX2_addWalker ∈ wsL_law := inr_21 _ (List.mem_of_getElem? (i := 12) rfl)
theorem mwL_493 : Cond.selects RX2 yX2_addWalker yX2_addWalker ∈ wsL_law := inr_21 _ (List.mem_of_getElem? (i := 13) rfl)
theorem mwL_494 : Cond.code yX2_addWalker cX2_addWalker 4 (some .int) ∈ wsL_law := inr_21 _ (List.mem_of_getElem? (i := 14) rfl)
theorem mwL_495 : Cond.methodLink RX2 70 yX9_append ∈ wsL_law := inr_21 _ (List.mem_of_getElem? (i := 15) rfl)
theorem mwL_496 : Cond.instanceMethod yX9_append ∈ wsL_law := inr_21 _ (List.mem_of_getElem? (i := 16) rfl)
theorem mwL_497 : Cond.selects RX9 yX9_append yX9_append ∈ wsL_law := inr_21 _ (List.mem_of_getElem? (i := 17) rfl)
theorem mwL_498 : Cond.code yX9_append cX9_append 4 (some .int) ∈ wsL_law := inr_21 _ (List.mem_of_getElem? (i := 18) rfl)
theorem mwL_499 : Cond.methodLink RL 35 yX12_come ∈ wsL_law := inr_21 _ (List.mem_of_getElem? (i := 19) rfl)
theorem mwL_500 : Cond.instanceMethod yX12_come ∈ wsL_law := inr_21 _ (List.mem_of_getElem? (i := 20) rfl)
theorem mwL_501 : Cond.selects RX12 yX12_come yX12_come ∈ wsL_law := inr_21 _ (List.mem_of_getElem? (i := 21) rfl)
theorem mwL_502 : Cond.code yX12_come cX12_come 5 (some .int) ∈ wsL_law := inr_21 _ (List.mem_of_getElem? (i := 22) rfl)
theorem mwL_503 : Cond.methodLink RL 36 yX11_put ∈ wsL_law := inr_21 _ (List.mem_of_getElem? (i := 23) rfl)
theorem mwL_504 : Cond.instanceMethod yX11_put ∈ wsL_law := inr_22 _ (List.mem_of_getElem? (i := 0) rfl)
theorem mwL_505 : Cond.selects RX11 yX11_put yX11_put ∈ wsL_law := inr_22 _ (List.mem_of_getElem? (i := 1) rfl)
theorem mwL_506 : Cond.code yX11_put cX11_put 4 (some .int) ∈ wsL_law := inr_22 _ (List.mem_of_getElem? (i := 2) rfl)
theorem mwL_507 : Cond.fieldLink RX11 119 "MiddleSpans$Walkers" "place" "[I" ∈ wsL_law := inr_22 _ (List.mem_of_getElem? (i := 3) rfl)
theorem mwL_508 : Cond.methodLink RX11 118 yX9_has ∈ wsL_law := inr_22 _ (List.mem_of_getElem? (i := 4) rfl)
theorem mwL_509 : Cond.instanceMethod yX9_has ∈ wsL_law := inr_22 _ (List.mem_of_getElem? (i := 5) rfl)
theorem mwL_510 : Cond.selects RX9 yX9_has yX9_has ∈ wsL_law := inr_22 _ (List.mem_of_getElem? (i := 6) rfl)
theorem mwL_511 : Cond.code yX9_has cX9_has 2 (some .boolean) ∈ wsL_law := inr_22 _ (List.mem_of_getElem? (i := 7) rfl)
theorem mwL_512 : Cond.methodLink RX11 122 yX2_putWalker ∈ wsL_law := inr_22 _ (List.mem_of_getElem? (i := 8) rfl)
theorem mwL_513 : Cond.instanceMethod yX2_putWalker ∈ wsL_law := inr_22 _ (List.mem_of_getElem? (i := 9) rfl)
theorem mwL_514 : Cond.selects RX2 yX2_putWalker yX2_putWalker ∈ wsL_law := inr_22 _ (List.mem_of_getElem? (i := 10) rfl)
theorem mwL_515 : Cond.code yX2_putWalker cX2_putWalker 3 (some .int) ∈ wsL_law := inr_22 _ (List.mem_of_getElem? (i := 11) rfl)
theorem mwL_516 : Cond.methodLink RL 39 yX12_put ∈ wsL_law := inr_22 _ (List.mem_of_getElem? (i := 12) rfl)
theorem mwL_517 : Cond.instanceMethod yX12_put ∈ wsL_law := inr_22 _ (List.mem_of_getElem? (i := 13) rfl)
theorem mwL_518 : Cond.selects RX12 yX12_put yX12_put ∈ wsL_law := inr_22 _ (List.mem_of_getElem? (i := 14) rfl)
theorem mwL_519 : Cond.code yX12_put cX12_put 3 (some .int) ∈ wsL_law := inr_22 _ (List.mem_of_getElem? (i := 15) rfl)
theorem mwL_520 : Cond.methodLink RX12 84 yX12_noWalker ∈ wsL_law := inr_22 _ (List.mem_of_getElem? (i := 16) rfl)
theorem mwL_521 : Cond.instanceMethod yX12_noWalker ∈ wsL_law := inr_22 _ (List.mem_of_getElem? (i := 17) rfl)
theorem mwL_522 : Cond.selects RX12 yX12_noWalker yX12_noWalker ∈ wsL_law := inr_22 _ (List.mem_of_getElem? (i := 18) rfl)
theorem mwL_523 : Cond.code yX12_noWalker cX12_noWalker 2 (some .boolean) ∈ wsL_law := inr_22 _ (List.mem_of_getElem? (i := 19) rfl)
theorem mwL_524 : Cond.methodLink RL 40 yX11_speed ∈ wsL_law := inr_22 _ (List.mem_of_getElem? (i := 20) rfl)
theorem mwL_525 : Cond.instanceMethod yX11_speed ∈ wsL_law := inr_22 _ (List.mem_of_getElem? (i := 21) rfl)
theorem mwL_526 : Cond.selects RX11 yX11_speed yX11_speed ∈ wsL_law := inr_22 _ (List.mem_of_getElem? (i := 22) rfl)
theorem mwL_527 : Cond.code yX11_speed cX11_speed 5 (some .int) ∈ wsL_law := inr_22 _ (List.mem_of_getElem? (i := 23) rfl)
theorem mwL_528 : Cond.fieldLink RX11 125 "MiddleSpans$Walkers" "speed" "[I" ∈ wsL_law := inr_23 _ (List.mem_of_getElem? (i := 0) rfl)
theorem mwL_529 : Cond.methodLink RL 43 yX12_speed ∈ wsL_law := inr_23 _ (List.mem_of_getElem? (i := 1) rfl)
theorem mwL_530 : Cond.instanceMethod yX12_speed ∈ wsL_law := inr_23 _ (List.mem_of_getElem? (i := 2) rfl)
theorem mwL_531 : Cond.selects RX12 yX12_speed yX12_speed ∈ wsL_law := inr_23 _ (List.mem_of_getElem? (i := 3) rfl)
theorem mwL_532 : Cond.code yX12_speed cX12_speed 4 (some .int) ∈ wsL_law := inr_23 _ (List.mem_of_getElem? (i := 4) rfl)
theorem mwL_533 : Cond.methodLink RL 44 yX11_pass ∈ wsL_law := inr_23 _ (List.mem_of_getElem? (i := 5) rfl)
theorem mwL_534 : Cond.instanceMethod yX11_pass ∈ wsL_law := inr_23 _ (List.mem_of_getElem? (i := 6) rfl)
theorem mwL_535 : Cond.selects RX11 yX11_pass yX11_pass ∈ wsL_law := inr_23 _ (List.mem_of_getElem? (i := 7) rfl)
theorem mwL_536 : Cond.code yX11_pass cX11_pass 4 (some .int) ∈ wsL_law := inr_23 _ (List.mem_of_getElem? (i := 8) rfl)
theorem mwL_537 : Cond.fieldLink RX11 128 "MiddleSpans$State" "tick" "I" ∈ wsL_law := inr_23 _ (List.mem_of_getElem? (i := 9) rfl)
theorem mwL_538 : Cond.methodLink RX11 131 yX2_passTick ∈ wsL_law := inr_23 _ (List.mem_of_getElem? (i := 10) rfl)
theorem mwL_539 : Cond.instanceMethod yX2_passTick ∈ wsL_law := inr_23 _ (List.mem_of_getElem? (i := 11) rfl)
theorem mwL_540 : Cond.selects RX2 yX2_passTick yX2_passTick ∈ wsL_law := inr_23 _ (List.mem_of_getElem? (i := 12) rfl)
theorem mwL_541 : Cond.code yX2_passTick cX2_passTick 3 (some .int) ∈ wsL_law := inr_23 _ (List.mem_of_getElem? (i := 13) rfl)
theorem mwL_542 : Cond.methodLink RX2 90 yX9_stepTurns ∈ wsL_law := inr_23 _ (List.mem_of_getElem? (i := 14) rfl)
theorem mwL_543 : Cond.instanceMethod yX9_stepTurns ∈ wsL_law := inr_23 _ (List.mem_of_getElem? (i := 15) rfl)
theorem mwL_544 : Cond.selects RX9 yX9_stepTurns yX9_stepTurns ∈ wsL_law := inr_23 _ (List.mem_of_getElem? (i := 16) rfl)
theorem mwL_545 : Cond.code yX9_stepTurns cX9_stepTurns 5 (some .boolean) ∈ wsL_law := inr_23 _ (List.mem_of_getElem? (i := 17) rfl)
theorem mwL_546 : Cond.methodLink RX9 54 Lib.Math.abs.name ∈ wsL_law := inr_23 _ (List.mem_of_getElem? (i := 18) rfl)
theorem mwL_547 : Cond.static Lib.Math.abs.name ∈ wsL_law := inr_23 _ (List.mem_of_getElem? (i := 19) rfl)
theorem mwL_548 : Cond.initialized "java/lang/Math" ∈ wsL_law := inr_23 _ (List.mem_of_getElem? (i := 20) rfl)
theorem mwL_549 : Cond.code Lib.Math.abs.name Lib.Math.abs.code 1 (some .int) ∈ wsL_law := inr_23 _ (List.mem_of_getElem? (i := 21) rfl)
theorem mwL_550 : Cond.static yX11_turnsNext ∈ wsL_law := inr_23 _ (List.mem_of_getElem? (i := 22) rfl)
theorem mwL_551 : Cond.code yX11_turnsNext cX11_turnsNext 2 (some .boolean) ∈ wsL_law := inr_23 _ (List.mem_of_getElem? (i := 23) rfl)
theorem mwL_552 : Cond.static yX11_nextPlace ∈ wsL_law := inr_24 _ (List.mem_of_getElem? (i := 0) rfl)
theorem mwL_553 : Cond.code yX11_nextPlace cX11_nextPlace 3 (some .int) ∈ wsL_law := inr_24 _ (List.mem_of_getElem? (i := 1) rfl)
theorem mwL_554 : Cond.static yX11_nextSpeed ∈ wsL_law := inr_24 _ (List.mem_of_getElem? (i := 2) rfl)
theorem mwL_555 : Cond.code yX11_nextSpeed cX11_nextSpeed 2 (some .int) ∈ wsL_law := inr_24 _ (List.mem_of_getElem? (i := 3) rfl)
theorem mwL_556 : Cond.methodLink RX11 312 yX11_turnsNext ∈ wsL_law := inr_24 _ (List.mem_of_getElem? (i := 4) rfl)
theorem mwL_557 : Cond.methodLink RX2 104 yX2_countTickInside ∈ wsL_law := inr_24 _ (List.mem_of_getElem? (i := 5) rfl)
theorem mwL_558 : Cond.instanceMethod yX2_countTickInside ∈ wsL_law := inr_24 _ (List.mem_of_getElem? (i := 6) rfl)
theorem mwL_559 : Cond.selects RX2 yX2_countTickInside yX2_countTickInside ∈ wsL_law := inr_24 _ (List.mem_of_getElem? (i := 7) rfl)
theorem mwL_560 : Cond.code yX2_countTickInside cX2_countTickInside 3 none ∈ wsL_law := inr_24 _ (List.mem_of_getElem? (i := 8) rfl)
theorem mwL_561 : Cond.fieldLink RX2 116 "MiddleSpans$Spans" "ticksInside" "[I" ∈ wsL_law := inr_24 _ (List.mem_of_getElem? (i := 9) rfl)
theorem mwL_562 : Cond.methodLink RL 47 yX12_pass ∈ wsL_law := inr_24 _ (List.mem_of_getElem? (i := 10) rfl)
theorem mwL_563 : Cond.instanceMethod yX12_pass ∈ wsL_law := inr_24 _ (List.mem_of_getElem? (i := 11) rfl)
theorem mwL_564 : Cond.selects RX12 yX12_pass yX12_pass ∈ wsL_law := inr_24 _ (List.mem_of_getElem? (i := 12) rfl)
theorem mwL_565 : Cond.code yX12_pass cX12_pass 4 (some .int) ∈ wsL_law := inr_24 _ (List.mem_of_getElem? (i := 13) rfl)
theorem mwL_566 : Cond.methodLink RX12 93 yX12_aTick ∈ wsL_law := inr_24 _ (List.mem_of_getElem? (i := 14) rfl)
theorem mwL_567 : Cond.instanceMethod yX12_aTick ∈ wsL_law := inr_24 _ (List.mem_of_getElem? (i := 15) rfl)
theorem mwL_568 : Cond.selects RX12 yX12_aTick yX12_aTick ∈ wsL_law := inr_24 _ (List.mem_of_getElem? (i := 16) rfl)
theorem mwL_569 : Cond.code yX12_aTick cX12_aTick 4 (some .int) ∈ wsL_law := inr_24 _ (List.mem_of_getElem? (i := 17) rfl)
theorem mwL_570 : Cond.methodLink RX12 90 yX12_goes ∈ wsL_law := inr_24 _ (List.mem_of_getElem? (i := 18) rfl)
theorem mwL_571 : Cond.instanceMethod yX12_goes ∈ wsL_law := inr_24 _ (List.mem_of_getElem? (i := 19) rfl)
theorem mwL_572 : Cond.selects RX12 yX12_goes yX12_goes ∈ wsL_law := inr_24 _ (List.mem_of_getElem? (i := 20) rfl)
theorem mwL_573 : Cond.code yX12_goes cX12_goes 5 (some .int) ∈ wsL_law := inr_24 _ (List.mem_of_getElem? (i := 21) rfl)
theorem mwL_574 : Cond.methodLink RX12 87 yX12_turned ∈ wsL_law := inr_24 _ (List.mem_of_getElem? (i := 22) rfl)
theorem mwL_575 : Cond.static yX12_turned ∈ wsL_law := inr_24 _ (List.mem_of_getElem? (i := 23) rfl)
theorem mwL_576 : Cond.code yX12_turned cX12_turned 1 (some .int) ∈ wsL_law := inr_25 _ (List.mem_of_getElem? (i := 0) rfl)
theorem mwL_577 : Cond.methodLink RL 48 yX11_type ∈ wsL_law := inr_25 _ (List.mem_of_getElem? (i := 1) rfl)
theorem mwL_578 : Cond.instanceMethod yX11_type ∈ wsL_law := inr_25 _ (List.mem_of_getElem? (i := 2) rfl)
theorem mwL_579 : Cond.selects RX11 yX11_type yX11_type ∈ wsL_law := inr_25 _ (List.mem_of_getElem? (i := 3) rfl)
theorem mwL_580 : Cond.code yX11_type cX11_type 2 (some .int) ∈ wsL_law := inr_25 _ (List.mem_of_getElem? (i := 4) rfl)
theorem mwL_581 : Cond.fieldLink RX11 139 "MiddleSpans$Text" "length" "I" ∈ wsL_law := inr_25 _ (List.mem_of_getElem? (i := 5) rfl)
theorem mwL_582 : Cond.methodLink RX11 135 yX7_append ∈ wsL_law := inr_25 _ (List.mem_of_getElem? (i := 6) rfl)
theorem mwL_583 : Cond.instanceMethod yX7_append ∈ wsL_law := inr_25 _ (List.mem_of_getElem? (i := 7) rfl)
theorem mwL_584 : Cond.selects RX7 yX7_append yX7_append ∈ wsL_law := inr_25 _ (List.mem_of_getElem? (i := 8) rfl)
theorem mwL_585 : Cond.code yX7_append cX7_append 2 (some .boolean) ∈ wsL_law := inr_25 _ (List.mem_of_getElem? (i := 9) rfl)
theorem mwL_586 : Cond.methodLink RL 52 yX12_type ∈ wsL_law := inr_25 _ (List.mem_of_getElem? (i := 10) rfl)
theorem mwL_587 : Cond.instanceMethod yX12_type ∈ wsL_law := inr_25 _ (List.mem_of_getElem? (i := 11) rfl)
theorem mwL_588 : Cond.selects RX12 yX12_type yX12_type ∈ wsL_law := inr_25 _ (List.mem_of_getElem? (i := 12) rfl)
theorem mwL_589 : Cond.code yX12_type cX12_type 2 (some .int) ∈ wsL_law := inr_25 _ (List.mem_of_getElem? (i := 13) rfl)
theorem mwL_590 : Cond.methodLink RL 53 yX11_clearText ∈ wsL_law := inr_25 _ (List.mem_of_getElem? (i := 14) rfl)
theorem mwL_591 : Cond.instanceMethod yX11_clearText ∈ wsL_law := inr_25 _ (List.mem_of_getElem? (i := 15) rfl)
theorem mwL_592 : Cond.selects RX11 yX11_clearText yX11_clearText ∈ wsL_law := inr_25 _ (List.mem_of_getElem? (i := 16) rfl)
theorem mwL_593 : Cond.code yX11_clearText cX11_clearText 2 (some .int) ∈ wsL_law := inr_25 _ (List.mem_of_getElem? (i := 17) rfl)
theorem mwL_594 : Cond.methodLink RL 56 yX12_clearText ∈ wsL_law := inr_25 _ (List.mem_of_getElem? (i := 18) rfl)
theorem mwL_595 : Cond.instanceMethod yX12_clearText ∈ wsL_law := inr_25 _ (List.mem_of_getElem? (i := 19) rfl)
theorem mwL_596 : Cond.selects RX12 yX12_clearText yX12_clearText ∈ wsL_law := inr_25 _ (List.mem_of_getElem? (i := 20) rfl)
theorem mwL_597 : Cond.code yX12_clearText cX12_clearText 2 (some .int) ∈ wsL_law := inr_25 _ (List.mem_of_getElem? (i := 21) rfl)
theorem mwL_598 : Cond.methodLink RL 57 yX11_undo ∈ wsL_law := inr_25 _ (List.mem_of_getElem? (i := 22) rfl)
theorem mwL_599 : Cond.instanceMethod yX11_undo ∈ wsL_law := inr_25 _ (List.mem_of_getElem? (i := 23) rfl)
theorem mwL_600 : Cond.selects RX11 yX11_undo yX11_undo ∈ wsL_law := inr_26 _ (List.mem_of_getElem? (i := 0) rfl)
theorem mwL_601 : Cond.code yX11_undo cX11_undo 2 (some .int) ∈ wsL_law := inr_26 _ (List.mem_of_getElem? (i := 1) rfl)
theorem mwL_602 : Cond.fieldLink RX11 149 "MiddleSpans$History" "size" "I" ∈ wsL_law := inr_26 _ (List.mem_of_getElem? (i := 2) rfl)
theorem mwL_603 : Cond.methodLink RX11 142 yX1_takeLatest ∈ wsL_law := inr_26 _ (List.mem_of_getElem? (i := 3) rfl)
theorem mwL_604 : Cond.instanceMethod yX1_takeLatest ∈ wsL_law := inr_26 _ (List.mem_of_getElem? (i := 4) rfl)
theorem mwL_605 : Cond.selects RX1 yX1_takeLatest yX1_takeLatest ∈ wsL_law := inr_26 _ (List.mem_of_getElem? (i := 5) rfl)
theorem mwL_606 : Cond.code yX1_takeLatest cX1_takeLatest 1 (some (.object "MiddleSpans$State")) ∈ wsL_law := inr_26 _ (List.mem_of_getElem? (i := 6) rfl)
theorem mwL_607 : Cond.methodLink RX11 146 yX2_become ∈ wsL_law := inr_26 _ (List.mem_of_getElem? (i := 7) rfl)
theorem mwL_608 : Cond.instanceMethod yX2_become ∈ wsL_law := inr_26 _ (List.mem_of_getElem? (i := 8) rfl)
theorem mwL_609 : Cond.selects RX2 yX2_become yX2_become ∈ wsL_law := inr_26 _ (List.mem_of_getElem? (i := 9) rfl)
theorem mwL_610 : Cond.code yX2_become cX2_become 2 none ∈ wsL_law := inr_26 _ (List.mem_of_getElem? (i := 10) rfl)
theorem mwL_611 : Cond.methodLink RX2 32 yX6_copyFrom ∈ wsL_law := inr_26 _ (List.mem_of_getElem? (i := 11) rfl)
theorem mwL_612 : Cond.methodLink RL 60 yX12_undo ∈ wsL_law := inr_26 _ (List.mem_of_getElem? (i := 12) rfl)
theorem mwL_613 : Cond.instanceMethod yX12_undo ∈ wsL_law := inr_26 _ (List.mem_of_getElem? (i := 13) rfl)
theorem mwL_614 : Cond.selects RX12 yX12_undo yX12_undo ∈ wsL_law := inr_26 _ (List.mem_of_getElem? (i := 14) rfl)
theorem mwL_615 : Cond.code yX12_undo cX12_undo 2 (some .int) ∈ wsL_law := inr_26 _ (List.mem_of_getElem? (i := 15) rfl)
theorem mwL_616 : Cond.methodLink RL 61 yX11_keep ∈ wsL_law := inr_26 _ (List.mem_of_getElem? (i := 16) rfl)
theorem mwL_617 : Cond.instanceMethod yX11_keep ∈ wsL_law := inr_26 _ (List.mem_of_getElem? (i := 17) rfl)
theorem mwL_618 : Cond.selects RX11 yX11_keep yX11_keep ∈ wsL_law := inr_26 _ (List.mem_of_getElem? (i := 18) rfl)
theorem mwL_619 : Cond.code yX11_keep cX11_keep 1 (some .int) ∈ wsL_law := inr_26 _ (List.mem_of_getElem? (i := 19) rfl)
theorem mwL_620 : Cond.fieldLink RX11 153 "MiddleSpans" "kept" "Z" ∈ wsL_law := inr_26 _ (List.mem_of_getElem? (i := 20) rfl)
theorem mwL_621 : Cond.methodLink RX11 150 yX6_copyFrom ∈ wsL_law := inr_26 _ (List.mem_of_getElem? (i := 21) rfl)
theorem mwL_622 : Cond.methodLink RX11 157 yX5_countThere ∈ wsL_law := inr_26 _ (List.mem_of_getElem? (i := 22) rfl)
theorem mwL_623 : Cond.instanceMethod yX5_countThere ∈ wsL_law := inr_26 _ (List.mem_of_getElem? (i := 23) rfl)
theorem mwL_624 : Cond.selects RX5 yX5_countThere yX5_countThere ∈ wsL_law := inr_27 _ (List.mem_of_getElem? (i := 0) rfl)
theorem mwL_625 : Cond.code yX5_countThere cX5_countThere 1 (some .int) ∈ wsL_law := inr_27 _ (List.mem_of_getElem? (i := 1) rfl)
theorem mwL_626 : Cond.methodLink RX5 48 yJ13_bitCount_95d88 ∈ wsL_law := inr_27 _ (List.mem_of_getElem? (i := 2) rfl)
theorem mwL_627 : Cond.methodLink RL 64 yX12_keep ∈ wsL_law := inr_27 _ (List.mem_of_getElem? (i := 3) rfl)
theorem mwL_628 : Cond.instanceMethod yX12_keep ∈ wsL_law := inr_27 _ (List.mem_of_getElem? (i := 4) rfl)
theorem mwL_629 : Cond.selects RX12 yX12_keep yX12_keep ∈ wsL_law := inr_27 _ (List.mem_of_getElem? (i := 5) rfl)
theorem mwL_630 : Cond.code yX12_keep cX12_keep 2 (some .int) ∈ wsL_law := inr_27 _ (List.mem_of_getElem? (i := 6) rfl)
theorem mwL_631 : Cond.fieldLink RX12 133 "MiddleSpansModel" "isFilled" "Z" ∈ wsL_law := inr_27 _ (List.mem_of_getElem? (i := 7) rfl)
theorem mwL_632 : Cond.methodLink RX12 137 yX12_there ∈ wsL_law := inr_27 _ (List.mem_of_getElem? (i := 8) rfl)
theorem mwL_633 : Cond.instanceMethod yX12_there ∈ wsL_law := inr_27 _ (List.mem_of_getElem? (i := 9) rfl)
theorem mwL_634 : Cond.selects RX12 yX12_there yX12_there ∈ wsL_law := inr_27 _ (List.mem_of_getElem? (i := 10) rfl)
theorem mwL_635 : Cond.code yX12_there cX12_there 3 (some .int) ∈ wsL_law := inr_27 _ (List.mem_of_getElem? (i := 11) rfl)
theorem mwL_636 : Cond.methodLink RL 65 yX11_restore ∈ wsL_law := inr_27 _ (List.mem_of_getElem? (i := 12) rfl)
theorem mwL_637 : Cond.instanceMethod yX11_restore ∈ wsL_law := inr_27 _ (List.mem_of_getElem? (i := 13) rfl)
theorem mwL_638 : Cond.selects RX11 yX11_restore yX11_restore ∈ wsL_law := inr_27 _ (List.mem_of_getElem? (i := 14) rfl)
theorem mwL_639 : Cond.code yX11_restore cX11_restore 1 (some .int) ∈ wsL_law := inr_27 _ (List.mem_of_getElem? (i := 15) rfl)
theorem mwL_640 : Cond.methodLink RL 68 yX12_restore ∈ wsL_law := inr_27 _ (List.mem_of_getElem? (i := 16) rfl)
theorem mwL_641 : Cond.instanceMethod yX12_restore ∈ wsL_law := inr_27 _ (List.mem_of_getElem? (i := 17) rfl)
theorem mwL_642 : Cond.selects RX12 yX12_restore yX12_restore ∈ wsL_law := inr_27 _ (List.mem_of_getElem? (i := 18) rfl)
theorem mwL_643 : Cond.code yX12_restore cX12_restore 2 (some .int) ∈ wsL_law := inr_27 _ (List.mem_of_getElem? (i := 19) rfl)
theorem mwL_644 : Cond.methodLink RL 69 yX11_span ∈ wsL_law := inr_27 _ (List.mem_of_getElem? (i := 20) rfl)
theorem mwL_645 : Cond.instanceMethod yX11_span ∈ wsL_law := inr_27 _ (List.mem_of_getElem? (i := 21) rfl)
theorem mwL_646 : Cond.selects RX11 yX11_span yX11_span ∈ wsL_law := inr_27 _ (List.mem_of_getElem? (i := 22) rfl)
theorem mwL_647 : Cond.code yX11_span cX11_span 4 (some .int) ∈ wsL_law := inr_27 _ (List.mem_of_getElem? (i := 23) rfl)
theorem mwL_648 : Cond.fieldLink RX11 160 "MiddleSpans$Spans" "first" "[I" ∈ wsL_law := inr_28 _ (List.mem_of_getElem? (i := 0) rfl)
theorem mwL_649 : Cond.fieldLink RX11 163 "MiddleSpans$Spans" "last" "[I" ∈ wsL_law := inr_28 _ (List.mem_of_getElem? (i := 1) rfl)
theorem mwL_650 : Cond.fieldLink RX11 166 "MiddleSpans$Line" "tree" "LMiddleSpans$Tree;" ∈ wsL_law := inr_28 _ (List.mem_of_getElem? (i := 2) rfl)
theorem mwL_651 : Cond.fieldLink RX11 170 "MiddleSpans$Tree" "middleOf" "[I" ∈ wsL_law := inr_28 _ (List.mem_of_getElem? (i := 3) rfl)
theorem mwL_652 : Cond.fieldLink RX11 175 "MiddleSpans$Tree" "depthOf" "[I" ∈ wsL_law := inr_28 _ (List.mem_of_getElem? (i := 4) rfl)
theorem mwL_653 : Cond.fieldLink RX11 181 "MiddleSpans$Spans" "ticksInside" "[I" ∈ wsL_law := inr_28 _ (List.mem_of_getElem? (i := 5) rfl)
theorem mwL_654 : Cond.fieldLink RX11 184 "MiddleSpans$Spans" "timesEntered" "[I" ∈ wsL_law := inr_28 _ (List.mem_of_getElem? (i := 6) rfl)
theorem mwL_655 : Cond.methodLink RX11 178 yX9_countInside ∈ wsL_law := inr_28 _ (List.mem_of_getElem? (i := 7) rfl)
theorem mwL_656 : Cond.instanceMethod yX9_countInside ∈ wsL_law := inr_28 _ (List.mem_of_getElem? (i := 8) rfl)
theorem mwL_657 : Cond.selects RX9 yX9_countInside yX9_countInside ∈ wsL_law := inr_28 _ (List.mem_of_getElem? (i := 9) rfl)
theorem mwL_658 : Cond.code yX9_countInside cX9_countInside 4 (some .int) ∈ wsL_law := inr_28 _ (List.mem_of_getElem? (i := 10) rfl)
theorem mwL_659 : Cond.methodLink RL 72 yX12_span ∈ wsL_law := inr_28 _ (List.mem_of_getElem? (i := 11) rfl)
theorem mwL_660 : Cond.instanceMethod yX12_span ∈ wsL_law := inr_28 _ (List.mem_of_getElem? (i := 12) rfl)
theorem mwL_661 : Cond.selects RX12 yX12_span yX12_span ∈ wsL_law := inr_28 _ (List.mem_of_getElem? (i := 13) rfl)
theorem mwL_662 : Cond.code yX12_span cX12_span 3 (some .int) ∈ wsL_law := inr_28 _ (List.mem_of_getElem? (i := 14) rfl)
theorem mwL_663 : Cond.fieldLink RX12 143 "MiddleSpansModel" "middle" "I" ∈ wsL_law := inr_28 _ (List.mem_of_getElem? (i := 15) rfl)
theorem mwL_664 : Cond.fieldLink RX12 140 "MiddleSpansModel" "depth" "I" ∈ wsL_law := inr_28 _ (List.mem_of_getElem? (i := 16) rfl)
theorem mwL_665 : Cond.methodLink RX12 149 yX12_finds ∈ wsL_law := inr_28 _ (List.mem_of_getElem? (i := 17) rfl)
theorem mwL_666 : Cond.instanceMethod yX12_finds ∈ wsL_law := inr_28 _ (List.mem_of_getElem? (i := 18) rfl)
theorem mwL_667 : Cond.selects RX12 yX12_finds yX12_finds ∈ wsL_law := inr_28 _ (List.mem_of_getElem? (i := 19) rfl)
theorem mwL_668 : Cond.code yX12_finds cX12_finds 5 none ∈ wsL_law := inr_28 _ (List.mem_of_getElem? (i := 20) rfl)
theorem mwL_669 : Cond.methodLink RX12 159 yX12_guests ∈ wsL_law := inr_28 _ (List.mem_of_getElem? (i := 21) rfl)
theorem mwL_670 : Cond.instanceMethod yX12_guests ∈ wsL_law := inr_28 _ (List.mem_of_getElem? (i := 22) rfl)
theorem mwL_671 : Cond.selects RX12 yX12_guests yX12_guests ∈ wsL_law := inr_28 _ (List.mem_of_getElem? (i := 23) rfl)
theorem mwL_672 : Cond.code yX12_guests cX12_guests 4 (some .int) ∈ wsL_law := inr_29 _ (List.mem_of_getElem? (i := 0) rfl)
theorem mwL_673 : Cond.methodLink RL 73 yX11_walker ∈ wsL_law := inr_29 _ (List.mem_of_getElem? (i := 1) rfl)
theorem mwL_674 : Cond.instanceMethod yX11_walker ∈ wsL_law := inr_29 _ (List.mem_of_getElem? (i := 2) rfl)
theorem mwL_675 : Cond.selects RX11 yX11_walker yX11_walker ∈ wsL_law := inr_29 _ (List.mem_of_getElem? (i := 3) rfl)
theorem mwL_676 : Cond.code yX11_walker cX11_walker 4 (some .int) ∈ wsL_law := inr_29 _ (List.mem_of_getElem? (i := 4) rfl)
theorem mwL_677 : Cond.fieldLink RX11 187 "MiddleSpans$Walkers" "inside" "[J" ∈ wsL_law := inr_29 _ (List.mem_of_getElem? (i := 5) rfl)
theorem mwL_678 : Cond.fieldLink RX11 197 "MiddleSpans$Walkers" "entered" "[I" ∈ wsL_law := inr_29 _ (List.mem_of_getElem? (i := 6) rfl)
theorem mwL_679 : Cond.fieldLink RX11 200 "MiddleSpans$Walkers" "left" "[I" ∈ wsL_law := inr_29 _ (List.mem_of_getElem? (i := 7) rfl)
theorem mwL_680 : Cond.fieldLink RX11 207 "MiddleSpans$Walkers" "way" "[I" ∈ wsL_law := inr_29 _ (List.mem_of_getElem? (i := 8) rfl)
theorem mwL_681 : Cond.fieldLink RX11 210 "MiddleSpans$Walkers" "turns" "[I" ∈ wsL_law := inr_29 _ (List.mem_of_getElem? (i := 9) rfl)
theorem mwL_682 : Cond.methodLink RX11 191 yJ13_bitCount_95d88 ∈ wsL_law := inr_29 _ (List.mem_of_getElem? (i := 10) rfl)
theorem mwL_683 : Cond.methodLink RX11 201 yX11_ticksInOldest ∈ wsL_law := inr_29 _ (List.mem_of_getElem? (i := 11) rfl)
theorem mwL_684 : Cond.instanceMethod yX11_ticksInOldest ∈ wsL_law := inr_29 _ (List.mem_of_getElem? (i := 12) rfl)
theorem mwL_685 : Cond.selects RX11 yX11_ticksInOldest yX11_ticksInOldest ∈ wsL_law := inr_29 _ (List.mem_of_getElem? (i := 13) rfl)
theorem mwL_686 : Cond.code yX11_ticksInOldest cX11_ticksInOldest 4 (some .int) ∈ wsL_law := inr_29 _ (List.mem_of_getElem? (i := 14) rfl)
theorem mwL_687 : Cond.fieldLink RX11 304 "MiddleSpans$Walkers" "enteredAt" "[[I" ∈ wsL_law := inr_29 _ (List.mem_of_getElem? (i := 15) rfl)
theorem mwL_688 : Cond.methodLink RX11 204 yX9_oldestSpan ∈ wsL_law := inr_29 _ (List.mem_of_getElem? (i := 16) rfl)
theorem mwL_689 : Cond.instanceMethod yX9_oldestSpan ∈ wsL_law := inr_29 _ (List.mem_of_getElem? (i := 17) rfl)
theorem mwL_690 : Cond.selects RX9 yX9_oldestSpan yX9_oldestSpan ∈ wsL_law := inr_29 _ (List.mem_of_getElem? (i := 18) rfl)
theorem mwL_691 : Cond.code yX9_oldestSpan cX9_oldestSpan 5 (some .int) ∈ wsL_law := inr_29 _ (List.mem_of_getElem? (i := 19) rfl)
theorem mwL_692 : Cond.methodLink RL 76 yX12_walker ∈ wsL_law := inr_29 _ (List.mem_of_getElem? (i := 20) rfl)
theorem mwL_693 : Cond.instanceMethod yX12_walker ∈ wsL_law := inr_29 _ (List.mem_of_getElem? (i := 21) rfl)
theorem mwL_694 : Cond.selects RX12 yX12_walker yX12_walker ∈ wsL_law := inr_29 _ (List.mem_of_getElem? (i := 22) rfl)
theorem mwL_695 : Cond.code yX12_walker cX12_walker 4 (some .int) ∈ wsL_law := inr_29 _ (List.mem_of_getElem? (i := 23) rfl)
theorem mwL_696 : Cond.methodLink RX12 162 yX12_longest ∈ wsL_law := inr_30 _ (List.mem_of_getElem? (i := 0) rfl)
theorem mwL_697 : Cond.instanceMethod yX12_longest ∈ wsL_law := inr_30 _ (List.mem_of_getElem? (i := 1) rfl)
theorem mwL_698 : Cond.selects RX12 yX12_longest yX12_longest ∈ wsL_law := inr_30 _ (List.mem_of_getElem? (i := 2) rfl)
theorem mwL_699 : Cond.code yX12_longest cX12_longest 4 (some .int) ∈ wsL_law := inr_30 _ (List.mem_of_getElem? (i := 3) rfl)
theorem mwL_700 : Cond.methodLink RX12 165 yX12_houses ∈ wsL_law := inr_30 _ (List.mem_of_getElem? (i := 4) rfl)
theorem mwL_701 : Cond.instanceMethod yX12_houses ∈ wsL_law := inr_30 _ (List.mem_of_getElem? (i := 5) rfl)
theorem mwL_702 : Cond.selects RX12 yX12_houses yX12_houses ∈ wsL_law := inr_30 _ (List.mem_of_getElem? (i := 6) rfl)
theorem mwL_703 : Cond.code yX12_houses cX12_houses 4 (some .int) ∈ wsL_law := inr_30 _ (List.mem_of_getElem? (i := 7) rfl)
theorem mwL_704 : Cond.methodLink RL 77 yX11_inside ∈ wsL_law := inr_30 _ (List.mem_of_getElem? (i := 8) rfl)
theorem mwL_705 : Cond.instanceMethod yX11_inside ∈ wsL_law := inr_30 _ (List.mem_of_getElem? (i := 9) rfl)
theorem mwL_706 : Cond.selects RX11 yX11_inside yX11_inside ∈ wsL_law := inr_30 _ (List.mem_of_getElem? (i := 10) rfl)
theorem mwL_707 : Cond.code yX11_inside cX11_inside 4 (some .int) ∈ wsL_law := inr_30 _ (List.mem_of_getElem? (i := 11) rfl)
theorem mwL_708 : Cond.methodLink RX11 213 yX11_memberAt ∈ wsL_law := inr_30 _ (List.mem_of_getElem? (i := 12) rfl)
theorem mwL_709 : Cond.static yX11_memberAt ∈ wsL_law := inr_30 _ (List.mem_of_getElem? (i := 13) rfl)
theorem mwL_710 : Cond.code yX11_memberAt cX11_memberAt 5 (some .int) ∈ wsL_law := inr_30 _ (List.mem_of_getElem? (i := 14) rfl)
theorem mwL_711 : Cond.methodLink RX11 308 yX11_isMember ∈ wsL_law := inr_30 _ (List.mem_of_getElem? (i := 15) rfl)
theorem mwL_712 : Cond.methodLink RL 80 yX12_inside ∈ wsL_law := inr_30 _ (List.mem_of_getElem? (i := 16) rfl)
theorem mwL_713 : Cond.instanceMethod yX12_inside ∈ wsL_law := inr_30 _ (List.mem_of_getElem? (i := 17) rfl)
theorem mwL_714 : Cond.selects RX12 yX12_inside yX12_inside ∈ wsL_law := inr_30 _ (List.mem_of_getElem? (i := 18) rfl)
theorem mwL_715 : Cond.code yX12_inside cX12_inside 5 (some .int) ∈ wsL_law := inr_30 _ (List.mem_of_getElem? (i := 19) rfl)
theorem mwL_716 : Cond.methodLink RL 81 yX11_ask ∈ wsL_law := inr_30 _ (List.mem_of_getElem? (i := 20) rfl)
theorem mwL_717 : Cond.instanceMethod yX11_ask ∈ wsL_law := inr_30 _ (List.mem_of_getElem? (i := 21) rfl)
theorem mwL_718 : Cond.selects RX11 yX11_ask yX11_ask ∈ wsL_law := inr_30 _ (List.mem_of_getElem? (i := 22) rfl)
theorem mwL_719 : Cond.code yX11_ask cX11_ask 3 (some .int) ∈ wsL_law := inr_30 _ (List.mem_of_getElem? (i := 23) rfl)
theorem mwL_720 : Cond.fieldLink RX11 217 "MiddleSpans$Line" "cover" "LMiddleSpans$Cover;" ∈ wsL_law := inr_31 _ (List.mem_of_getElem? (i := 0) rfl)
theorem mwL_721 : Cond.methodLink RX11 221 yX0_over ∈ wsL_law := inr_31 _ (List.mem_of_getElem? (i := 1) rfl)
theorem mwL_722 : Cond.methodLink RX11 227 yX8_nodesOnWay ∈ wsL_law := inr_31 _ (List.mem_of_getElem? (i := 2) rfl)
theorem mwL_723 : Cond.instanceMethod yX8_nodesOnWay ∈ wsL_law := inr_31 _ (List.mem_of_getElem? (i := 3) rfl)
theorem mwL_724 : Cond.selects RX8 yX8_nodesOnWay yX8_nodesOnWay ∈ wsL_law := inr_31 _ (List.mem_of_getElem? (i := 4) rfl)
theorem mwL_725 : Cond.code yX8_nodesOnWay cX8_nodesOnWay 4 (some .int) ∈ wsL_law := inr_31 _ (List.mem_of_getElem? (i := 5) rfl)
theorem mwL_726 : Cond.methodLink RX8 76 yX8_isNode ∈ wsL_law := inr_31 _ (List.mem_of_getElem? (i := 6) rfl)
theorem mwL_727 : Cond.instanceMethod yX8_isNode ∈ wsL_law := inr_31 _ (List.mem_of_getElem? (i := 7) rfl)
theorem mwL_728 : Cond.selects RX8 yX8_isNode yX8_isNode ∈ wsL_law := inr_31 _ (List.mem_of_getElem? (i := 8) rfl)
theorem mwL_729 : Cond.code yX8_isNode cX8_isNode 1 (some .boolean) ∈ wsL_law := inr_31 _ (List.mem_of_getElem? (i := 9) rfl)
theorem mwL_730 : Cond.methodLink RX8 79 yX8_goTowards ∈ wsL_law := inr_31 _ (List.mem_of_getElem? (i := 10) rfl)
theorem mwL_731 : Cond.instanceMethod yX8_goTowards ∈ wsL_law := inr_31 _ (List.mem_of_getElem? (i := 11) rfl)
theorem mwL_732 : Cond.selects RX8 yX8_goTowards yX8_goTowards ∈ wsL_law := inr_31 _ (List.mem_of_getElem? (i := 12) rfl)
theorem mwL_733 : Cond.code yX8_goTowards cX8_goTowards 2 (some .boolean) ∈ wsL_law := inr_31 _ (List.mem_of_getElem? (i := 13) rfl)
theorem mwL_734 : Cond.methodLink RX11 230 yX8_spansLookedAt ∈ wsL_law := inr_31 _ (List.mem_of_getElem? (i := 14) rfl)
theorem mwL_735 : Cond.instanceMethod yX8_spansLookedAt ∈ wsL_law := inr_31 _ (List.mem_of_getElem? (i := 15) rfl)
theorem mwL_736 : Cond.selects RX8 yX8_spansLookedAt yX8_spansLookedAt ∈ wsL_law := inr_31 _ (List.mem_of_getElem? (i := 16) rfl)
theorem mwL_737 : Cond.code yX8_spansLookedAt cX8_spansLookedAt 5 (some .int) ∈ wsL_law := inr_31 _ (List.mem_of_getElem? (i := 17) rfl)
theorem mwL_738 : Cond.methodLink RX8 82 yX8_lookedAtIn ∈ wsL_law := inr_31 _ (List.mem_of_getElem? (i := 18) rfl)
theorem mwL_739 : Cond.instanceMethod yX8_lookedAtIn ∈ wsL_law := inr_31 _ (List.mem_of_getElem? (i := 19) rfl)
theorem mwL_740 : Cond.selects RX8 yX8_lookedAtIn yX8_lookedAtIn ∈ wsL_law := inr_31 _ (List.mem_of_getElem? (i := 20) rfl)
theorem mwL_741 : Cond.code yX8_lookedAtIn cX8_lookedAtIn 6 (some .int) ∈ wsL_law := inr_31 _ (List.mem_of_getElem? (i := 21) rfl)
theorem mwL_742 : Cond.methodLink RX8 90 Lib.Math.min.name ∈ wsL_law := inr_31 _ (List.mem_of_getElem? (i := 22) rfl)
theorem mwL_743 : Cond.static Lib.Math.min.name ∈ wsL_law := inr_31 _ (List.mem_of_getElem? (i := 23) rfl)
theorem mwL_744 : Cond.code Lib.Math.min.name Lib.Math.min.code 2 (some .int) ∈ wsL_law := inr_32 _ (List.mem_of_getElem? (i := 0) rfl)
theorem mwL_745 : Cond.methodLink RX8 86 yX8_reaches ∈ wsL_law := inr_32 _ (List.mem_of_getElem? (i := 1) rfl)
theorem mwL_746 : Cond.static yX8_reaches ∈ wsL_law := inr_32 _ (List.mem_of_getElem? (i := 2) rfl)
theorem mwL_747 : Cond.code yX8_reaches cX8_reaches 4 (some .boolean) ∈ wsL_law := inr_32 _ (List.mem_of_getElem? (i := 3) rfl)
theorem mwL_748 : Cond.methodLink RX11 234 yX5_shortestOf ∈ wsL_law := inr_32 _ (List.mem_of_getElem? (i := 4) rfl)
theorem mwL_749 : Cond.instanceMethod yX5_shortestOf ∈ wsL_law := inr_32 _ (List.mem_of_getElem? (i := 5) rfl)
theorem mwL_750 : Cond.selects RX5 yX5_shortestOf yX5_shortestOf ∈ wsL_law := inr_32 _ (List.mem_of_getElem? (i := 6) rfl)
theorem mwL_751 : Cond.code yX5_shortestOf cX5_shortestOf 7 (some .int) ∈ wsL_law := inr_32 _ (List.mem_of_getElem? (i := 7) rfl)
theorem mwL_752 : Cond.methodLink RL 84 yX12_ask ∈ wsL_law := inr_32 _ (List.mem_of_getElem? (i := 8) rfl)
theorem mwL_753 : Cond.instanceMethod yX12_ask ∈ wsL_law := inr_32 _ (List.mem_of_getElem? (i := 9) rfl)
theorem mwL_754 : Cond.selects RX12 yX12_ask yX12_ask ∈ wsL_law := inr_32 _ (List.mem_of_getElem? (i := 10) rfl)
theorem mwL_755 : Cond.code yX12_ask cX12_ask 3 (some .int) ∈ wsL_law := inr_32 _ (List.mem_of_getElem? (i := 11) rfl)
theorem mwL_756 : Cond.methodLink RX12 168 yX12_covering ∈ wsL_law := inr_32 _ (List.mem_of_getElem? (i := 12) rfl)
theorem mwL_757 : Cond.instanceMethod yX12_covering ∈ wsL_law := inr_32 _ (List.mem_of_getElem? (i := 13) rfl)
theorem mwL_758 : Cond.selects RX12 yX12_covering yX12_covering ∈ wsL_law := inr_32 _ (List.mem_of_getElem? (i := 14) rfl)
theorem mwL_759 : Cond.code yX12_covering cX12_covering 4 (some .int) ∈ wsL_law := inr_32 _ (List.mem_of_getElem? (i := 15) rfl)
theorem mwL_760 : Cond.methodLink RX12 171 yX12_way ∈ wsL_law := inr_32 _ (List.mem_of_getElem? (i := 16) rfl)
theorem mwL_761 : Cond.instanceMethod yX12_way ∈ wsL_law := inr_32 _ (List.mem_of_getElem? (i := 17) rfl)
theorem mwL_762 : Cond.selects RX12 yX12_way yX12_way ∈ wsL_law := inr_32 _ (List.mem_of_getElem? (i := 18) rfl)
theorem mwL_763 : Cond.code yX12_way cX12_way 8 (some .int) ∈ wsL_law := inr_32 _ (List.mem_of_getElem? (i := 19) rfl)
theorem mwL_764 : Cond.methodLink RX12 153 yX12_marks ∈ wsL_law := inr_32 _ (List.mem_of_getElem? (i := 20) rfl)
theorem mwL_765 : Cond.instanceMethod yX12_marks ∈ wsL_law := inr_32 _ (List.mem_of_getElem? (i := 21) rfl)
theorem mwL_766 : Cond.selects RX12 yX12_marks yX12_marks ∈ wsL_law := inr_32 _ (List.mem_of_getElem? (i := 22) rfl)
theorem mwL_767 : Cond.code yX12_marks cX12_marks 2 none ∈ wsL_law := inr_32 _ (List.mem_of_getElem? (i := 23) rfl)
theorem mwL_768 : Cond.fieldLink RX12 146 "MiddleSpansModel" "deepest" "I" ∈ wsL_law := inr_33 _ (List.mem_of_getElem? (i := 0) rfl)
theorem mwL_769 : Cond.methodLink RX12 156 yX12_looked ∈ wsL_law := inr_33 _ (List.mem_of_getElem? (i := 1) rfl)
theorem mwL_770 : Cond.instanceMethod yX12_looked ∈ wsL_law := inr_33 _ (List.mem_of_getElem? (i := 2) rfl)
theorem mwL_771 : Cond.selects RX12 yX12_looked yX12_looked ∈ wsL_law := inr_33 _ (List.mem_of_getElem? (i := 3) rfl)
theorem mwL_772 : Cond.code yX12_looked cX12_looked 7 (some .int) ∈ wsL_law := inr_33 _ (List.mem_of_getElem? (i := 4) rfl)
theorem mwL_773 : Cond.methodLink RX12 174 yX12_chosen ∈ wsL_law := inr_33 _ (List.mem_of_getElem? (i := 5) rfl)
theorem mwL_774 : Cond.instanceMethod yX12_chosen ∈ wsL_law := inr_33 _ (List.mem_of_getElem? (i := 6) rfl)
theorem mwL_775 : Cond.selects RX12 yX12_chosen yX12_chosen ∈ wsL_law := inr_33 _ (List.mem_of_getElem? (i := 7) rfl)
theorem mwL_776 : Cond.code yX12_chosen cX12_chosen 5 (some .int) ∈ wsL_law := inr_33 _ (List.mem_of_getElem? (i := 8) rfl)
theorem mwL_777 : Cond.methodLink RL 85 yX11_free ∈ wsL_law := inr_33 _ (List.mem_of_getElem? (i := 9) rfl)
theorem mwL_778 : Cond.instanceMethod yX11_free ∈ wsL_law := inr_33 _ (List.mem_of_getElem? (i := 10) rfl)
theorem mwL_779 : Cond.selects RX11 yX11_free yX11_free ∈ wsL_law := inr_33 _ (List.mem_of_getElem? (i := 11) rfl)
theorem mwL_780 : Cond.code yX11_free cX11_free 3 (some .int) ∈ wsL_law := inr_33 _ (List.mem_of_getElem? (i := 12) rfl)
theorem mwL_781 : Cond.methodLink RX11 237 yX0_freeToTheRight ∈ wsL_law := inr_33 _ (List.mem_of_getElem? (i := 13) rfl)
theorem mwL_782 : Cond.instanceMethod yX0_freeToTheRight ∈ wsL_law := inr_33 _ (List.mem_of_getElem? (i := 14) rfl)
theorem mwL_783 : Cond.selects RX0 yX0_freeToTheRight yX0_freeToTheRight ∈ wsL_law := inr_33 _ (List.mem_of_getElem? (i := 15) rfl)
theorem mwL_784 : Cond.code yX0_freeToTheRight cX0_freeToTheRight 3 (some .int) ∈ wsL_law := inr_33 _ (List.mem_of_getElem? (i := 16) rfl)
theorem mwL_785 : Cond.methodLink RX0 45 Lib.Math.max.name ∈ wsL_law := inr_33 _ (List.mem_of_getElem? (i := 17) rfl)
theorem mwL_786 : Cond.static Lib.Math.max.name ∈ wsL_law := inr_33 _ (List.mem_of_getElem? (i := 18) rfl)
theorem mwL_787 : Cond.code Lib.Math.max.name Lib.Math.max.code 2 (some .int) ∈ wsL_law := inr_33 _ (List.mem_of_getElem? (i := 19) rfl)
theorem mwL_788 : Cond.methodLink RX11 240 yX0_freeToTheLeft ∈ wsL_law := inr_33 _ (List.mem_of_getElem? (i := 20) rfl)
theorem mwL_789 : Cond.instanceMethod yX0_freeToTheLeft ∈ wsL_law := inr_33 _ (List.mem_of_getElem? (i := 21) rfl)
theorem mwL_790 : Cond.selects RX0 yX0_freeToTheLeft yX0_freeToTheLeft ∈ wsL_law := inr_33 _ (List.mem_of_getElem? (i := 22) rfl)
theorem mwL_791 : Cond.code yX0_freeToTheLeft cX0_freeToTheLeft 3 (some .int) ∈ wsL_law := inr_33 _ (List.mem_of_getElem? (i := 23) rfl)
theorem mwL_792 : Cond.methodLink RX0 51 Lib.Math.min.name ∈ wsL_law := inr_34 _ (List.mem_of_getElem? (i := 0) rfl)
theorem mwL_793 : Cond.methodLink RL 89 yX12_free ∈ wsL_law := inr_34 _ (List.mem_of_getElem? (i := 1) rfl)
theorem mwL_794 : Cond.instanceMethod yX12_free ∈ wsL_law := inr_34 _ (List.mem_of_getElem? (i := 2) rfl)
theorem mwL_795 : Cond.selects RX12 yX12_free yX12_free ∈ wsL_law := inr_34 _ (List.mem_of_getElem? (i := 3) rfl)
theorem mwL_796 : Cond.code yX12_free cX12_free 4 (some .int) ∈ wsL_law := inr_34 _ (List.mem_of_getElem? (i := 4) rfl)
theorem mwL_797 : Cond.methodLink RL 90 yX11_most ∈ wsL_law := inr_34 _ (List.mem_of_getElem? (i := 5) rfl)
theorem mwL_798 : Cond.instanceMethod yX11_most ∈ wsL_law := inr_34 _ (List.mem_of_getElem? (i := 6) rfl)
theorem mwL_799 : Cond.selects RX11 yX11_most yX11_most ∈ wsL_law := inr_34 _ (List.mem_of_getElem? (i := 7) rfl)
theorem mwL_800 : Cond.code yX11_most cX11_most 2 (some .int) ∈ wsL_law := inr_34 _ (List.mem_of_getElem? (i := 8) rfl)
theorem mwL_801 : Cond.methodLink RX11 243 yX0_fullestPlace ∈ wsL_law := inr_34 _ (List.mem_of_getElem? (i := 9) rfl)
theorem mwL_802 : Cond.instanceMethod yX0_fullestPlace ∈ wsL_law := inr_34 _ (List.mem_of_getElem? (i := 10) rfl)
theorem mwL_803 : Cond.selects RX0 yX0_fullestPlace yX0_fullestPlace ∈ wsL_law := inr_34 _ (List.mem_of_getElem? (i := 11) rfl)
theorem mwL_804 : Cond.code yX0_fullestPlace cX0_fullestPlace 3 (some .int) ∈ wsL_law := inr_34 _ (List.mem_of_getElem? (i := 12) rfl)
theorem mwL_805 : Cond.methodLink RX0 54 yJ13_bitCount_95d88 ∈ wsL_law := inr_34 _ (List.mem_of_getElem? (i := 13) rfl)
theorem mwL_806 : Cond.methodLink RX11 246 yX0_countFree ∈ wsL_law := inr_34 _ (List.mem_of_getElem? (i := 14) rfl)
theorem mwL_807 : Cond.instanceMethod yX0_countFree ∈ wsL_law := inr_34 _ (List.mem_of_getElem? (i := 15) rfl)
theorem mwL_808 : Cond.selects RX0 yX0_countFree yX0_countFree ∈ wsL_law := inr_34 _ (List.mem_of_getElem? (i := 16) rfl)
theorem mwL_809 : Cond.code yX0_countFree cX0_countFree 3 (some .int) ∈ wsL_law := inr_34 _ (List.mem_of_getElem? (i := 17) rfl)
theorem mwL_810 : Cond.methodLink RL 93 yX12_most ∈ wsL_law := inr_34 _ (List.mem_of_getElem? (i := 18) rfl)
theorem mwL_811 : Cond.instanceMethod yX12_most ∈ wsL_law := inr_34 _ (List.mem_of_getElem? (i := 19) rfl)
theorem mwL_812 : Cond.selects RX12 yX12_most yX12_most ∈ wsL_law := inr_34 _ (List.mem_of_getElem? (i := 20) rfl)
theorem mwL_813 : Cond.code yX12_most cX12_most 7 (some .int) ∈ wsL_law := inr_34 _ (List.mem_of_getElem? (i := 21) rfl)
theorem mwL_814 : Cond.methodLink RL 94 yX11_changesIn ∈ wsL_law := inr_34 _ (List.mem_of_getElem? (i := 22) rfl)
theorem mwL_815 : Cond.instanceMethod yX11_changesIn ∈ wsL_law := inr_34 _ (List.mem_of_getElem? (i := 23) rfl)
theorem mwL_816 : Cond.selects RX11 yX11_changesIn yX11_changesIn ∈ wsL_law := inr_35 _ (List.mem_of_getElem? (i := 0) rfl)
theorem mwL_817 : Cond.code yX11_changesIn cX11_changesIn 2 (some .int) ∈ wsL_law := inr_35 _ (List.mem_of_getElem? (i := 1) rfl)
theorem mwL_818 : Cond.methodLink RX11 249 yX2_ticksToChange ∈ wsL_law := inr_35 _ (List.mem_of_getElem? (i := 2) rfl)
theorem mwL_819 : Cond.instanceMethod yX2_ticksToChange ∈ wsL_law := inr_35 _ (List.mem_of_getElem? (i := 3) rfl)
theorem mwL_820 : Cond.selects RX2 yX2_ticksToChange yX2_ticksToChange ∈ wsL_law := inr_35 _ (List.mem_of_getElem? (i := 4) rfl)
theorem mwL_821 : Cond.code yX2_ticksToChange cX2_ticksToChange 8 (some .int) ∈ wsL_law := inr_35 _ (List.mem_of_getElem? (i := 5) rfl)
theorem mwL_822 : Cond.fieldLink RX2 150 "MiddleSpans$Walkers" "speed" "[I" ∈ wsL_law := inr_35 _ (List.mem_of_getElem? (i := 6) rfl)
theorem mwL_823 : Cond.methodLink RL 97 yX12_changesIn ∈ wsL_law := inr_35 _ (List.mem_of_getElem? (i := 7) rfl)
theorem mwL_824 : Cond.instanceMethod yX12_changesIn ∈ wsL_law := inr_35 _ (List.mem_of_getElem? (i := 8) rfl)
theorem mwL_825 : Cond.selects RX12 yX12_changesIn yX12_changesIn ∈ wsL_law := inr_35 _ (List.mem_of_getElem? (i := 9) rfl)
theorem mwL_826 : Cond.code yX12_changesIn cX12_changesIn 7 (some .int) ∈ wsL_law := inr_35 _ (List.mem_of_getElem? (i := 10) rfl)
theorem mwL_827 : Cond.methodLink RX12 178 yX12_isOther ∈ wsL_law := inr_35 _ (List.mem_of_getElem? (i := 11) rfl)
theorem mwL_828 : Cond.instanceMethod yX12_isOther ∈ wsL_law := inr_35 _ (List.mem_of_getElem? (i := 12) rfl)
theorem mwL_829 : Cond.selects RX12 yX12_isOther yX12_isOther ∈ wsL_law := inr_35 _ (List.mem_of_getElem? (i := 13) rfl)
theorem mwL_830 : Cond.code yX12_isOther cX12_isOther 4 (some .boolean) ∈ wsL_law := inr_35 _ (List.mem_of_getElem? (i := 14) rfl)
theorem mwL_831 : Cond.methodLink RL 98 yX11_meetIn ∈ wsL_law := inr_35 _ (List.mem_of_getElem? (i := 15) rfl)
theorem mwL_832 : Cond.instanceMethod yX11_meetIn ∈ wsL_law := inr_35 _ (List.mem_of_getElem? (i := 16) rfl)
theorem mwL_833 : Cond.selects RX11 yX11_meetIn yX11_meetIn ∈ wsL_law := inr_35 _ (List.mem_of_getElem? (i := 17) rfl)
theorem mwL_834 : Cond.code yX11_meetIn cX11_meetIn 3 (some .int) ∈ wsL_law := inr_35 _ (List.mem_of_getElem? (i := 18) rfl)
theorem mwL_835 : Cond.methodLink RX11 252 yX9_ticksToMeet ∈ wsL_law := inr_35 _ (List.mem_of_getElem? (i := 19) rfl)
theorem mwL_836 : Cond.instanceMethod yX9_ticksToMeet ∈ wsL_law := inr_35 _ (List.mem_of_getElem? (i := 20) rfl)
theorem mwL_837 : Cond.selects RX9 yX9_ticksToMeet yX9_ticksToMeet ∈ wsL_law := inr_35 _ (List.mem_of_getElem? (i := 21) rfl)
theorem mwL_838 : Cond.code yX9_ticksToMeet cX9_ticksToMeet 10 (some .int) ∈ wsL_law := inr_35 _ (List.mem_of_getElem? (i := 22) rfl)
theorem mwL_839 : Cond.methodLink RL 101 yX12_meetIn ∈ wsL_law := inr_35 _ (List.mem_of_getElem? (i := 23) rfl)
theorem mwL_840 : Cond.instanceMethod yX12_meetIn ∈ wsL_law := inr_36 _ (List.mem_of_getElem? (i := 0) rfl)
theorem mwL_841 : Cond.selects RX12 yX12_meetIn yX12_meetIn ∈ wsL_law := inr_36 _ (List.mem_of_getElem? (i := 1) rfl)
theorem mwL_842 : Cond.code yX12_meetIn cX12_meetIn 9 (some .int) ∈ wsL_law := inr_36 _ (List.mem_of_getElem? (i := 2) rfl)
theorem mwL_843 : Cond.methodLink RL 102 yX11_index ∈ wsL_law := inr_36 _ (List.mem_of_getElem? (i := 3) rfl)
theorem mwL_844 : Cond.instanceMethod yX11_index ∈ wsL_law := inr_36 _ (List.mem_of_getElem? (i := 4) rfl)
theorem mwL_845 : Cond.selects RX11 yX11_index yX11_index ∈ wsL_law := inr_36 _ (List.mem_of_getElem? (i := 5) rfl)
theorem mwL_846 : Cond.code yX11_index cX11_index 2 (some .int) ∈ wsL_law := inr_36 _ (List.mem_of_getElem? (i := 6) rfl)
theorem mwL_847 : Cond.methodLink RX11 255 yX8_countNodes ∈ wsL_law := inr_36 _ (List.mem_of_getElem? (i := 7) rfl)
theorem mwL_848 : Cond.instanceMethod yX8_countNodes ∈ wsL_law := inr_36 _ (List.mem_of_getElem? (i := 8) rfl)
theorem mwL_849 : Cond.selects RX8 yX8_countNodes yX8_countNodes ∈ wsL_law := inr_36 _ (List.mem_of_getElem? (i := 9) rfl)
theorem mwL_850 : Cond.code yX8_countNodes cX8_countNodes 3 (some .int) ∈ wsL_law := inr_36 _ (List.mem_of_getElem? (i := 10) rfl)
theorem mwL_851 : Cond.methodLink RX11 258 yX8_greatestDepth ∈ wsL_law := inr_36 _ (List.mem_of_getElem? (i := 11) rfl)
theorem mwL_852 : Cond.instanceMethod yX8_greatestDepth ∈ wsL_law := inr_36 _ (List.mem_of_getElem? (i := 12) rfl)
theorem mwL_853 : Cond.selects RX8 yX8_greatestDepth yX8_greatestDepth ∈ wsL_law := inr_36 _ (List.mem_of_getElem? (i := 13) rfl)
theorem mwL_854 : Cond.code yX8_greatestDepth cX8_greatestDepth 4 (some .int) ∈ wsL_law := inr_36 _ (List.mem_of_getElem? (i := 14) rfl)
theorem mwL_855 : Cond.methodLink RX8 96 Lib.Math.max.name ∈ wsL_law := inr_36 _ (List.mem_of_getElem? (i := 15) rfl)
theorem mwL_856 : Cond.methodLink RX11 262 yX8_mostInOneNode ∈ wsL_law := inr_36 _ (List.mem_of_getElem? (i := 16) rfl)
theorem mwL_857 : Cond.instanceMethod yX8_mostInOneNode ∈ wsL_law := inr_36 _ (List.mem_of_getElem? (i := 17) rfl)
theorem mwL_858 : Cond.selects RX8 yX8_mostInOneNode yX8_mostInOneNode ∈ wsL_law := inr_36 _ (List.mem_of_getElem? (i := 18) rfl)
theorem mwL_859 : Cond.code yX8_mostInOneNode cX8_mostInOneNode 1 (some .int) ∈ wsL_law := inr_36 _ (List.mem_of_getElem? (i := 19) rfl)
theorem mwL_860 : Cond.methodLink RX8 99 yX8_fullestMiddle ∈ wsL_law := inr_36 _ (List.mem_of_getElem? (i := 20) rfl)
theorem mwL_861 : Cond.instanceMethod yX8_fullestMiddle ∈ wsL_law := inr_36 _ (List.mem_of_getElem? (i := 21) rfl)
theorem mwL_862 : Cond.selects RX8 yX8_fullestMiddle yX8_fullestMiddle ∈ wsL_law := inr_36 _ (List.mem_of_getElem? (i := 22) rfl)
theorem mwL_863 : Cond.code yX8_fullestMiddle cX8_fullestMiddle 3 (some .int) ∈ wsL_law := inr_36 _ (List.mem_of_getElem? (i := 23) rfl)
theorem mwL_864 : Cond.methodLink RX11 265 yX8_fullestMiddle ∈ wsL_law := inr_37 _ (List.mem_of_getElem? (i := 0) rfl)
theorem mwL_865 : Cond.methodLink RL 105 yX12_index ∈ wsL_law := inr_37 _ (List.mem_of_getElem? (i := 1) rfl)
theorem mwL_866 : Cond.instanceMethod yX12_index ∈ wsL_law := inr_37 _ (List.mem_of_getElem? (i := 2) rfl)
theorem mwL_867 : Cond.selects RX12 yX12_index yX12_index ∈ wsL_law := inr_37 _ (List.mem_of_getElem? (i := 3) rfl)
theorem mwL_868 : Cond.code yX12_index cX12_index 5 (some .int) ∈ wsL_law := inr_37 _ (List.mem_of_getElem? (i := 4) rfl)
theorem mwL_869 : Cond.methodLink RL 106 yX11_event ∈ wsL_law := inr_37 _ (List.mem_of_getElem? (i := 5) rfl)
theorem mwL_870 : Cond.instanceMethod yX11_event ∈ wsL_law := inr_37 _ (List.mem_of_getElem? (i := 6) rfl)
theorem mwL_871 : Cond.selects RX11 yX11_event yX11_event ∈ wsL_law := inr_37 _ (List.mem_of_getElem? (i := 7) rfl)
theorem mwL_872 : Cond.code yX11_event cX11_event 5 (some .int) ∈ wsL_law := inr_37 _ (List.mem_of_getElem? (i := 8) rfl)
theorem mwL_873 : Cond.fieldLink RX11 268 "MiddleSpans$State" "log" "LMiddleSpans$Log;" ∈ wsL_law := inr_37 _ (List.mem_of_getElem? (i := 9) rfl)
theorem mwL_874 : Cond.fieldLink RX11 272 "MiddleSpans$Log" "size" "I" ∈ wsL_law := inr_37 _ (List.mem_of_getElem? (i := 10) rfl)
theorem mwL_875 : Cond.fieldLink RX11 278 "MiddleSpans$Log" "kind" "[I" ∈ wsL_law := inr_37 _ (List.mem_of_getElem? (i := 11) rfl)
theorem mwL_876 : Cond.fieldLink RX11 281 "MiddleSpans$Log" "walker" "[I" ∈ wsL_law := inr_37 _ (List.mem_of_getElem? (i := 12) rfl)
theorem mwL_877 : Cond.fieldLink RX11 284 "MiddleSpans$Log" "subject" "[I" ∈ wsL_law := inr_37 _ (List.mem_of_getElem? (i := 13) rfl)
theorem mwL_878 : Cond.fieldLink RX11 287 "MiddleSpans$Log" "tick" "[I" ∈ wsL_law := inr_37 _ (List.mem_of_getElem? (i := 14) rfl)
theorem mwL_879 : Cond.methodLink RX11 275 yX3_slotOf ∈ wsL_law := inr_37 _ (List.mem_of_getElem? (i := 15) rfl)
theorem mwL_880 : Cond.instanceMethod yX3_slotOf ∈ wsL_law := inr_37 _ (List.mem_of_getElem? (i := 16) rfl)
theorem mwL_881 : Cond.selects RX3 yX3_slotOf yX3_slotOf ∈ wsL_law := inr_37 _ (List.mem_of_getElem? (i := 17) rfl)
theorem mwL_882 : Cond.code yX3_slotOf cX3_slotOf 2 (some .int) ∈ wsL_law := inr_37 _ (List.mem_of_getElem? (i := 18) rfl)
theorem mwL_883 : Cond.methodLink RL 109 yX12_event ∈ wsL_law := inr_37 _ (List.mem_of_getElem? (i := 19) rfl)
theorem mwL_884 : Cond.instanceMethod yX12_event ∈ wsL_law := inr_37 _ (List.mem_of_getElem? (i := 20) rfl)
theorem mwL_885 : Cond.selects RX12 yX12_event yX12_event ∈ wsL_law := inr_37 _ (List.mem_of_getElem? (i := 21) rfl)
theorem mwL_886 : Cond.code yX12_event cX12_event 3 (some .int) ∈ wsL_law := inr_37 _ (List.mem_of_getElem? (i := 22) rfl)
theorem mwL_887 : Cond.methodLink RL 110 yX11_count ∈ wsL_law := inr_37 _ (List.mem_of_getElem? (i := 23) rfl)
theorem mwL_888 : Cond.instanceMethod yX11_count ∈ wsL_law := inr_38 _ (List.mem_of_getElem? (i := 0) rfl)
theorem mwL_889 : Cond.selects RX11 yX11_count yX11_count ∈ wsL_law := inr_38 _ (List.mem_of_getElem? (i := 1) rfl)
theorem mwL_890 : Cond.code yX11_count cX11_count 3 (some .int) ∈ wsL_law := inr_38 _ (List.mem_of_getElem? (i := 2) rfl)
theorem mwL_891 : Cond.methodLink RX11 289 yX11_sumOf ∈ wsL_law := inr_38 _ (List.mem_of_getElem? (i := 3) rfl)
theorem mwL_892 : Cond.static yX11_sumOf ∈ wsL_law := inr_38 _ (List.mem_of_getElem? (i := 4) rfl)
theorem mwL_893 : Cond.code yX11_sumOf cX11_sumOf 4 (some .int) ∈ wsL_law := inr_38 _ (List.mem_of_getElem? (i := 5) rfl)
theorem mwL_894 : Cond.methodLink RX11 293 yX5_countPairs ∈ wsL_law := inr_38 _ (List.mem_of_getElem? (i := 6) rfl)
theorem mwL_895 : Cond.instanceMethod yX5_countPairs ∈ wsL_law := inr_38 _ (List.mem_of_getElem? (i := 7) rfl)
theorem mwL_896 : Cond.selects RX5 yX5_countPairs yX5_countPairs ∈ wsL_law := inr_38 _ (List.mem_of_getElem? (i := 8) rfl)
theorem mwL_897 : Cond.code yX5_countPairs cX5_countPairs 4 (some .int) ∈ wsL_law := inr_38 _ (List.mem_of_getElem? (i := 9) rfl)
theorem mwL_898 : Cond.methodLink RX11 296 yX9_insideOfAny ∈ wsL_law := inr_38 _ (List.mem_of_getElem? (i := 10) rfl)
theorem mwL_899 : Cond.instanceMethod yX9_insideOfAny ∈ wsL_law := inr_38 _ (List.mem_of_getElem? (i := 11) rfl)
theorem mwL_900 : Cond.selects RX9 yX9_insideOfAny yX9_insideOfAny ∈ wsL_law := inr_38 _ (List.mem_of_getElem? (i := 12) rfl)
theorem mwL_901 : Cond.code yX9_insideOfAny cX9_insideOfAny 4 (some .long) ∈ wsL_law := inr_38 _ (List.mem_of_getElem? (i := 13) rfl)
theorem mwL_902 : Cond.methodLink RX11 300 yX5_countDifferent ∈ wsL_law := inr_38 _ (List.mem_of_getElem? (i := 14) rfl)
theorem mwL_903 : Cond.instanceMethod yX5_countDifferent ∈ wsL_law := inr_38 _ (List.mem_of_getElem? (i := 15) rfl)
theorem mwL_904 : Cond.selects RX5 yX5_countDifferent yX5_countDifferent ∈ wsL_law := inr_38 _ (List.mem_of_getElem? (i := 16) rfl)
theorem mwL_905 : Cond.code yX5_countDifferent cX5_countDifferent 4 (some .int) ∈ wsL_law := inr_38 _ (List.mem_of_getElem? (i := 17) rfl)
theorem mwL_906 : Cond.methodLink RX5 54 yX5_occursBefore ∈ wsL_law := inr_38 _ (List.mem_of_getElem? (i := 18) rfl)
theorem mwL_907 : Cond.instanceMethod yX5_occursBefore ∈ wsL_law := inr_38 _ (List.mem_of_getElem? (i := 19) rfl)
theorem mwL_908 : Cond.selects RX5 yX5_occursBefore yX5_occursBefore ∈ wsL_law := inr_38 _ (List.mem_of_getElem? (i := 20) rfl)
theorem mwL_909 : Cond.code yX5_occursBefore cX5_occursBefore 4 (some .boolean) ∈ wsL_law := inr_38 _ (List.mem_of_getElem? (i := 21) rfl)
theorem mwL_910 : Cond.methodLink RL 113 yX12_count ∈ wsL_law := inr_38 _ (List.mem_of_getElem? (i := 22) rfl)
theorem mwL_911 : Cond.instanceMethod yX12_count ∈ wsL_law := inr_38 _ (List.mem_of_getElem? (i := 23) rfl)
theorem mwL_912 : Cond.selects RX12 yX12_count yX12_count ∈ wsL_law := inr_39 _ (List.mem_of_getElem? (i := 0) rfl)
theorem mwL_913 : Cond.code yX12_count cX12_count 2 (some .int) ∈ wsL_law := inr_39 _ (List.mem_of_getElem? (i := 1) rfl)
theorem mwL_914 : Cond.methodLink RX12 181 yX12_pairs ∈ wsL_law := inr_39 _ (List.mem_of_getElem? (i := 2) rfl)
theorem mwL_915 : Cond.instanceMethod yX12_pairs ∈ wsL_law := inr_39 _ (List.mem_of_getElem? (i := 3) rfl)
theorem mwL_916 : Cond.selects RX12 yX12_pairs yX12_pairs ∈ wsL_law := inr_39 _ (List.mem_of_getElem? (i := 4) rfl)
theorem mwL_917 : Cond.code yX12_pairs cX12_pairs 4 (some .int) ∈ wsL_law := inr_39 _ (List.mem_of_getElem? (i := 5) rfl)
theorem mwL_918 : Cond.methodLink RX12 184 yX12_visited ∈ wsL_law := inr_39 _ (List.mem_of_getElem? (i := 6) rfl)
theorem mwL_919 : Cond.instanceMethod yX12_visited ∈ wsL_law := inr_39 _ (List.mem_of_getElem? (i := 7) rfl)
theorem mwL_920 : Cond.selects RX12 yX12_visited yX12_visited ∈ wsL_law := inr_39 _ (List.mem_of_getElem? (i := 8) rfl)
theorem mwL_921 : Cond.code yX12_visited cX12_visited 3 (some .int) ∈ wsL_law := inr_39 _ (List.mem_of_getElem? (i := 9) rfl)
theorem mwL_922 : Cond.methodLink RX12 187 yX12_different ∈ wsL_law := inr_39 _ (List.mem_of_getElem? (i := 10) rfl)
theorem mwL_923 : Cond.instanceMethod yX12_different ∈ wsL_law := inr_39 _ (List.mem_of_getElem? (i := 11) rfl)
theorem mwL_924 : Cond.selects RX12 yX12_different yX12_different ∈ wsL_law := inr_39 _ (List.mem_of_getElem? (i := 12) rfl)
theorem mwL_925 : Cond.code yX12_different cX12_different 6 (some .int) ∈ wsL_law := inr_39 _ (List.mem_of_getElem? (i := 13) rfl)
theorem bL_wsX11_init_r1 : ∀ w ∈ wsX11_init_r1, w ∈ wsL_law := (List.forall_mem_cons.mpr ⟨mwL_9, List.forall_mem_cons.mpr ⟨mwL_10, List.forall_mem_cons.mpr ⟨mwL_11, List.forall_mem_cons.mpr ⟨mwL_12, List.forall_mem_cons.mpr ⟨mwL_13, List.forall_mem_cons.mpr ⟨mwL_14, List.forall_mem_cons.mpr ⟨mwL_15, List.forall_mem_cons.mpr ⟨mwL_16, List.forall_mem_cons.mpr ⟨mwL_17, List.forall_mem_cons.mpr ⟨mwL_18, List.forall_mem_cons.mpr ⟨mwL_19, List.forall_mem_cons.mpr ⟨mwL_20, List.forall_mem_cons.mpr ⟨mwL_21, List.forall_mem_cons.mpr ⟨mwL_22, List.forall_mem_cons.mpr ⟨mwL_23, List.forall_mem_cons.mpr ⟨mwL_24, List.forall_mem_cons.mpr ⟨mwL_25, List.forall_mem_cons.mpr ⟨mwL_26, List.forall_mem_cons.mpr ⟨mwL_27, List.forall_mem_cons.mpr ⟨mwL_28, List.forall_mem_cons.mpr ⟨mwL_29, List.forall_mem_cons.mpr ⟨mwL_30, List.forall_mem_cons.mpr ⟨mwL_31, List.forall_mem_cons.mpr ⟨mwL_32, fun _ h => absurd h List.not_mem_nil⟩⟩⟩⟩⟩⟩⟩⟩⟩⟩⟩⟩⟩⟩⟩⟩⟩⟩⟩⟩⟩⟩⟩⟩)
theorem bL_wsX11_init_r2 : ∀ w ∈ wsX11_init_r2, w ∈ wsL_law := (List.forall_mem_cons.mpr ⟨mwL_33, List.forall_mem_cons.mpr ⟨mwL_34, List.forall_mem_cons.mpr ⟨mwL_35, List.forall_mem_cons.mpr ⟨mwL_36, List.forall_mem_cons.mpr ⟨mwL_37, List.forall_mem_cons.mpr ⟨mwL_38, List.forall_mem_cons.mpr ⟨mwL_39, List.forall_mem_cons.mpr ⟨mwL_40, List.forall_mem_cons.mpr ⟨mwL_41, List.forall_mem_cons.mpr ⟨mwL_42, List.forall_mem_cons.mpr ⟨mwL_43, List.forall_mem_cons.mpr ⟨mwL_44, List.forall_mem_cons.mpr ⟨mwL_45, List.forall_mem_cons.mpr ⟨mwL_46, List.forall_mem_cons.mpr ⟨mwL_47, List.forall_mem_cons.mpr ⟨mwL_48, List.forall_mem_cons.mpr ⟨mwL_49, List.forall_mem_cons.mpr ⟨mwL_50, List.forall_mem_cons.mpr ⟨mwL_51, List.forall_mem_cons.mpr ⟨mwL_52, List.forall_mem_cons.mpr ⟨mwL_53, List.forall_mem_cons.mpr ⟨mwL_54, List.forall_mem_cons.mpr ⟨mwL_55, List.forall_mem_cons.mpr ⟨mwL_56, fun _ h => absurd h List.not_mem_nil⟩⟩⟩⟩⟩⟩⟩⟩⟩⟩⟩⟩⟩⟩⟩⟩⟩⟩⟩⟩⟩⟩⟩⟩)
theorem bL_wsX11_init_r3 : ∀ w ∈ wsX11_init_r3, w ∈ wsL_law := (List.forall_mem_cons.mpr ⟨mwL_57, List.forall_mem_cons.mpr ⟨mwL_58, List.forall_mem_cons.mpr ⟨mwL_59, List.forall_mem_cons.mpr ⟨mwL_60, List.forall_mem_cons.mpr ⟨mwL_61, List.forall_mem_cons.mpr ⟨mwL_62, List.forall_mem_cons.mpr ⟨mwL_63, List.forall_mem_cons.mpr ⟨mwL_64, List.forall_mem_cons.mpr ⟨mwL_65, List.forall_mem_cons.mpr ⟨mwL_66, List.forall_mem_cons.mpr ⟨mwL_67, List.forall_mem_cons.mpr ⟨mwL_68, List.forall_mem_cons.mpr ⟨mwL_69, List.forall_mem_cons.mpr ⟨mwL_70, List.forall_mem_cons.mpr ⟨mwL_71, List.forall_mem_cons.mpr ⟨mwL_72, List.forall_mem_cons.mpr ⟨mwL_73, List.forall_mem_cons.mpr ⟨mwL_74, List.forall_mem_cons.mpr ⟨mwL_75, List.forall_mem_cons.mpr ⟨mwL_76, List.forall_mem_cons.mpr ⟨mwL_77, List.forall_mem_cons.mpr ⟨mwL_78, List.forall_mem_cons.mpr ⟨mwL_79, List.forall_mem_cons.mpr ⟨mwL_80, fun _ h => absurd h List.not_mem_nil⟩⟩⟩⟩⟩⟩⟩⟩⟩⟩⟩⟩⟩⟩⟩⟩⟩⟩⟩⟩⟩⟩⟩⟩)
theorem bL_wsX11_init_r4 : ∀ w ∈ wsX11_init_r4, w ∈ wsL_law := (List.forall_mem_cons.mpr ⟨mwL_81, List.forall_mem_cons.mpr ⟨mwL_82, List.forall_mem_cons.mpr ⟨mwL_83, List.forall_mem_cons.mpr ⟨mwL_84, List.forall_mem_cons.mpr ⟨mwL_85, List.forall_mem_cons.mpr ⟨mwL_86, List.forall_mem_cons.mpr ⟨mwL_87, List.forall_mem_cons.mpr ⟨mwL_88, List.forall_mem_cons.mpr ⟨mwL_89, List.forall_mem_cons.mpr ⟨mwL_90, List.forall_mem_cons.mpr ⟨mwL_91, List.forall_mem_cons.mpr ⟨mwL_92, List.forall_mem_cons.mpr ⟨mwL_93, List.forall_mem_cons.mpr ⟨mwL_94, List.forall_mem_cons.mpr ⟨mwL_95, List.forall_mem_cons.mpr ⟨mwL_96, List.forall_mem_cons.mpr ⟨mwL_97, List.forall_mem_cons.mpr ⟨mwL_98, List.forall_mem_cons.mpr ⟨mwL_99, List.forall_mem_cons.mpr ⟨mwL_100, List.forall_mem_cons.mpr ⟨mwL_101, List.forall_mem_cons.mpr ⟨mwL_102, List.forall_mem_cons.mpr ⟨mwL_103, List.forall_mem_cons.mpr ⟨mwL_104, fun _ h => absurd h List.not_mem_nil⟩⟩⟩⟩⟩⟩⟩⟩⟩⟩⟩⟩⟩⟩⟩⟩⟩⟩⟩⟩⟩⟩⟩⟩)
theorem bL_wsX11_init_r5 : ∀ w ∈ wsX11_init_r5, w ∈ wsL_law := (List.forall_mem_cons.mpr ⟨mwL_105, List.forall_mem_cons.mpr ⟨mwL_106, List.forall_mem_cons.mpr ⟨mwL_107, List.forall_mem_cons.mpr ⟨mwL_108, List.forall_mem_cons.mpr ⟨mwL_109, List.forall_mem_cons.mpr ⟨mwL_110, List.forall_mem_cons.mpr ⟨mwL_111, List.forall_mem_cons.mpr ⟨mwL_112, List.forall_mem_cons.mpr ⟨mwL_113, List.forall_mem_cons.mpr ⟨mwL_114, List.forall_mem_cons.mpr ⟨mwL_115, List.forall_mem_cons.mpr ⟨mwL_116, List.forall_mem_cons.mpr ⟨mwL_117, List.forall_mem_cons.mpr ⟨mwL_118, List.forall_mem_cons.mpr ⟨mwL_119, List.forall_mem_cons.mpr ⟨mwL_120, List.forall_mem_cons.mpr ⟨mwL_121, List.forall_mem_cons.mpr ⟨mwL_122, List.forall_mem_cons.mpr ⟨mwL_123, List.forall_mem_cons.mpr ⟨mwL_124, List.forall_mem_cons.mpr ⟨mwL_125, List.forall_mem_cons.mpr ⟨mwL_126, fun _ h => absurd h List.not_mem_nil⟩⟩⟩⟩⟩⟩⟩⟩⟩⟩⟩⟩⟩⟩⟩⟩⟩⟩⟩⟩⟩⟩)
set_option maxRecDepth 20000 in
theorem ggL_law_X11_init : GoodIn wsL_law wsX11_init := goodIn_sub (List.forall_mem_cons.mpr ⟨mwL_8, List.forall_mem_append.mpr ⟨List.forall_mem_append.mpr ⟨List.forall_mem_append.mpr ⟨List.forall_mem_append.mpr ⟨List.forall_mem_append.mpr ⟨List.forall_mem_append.mpr ⟨List.forall_mem_append.mpr ⟨List.forall_mem_append.mpr ⟨List.forall_mem_append.mpr ⟨List.forall_mem_append.mpr ⟨List.forall_mem_append.mpr ⟨List.forall_mem_append.mpr ⟨List.forall_mem_append.mpr ⟨bL_wsX11_init_r1, List.forall_mem_append.mpr ⟨bL_wsX11_init_r2, List.forall_mem_append.mpr ⟨bL_wsX11_init_r3, List.forall_mem_append.mpr ⟨bL_wsX11_init_r4, bL_wsX11_init_r5⟩⟩⟩⟩, inlX2⟩, inlX11⟩, inlX1⟩, inlX6⟩, inlX7⟩, inlX4⟩, inlX0⟩, inlX8⟩, inlX5⟩, inlX9⟩, inlX3⟩, inlX10⟩⟩) (by decide +kernel)
theorem gL_law_X11_init : GoodIn wsL_law (wsX11_init) := ggL_law_X11_init
set_option maxRecDepth 20000 in
theorem ggL_law_X12_init : GoodIn wsL_law wsX12_init := goodIn_sub (List.forall_mem_cons.mpr ⟨mwL_129, List.forall_mem_append.mpr ⟨(List.forall_mem_cons.mpr ⟨mwL_130, List.forall_mem_cons.mpr ⟨mwL_10, List.forall_mem_cons.mpr ⟨mwL_11, List.forall_mem_cons.mpr ⟨mwL_63, List.forall_mem_cons.mpr ⟨mwL_131, List.forall_mem_cons.mpr ⟨mwL_132, List.forall_mem_cons.mpr ⟨mwL_133, List.forall_mem_cons.mpr ⟨mwL_117, List.forall_mem_cons.mpr ⟨mwL_134, List.forall_mem_cons.mpr ⟨mwL_124, List.forall_mem_cons.mpr ⟨mwL_135, List.forall_mem_cons.mpr ⟨mwL_136, fun _ h => absurd h List.not_mem_nil⟩⟩⟩⟩⟩⟩⟩⟩⟩⟩⟩⟩), inlX12⟩⟩) (by decide +kernel)
theorem gL_law_X12_init : GoodIn wsL_law (wsX12_init) := ggL_law_X12_init
theorem bL_wsX11_add_r1 : ∀ w ∈ wsX11_add_r1, w ∈ wsL_law := (List.forall_mem_cons.mpr ⟨mwL_15, List.forall_mem_cons.mpr ⟨mwL_141, List.forall_mem_cons.mpr ⟨mwL_142, List.forall_mem_cons.mpr ⟨mwL_143, List.forall_mem_cons.mpr ⟨mwL_19, List.forall_mem_cons.mpr ⟨mwL_144, List.forall_mem_cons.mpr ⟨mwL_145, List.forall_mem_cons.mpr ⟨mwL_2, List.forall_mem_cons.mpr ⟨mwL_146, List.forall_mem_cons.mpr ⟨mwL_147, List.forall_mem_cons.mpr ⟨mwL_148, List.forall_mem_cons.mpr ⟨mwL_149, List.forall_mem_cons.mpr ⟨mwL_18, List.forall_mem_cons.mpr ⟨mwL_150, List.forall_mem_cons.mpr ⟨mwL_151, List.forall_mem_cons.mpr ⟨mwL_113, List.forall_mem_cons.mpr ⟨mwL_152, List.forall_mem_cons.mpr ⟨mwL_153, List.forall_mem_cons.mpr ⟨mwL_154, List.forall_mem_cons.mpr ⟨mwL_155, List.forall_mem_cons.mpr ⟨mwL_156, List.forall_mem_cons.mpr ⟨mwL_157, List.forall_mem_cons.mpr ⟨mwL_158, List.forall_mem_cons.mpr ⟨mwL_22, fun _ h => absurd h List.not_mem_nil⟩⟩⟩⟩⟩⟩⟩⟩⟩⟩⟩⟩⟩⟩⟩⟩⟩⟩⟩⟩⟩⟩⟩⟩)
theorem bL_wsX11_add_r2 : ∀ w ∈ wsX11_add_r2, w ∈ wsL_law := (List.forall_mem_cons.mpr ⟨mwL_159, List.forall_mem_cons.mpr ⟨mwL_160, List.forall_mem_cons.mpr ⟨mwL_51, List.forall_mem_cons.mpr ⟨mwL_55, List.forall_mem_cons.mpr ⟨mwL_59, List.forall_mem_cons.mpr ⟨mwL_161, List.forall_mem_cons.mpr ⟨mwL_162, List.forall_mem_cons.mpr ⟨mwL_163, List.forall_mem_cons.mpr ⟨mwL_50, List.forall_mem_cons.mpr ⟨mwL_164, List.forall_mem_cons.mpr ⟨mwL_165, List.forall_mem_cons.mpr ⟨mwL_166, List.forall_mem_cons.mpr ⟨mwL_64, List.forall_mem_cons.mpr ⟨mwL_167, List.forall_mem_cons.mpr ⟨mwL_168, List.forall_mem_cons.mpr ⟨mwL_169, List.forall_mem_cons.mpr ⟨mwL_170, List.forall_mem_cons.mpr ⟨mwL_65, List.forall_mem_cons.mpr ⟨mwL_66, List.forall_mem_cons.mpr ⟨mwL_67, List.forall_mem_cons.mpr ⟨mwL_68, List.forall_mem_cons.mpr ⟨mwL_69, List.forall_mem_cons.mpr ⟨mwL_171, List.forall_mem_cons.mpr ⟨mwL_172, fun _ h => absurd h List.not_mem_nil⟩⟩⟩⟩⟩⟩⟩⟩⟩⟩⟩⟩⟩⟩⟩⟩⟩⟩⟩⟩⟩⟩⟩⟩)
theorem bL_wsX11_add_r3 : ∀ w ∈ wsX11_add_r3, w ∈ wsL_law := (List.forall_mem_cons.mpr ⟨mwL_173, List.forall_mem_cons.mpr ⟨mwL_54, List.forall_mem_cons.mpr ⟨mwL_174, List.forall_mem_cons.mpr ⟨mwL_175, List.forall_mem_cons.mpr ⟨mwL_73, List.forall_mem_cons.mpr ⟨mwL_176, List.forall_mem_cons.mpr ⟨mwL_74, List.forall_mem_cons.mpr ⟨mwL_76, List.forall_mem_cons.mpr ⟨mwL_77, List.forall_mem_cons.mpr ⟨mwL_78, List.forall_mem_cons.mpr ⟨mwL_79, List.forall_mem_cons.mpr ⟨mwL_80, List.forall_mem_cons.mpr ⟨mwL_82, List.forall_mem_cons.mpr ⟨mwL_177, List.forall_mem_cons.mpr ⟨mwL_178, List.forall_mem_cons.mpr ⟨mwL_179, List.forall_mem_cons.mpr ⟨mwL_58, List.forall_mem_cons.mpr ⟨mwL_180, List.forall_mem_cons.mpr ⟨mwL_181, List.forall_mem_cons.mpr ⟨mwL_182, List.forall_mem_cons.mpr ⟨mwL_86, List.forall_mem_cons.mpr ⟨mwL_183, List.forall_mem_cons.mpr ⟨mwL_87, List.forall_mem_cons.mpr ⟨mwL_88, fun _ h => absurd h List.not_mem_nil⟩⟩⟩⟩⟩⟩⟩⟩⟩⟩⟩⟩⟩⟩⟩⟩⟩⟩⟩⟩⟩⟩⟩⟩)
theorem bL_wsX11_add_r4 : ∀ w ∈ wsX11_add_r4, w ∈ wsL_law := (List.forall_mem_cons.mpr ⟨mwL_89, List.forall_mem_cons.mpr ⟨mwL_184, List.forall_mem_cons.mpr ⟨mwL_185, List.forall_mem_cons.mpr ⟨mwL_186, List.forall_mem_cons.mpr ⟨mwL_14, List.forall_mem_cons.mpr ⟨mwL_187, List.forall_mem_cons.mpr ⟨mwL_36, List.forall_mem_cons.mpr ⟨mwL_188, List.forall_mem_cons.mpr ⟨mwL_189, List.forall_mem_cons.mpr ⟨mwL_190, List.forall_mem_cons.mpr ⟨mwL_191, List.forall_mem_cons.mpr ⟨mwL_192, List.forall_mem_cons.mpr ⟨mwL_193, List.forall_mem_cons.mpr ⟨mwL_194, List.forall_mem_cons.mpr ⟨mwL_195, List.forall_mem_cons.mpr ⟨mwL_196, List.forall_mem_cons.mpr ⟨mwL_40, List.forall_mem_cons.mpr ⟨mwL_44, List.forall_mem_cons.mpr ⟨mwL_197, List.forall_mem_cons.mpr ⟨mwL_198, List.forall_mem_cons.mpr ⟨mwL_199, List.forall_mem_cons.mpr ⟨mwL_39, List.forall_mem_cons.mpr ⟨mwL_200, List.forall_mem_cons.mpr ⟨mwL_93, fun _ h => absurd h List.not_mem_nil⟩⟩⟩⟩⟩⟩⟩⟩⟩⟩⟩⟩⟩⟩⟩⟩⟩⟩⟩⟩⟩⟩⟩⟩)
theorem bL_wsX11_add_r5 : ∀ w ∈ wsX11_add_r5, w ∈ wsL_law := (List.forall_mem_cons.mpr ⟨mwL_201, List.forall_mem_cons.mpr ⟨mwL_202, List.forall_mem_cons.mpr ⟨mwL_203, List.forall_mem_cons.mpr ⟨mwL_204, List.forall_mem_cons.mpr ⟨mwL_205, List.forall_mem_cons.mpr ⟨mwL_206, List.forall_mem_cons.mpr ⟨mwL_207, List.forall_mem_cons.mpr ⟨mwL_208, List.forall_mem_cons.mpr ⟨mwL_209, List.forall_mem_cons.mpr ⟨mwL_210, List.forall_mem_cons.mpr ⟨mwL_211, List.forall_mem_cons.mpr ⟨mwL_212, List.forall_mem_cons.mpr ⟨mwL_213, List.forall_mem_cons.mpr ⟨mwL_214, List.forall_mem_cons.mpr ⟨mwL_215, List.forall_mem_cons.mpr ⟨mwL_216, List.forall_mem_cons.mpr ⟨mwL_217, List.forall_mem_cons.mpr ⟨mwL_218, List.forall_mem_cons.mpr ⟨mwL_219, List.forall_mem_cons.mpr ⟨mwL_220, List.forall_mem_cons.mpr ⟨mwL_43, List.forall_mem_cons.mpr ⟨mwL_221, List.forall_mem_cons.mpr ⟨mwL_99, List.forall_mem_cons.mpr ⟨mwL_100, fun _ h => absurd h List.not_mem_nil⟩⟩⟩⟩⟩⟩⟩⟩⟩⟩⟩⟩⟩⟩⟩⟩⟩⟩⟩⟩⟩⟩⟩⟩)
theorem bL_wsX11_add_r6 : ∀ w ∈ wsX11_add_r6, w ∈ wsL_law := (List.forall_mem_cons.mpr ⟨mwL_222, List.forall_mem_cons.mpr ⟨mwL_223, List.forall_mem_cons.mpr ⟨mwL_224, List.forall_mem_cons.mpr ⟨mwL_225, List.forall_mem_cons.mpr ⟨mwL_226, List.forall_mem_cons.mpr ⟨mwL_227, List.forall_mem_cons.mpr ⟨mwL_228, List.forall_mem_cons.mpr ⟨mwL_229, List.forall_mem_cons.mpr ⟨mwL_230, List.forall_mem_cons.mpr ⟨mwL_231, List.forall_mem_cons.mpr ⟨mwL_232, List.forall_mem_cons.mpr ⟨mwL_104, List.forall_mem_cons.mpr ⟨mwL_233, List.forall_mem_cons.mpr ⟨mwL_97, List.forall_mem_cons.mpr ⟨mwL_98, List.forall_mem_cons.mpr ⟨mwL_234, List.forall_mem_cons.mpr ⟨mwL_235, List.forall_mem_cons.mpr ⟨mwL_236, List.forall_mem_cons.mpr ⟨mwL_237, List.forall_mem_cons.mpr ⟨mwL_103, List.forall_mem_cons.mpr ⟨mwL_238, List.forall_mem_cons.mpr ⟨mwL_239, List.forall_mem_cons.mpr ⟨mwL_240, List.forall_mem_cons.mpr ⟨mwL_241, fun _ h => absurd h List.not_mem_nil⟩⟩⟩⟩⟩⟩⟩⟩⟩⟩⟩⟩⟩⟩⟩⟩⟩⟩⟩⟩⟩⟩⟩⟩)
theorem bL_wsX11_add_r7 : ∀ w ∈ wsX11_add_r7, w ∈ wsL_law := (List.forall_mem_cons.mpr ⟨mwL_242, List.forall_mem_cons.mpr ⟨mwL_243, List.forall_mem_cons.mpr ⟨mwL_244, List.forall_mem_cons.mpr ⟨mwL_245, List.forall_mem_cons.mpr ⟨mwL_246, List.forall_mem_cons.mpr ⟨mwL_247, List.forall_mem_cons.mpr ⟨mwL_248, List.forall_mem_cons.mpr ⟨mwL_249, List.forall_mem_cons.mpr ⟨mwL_250, List.forall_mem_cons.mpr ⟨mwL_251, List.forall_mem_cons.mpr ⟨mwL_252, List.forall_mem_cons.mpr ⟨mwL_253, List.forall_mem_cons.mpr ⟨mwL_254, List.forall_mem_cons.mpr ⟨mwL_255, List.forall_mem_cons.mpr ⟨mwL_256, List.forall_mem_cons.mpr ⟨mwL_257, List.forall_mem_cons.mpr ⟨mwL_258, List.forall_mem_cons.mpr ⟨mwL_259, List.forall_mem_cons.mpr ⟨mwL_260, List.forall_mem_cons.mpr ⟨mwL_261, List.forall_mem_cons.mpr ⟨mwL_262, List.forall_mem_cons.mpr ⟨mwL_263, List.forall_mem_cons.mpr ⟨mwL_264, List.forall_mem_cons.mpr ⟨mwL_265, fun _ h => absurd h List.not_mem_nil⟩⟩⟩⟩⟩⟩⟩⟩⟩⟩⟩⟩⟩⟩⟩⟩⟩⟩⟩⟩⟩⟩⟩⟩)
theorem bL_wsX11_add_r8 : ∀ w ∈ wsX11_add_r8, w ∈ wsL_law := (List.forall_mem_cons.mpr ⟨mwL_266, List.forall_mem_cons.mpr ⟨mwL_267, List.forall_mem_cons.mpr ⟨mwL_268, List.forall_mem_cons.mpr ⟨mwL_269, List.forall_mem_cons.mpr ⟨mwL_270, List.forall_mem_cons.mpr ⟨mwL_271, List.forall_mem_cons.mpr ⟨mwL_272, List.forall_mem_cons.mpr ⟨mwL_273, List.forall_mem_cons.mpr ⟨mwL_274, List.forall_mem_cons.mpr ⟨mwL_275, List.forall_mem_cons.mpr ⟨mwL_276, List.forall_mem_cons.mpr ⟨mwL_277, List.forall_mem_cons.mpr ⟨mwL_278, List.forall_mem_cons.mpr ⟨mwL_279, List.forall_mem_cons.mpr ⟨mwL_280, List.forall_mem_cons.mpr ⟨mwL_281, List.forall_mem_cons.mpr ⟨mwL_282, List.forall_mem_cons.mpr ⟨mwL_283, List.forall_mem_cons.mpr ⟨mwL_284, List.forall_mem_cons.mpr ⟨mwL_285, List.forall_mem_cons.mpr ⟨mwL_286, List.forall_mem_cons.mpr ⟨mwL_287, List.forall_mem_cons.mpr ⟨mwL_288, List.forall_mem_cons.mpr ⟨mwL_289, fun _ h => absurd h List.not_mem_nil⟩⟩⟩⟩⟩⟩⟩⟩⟩⟩⟩⟩⟩⟩⟩⟩⟩⟩⟩⟩⟩⟩⟩⟩)
theorem bL_wsX11_add_r9 : ∀ w ∈ wsX11_add_r9, w ∈ wsL_law := (List.forall_mem_cons.mpr ⟨mwL_290, List.forall_mem_cons.mpr ⟨mwL_291, List.forall_mem_cons.mpr ⟨mwL_292, List.forall_mem_cons.mpr ⟨mwL_293, List.forall_mem_cons.mpr ⟨mwL_294, List.forall_mem_cons.mpr ⟨mwL_295, List.forall_mem_cons.mpr ⟨mwL_296, List.forall_mem_cons.mpr ⟨mwL_297, List.forall_mem_cons.mpr ⟨mwL_298, List.forall_mem_cons.mpr ⟨mwL_299, List.forall_mem_cons.mpr ⟨mwL_300, List.forall_mem_cons.mpr ⟨mwL_301, List.forall_mem_cons.mpr ⟨mwL_302, List.forall_mem_cons.mpr ⟨mwL_303, List.forall_mem_cons.mpr ⟨mwL_304, fun _ h => absurd h List.not_mem_nil⟩⟩⟩⟩⟩⟩⟩⟩⟩⟩⟩⟩⟩⟩⟩)
set_option maxRecDepth 20000 in
theorem ggL_law_X11_add : GoodIn wsL_law wsX11_add := goodIn_sub (List.forall_mem_cons.mpr ⟨mwL_140, List.forall_mem_append.mpr ⟨List.forall_mem_append.mpr ⟨List.forall_mem_append.mpr ⟨List.forall_mem_append.mpr ⟨List.forall_mem_append.mpr ⟨List.forall_mem_append.mpr ⟨List.forall_mem_append.mpr ⟨List.forall_mem_append.mpr ⟨List.forall_mem_append.mpr ⟨List.forall_mem_append.mpr ⟨List.forall_mem_append.mpr ⟨bL_wsX11_add_r1, List.forall_mem_append.mpr ⟨bL_wsX11_add_r2, List.forall_mem_append.mpr ⟨bL_wsX11_add_r3, List.forall_mem_append.mpr ⟨bL_wsX11_add_r4, List.forall_mem_append.mpr ⟨bL_wsX11_add_r5, List.forall_mem_append.mpr ⟨bL_wsX11_add_r6, List.forall_mem_append.mpr ⟨bL_wsX11_add_r7, List.forall_mem_append.mpr ⟨bL_wsX11_add_r8, bL_wsX11_add_r9⟩⟩⟩⟩⟩⟩⟩⟩, inlX11⟩, inlX2⟩, inlX6⟩, inlX5⟩, inlX1⟩, inlX9⟩, inlX3⟩, inlX0⟩, inlX8⟩, inlX10⟩⟩) (by decide +kernel)
theorem gL_law_X11_add : GoodIn wsL_law (wsV RL 13 RX11 yX11_add wsX11_add) := goodIn_app (goodIn_sub (List.forall_mem_cons.mpr ⟨mwL_137, List.forall_mem_cons.mpr ⟨mwL_138, List.forall_mem_cons.mpr ⟨mwL_139, List.forall_mem_cons.mpr ⟨mwL_2, fun _ h => absurd h List.not_mem_nil⟩⟩⟩⟩) (by decide +kernel)) ggL_law_X11_add
theorem bL_wsX12_add_r1 : ∀ w ∈ wsX12_add_r1, w ∈ wsL_law := (List.forall_mem_cons.mpr ⟨mwL_131, List.forall_mem_cons.mpr ⟨mwL_309, List.forall_mem_cons.mpr ⟨mwL_310, List.forall_mem_cons.mpr ⟨mwL_5, List.forall_mem_cons.mpr ⟨mwL_311, List.forall_mem_cons.mpr ⟨mwL_312, List.forall_mem_cons.mpr ⟨mwL_313, List.forall_mem_cons.mpr ⟨mwL_314, List.forall_mem_cons.mpr ⟨mwL_315, List.forall_mem_cons.mpr ⟨mwL_316, List.forall_mem_cons.mpr ⟨mwL_132, List.forall_mem_cons.mpr ⟨mwL_317, List.forall_mem_cons.mpr ⟨mwL_318, List.forall_mem_cons.mpr ⟨mwL_319, List.forall_mem_cons.mpr ⟨mwL_320, List.forall_mem_cons.mpr ⟨mwL_321, List.forall_mem_cons.mpr ⟨mwL_322, List.forall_mem_cons.mpr ⟨mwL_323, List.forall_mem_cons.mpr ⟨mwL_324, List.forall_mem_cons.mpr ⟨mwL_325, List.forall_mem_cons.mpr ⟨mwL_326, List.forall_mem_cons.mpr ⟨mwL_327, List.forall_mem_cons.mpr ⟨mwL_328, List.forall_mem_cons.mpr ⟨mwL_329, fun _ h => absurd h List.not_mem_nil⟩⟩⟩⟩⟩⟩⟩⟩⟩⟩⟩⟩⟩⟩⟩⟩⟩⟩⟩⟩⟩⟩⟩⟩)
theorem bL_wsX12_add_r2 : ∀ w ∈ wsX12_add_r2, w ∈ wsL_law := (List.forall_mem_cons.mpr ⟨mwL_330, List.forall_mem_cons.mpr ⟨mwL_331, List.forall_mem_cons.mpr ⟨mwL_332, List.forall_mem_cons.mpr ⟨mwL_333, List.forall_mem_cons.mpr ⟨mwL_334, List.forall_mem_cons.mpr ⟨mwL_335, List.forall_mem_cons.mpr ⟨mwL_336, List.forall_mem_cons.mpr ⟨mwL_337, List.forall_mem_cons.mpr ⟨mwL_338, List.forall_mem_cons.mpr ⟨mwL_339, List.forall_mem_cons.mpr ⟨mwL_340, List.forall_mem_cons.mpr ⟨mwL_341, List.forall_mem_cons.mpr ⟨mwL_342, List.forall_mem_cons.mpr ⟨mwL_343, List.forall_mem_cons.mpr ⟨mwL_344, List.forall_mem_cons.mpr ⟨mwL_345, List.forall_mem_cons.mpr ⟨mwL_346, List.forall_mem_cons.mpr ⟨mwL_347, List.forall_mem_cons.mpr ⟨mwL_348, List.forall_mem_cons.mpr ⟨mwL_349, List.forall_mem_cons.mpr ⟨mwL_350, List.forall_mem_cons.mpr ⟨mwL_351, List.forall_mem_cons.mpr ⟨mwL_352, List.forall_mem_cons.mpr ⟨mwL_353, fun _ h => absurd h List.not_mem_nil⟩⟩⟩⟩⟩⟩⟩⟩⟩⟩⟩⟩⟩⟩⟩⟩⟩⟩⟩⟩⟩⟩⟩⟩)
theorem bL_wsX12_add_r3 : ∀ w ∈ wsX12_add_r3, w ∈ wsL_law := (List.forall_mem_cons.mpr ⟨mwL_354, List.forall_mem_cons.mpr ⟨mwL_355, List.forall_mem_cons.mpr ⟨mwL_356, List.forall_mem_cons.mpr ⟨mwL_357, List.forall_mem_cons.mpr ⟨mwL_358, List.forall_mem_cons.mpr ⟨mwL_359, List.forall_mem_cons.mpr ⟨mwL_360, fun _ h => absurd h List.not_mem_nil⟩⟩⟩⟩⟩⟩⟩)
set_option maxRecDepth 20000 in
theorem ggL_law_X12_add : GoodIn wsL_law wsX12_add := goodIn_sub (List.forall_mem_cons.mpr ⟨mwL_308, List.forall_mem_append.mpr ⟨List.forall_mem_append.mpr ⟨bL_wsX12_add_r1, List.forall_mem_append.mpr ⟨bL_wsX12_add_r2, bL_wsX12_add_r3⟩⟩, inlX12⟩⟩) (by decide +kernel)
theorem gL_law_X12_add : GoodIn wsL_law (wsV RL 17 RX12 yX12_add wsX12_add) := goodIn_app (goodIn_sub (List.forall_mem_cons.mpr ⟨mwL_305, List.forall_mem_cons.mpr ⟨mwL_306, List.forall_mem_cons.mpr ⟨mwL_307, List.forall_mem_cons.mpr ⟨mwL_5, fun _ h => absurd h List.not_mem_nil⟩⟩⟩⟩) (by decide +kernel)) ggL_law_X12_add
theorem bL_wsX11_readSpans_r1 : ∀ w ∈ wsX11_readSpans_r1, w ∈ wsL_law := (List.forall_mem_cons.mpr ⟨mwL_31, List.forall_mem_cons.mpr ⟨mwL_27, List.forall_mem_cons.mpr ⟨mwL_15, List.forall_mem_cons.mpr ⟨mwL_141, List.forall_mem_cons.mpr ⟨mwL_142, List.forall_mem_cons.mpr ⟨mwL_143, List.forall_mem_cons.mpr ⟨mwL_365, List.forall_mem_cons.mpr ⟨mwL_19, List.forall_mem_cons.mpr ⟨mwL_366, List.forall_mem_cons.mpr ⟨mwL_367, List.forall_mem_cons.mpr ⟨mwL_368, List.forall_mem_cons.mpr ⟨mwL_369, List.forall_mem_cons.mpr ⟨mwL_370, List.forall_mem_cons.mpr ⟨mwL_371, List.forall_mem_cons.mpr ⟨mwL_372, List.forall_mem_cons.mpr ⟨mwL_30, List.forall_mem_cons.mpr ⟨mwL_373, List.forall_mem_cons.mpr ⟨mwL_374, List.forall_mem_cons.mpr ⟨mwL_375, List.forall_mem_cons.mpr ⟨mwL_376, List.forall_mem_cons.mpr ⟨mwL_377, List.forall_mem_cons.mpr ⟨mwL_378, List.forall_mem_cons.mpr ⟨mwL_379, List.forall_mem_cons.mpr ⟨mwL_380, fun _ h => absurd h List.not_mem_nil⟩⟩⟩⟩⟩⟩⟩⟩⟩⟩⟩⟩⟩⟩⟩⟩⟩⟩⟩⟩⟩⟩⟩⟩)
theorem bL_wsX11_readSpans_r2 : ∀ w ∈ wsX11_readSpans_r2, w ∈ wsL_law := (List.forall_mem_cons.mpr ⟨mwL_125, List.forall_mem_cons.mpr ⟨mwL_122, List.forall_mem_cons.mpr ⟨mwL_123, List.forall_mem_cons.mpr ⟨mwL_126, List.forall_mem_cons.mpr ⟨mwL_381, List.forall_mem_cons.mpr ⟨mwL_382, List.forall_mem_cons.mpr ⟨mwL_383, List.forall_mem_cons.mpr ⟨mwL_26, List.forall_mem_cons.mpr ⟨mwL_384, List.forall_mem_cons.mpr ⟨mwL_385, List.forall_mem_cons.mpr ⟨mwL_118, List.forall_mem_cons.mpr ⟨mwL_386, List.forall_mem_cons.mpr ⟨mwL_387, List.forall_mem_cons.mpr ⟨mwL_388, List.forall_mem_cons.mpr ⟨mwL_389, List.forall_mem_cons.mpr ⟨mwL_390, List.forall_mem_cons.mpr ⟨mwL_391, List.forall_mem_cons.mpr ⟨mwL_392, List.forall_mem_cons.mpr ⟨mwL_393, List.forall_mem_cons.mpr ⟨mwL_394, List.forall_mem_cons.mpr ⟨mwL_395, List.forall_mem_cons.mpr ⟨mwL_396, List.forall_mem_cons.mpr ⟨mwL_397, List.forall_mem_cons.mpr ⟨mwL_398, fun _ h => absurd h List.not_mem_nil⟩⟩⟩⟩⟩⟩⟩⟩⟩⟩⟩⟩⟩⟩⟩⟩⟩⟩⟩⟩⟩⟩⟩⟩)
theorem bL_wsX11_readSpans_r3 : ∀ w ∈ wsX11_readSpans_r3, w ∈ wsL_law := (List.forall_mem_cons.mpr ⟨mwL_399, List.forall_mem_cons.mpr ⟨mwL_400, List.forall_mem_cons.mpr ⟨mwL_401, List.forall_mem_cons.mpr ⟨mwL_402, List.forall_mem_cons.mpr ⟨mwL_403, List.forall_mem_cons.mpr ⟨mwL_404, List.forall_mem_cons.mpr ⟨mwL_405, List.forall_mem_cons.mpr ⟨mwL_406, List.forall_mem_cons.mpr ⟨mwL_147, List.forall_mem_cons.mpr ⟨mwL_148, List.forall_mem_cons.mpr ⟨mwL_149, List.forall_mem_cons.mpr ⟨mwL_18, List.forall_mem_cons.mpr ⟨mwL_150, List.forall_mem_cons.mpr ⟨mwL_151, List.forall_mem_cons.mpr ⟨mwL_113, List.forall_mem_cons.mpr ⟨mwL_152, List.forall_mem_cons.mpr ⟨mwL_153, List.forall_mem_cons.mpr ⟨mwL_154, List.forall_mem_cons.mpr ⟨mwL_155, List.forall_mem_cons.mpr ⟨mwL_156, List.forall_mem_cons.mpr ⟨mwL_157, List.forall_mem_cons.mpr ⟨mwL_158, List.forall_mem_cons.mpr ⟨mwL_22, List.forall_mem_cons.mpr ⟨mwL_159, fun _ h => absurd h List.not_mem_nil⟩⟩⟩⟩⟩⟩⟩⟩⟩⟩⟩⟩⟩⟩⟩⟩⟩⟩⟩⟩⟩⟩⟩⟩)
theorem bL_wsX11_readSpans_r4 : ∀ w ∈ wsX11_readSpans_r4, w ∈ wsL_law := (List.forall_mem_cons.mpr ⟨mwL_160, List.forall_mem_cons.mpr ⟨mwL_51, List.forall_mem_cons.mpr ⟨mwL_55, List.forall_mem_cons.mpr ⟨mwL_59, List.forall_mem_cons.mpr ⟨mwL_161, List.forall_mem_cons.mpr ⟨mwL_162, List.forall_mem_cons.mpr ⟨mwL_163, List.forall_mem_cons.mpr ⟨mwL_50, List.forall_mem_cons.mpr ⟨mwL_164, List.forall_mem_cons.mpr ⟨mwL_165, List.forall_mem_cons.mpr ⟨mwL_166, List.forall_mem_cons.mpr ⟨mwL_64, List.forall_mem_cons.mpr ⟨mwL_167, List.forall_mem_cons.mpr ⟨mwL_168, List.forall_mem_cons.mpr ⟨mwL_169, List.forall_mem_cons.mpr ⟨mwL_170, List.forall_mem_cons.mpr ⟨mwL_65, List.forall_mem_cons.mpr ⟨mwL_66, List.forall_mem_cons.mpr ⟨mwL_67, List.forall_mem_cons.mpr ⟨mwL_68, List.forall_mem_cons.mpr ⟨mwL_69, List.forall_mem_cons.mpr ⟨mwL_171, List.forall_mem_cons.mpr ⟨mwL_172, List.forall_mem_cons.mpr ⟨mwL_173, fun _ h => absurd h List.not_mem_nil⟩⟩⟩⟩⟩⟩⟩⟩⟩⟩⟩⟩⟩⟩⟩⟩⟩⟩⟩⟩⟩⟩⟩⟩)
theorem bL_wsX11_readSpans_r5 : ∀ w ∈ wsX11_readSpans_r5, w ∈ wsL_law := (List.forall_mem_cons.mpr ⟨mwL_54, List.forall_mem_cons.mpr ⟨mwL_174, List.forall_mem_cons.mpr ⟨mwL_175, List.forall_mem_cons.mpr ⟨mwL_73, List.forall_mem_cons.mpr ⟨mwL_176, List.forall_mem_cons.mpr ⟨mwL_74, List.forall_mem_cons.mpr ⟨mwL_76, List.forall_mem_cons.mpr ⟨mwL_77, List.forall_mem_cons.mpr ⟨mwL_78, List.forall_mem_cons.mpr ⟨mwL_79, List.forall_mem_cons.mpr ⟨mwL_80, List.forall_mem_cons.mpr ⟨mwL_82, List.forall_mem_cons.mpr ⟨mwL_177, List.forall_mem_cons.mpr ⟨mwL_178, List.forall_mem_cons.mpr ⟨mwL_179, List.forall_mem_cons.mpr ⟨mwL_58, List.forall_mem_cons.mpr ⟨mwL_180, List.forall_mem_cons.mpr ⟨mwL_181, List.forall_mem_cons.mpr ⟨mwL_182, List.forall_mem_cons.mpr ⟨mwL_86, List.forall_mem_cons.mpr ⟨mwL_183, List.forall_mem_cons.mpr ⟨mwL_87, List.forall_mem_cons.mpr ⟨mwL_88, List.forall_mem_cons.mpr ⟨mwL_89, fun _ h => absurd h List.not_mem_nil⟩⟩⟩⟩⟩⟩⟩⟩⟩⟩⟩⟩⟩⟩⟩⟩⟩⟩⟩⟩⟩⟩⟩⟩)
theorem bL_wsX11_readSpans_r6 : ∀ w ∈ wsX11_readSpans_r6, w ∈ wsL_law := (List.forall_mem_cons.mpr ⟨mwL_184, List.forall_mem_cons.mpr ⟨mwL_185, List.forall_mem_cons.mpr ⟨mwL_186, List.forall_mem_cons.mpr ⟨mwL_14, List.forall_mem_cons.mpr ⟨mwL_187, List.forall_mem_cons.mpr ⟨mwL_36, List.forall_mem_cons.mpr ⟨mwL_188, List.forall_mem_cons.mpr ⟨mwL_189, List.forall_mem_cons.mpr ⟨mwL_190, List.forall_mem_cons.mpr ⟨mwL_191, List.forall_mem_cons.mpr ⟨mwL_192, List.forall_mem_cons.mpr ⟨mwL_193, List.forall_mem_cons.mpr ⟨mwL_194, List.forall_mem_cons.mpr ⟨mwL_195, List.forall_mem_cons.mpr ⟨mwL_196, List.forall_mem_cons.mpr ⟨mwL_40, List.forall_mem_cons.mpr ⟨mwL_44, List.forall_mem_cons.mpr ⟨mwL_197, List.forall_mem_cons.mpr ⟨mwL_198, List.forall_mem_cons.mpr ⟨mwL_199, List.forall_mem_cons.mpr ⟨mwL_39, List.forall_mem_cons.mpr ⟨mwL_200, List.forall_mem_cons.mpr ⟨mwL_93, List.forall_mem_cons.mpr ⟨mwL_201, fun _ h => absurd h List.not_mem_nil⟩⟩⟩⟩⟩⟩⟩⟩⟩⟩⟩⟩⟩⟩⟩⟩⟩⟩⟩⟩⟩⟩⟩⟩)
theorem bL_wsX11_readSpans_r7 : ∀ w ∈ wsX11_readSpans_r7, w ∈ wsL_law := (List.forall_mem_cons.mpr ⟨mwL_202, List.forall_mem_cons.mpr ⟨mwL_203, List.forall_mem_cons.mpr ⟨mwL_204, List.forall_mem_cons.mpr ⟨mwL_205, List.forall_mem_cons.mpr ⟨mwL_206, List.forall_mem_cons.mpr ⟨mwL_207, List.forall_mem_cons.mpr ⟨mwL_208, List.forall_mem_cons.mpr ⟨mwL_209, List.forall_mem_cons.mpr ⟨mwL_210, List.forall_mem_cons.mpr ⟨mwL_211, List.forall_mem_cons.mpr ⟨mwL_212, List.forall_mem_cons.mpr ⟨mwL_2, List.forall_mem_cons.mpr ⟨mwL_213, List.forall_mem_cons.mpr ⟨mwL_214, List.forall_mem_cons.mpr ⟨mwL_215, List.forall_mem_cons.mpr ⟨mwL_216, List.forall_mem_cons.mpr ⟨mwL_217, List.forall_mem_cons.mpr ⟨mwL_145, List.forall_mem_cons.mpr ⟨mwL_146, List.forall_mem_cons.mpr ⟨mwL_218, List.forall_mem_cons.mpr ⟨mwL_219, List.forall_mem_cons.mpr ⟨mwL_220, List.forall_mem_cons.mpr ⟨mwL_43, List.forall_mem_cons.mpr ⟨mwL_221, fun _ h => absurd h List.not_mem_nil⟩⟩⟩⟩⟩⟩⟩⟩⟩⟩⟩⟩⟩⟩⟩⟩⟩⟩⟩⟩⟩⟩⟩⟩)
theorem bL_wsX11_readSpans_r8 : ∀ w ∈ wsX11_readSpans_r8, w ∈ wsL_law := (List.forall_mem_cons.mpr ⟨mwL_99, List.forall_mem_cons.mpr ⟨mwL_100, List.forall_mem_cons.mpr ⟨mwL_222, List.forall_mem_cons.mpr ⟨mwL_223, List.forall_mem_cons.mpr ⟨mwL_224, List.forall_mem_cons.mpr ⟨mwL_225, List.forall_mem_cons.mpr ⟨mwL_226, List.forall_mem_cons.mpr ⟨mwL_227, List.forall_mem_cons.mpr ⟨mwL_228, List.forall_mem_cons.mpr ⟨mwL_229, List.forall_mem_cons.mpr ⟨mwL_230, List.forall_mem_cons.mpr ⟨mwL_231, List.forall_mem_cons.mpr ⟨mwL_232, List.forall_mem_cons.mpr ⟨mwL_104, List.forall_mem_cons.mpr ⟨mwL_233, List.forall_mem_cons.mpr ⟨mwL_97, List.forall_mem_cons.mpr ⟨mwL_98, List.forall_mem_cons.mpr ⟨mwL_234, List.forall_mem_cons.mpr ⟨mwL_235, List.forall_mem_cons.mpr ⟨mwL_236, List.forall_mem_cons.mpr ⟨mwL_237, List.forall_mem_cons.mpr ⟨mwL_103, List.forall_mem_cons.mpr ⟨mwL_238, List.forall_mem_cons.mpr ⟨mwL_239, fun _ h => absurd h List.not_mem_nil⟩⟩⟩⟩⟩⟩⟩⟩⟩⟩⟩⟩⟩⟩⟩⟩⟩⟩⟩⟩⟩⟩⟩⟩)
theorem bL_wsX11_readSpans_r9 : ∀ w ∈ wsX11_readSpans_r9, w ∈ wsL_law := (List.forall_mem_cons.mpr ⟨mwL_240, List.forall_mem_cons.mpr ⟨mwL_241, List.forall_mem_cons.mpr ⟨mwL_242, List.forall_mem_cons.mpr ⟨mwL_243, List.forall_mem_cons.mpr ⟨mwL_244, List.forall_mem_cons.mpr ⟨mwL_245, List.forall_mem_cons.mpr ⟨mwL_246, List.forall_mem_cons.mpr ⟨mwL_247, List.forall_mem_cons.mpr ⟨mwL_248, List.forall_mem_cons.mpr ⟨mwL_249, List.forall_mem_cons.mpr ⟨mwL_250, List.forall_mem_cons.mpr ⟨mwL_251, List.forall_mem_cons.mpr ⟨mwL_252, List.forall_mem_cons.mpr ⟨mwL_253, List.forall_mem_cons.mpr ⟨mwL_254, List.forall_mem_cons.mpr ⟨mwL_255, List.forall_mem_cons.mpr ⟨mwL_256, List.forall_mem_cons.mpr ⟨mwL_257, List.forall_mem_cons.mpr ⟨mwL_258, List.forall_mem_cons.mpr ⟨mwL_259, List.forall_mem_cons.mpr ⟨mwL_260, List.forall_mem_cons.mpr ⟨mwL_261, List.forall_mem_cons.mpr ⟨mwL_262, List.forall_mem_cons.mpr ⟨mwL_263, fun _ h => absurd h List.not_mem_nil⟩⟩⟩⟩⟩⟩⟩⟩⟩⟩⟩⟩⟩⟩⟩⟩⟩⟩⟩⟩⟩⟩⟩⟩)
theorem bL_wsX11_readSpans_r10 : ∀ w ∈ wsX11_readSpans_r10, w ∈ wsL_law := (List.forall_mem_cons.mpr ⟨mwL_264, List.forall_mem_cons.mpr ⟨mwL_265, List.forall_mem_cons.mpr ⟨mwL_266, List.forall_mem_cons.mpr ⟨mwL_267, List.forall_mem_cons.mpr ⟨mwL_268, List.forall_mem_cons.mpr ⟨mwL_269, List.forall_mem_cons.mpr ⟨mwL_270, List.forall_mem_cons.mpr ⟨mwL_271, List.forall_mem_cons.mpr ⟨mwL_272, List.forall_mem_cons.mpr ⟨mwL_273, List.forall_mem_cons.mpr ⟨mwL_274, List.forall_mem_cons.mpr ⟨mwL_275, List.forall_mem_cons.mpr ⟨mwL_276, List.forall_mem_cons.mpr ⟨mwL_277, List.forall_mem_cons.mpr ⟨mwL_278, List.forall_mem_cons.mpr ⟨mwL_279, List.forall_mem_cons.mpr ⟨mwL_280, List.forall_mem_cons.mpr ⟨mwL_281, List.forall_mem_cons.mpr ⟨mwL_282, List.forall_mem_cons.mpr ⟨mwL_283, List.forall_mem_cons.mpr ⟨mwL_284, List.forall_mem_cons.mpr ⟨mwL_285, List.forall_mem_cons.mpr ⟨mwL_286, List.forall_mem_cons.mpr ⟨mwL_287, fun _ h => absurd h List.not_mem_nil⟩⟩⟩⟩⟩⟩⟩⟩⟩⟩⟩⟩⟩⟩⟩⟩⟩⟩⟩⟩⟩⟩⟩⟩)
theorem bL_wsX11_readSpans_r11 : ∀ w ∈ wsX11_readSpans_r11, w ∈ wsL_law := (List.forall_mem_cons.mpr ⟨mwL_288, List.forall_mem_cons.mpr ⟨mwL_289, List.forall_mem_cons.mpr ⟨mwL_290, List.forall_mem_cons.mpr ⟨mwL_291, List.forall_mem_cons.mpr ⟨mwL_292, List.forall_mem_cons.mpr ⟨mwL_293, List.forall_mem_cons.mpr ⟨mwL_294, List.forall_mem_cons.mpr ⟨mwL_295, List.forall_mem_cons.mpr ⟨mwL_296, List.forall_mem_cons.mpr ⟨mwL_297, List.forall_mem_cons.mpr ⟨mwL_298, List.forall_mem_cons.mpr ⟨mwL_299, List.forall_mem_cons.mpr ⟨mwL_300, List.forall_mem_cons.mpr ⟨mwL_301, List.forall_mem_cons.mpr ⟨mwL_302, List.forall_mem_cons.mpr ⟨mwL_303, List.forall_mem_cons.mpr ⟨mwL_304, fun _ h => absurd h List.not_mem_nil⟩⟩⟩⟩⟩⟩⟩⟩⟩⟩⟩⟩⟩⟩⟩⟩⟩)
set_option maxRecDepth 20000 in
theorem ggL_law_X11_readSpans : GoodIn wsL_law wsX11_readSpans := goodIn_sub (List.forall_mem_cons.mpr ⟨mwL_364, List.forall_mem_append.mpr ⟨List.forall_mem_append.mpr ⟨List.forall_mem_append.mpr ⟨List.forall_mem_append.mpr ⟨List.forall_mem_append.mpr ⟨List.forall_mem_append.mpr ⟨List.forall_mem_append.mpr ⟨List.forall_mem_append.mpr ⟨List.forall_mem_append.mpr ⟨List.forall_mem_append.mpr ⟨List.forall_mem_append.mpr ⟨List.forall_mem_append.mpr ⟨List.forall_mem_append.mpr ⟨bL_wsX11_readSpans_r1, List.forall_mem_append.mpr ⟨bL_wsX11_readSpans_r2, List.forall_mem_append.mpr ⟨bL_wsX11_readSpans_r3, List.forall_mem_append.mpr ⟨bL_wsX11_readSpans_r4, List.forall_mem_append.mpr ⟨bL_wsX11_readSpans_r5, List.forall_mem_append.mpr ⟨bL_wsX11_readSpans_r6, List.forall_mem_append.mpr ⟨bL_wsX11_readSpans_r7, List.forall_mem_append.mpr ⟨bL_wsX11_readSpans_r8, List.forall_mem_append.mpr ⟨bL_wsX11_readSpans_r9, List.forall_mem_append.mpr ⟨bL_wsX11_readSpans_r10, bL_wsX11_readSpans_r11⟩⟩⟩⟩⟩⟩⟩⟩⟩⟩, inlX11⟩, inlX2⟩, inlX6⟩, inlX5⟩, inlX4⟩, inlX7⟩, inlX1⟩, inlX9⟩, inlX3⟩, inlX0⟩, inlX8⟩, inlX10⟩⟩) (by decide +kernel)
theorem gL_law_X11_readSpans : GoodIn wsL_law (wsV RL 18 RX11 yX11_readSpans wsX11_readSpans) := goodIn_app (goodIn_sub (List.forall_mem_cons.mpr ⟨mwL_361, List.forall_mem_cons.mpr ⟨mwL_362, List.forall_mem_cons.mpr ⟨mwL_363, List.forall_mem_cons.mpr ⟨mwL_2, fun _ h => absurd h List.not_mem_nil⟩⟩⟩⟩) (by decide +kernel)) ggL_law_X11_readSpans
theorem bL_wsX12_readSpans_r1 : ∀ w ∈ wsX12_readSpans_r1, w ∈ wsL_law := (List.forall_mem_cons.mpr ⟨mwL_411, List.forall_mem_cons.mpr ⟨mwL_412, List.forall_mem_cons.mpr ⟨mwL_413, List.forall_mem_cons.mpr ⟨mwL_414, List.forall_mem_cons.mpr ⟨mwL_415, List.forall_mem_cons.mpr ⟨mwL_131, List.forall_mem_cons.mpr ⟨mwL_416, List.forall_mem_cons.mpr ⟨mwL_417, List.forall_mem_cons.mpr ⟨mwL_418, List.forall_mem_cons.mpr ⟨mwL_5, List.forall_mem_cons.mpr ⟨mwL_419, List.forall_mem_cons.mpr ⟨mwL_420, List.forall_mem_cons.mpr ⟨mwL_421, List.forall_mem_cons.mpr ⟨mwL_422, List.forall_mem_cons.mpr ⟨mwL_423, List.forall_mem_cons.mpr ⟨mwL_424, List.forall_mem_cons.mpr ⟨mwL_425, List.forall_mem_cons.mpr ⟨mwL_426, List.forall_mem_cons.mpr ⟨mwL_427, List.forall_mem_cons.mpr ⟨mwL_428, List.forall_mem_cons.mpr ⟨mwL_429, List.forall_mem_cons.mpr ⟨mwL_134, List.forall_mem_cons.mpr ⟨mwL_430, List.forall_mem_cons.mpr ⟨mwL_431, fun _ h => absurd h List.not_mem_nil⟩⟩⟩⟩⟩⟩⟩⟩⟩⟩⟩⟩⟩⟩⟩⟩⟩⟩⟩⟩⟩⟩⟩⟩)
theorem bL_wsX12_readSpans_r2 : ∀ w ∈ wsX12_readSpans_r2, w ∈ wsL_law := (List.forall_mem_cons.mpr ⟨mwL_432, List.forall_mem_cons.mpr ⟨mwL_433, List.forall_mem_cons.mpr ⟨mwL_434, List.forall_mem_cons.mpr ⟨mwL_435, List.forall_mem_cons.mpr ⟨mwL_436, List.forall_mem_cons.mpr ⟨mwL_437, List.forall_mem_cons.mpr ⟨mwL_309, List.forall_mem_cons.mpr ⟨mwL_310, List.forall_mem_cons.mpr ⟨mwL_311, List.forall_mem_cons.mpr ⟨mwL_312, List.forall_mem_cons.mpr ⟨mwL_313, List.forall_mem_cons.mpr ⟨mwL_314, List.forall_mem_cons.mpr ⟨mwL_315, List.forall_mem_cons.mpr ⟨mwL_316, List.forall_mem_cons.mpr ⟨mwL_132, List.forall_mem_cons.mpr ⟨mwL_317, List.forall_mem_cons.mpr ⟨mwL_318, List.forall_mem_cons.mpr ⟨mwL_319, List.forall_mem_cons.mpr ⟨mwL_320, List.forall_mem_cons.mpr ⟨mwL_321, List.forall_mem_cons.mpr ⟨mwL_322, List.forall_mem_cons.mpr ⟨mwL_323, List.forall_mem_cons.mpr ⟨mwL_324, List.forall_mem_cons.mpr ⟨mwL_325, fun _ h => absurd h List.not_mem_nil⟩⟩⟩⟩⟩⟩⟩⟩⟩⟩⟩⟩⟩⟩⟩⟩⟩⟩⟩⟩⟩⟩⟩⟩)
theorem bL_wsX12_readSpans_r3 : ∀ w ∈ wsX12_readSpans_r3, w ∈ wsL_law := (List.forall_mem_cons.mpr ⟨mwL_326, List.forall_mem_cons.mpr ⟨mwL_327, List.forall_mem_cons.mpr ⟨mwL_328, List.forall_mem_cons.mpr ⟨mwL_329, List.forall_mem_cons.mpr ⟨mwL_330, List.forall_mem_cons.mpr ⟨mwL_331, List.forall_mem_cons.mpr ⟨mwL_332, List.forall_mem_cons.mpr ⟨mwL_333, List.forall_mem_cons.mpr ⟨mwL_334, List.forall_mem_cons.mpr ⟨mwL_335, List.forall_mem_cons.mpr ⟨mwL_336, List.forall_mem_cons.mpr ⟨mwL_337, List.forall_mem_cons.mpr ⟨mwL_338, List.forall_mem_cons.mpr ⟨mwL_339, List.forall_mem_cons.mpr ⟨mwL_340, List.forall_mem_cons.mpr ⟨mwL_341, List.forall_mem_cons.mpr ⟨mwL_342, List.forall_mem_cons.mpr ⟨mwL_343, List.forall_mem_cons.mpr ⟨mwL_344, List.forall_mem_cons.mpr ⟨mwL_345, List.forall_mem_cons.mpr ⟨mwL_346, List.forall_mem_cons.mpr ⟨mwL_347, List.forall_mem_cons.mpr ⟨mwL_348, List.forall_mem_cons.mpr ⟨mwL_349, fun _ h => absurd h List.not_mem_nil⟩⟩⟩⟩⟩⟩⟩⟩⟩⟩⟩⟩⟩⟩⟩⟩⟩⟩⟩⟩⟩⟩⟩⟩)
theorem bL_wsX12_readSpans_r4 : ∀ w ∈ wsX12_readSpans_r4, w ∈ wsL_law := (List.forall_mem_cons.mpr ⟨mwL_350, List.forall_mem_cons.mpr ⟨mwL_351, List.forall_mem_cons.mpr ⟨mwL_352, List.forall_mem_cons.mpr ⟨mwL_353, List.forall_mem_cons.mpr ⟨mwL_354, List.forall_mem_cons.mpr ⟨mwL_355, List.forall_mem_cons.mpr ⟨mwL_356, List.forall_mem_cons.mpr ⟨mwL_357, List.forall_mem_cons.mpr ⟨mwL_358, List.forall_mem_cons.mpr ⟨mwL_359, List.forall_mem_cons.mpr ⟨mwL_360, fun _ h => absurd h List.not_mem_nil⟩⟩⟩⟩⟩⟩⟩⟩⟩⟩⟩)
set_option maxRecDepth 20000 in
theorem ggL_law_X12_readSpans : GoodIn wsL_law wsX12_readSpans := goodIn_sub (List.forall_mem_cons.mpr ⟨mwL_410, List.forall_mem_append.mpr ⟨List.forall_mem_append.mpr ⟨bL_wsX12_readSpans_r1, List.forall_mem_append.mpr ⟨bL_wsX12_readSpans_r2, List.forall_mem_append.mpr ⟨bL_wsX12_readSpans_r3, bL_wsX12_readSpans_r4⟩⟩⟩, inlX12⟩⟩) (by decide +kernel)
theorem gL_law_X12_readSpans : GoodIn wsL_law (wsV RL 22 RX12 yX12_readSpans wsX12_readSpans) := goodIn_app (goodIn_sub (List.forall_mem_cons.mpr ⟨mwL_407, List.forall_mem_cons.mpr ⟨mwL_408, List.forall_mem_cons.mpr ⟨mwL_409, List.forall_mem_cons.mpr ⟨mwL_5, fun _ h => absurd h List.not_mem_nil⟩⟩⟩⟩) (by decide +kernel)) ggL_law_X12_readSpans
theorem bL_wsX11_remove_r1 : ∀ w ∈ wsX11_remove_r1, w ∈ wsL_law := (List.forall_mem_cons.mpr ⟨mwL_15, List.forall_mem_cons.mpr ⟨mwL_141, List.forall_mem_cons.mpr ⟨mwL_142, List.forall_mem_cons.mpr ⟨mwL_19, List.forall_mem_cons.mpr ⟨mwL_442, List.forall_mem_cons.mpr ⟨mwL_443, List.forall_mem_cons.mpr ⟨mwL_444, List.forall_mem_cons.mpr ⟨mwL_50, List.forall_mem_cons.mpr ⟨mwL_445, List.forall_mem_cons.mpr ⟨mwL_165, List.forall_mem_cons.mpr ⟨mwL_446, List.forall_mem_cons.mpr ⟨mwL_209, List.forall_mem_cons.mpr ⟨mwL_210, List.forall_mem_cons.mpr ⟨mwL_211, List.forall_mem_cons.mpr ⟨mwL_166, List.forall_mem_cons.mpr ⟨mwL_212, List.forall_mem_cons.mpr ⟨mwL_2, List.forall_mem_cons.mpr ⟨mwL_213, List.forall_mem_cons.mpr ⟨mwL_147, List.forall_mem_cons.mpr ⟨mwL_148, List.forall_mem_cons.mpr ⟨mwL_149, List.forall_mem_cons.mpr ⟨mwL_18, List.forall_mem_cons.mpr ⟨mwL_150, List.forall_mem_cons.mpr ⟨mwL_151, fun _ h => absurd h List.not_mem_nil⟩⟩⟩⟩⟩⟩⟩⟩⟩⟩⟩⟩⟩⟩⟩⟩⟩⟩⟩⟩⟩⟩⟩⟩)
theorem bL_wsX11_remove_r2 : ∀ w ∈ wsX11_remove_r2, w ∈ wsL_law := (List.forall_mem_cons.mpr ⟨mwL_113, List.forall_mem_cons.mpr ⟨mwL_152, List.forall_mem_cons.mpr ⟨mwL_153, List.forall_mem_cons.mpr ⟨mwL_154, List.forall_mem_cons.mpr ⟨mwL_155, List.forall_mem_cons.mpr ⟨mwL_156, List.forall_mem_cons.mpr ⟨mwL_157, List.forall_mem_cons.mpr ⟨mwL_158, List.forall_mem_cons.mpr ⟨mwL_22, List.forall_mem_cons.mpr ⟨mwL_159, List.forall_mem_cons.mpr ⟨mwL_160, List.forall_mem_cons.mpr ⟨mwL_51, List.forall_mem_cons.mpr ⟨mwL_55, List.forall_mem_cons.mpr ⟨mwL_59, List.forall_mem_cons.mpr ⟨mwL_161, List.forall_mem_cons.mpr ⟨mwL_162, List.forall_mem_cons.mpr ⟨mwL_163, List.forall_mem_cons.mpr ⟨mwL_164, List.forall_mem_cons.mpr ⟨mwL_64, List.forall_mem_cons.mpr ⟨mwL_167, List.forall_mem_cons.mpr ⟨mwL_168, List.forall_mem_cons.mpr ⟨mwL_169, List.forall_mem_cons.mpr ⟨mwL_170, List.forall_mem_cons.mpr ⟨mwL_65, fun _ h => absurd h List.not_mem_nil⟩⟩⟩⟩⟩⟩⟩⟩⟩⟩⟩⟩⟩⟩⟩⟩⟩⟩⟩⟩⟩⟩⟩⟩)
theorem bL_wsX11_remove_r3 : ∀ w ∈ wsX11_remove_r3, w ∈ wsL_law := (List.forall_mem_cons.mpr ⟨mwL_66, List.forall_mem_cons.mpr ⟨mwL_67, List.forall_mem_cons.mpr ⟨mwL_68, List.forall_mem_cons.mpr ⟨mwL_69, List.forall_mem_cons.mpr ⟨mwL_171, List.forall_mem_cons.mpr ⟨mwL_172, List.forall_mem_cons.mpr ⟨mwL_173, List.forall_mem_cons.mpr ⟨mwL_54, List.forall_mem_cons.mpr ⟨mwL_174, List.forall_mem_cons.mpr ⟨mwL_175, List.forall_mem_cons.mpr ⟨mwL_73, List.forall_mem_cons.mpr ⟨mwL_176, List.forall_mem_cons.mpr ⟨mwL_74, List.forall_mem_cons.mpr ⟨mwL_76, List.forall_mem_cons.mpr ⟨mwL_77, List.forall_mem_cons.mpr ⟨mwL_78, List.forall_mem_cons.mpr ⟨mwL_79, List.forall_mem_cons.mpr ⟨mwL_80, List.forall_mem_cons.mpr ⟨mwL_82, List.forall_mem_cons.mpr ⟨mwL_177, List.forall_mem_cons.mpr ⟨mwL_178, List.forall_mem_cons.mpr ⟨mwL_179, List.forall_mem_cons.mpr ⟨mwL_58, List.forall_mem_cons.mpr ⟨mwL_180, fun _ h => absurd h List.not_mem_nil⟩⟩⟩⟩⟩⟩⟩⟩⟩⟩⟩⟩⟩⟩⟩⟩⟩⟩⟩⟩⟩⟩⟩⟩)
theorem bL_wsX11_remove_r4 : ∀ w ∈ wsX11_remove_r4, w ∈ wsL_law := (List.forall_mem_cons.mpr ⟨mwL_181, List.forall_mem_cons.mpr ⟨mwL_182, List.forall_mem_cons.mpr ⟨mwL_86, List.forall_mem_cons.mpr ⟨mwL_183, List.forall_mem_cons.mpr ⟨mwL_87, List.forall_mem_cons.mpr ⟨mwL_88, List.forall_mem_cons.mpr ⟨mwL_89, List.forall_mem_cons.mpr ⟨mwL_447, List.forall_mem_cons.mpr ⟨mwL_448, List.forall_mem_cons.mpr ⟨mwL_449, List.forall_mem_cons.mpr ⟨mwL_14, List.forall_mem_cons.mpr ⟨mwL_450, List.forall_mem_cons.mpr ⟨mwL_36, List.forall_mem_cons.mpr ⟨mwL_188, List.forall_mem_cons.mpr ⟨mwL_451, List.forall_mem_cons.mpr ⟨mwL_452, List.forall_mem_cons.mpr ⟨mwL_453, List.forall_mem_cons.mpr ⟨mwL_454, List.forall_mem_cons.mpr ⟨mwL_455, List.forall_mem_cons.mpr ⟨mwL_193, List.forall_mem_cons.mpr ⟨mwL_194, List.forall_mem_cons.mpr ⟨mwL_195, List.forall_mem_cons.mpr ⟨mwL_196, List.forall_mem_cons.mpr ⟨mwL_40, fun _ h => absurd h List.not_mem_nil⟩⟩⟩⟩⟩⟩⟩⟩⟩⟩⟩⟩⟩⟩⟩⟩⟩⟩⟩⟩⟩⟩⟩⟩)
theorem bL_wsX11_remove_r5 : ∀ w ∈ wsX11_remove_r5, w ∈ wsL_law := (List.forall_mem_cons.mpr ⟨mwL_44, List.forall_mem_cons.mpr ⟨mwL_197, List.forall_mem_cons.mpr ⟨mwL_198, List.forall_mem_cons.mpr ⟨mwL_199, List.forall_mem_cons.mpr ⟨mwL_39, List.forall_mem_cons.mpr ⟨mwL_200, List.forall_mem_cons.mpr ⟨mwL_93, List.forall_mem_cons.mpr ⟨mwL_201, List.forall_mem_cons.mpr ⟨mwL_202, List.forall_mem_cons.mpr ⟨mwL_203, List.forall_mem_cons.mpr ⟨mwL_204, List.forall_mem_cons.mpr ⟨mwL_205, List.forall_mem_cons.mpr ⟨mwL_206, List.forall_mem_cons.mpr ⟨mwL_207, List.forall_mem_cons.mpr ⟨mwL_208, List.forall_mem_cons.mpr ⟨mwL_214, List.forall_mem_cons.mpr ⟨mwL_215, List.forall_mem_cons.mpr ⟨mwL_216, List.forall_mem_cons.mpr ⟨mwL_217, List.forall_mem_cons.mpr ⟨mwL_145, List.forall_mem_cons.mpr ⟨mwL_146, List.forall_mem_cons.mpr ⟨mwL_218, List.forall_mem_cons.mpr ⟨mwL_219, List.forall_mem_cons.mpr ⟨mwL_220, fun _ h => absurd h List.not_mem_nil⟩⟩⟩⟩⟩⟩⟩⟩⟩⟩⟩⟩⟩⟩⟩⟩⟩⟩⟩⟩⟩⟩⟩⟩)
theorem bL_wsX11_remove_r6 : ∀ w ∈ wsX11_remove_r6, w ∈ wsL_law := (List.forall_mem_cons.mpr ⟨mwL_43, List.forall_mem_cons.mpr ⟨mwL_221, List.forall_mem_cons.mpr ⟨mwL_99, List.forall_mem_cons.mpr ⟨mwL_100, List.forall_mem_cons.mpr ⟨mwL_222, List.forall_mem_cons.mpr ⟨mwL_223, List.forall_mem_cons.mpr ⟨mwL_224, List.forall_mem_cons.mpr ⟨mwL_225, List.forall_mem_cons.mpr ⟨mwL_226, List.forall_mem_cons.mpr ⟨mwL_227, List.forall_mem_cons.mpr ⟨mwL_228, List.forall_mem_cons.mpr ⟨mwL_229, List.forall_mem_cons.mpr ⟨mwL_230, List.forall_mem_cons.mpr ⟨mwL_231, List.forall_mem_cons.mpr ⟨mwL_232, List.forall_mem_cons.mpr ⟨mwL_104, List.forall_mem_cons.mpr ⟨mwL_233, List.forall_mem_cons.mpr ⟨mwL_97, List.forall_mem_cons.mpr ⟨mwL_98, List.forall_mem_cons.mpr ⟨mwL_234, List.forall_mem_cons.mpr ⟨mwL_235, List.forall_mem_cons.mpr ⟨mwL_236, List.forall_mem_cons.mpr ⟨mwL_237, List.forall_mem_cons.mpr ⟨mwL_103, fun _ h => absurd h List.not_mem_nil⟩⟩⟩⟩⟩⟩⟩⟩⟩⟩⟩⟩⟩⟩⟩⟩⟩⟩⟩⟩⟩⟩⟩⟩)
theorem bL_wsX11_remove_r7 : ∀ w ∈ wsX11_remove_r7, w ∈ wsL_law := (List.forall_mem_cons.mpr ⟨mwL_238, List.forall_mem_cons.mpr ⟨mwL_239, List.forall_mem_cons.mpr ⟨mwL_240, List.forall_mem_cons.mpr ⟨mwL_241, List.forall_mem_cons.mpr ⟨mwL_242, List.forall_mem_cons.mpr ⟨mwL_243, List.forall_mem_cons.mpr ⟨mwL_244, List.forall_mem_cons.mpr ⟨mwL_245, List.forall_mem_cons.mpr ⟨mwL_246, List.forall_mem_cons.mpr ⟨mwL_247, List.forall_mem_cons.mpr ⟨mwL_248, List.forall_mem_cons.mpr ⟨mwL_249, List.forall_mem_cons.mpr ⟨mwL_250, List.forall_mem_cons.mpr ⟨mwL_251, List.forall_mem_cons.mpr ⟨mwL_252, List.forall_mem_cons.mpr ⟨mwL_253, List.forall_mem_cons.mpr ⟨mwL_254, List.forall_mem_cons.mpr ⟨mwL_255, List.forall_mem_cons.mpr ⟨mwL_256, List.forall_mem_cons.mpr ⟨mwL_257, List.forall_mem_cons.mpr ⟨mwL_258, List.forall_mem_cons.mpr ⟨mwL_259, List.forall_mem_cons.mpr ⟨mwL_260, List.forall_mem_cons.mpr ⟨mwL_261, fun _ h => absurd h List.not_mem_nil⟩⟩⟩⟩⟩⟩⟩⟩⟩⟩⟩⟩⟩⟩⟩⟩⟩⟩⟩⟩⟩⟩⟩⟩)
theorem bL_wsX11_remove_r8 : ∀ w ∈ wsX11_remove_r8, w ∈ wsL_law := (List.forall_mem_cons.mpr ⟨mwL_262, List.forall_mem_cons.mpr ⟨mwL_263, List.forall_mem_cons.mpr ⟨mwL_264, List.forall_mem_cons.mpr ⟨mwL_265, List.forall_mem_cons.mpr ⟨mwL_266, List.forall_mem_cons.mpr ⟨mwL_267, List.forall_mem_cons.mpr ⟨mwL_268, List.forall_mem_cons.mpr ⟨mwL_269, List.forall_mem_cons.mpr ⟨mwL_270, List.forall_mem_cons.mpr ⟨mwL_271, List.forall_mem_cons.mpr ⟨mwL_272, List.forall_mem_cons.mpr ⟨mwL_273, List.forall_mem_cons.mpr ⟨mwL_274, List.forall_mem_cons.mpr ⟨mwL_275, List.forall_mem_cons.mpr ⟨mwL_276, List.forall_mem_cons.mpr ⟨mwL_277, List.forall_mem_cons.mpr ⟨mwL_278, List.forall_mem_cons.mpr ⟨mwL_279, List.forall_mem_cons.mpr ⟨mwL_280, List.forall_mem_cons.mpr ⟨mwL_281, List.forall_mem_cons.mpr ⟨mwL_282, List.forall_mem_cons.mpr ⟨mwL_283, List.forall_mem_cons.mpr ⟨mwL_284, List.forall_mem_cons.mpr ⟨mwL_285, fun _ h => absurd h List.not_mem_nil⟩⟩⟩⟩⟩⟩⟩⟩⟩⟩⟩⟩⟩⟩⟩⟩⟩⟩⟩⟩⟩⟩⟩⟩)
theorem bL_wsX11_remove_r9 : ∀ w ∈ wsX11_remove_r9, w ∈ wsL_law := (List.forall_mem_cons.mpr ⟨mwL_286, List.forall_mem_cons.mpr ⟨mwL_287, List.forall_mem_cons.mpr ⟨mwL_288, List.forall_mem_cons.mpr ⟨mwL_289, List.forall_mem_cons.mpr ⟨mwL_290, List.forall_mem_cons.mpr ⟨mwL_291, List.forall_mem_cons.mpr ⟨mwL_292, List.forall_mem_cons.mpr ⟨mwL_293, List.forall_mem_cons.mpr ⟨mwL_294, List.forall_mem_cons.mpr ⟨mwL_295, List.forall_mem_cons.mpr ⟨mwL_296, List.forall_mem_cons.mpr ⟨mwL_297, List.forall_mem_cons.mpr ⟨mwL_298, List.forall_mem_cons.mpr ⟨mwL_299, List.forall_mem_cons.mpr ⟨mwL_300, List.forall_mem_cons.mpr ⟨mwL_301, List.forall_mem_cons.mpr ⟨mwL_302, List.forall_mem_cons.mpr ⟨mwL_303, List.forall_mem_cons.mpr ⟨mwL_304, fun _ h => absurd h List.not_mem_nil⟩⟩⟩⟩⟩⟩⟩⟩⟩⟩⟩⟩⟩⟩⟩⟩⟩⟩⟩)
set_option maxRecDepth 20000 in
theorem ggL_law_X11_remove : GoodIn wsL_law wsX11_remove := goodIn_sub (List.forall_mem_cons.mpr ⟨mwL_441, List.forall_mem_append.mpr ⟨List.forall_mem_append.mpr ⟨List.forall_mem_append.mpr ⟨List.forall_mem_append.mpr ⟨List.forall_mem_append.mpr ⟨List.forall_mem_append.mpr ⟨List.forall_mem_append.mpr ⟨List.forall_mem_append.mpr ⟨List.forall_mem_append.mpr ⟨List.forall_mem_append.mpr ⟨List.forall_mem_append.mpr ⟨bL_wsX11_remove_r1, List.forall_mem_append.mpr ⟨bL_wsX11_remove_r2, List.forall_mem_append.mpr ⟨bL_wsX11_remove_r3, List.forall_mem_append.mpr ⟨bL_wsX11_remove_r4, List.forall_mem_append.mpr ⟨bL_wsX11_remove_r5, List.forall_mem_append.mpr ⟨bL_wsX11_remove_r6, List.forall_mem_append.mpr ⟨bL_wsX11_remove_r7, List.forall_mem_append.mpr ⟨bL_wsX11_remove_r8, bL_wsX11_remove_r9⟩⟩⟩⟩⟩⟩⟩⟩, inlX11⟩, inlX2⟩, inlX6⟩, inlX5⟩, inlX1⟩, inlX9⟩, inlX3⟩, inlX0⟩, inlX8⟩, inlX10⟩⟩) (by decide +kernel)
theorem gL_law_X11_remove : GoodIn wsL_law (wsV RL 23 RX11 yX11_remove wsX11_remove) := goodIn_app (goodIn_sub (List.forall_mem_cons.mpr ⟨mwL_438, List.forall_mem_cons.mpr ⟨mwL_439, List.forall_mem_cons.mpr ⟨mwL_440, List.forall_mem_cons.mpr ⟨mwL_2, fun _ h => absurd h List.not_mem_nil⟩⟩⟩⟩) (by decide +kernel)) ggL_law_X11_remove
theorem bL_wsX12_remove_r1 : ∀ w ∈ wsX12_remove_r1, w ∈ wsL_law := (List.forall_mem_cons.mpr ⟨mwL_460, List.forall_mem_cons.mpr ⟨mwL_461, List.forall_mem_cons.mpr ⟨mwL_462, List.forall_mem_cons.mpr ⟨mwL_5, List.forall_mem_cons.mpr ⟨mwL_463, List.forall_mem_cons.mpr ⟨mwL_131, List.forall_mem_cons.mpr ⟨mwL_309, List.forall_mem_cons.mpr ⟨mwL_310, List.forall_mem_cons.mpr ⟨mwL_311, List.forall_mem_cons.mpr ⟨mwL_345, List.forall_mem_cons.mpr ⟨mwL_346, List.forall_mem_cons.mpr ⟨mwL_347, List.forall_mem_cons.mpr ⟨mwL_348, List.forall_mem_cons.mpr ⟨mwL_349, List.forall_mem_cons.mpr ⟨mwL_350, List.forall_mem_cons.mpr ⟨mwL_351, List.forall_mem_cons.mpr ⟨mwL_352, List.forall_mem_cons.mpr ⟨mwL_312, List.forall_mem_cons.mpr ⟨mwL_313, List.forall_mem_cons.mpr ⟨mwL_314, List.forall_mem_cons.mpr ⟨mwL_315, List.forall_mem_cons.mpr ⟨mwL_316, List.forall_mem_cons.mpr ⟨mwL_132, List.forall_mem_cons.mpr ⟨mwL_321, fun _ h => absurd h List.not_mem_nil⟩⟩⟩⟩⟩⟩⟩⟩⟩⟩⟩⟩⟩⟩⟩⟩⟩⟩⟩⟩⟩⟩⟩⟩)
theorem bL_wsX12_remove_r2 : ∀ w ∈ wsX12_remove_r2, w ∈ wsL_law := (List.forall_mem_cons.mpr ⟨mwL_322, List.forall_mem_cons.mpr ⟨mwL_323, List.forall_mem_cons.mpr ⟨mwL_324, List.forall_mem_cons.mpr ⟨mwL_325, List.forall_mem_cons.mpr ⟨mwL_326, List.forall_mem_cons.mpr ⟨mwL_327, List.forall_mem_cons.mpr ⟨mwL_328, List.forall_mem_cons.mpr ⟨mwL_329, List.forall_mem_cons.mpr ⟨mwL_330, List.forall_mem_cons.mpr ⟨mwL_331, List.forall_mem_cons.mpr ⟨mwL_332, List.forall_mem_cons.mpr ⟨mwL_333, List.forall_mem_cons.mpr ⟨mwL_334, List.forall_mem_cons.mpr ⟨mwL_335, List.forall_mem_cons.mpr ⟨mwL_336, List.forall_mem_cons.mpr ⟨mwL_337, List.forall_mem_cons.mpr ⟨mwL_338, List.forall_mem_cons.mpr ⟨mwL_339, List.forall_mem_cons.mpr ⟨mwL_340, List.forall_mem_cons.mpr ⟨mwL_341, List.forall_mem_cons.mpr ⟨mwL_342, List.forall_mem_cons.mpr ⟨mwL_343, List.forall_mem_cons.mpr ⟨mwL_344, List.forall_mem_cons.mpr ⟨mwL_353, fun _ h => absurd h List.not_mem_nil⟩⟩⟩⟩⟩⟩⟩⟩⟩⟩⟩⟩⟩⟩⟩⟩⟩⟩⟩⟩⟩⟩⟩⟩)
theorem bL_wsX12_remove_r3 : ∀ w ∈ wsX12_remove_r3, w ∈ wsL_law := (List.forall_mem_cons.mpr ⟨mwL_354, List.forall_mem_cons.mpr ⟨mwL_355, List.forall_mem_cons.mpr ⟨mwL_356, List.forall_mem_cons.mpr ⟨mwL_357, List.forall_mem_cons.mpr ⟨mwL_358, List.forall_mem_cons.mpr ⟨mwL_359, List.forall_mem_cons.mpr ⟨mwL_360, fun _ h => absurd h List.not_mem_nil⟩⟩⟩⟩⟩⟩⟩)
set_option maxRecDepth 20000 in
theorem ggL_law_X12_remove : GoodIn wsL_law wsX12_remove := goodIn_sub (List.forall_mem_cons.mpr ⟨mwL_459, List.forall_mem_append.mpr ⟨List.forall_mem_append.mpr ⟨bL_wsX12_remove_r1, List.forall_mem_append.mpr ⟨bL_wsX12_remove_r2, bL_wsX12_remove_r3⟩⟩, inlX12⟩⟩) (by decide +kernel)
theorem gL_law_X12_remove : GoodIn wsL_law (wsV RL 27 RX12 yX12_remove wsX12_remove) := goodIn_app (goodIn_sub (List.forall_mem_cons.mpr ⟨mwL_456, List.forall_mem_cons.mpr ⟨mwL_457, List.forall_mem_cons.mpr ⟨mwL_458, List.forall_mem_cons.mpr ⟨mwL_5, fun _ h => absurd h List.not_mem_nil⟩⟩⟩⟩) (by decide +kernel)) ggL_law_X12_remove
theorem bL_wsX11_move_r1 : ∀ w ∈ wsX11_move_r1, w ∈ wsL_law := (List.forall_mem_cons.mpr ⟨mwL_15, List.forall_mem_cons.mpr ⟨mwL_141, List.forall_mem_cons.mpr ⟨mwL_142, List.forall_mem_cons.mpr ⟨mwL_468, List.forall_mem_cons.mpr ⟨mwL_469, List.forall_mem_cons.mpr ⟨mwL_19, List.forall_mem_cons.mpr ⟨mwL_442, List.forall_mem_cons.mpr ⟨mwL_443, List.forall_mem_cons.mpr ⟨mwL_444, List.forall_mem_cons.mpr ⟨mwL_50, List.forall_mem_cons.mpr ⟨mwL_445, List.forall_mem_cons.mpr ⟨mwL_165, List.forall_mem_cons.mpr ⟨mwL_446, List.forall_mem_cons.mpr ⟨mwL_209, List.forall_mem_cons.mpr ⟨mwL_210, List.forall_mem_cons.mpr ⟨mwL_211, List.forall_mem_cons.mpr ⟨mwL_166, List.forall_mem_cons.mpr ⟨mwL_212, List.forall_mem_cons.mpr ⟨mwL_2, List.forall_mem_cons.mpr ⟨mwL_213, List.forall_mem_cons.mpr ⟨mwL_144, List.forall_mem_cons.mpr ⟨mwL_145, List.forall_mem_cons.mpr ⟨mwL_146, List.forall_mem_cons.mpr ⟨mwL_147, fun _ h => absurd h List.not_mem_nil⟩⟩⟩⟩⟩⟩⟩⟩⟩⟩⟩⟩⟩⟩⟩⟩⟩⟩⟩⟩⟩⟩⟩⟩)
theorem bL_wsX11_move_r2 : ∀ w ∈ wsX11_move_r2, w ∈ wsL_law := (List.forall_mem_cons.mpr ⟨mwL_148, List.forall_mem_cons.mpr ⟨mwL_149, List.forall_mem_cons.mpr ⟨mwL_18, List.forall_mem_cons.mpr ⟨mwL_150, List.forall_mem_cons.mpr ⟨mwL_151, List.forall_mem_cons.mpr ⟨mwL_113, List.forall_mem_cons.mpr ⟨mwL_152, List.forall_mem_cons.mpr ⟨mwL_153, List.forall_mem_cons.mpr ⟨mwL_154, List.forall_mem_cons.mpr ⟨mwL_155, List.forall_mem_cons.mpr ⟨mwL_156, List.forall_mem_cons.mpr ⟨mwL_157, List.forall_mem_cons.mpr ⟨mwL_158, List.forall_mem_cons.mpr ⟨mwL_22, List.forall_mem_cons.mpr ⟨mwL_159, List.forall_mem_cons.mpr ⟨mwL_160, List.forall_mem_cons.mpr ⟨mwL_51, List.forall_mem_cons.mpr ⟨mwL_55, List.forall_mem_cons.mpr ⟨mwL_59, List.forall_mem_cons.mpr ⟨mwL_161, List.forall_mem_cons.mpr ⟨mwL_162, List.forall_mem_cons.mpr ⟨mwL_163, List.forall_mem_cons.mpr ⟨mwL_164, List.forall_mem_cons.mpr ⟨mwL_64, fun _ h => absurd h List.not_mem_nil⟩⟩⟩⟩⟩⟩⟩⟩⟩⟩⟩⟩⟩⟩⟩⟩⟩⟩⟩⟩⟩⟩⟩⟩)
theorem bL_wsX11_move_r3 : ∀ w ∈ wsX11_move_r3, w ∈ wsL_law := (List.forall_mem_cons.mpr ⟨mwL_167, List.forall_mem_cons.mpr ⟨mwL_168, List.forall_mem_cons.mpr ⟨mwL_169, List.forall_mem_cons.mpr ⟨mwL_170, List.forall_mem_cons.mpr ⟨mwL_65, List.forall_mem_cons.mpr ⟨mwL_66, List.forall_mem_cons.mpr ⟨mwL_67, List.forall_mem_cons.mpr ⟨mwL_68, List.forall_mem_cons.mpr ⟨mwL_69, List.forall_mem_cons.mpr ⟨mwL_171, List.forall_mem_cons.mpr ⟨mwL_172, List.forall_mem_cons.mpr ⟨mwL_173, List.forall_mem_cons.mpr ⟨mwL_54, List.forall_mem_cons.mpr ⟨mwL_174, List.forall_mem_cons.mpr ⟨mwL_175, List.forall_mem_cons.mpr ⟨mwL_73, List.forall_mem_cons.mpr ⟨mwL_176, List.forall_mem_cons.mpr ⟨mwL_74, List.forall_mem_cons.mpr ⟨mwL_76, List.forall_mem_cons.mpr ⟨mwL_77, List.forall_mem_cons.mpr ⟨mwL_78, List.forall_mem_cons.mpr ⟨mwL_79, List.forall_mem_cons.mpr ⟨mwL_80, List.forall_mem_cons.mpr ⟨mwL_82, fun _ h => absurd h List.not_mem_nil⟩⟩⟩⟩⟩⟩⟩⟩⟩⟩⟩⟩⟩⟩⟩⟩⟩⟩⟩⟩⟩⟩⟩⟩)
theorem bL_wsX11_move_r4 : ∀ w ∈ wsX11_move_r4, w ∈ wsL_law := (List.forall_mem_cons.mpr ⟨mwL_177, List.forall_mem_cons.mpr ⟨mwL_178, List.forall_mem_cons.mpr ⟨mwL_179, List.forall_mem_cons.mpr ⟨mwL_58, List.forall_mem_cons.mpr ⟨mwL_180, List.forall_mem_cons.mpr ⟨mwL_181, List.forall_mem_cons.mpr ⟨mwL_182, List.forall_mem_cons.mpr ⟨mwL_86, List.forall_mem_cons.mpr ⟨mwL_183, List.forall_mem_cons.mpr ⟨mwL_87, List.forall_mem_cons.mpr ⟨mwL_88, List.forall_mem_cons.mpr ⟨mwL_89, List.forall_mem_cons.mpr ⟨mwL_470, List.forall_mem_cons.mpr ⟨mwL_471, List.forall_mem_cons.mpr ⟨mwL_472, List.forall_mem_cons.mpr ⟨mwL_14, List.forall_mem_cons.mpr ⟨mwL_473, List.forall_mem_cons.mpr ⟨mwL_36, List.forall_mem_cons.mpr ⟨mwL_188, List.forall_mem_cons.mpr ⟨mwL_474, List.forall_mem_cons.mpr ⟨mwL_475, List.forall_mem_cons.mpr ⟨mwL_476, List.forall_mem_cons.mpr ⟨mwL_477, List.forall_mem_cons.mpr ⟨mwL_193, fun _ h => absurd h List.not_mem_nil⟩⟩⟩⟩⟩⟩⟩⟩⟩⟩⟩⟩⟩⟩⟩⟩⟩⟩⟩⟩⟩⟩⟩⟩)
theorem bL_wsX11_move_r5 : ∀ w ∈ wsX11_move_r5, w ∈ wsL_law := (List.forall_mem_cons.mpr ⟨mwL_194, List.forall_mem_cons.mpr ⟨mwL_195, List.forall_mem_cons.mpr ⟨mwL_196, List.forall_mem_cons.mpr ⟨mwL_40, List.forall_mem_cons.mpr ⟨mwL_44, List.forall_mem_cons.mpr ⟨mwL_197, List.forall_mem_cons.mpr ⟨mwL_198, List.forall_mem_cons.mpr ⟨mwL_199, List.forall_mem_cons.mpr ⟨mwL_39, List.forall_mem_cons.mpr ⟨mwL_200, List.forall_mem_cons.mpr ⟨mwL_93, List.forall_mem_cons.mpr ⟨mwL_201, List.forall_mem_cons.mpr ⟨mwL_202, List.forall_mem_cons.mpr ⟨mwL_203, List.forall_mem_cons.mpr ⟨mwL_204, List.forall_mem_cons.mpr ⟨mwL_205, List.forall_mem_cons.mpr ⟨mwL_206, List.forall_mem_cons.mpr ⟨mwL_207, List.forall_mem_cons.mpr ⟨mwL_208, List.forall_mem_cons.mpr ⟨mwL_214, List.forall_mem_cons.mpr ⟨mwL_215, List.forall_mem_cons.mpr ⟨mwL_216, List.forall_mem_cons.mpr ⟨mwL_217, List.forall_mem_cons.mpr ⟨mwL_218, fun _ h => absurd h List.not_mem_nil⟩⟩⟩⟩⟩⟩⟩⟩⟩⟩⟩⟩⟩⟩⟩⟩⟩⟩⟩⟩⟩⟩⟩⟩)
theorem bL_wsX11_move_r6 : ∀ w ∈ wsX11_move_r6, w ∈ wsL_law := (List.forall_mem_cons.mpr ⟨mwL_219, List.forall_mem_cons.mpr ⟨mwL_220, List.forall_mem_cons.mpr ⟨mwL_43, List.forall_mem_cons.mpr ⟨mwL_221, List.forall_mem_cons.mpr ⟨mwL_99, List.forall_mem_cons.mpr ⟨mwL_100, List.forall_mem_cons.mpr ⟨mwL_222, List.forall_mem_cons.mpr ⟨mwL_223, List.forall_mem_cons.mpr ⟨mwL_224, List.forall_mem_cons.mpr ⟨mwL_225, List.forall_mem_cons.mpr ⟨mwL_226, List.forall_mem_cons.mpr ⟨mwL_227, List.forall_mem_cons.mpr ⟨mwL_228, List.forall_mem_cons.mpr ⟨mwL_229, List.forall_mem_cons.mpr ⟨mwL_230, List.forall_mem_cons.mpr ⟨mwL_231, List.forall_mem_cons.mpr ⟨mwL_232, List.forall_mem_cons.mpr ⟨mwL_104, List.forall_mem_cons.mpr ⟨mwL_233, List.forall_mem_cons.mpr ⟨mwL_97, List.forall_mem_cons.mpr ⟨mwL_98, List.forall_mem_cons.mpr ⟨mwL_234, List.forall_mem_cons.mpr ⟨mwL_235, List.forall_mem_cons.mpr ⟨mwL_236, fun _ h => absurd h List.not_mem_nil⟩⟩⟩⟩⟩⟩⟩⟩⟩⟩⟩⟩⟩⟩⟩⟩⟩⟩⟩⟩⟩⟩⟩⟩)
theorem bL_wsX11_move_r7 : ∀ w ∈ wsX11_move_r7, w ∈ wsL_law := (List.forall_mem_cons.mpr ⟨mwL_237, List.forall_mem_cons.mpr ⟨mwL_103, List.forall_mem_cons.mpr ⟨mwL_238, List.forall_mem_cons.mpr ⟨mwL_239, List.forall_mem_cons.mpr ⟨mwL_240, List.forall_mem_cons.mpr ⟨mwL_241, List.forall_mem_cons.mpr ⟨mwL_242, List.forall_mem_cons.mpr ⟨mwL_243, List.forall_mem_cons.mpr ⟨mwL_244, List.forall_mem_cons.mpr ⟨mwL_245, List.forall_mem_cons.mpr ⟨mwL_246, List.forall_mem_cons.mpr ⟨mwL_247, List.forall_mem_cons.mpr ⟨mwL_248, List.forall_mem_cons.mpr ⟨mwL_249, List.forall_mem_cons.mpr ⟨mwL_250, List.forall_mem_cons.mpr ⟨mwL_251, List.forall_mem_cons.mpr ⟨mwL_252, List.forall_mem_cons.mpr ⟨mwL_253, List.forall_mem_cons.mpr ⟨mwL_254, List.forall_mem_cons.mpr ⟨mwL_255, List.forall_mem_cons.mpr ⟨mwL_256, List.forall_mem_cons.mpr ⟨mwL_257, List.forall_mem_cons.mpr ⟨mwL_258, List.forall_mem_cons.mpr ⟨mwL_259, fun _ h => absurd h List.not_mem_nil⟩⟩⟩⟩⟩⟩⟩⟩⟩⟩⟩⟩⟩⟩⟩⟩⟩⟩⟩⟩⟩⟩⟩⟩)
theorem bL_wsX11_move_r8 : ∀ w ∈ wsX11_move_r8, w ∈ wsL_law := (List.forall_mem_cons.mpr ⟨mwL_260, List.forall_mem_cons.mpr ⟨mwL_261, List.forall_mem_cons.mpr ⟨mwL_262, List.forall_mem_cons.mpr ⟨mwL_263, List.forall_mem_cons.mpr ⟨mwL_264, List.forall_mem_cons.mpr ⟨mwL_265, List.forall_mem_cons.mpr ⟨mwL_266, List.forall_mem_cons.mpr ⟨mwL_267, List.forall_mem_cons.mpr ⟨mwL_268, List.forall_mem_cons.mpr ⟨mwL_269, List.forall_mem_cons.mpr ⟨mwL_270, List.forall_mem_cons.mpr ⟨mwL_271, List.forall_mem_cons.mpr ⟨mwL_272, List.forall_mem_cons.mpr ⟨mwL_273, List.forall_mem_cons.mpr ⟨mwL_274, List.forall_mem_cons.mpr ⟨mwL_275, List.forall_mem_cons.mpr ⟨mwL_276, List.forall_mem_cons.mpr ⟨mwL_277, List.forall_mem_cons.mpr ⟨mwL_278, List.forall_mem_cons.mpr ⟨mwL_279, List.forall_mem_cons.mpr ⟨mwL_280, List.forall_mem_cons.mpr ⟨mwL_281, List.forall_mem_cons.mpr ⟨mwL_282, List.forall_mem_cons.mpr ⟨mwL_283, fun _ h => absurd h List.not_mem_nil⟩⟩⟩⟩⟩⟩⟩⟩⟩⟩⟩⟩⟩⟩⟩⟩⟩⟩⟩⟩⟩⟩⟩⟩)
theorem bL_wsX11_move_r9 : ∀ w ∈ wsX11_move_r9, w ∈ wsL_law := (List.forall_mem_cons.mpr ⟨mwL_284, List.forall_mem_cons.mpr ⟨mwL_285, List.forall_mem_cons.mpr ⟨mwL_286, List.forall_mem_cons.mpr ⟨mwL_287, List.forall_mem_cons.mpr ⟨mwL_288, List.forall_mem_cons.mpr ⟨mwL_289, List.forall_mem_cons.mpr ⟨mwL_290, List.forall_mem_cons.mpr ⟨mwL_291, List.forall_mem_cons.mpr ⟨mwL_292, List.forall_mem_cons.mpr ⟨mwL_293, List.forall_mem_cons.mpr ⟨mwL_294, List.forall_mem_cons.mpr ⟨mwL_295, List.forall_mem_cons.mpr ⟨mwL_296, List.forall_mem_cons.mpr ⟨mwL_297, List.forall_mem_cons.mpr ⟨mwL_298, List.forall_mem_cons.mpr ⟨mwL_299, List.forall_mem_cons.mpr ⟨mwL_300, List.forall_mem_cons.mpr ⟨mwL_301, List.forall_mem_cons.mpr ⟨mwL_302, List.forall_mem_cons.mpr ⟨mwL_303, List.forall_mem_cons.mpr ⟨mwL_304, fun _ h => absurd h List.not_mem_nil⟩⟩⟩⟩⟩⟩⟩⟩⟩⟩⟩⟩⟩⟩⟩⟩⟩⟩⟩⟩⟩)
set_option maxRecDepth 20000 in
theorem ggL_law_X11_move : GoodIn wsL_law wsX11_move := goodIn_sub (List.forall_mem_cons.mpr ⟨mwL_467, List.forall_mem_append.mpr ⟨List.forall_mem_append.mpr ⟨List.forall_mem_append.mpr ⟨List.forall_mem_append.mpr ⟨List.forall_mem_append.mpr ⟨List.forall_mem_append.mpr ⟨List.forall_mem_append.mpr ⟨List.forall_mem_append.mpr ⟨List.forall_mem_append.mpr ⟨List.forall_mem_append.mpr ⟨List.forall_mem_append.mpr ⟨bL_wsX11_move_r1, List.forall_mem_append.mpr ⟨bL_wsX11_move_r2, List.forall_mem_append.mpr ⟨bL_wsX11_move_r3, List.forall_mem_append.mpr ⟨bL_wsX11_move_r4, List.forall_mem_append.mpr ⟨bL_wsX11_move_r5, List.forall_mem_append.mpr ⟨bL_wsX11_move_r6, List.forall_mem_append.mpr ⟨bL_wsX11_move_r7, List.forall_mem_append.mpr ⟨bL_wsX11_move_r8, bL_wsX11_move_r9⟩⟩⟩⟩⟩⟩⟩⟩, inlX11⟩, inlX2⟩, inlX6⟩, inlX5⟩, inlX1⟩, inlX9⟩, inlX3⟩, inlX0⟩, inlX8⟩, inlX10⟩⟩) (by decide +kernel)
theorem gL_law_X11_move : GoodIn wsL_law (wsV RL 28 RX11 yX11_move wsX11_move) := goodIn_app (goodIn_sub (List.forall_mem_cons.mpr ⟨mwL_464, List.forall_mem_cons.mpr ⟨mwL_465, List.forall_mem_cons.mpr ⟨mwL_466, List.forall_mem_cons.mpr ⟨mwL_2, fun _ h => absurd h List.not_mem_nil⟩⟩⟩⟩) (by decide +kernel)) ggL_law_X11_move
theorem bL_wsX12_move_r1 : ∀ w ∈ wsX12_move_r1, w ∈ wsL_law := (List.forall_mem_cons.mpr ⟨mwL_460, List.forall_mem_cons.mpr ⟨mwL_461, List.forall_mem_cons.mpr ⟨mwL_462, List.forall_mem_cons.mpr ⟨mwL_5, List.forall_mem_cons.mpr ⟨mwL_463, List.forall_mem_cons.mpr ⟨mwL_131, List.forall_mem_cons.mpr ⟨mwL_309, List.forall_mem_cons.mpr ⟨mwL_310, List.forall_mem_cons.mpr ⟨mwL_311, List.forall_mem_cons.mpr ⟨mwL_345, List.forall_mem_cons.mpr ⟨mwL_346, List.forall_mem_cons.mpr ⟨mwL_347, List.forall_mem_cons.mpr ⟨mwL_348, List.forall_mem_cons.mpr ⟨mwL_349, List.forall_mem_cons.mpr ⟨mwL_350, List.forall_mem_cons.mpr ⟨mwL_351, List.forall_mem_cons.mpr ⟨mwL_352, List.forall_mem_cons.mpr ⟨mwL_312, List.forall_mem_cons.mpr ⟨mwL_313, List.forall_mem_cons.mpr ⟨mwL_314, List.forall_mem_cons.mpr ⟨mwL_315, List.forall_mem_cons.mpr ⟨mwL_316, List.forall_mem_cons.mpr ⟨mwL_132, List.forall_mem_cons.mpr ⟨mwL_321, fun _ h => absurd h List.not_mem_nil⟩⟩⟩⟩⟩⟩⟩⟩⟩⟩⟩⟩⟩⟩⟩⟩⟩⟩⟩⟩⟩⟩⟩⟩)
theorem bL_wsX12_move_r2 : ∀ w ∈ wsX12_move_r2, w ∈ wsL_law := (List.forall_mem_cons.mpr ⟨mwL_322, List.forall_mem_cons.mpr ⟨mwL_323, List.forall_mem_cons.mpr ⟨mwL_324, List.forall_mem_cons.mpr ⟨mwL_325, List.forall_mem_cons.mpr ⟨mwL_326, List.forall_mem_cons.mpr ⟨mwL_327, List.forall_mem_cons.mpr ⟨mwL_328, List.forall_mem_cons.mpr ⟨mwL_329, List.forall_mem_cons.mpr ⟨mwL_330, List.forall_mem_cons.mpr ⟨mwL_331, List.forall_mem_cons.mpr ⟨mwL_332, List.forall_mem_cons.mpr ⟨mwL_333, List.forall_mem_cons.mpr ⟨mwL_334, List.forall_mem_cons.mpr ⟨mwL_335, List.forall_mem_cons.mpr ⟨mwL_336, List.forall_mem_cons.mpr ⟨mwL_337, List.forall_mem_cons.mpr ⟨mwL_338, List.forall_mem_cons.mpr ⟨mwL_339, List.forall_mem_cons.mpr ⟨mwL_340, List.forall_mem_cons.mpr ⟨mwL_341, List.forall_mem_cons.mpr ⟨mwL_342, List.forall_mem_cons.mpr ⟨mwL_343, List.forall_mem_cons.mpr ⟨mwL_344, List.forall_mem_cons.mpr ⟨mwL_353, fun _ h => absurd h List.not_mem_nil⟩⟩⟩⟩⟩⟩⟩⟩⟩⟩⟩⟩⟩⟩⟩⟩⟩⟩⟩⟩⟩⟩⟩⟩)
theorem bL_wsX12_move_r3 : ∀ w ∈ wsX12_move_r3, w ∈ wsL_law := (List.forall_mem_cons.mpr ⟨mwL_354, List.forall_mem_cons.mpr ⟨mwL_355, List.forall_mem_cons.mpr ⟨mwL_356, List.forall_mem_cons.mpr ⟨mwL_357, List.forall_mem_cons.mpr ⟨mwL_358, List.forall_mem_cons.mpr ⟨mwL_359, List.forall_mem_cons.mpr ⟨mwL_360, fun _ h => absurd h List.not_mem_nil⟩⟩⟩⟩⟩⟩⟩)
set_option maxRecDepth 20000 in
theorem ggL_law_X12_move : GoodIn wsL_law wsX12_move := goodIn_sub (List.forall_mem_cons.mpr ⟨mwL_481, List.forall_mem_append.mpr ⟨List.forall_mem_append.mpr ⟨bL_wsX12_move_r1, List.forall_mem_append.mpr ⟨bL_wsX12_move_r2, bL_wsX12_move_r3⟩⟩, inlX12⟩⟩) (by decide +kernel)
theorem gL_law_X12_move : GoodIn wsL_law (wsV RL 31 RX12 yX12_move wsX12_move) := goodIn_app (goodIn_sub (List.forall_mem_cons.mpr ⟨mwL_478, List.forall_mem_cons.mpr ⟨mwL_479, List.forall_mem_cons.mpr ⟨mwL_480, List.forall_mem_cons.mpr ⟨mwL_5, fun _ h => absurd h List.not_mem_nil⟩⟩⟩⟩) (by decide +kernel)) ggL_law_X12_move
theorem bL_wsX11_come_r1 : ∀ w ∈ wsX11_come_r1, w ∈ wsL_law := (List.forall_mem_cons.mpr ⟨mwL_15, List.forall_mem_cons.mpr ⟨mwL_141, List.forall_mem_cons.mpr ⟨mwL_486, List.forall_mem_cons.mpr ⟨mwL_487, List.forall_mem_cons.mpr ⟨mwL_19, List.forall_mem_cons.mpr ⟨mwL_144, List.forall_mem_cons.mpr ⟨mwL_145, List.forall_mem_cons.mpr ⟨mwL_2, List.forall_mem_cons.mpr ⟨mwL_146, List.forall_mem_cons.mpr ⟨mwL_488, List.forall_mem_cons.mpr ⟨mwL_489, List.forall_mem_cons.mpr ⟨mwL_490, List.forall_mem_cons.mpr ⟨mwL_147, List.forall_mem_cons.mpr ⟨mwL_148, List.forall_mem_cons.mpr ⟨mwL_149, List.forall_mem_cons.mpr ⟨mwL_18, List.forall_mem_cons.mpr ⟨mwL_150, List.forall_mem_cons.mpr ⟨mwL_151, List.forall_mem_cons.mpr ⟨mwL_113, List.forall_mem_cons.mpr ⟨mwL_152, List.forall_mem_cons.mpr ⟨mwL_153, List.forall_mem_cons.mpr ⟨mwL_154, List.forall_mem_cons.mpr ⟨mwL_155, List.forall_mem_cons.mpr ⟨mwL_156, fun _ h => absurd h List.not_mem_nil⟩⟩⟩⟩⟩⟩⟩⟩⟩⟩⟩⟩⟩⟩⟩⟩⟩⟩⟩⟩⟩⟩⟩⟩)
theorem bL_wsX11_come_r2 : ∀ w ∈ wsX11_come_r2, w ∈ wsL_law := (List.forall_mem_cons.mpr ⟨mwL_157, List.forall_mem_cons.mpr ⟨mwL_158, List.forall_mem_cons.mpr ⟨mwL_22, List.forall_mem_cons.mpr ⟨mwL_159, List.forall_mem_cons.mpr ⟨mwL_160, List.forall_mem_cons.mpr ⟨mwL_51, List.forall_mem_cons.mpr ⟨mwL_55, List.forall_mem_cons.mpr ⟨mwL_59, List.forall_mem_cons.mpr ⟨mwL_161, List.forall_mem_cons.mpr ⟨mwL_162, List.forall_mem_cons.mpr ⟨mwL_163, List.forall_mem_cons.mpr ⟨mwL_50, List.forall_mem_cons.mpr ⟨mwL_164, List.forall_mem_cons.mpr ⟨mwL_165, List.forall_mem_cons.mpr ⟨mwL_166, List.forall_mem_cons.mpr ⟨mwL_64, List.forall_mem_cons.mpr ⟨mwL_167, List.forall_mem_cons.mpr ⟨mwL_168, List.forall_mem_cons.mpr ⟨mwL_169, List.forall_mem_cons.mpr ⟨mwL_170, List.forall_mem_cons.mpr ⟨mwL_65, List.forall_mem_cons.mpr ⟨mwL_66, List.forall_mem_cons.mpr ⟨mwL_67, List.forall_mem_cons.mpr ⟨mwL_68, fun _ h => absurd h List.not_mem_nil⟩⟩⟩⟩⟩⟩⟩⟩⟩⟩⟩⟩⟩⟩⟩⟩⟩⟩⟩⟩⟩⟩⟩⟩)
theorem bL_wsX11_come_r3 : ∀ w ∈ wsX11_come_r3, w ∈ wsL_law := (List.forall_mem_cons.mpr ⟨mwL_69, List.forall_mem_cons.mpr ⟨mwL_171, List.forall_mem_cons.mpr ⟨mwL_172, List.forall_mem_cons.mpr ⟨mwL_173, List.forall_mem_cons.mpr ⟨mwL_54, List.forall_mem_cons.mpr ⟨mwL_174, List.forall_mem_cons.mpr ⟨mwL_175, List.forall_mem_cons.mpr ⟨mwL_73, List.forall_mem_cons.mpr ⟨mwL_176, List.forall_mem_cons.mpr ⟨mwL_74, List.forall_mem_cons.mpr ⟨mwL_76, List.forall_mem_cons.mpr ⟨mwL_77, List.forall_mem_cons.mpr ⟨mwL_78, List.forall_mem_cons.mpr ⟨mwL_79, List.forall_mem_cons.mpr ⟨mwL_80, List.forall_mem_cons.mpr ⟨mwL_82, List.forall_mem_cons.mpr ⟨mwL_177, List.forall_mem_cons.mpr ⟨mwL_178, List.forall_mem_cons.mpr ⟨mwL_179, List.forall_mem_cons.mpr ⟨mwL_58, List.forall_mem_cons.mpr ⟨mwL_180, List.forall_mem_cons.mpr ⟨mwL_181, List.forall_mem_cons.mpr ⟨mwL_182, List.forall_mem_cons.mpr ⟨mwL_86, fun _ h => absurd h List.not_mem_nil⟩⟩⟩⟩⟩⟩⟩⟩⟩⟩⟩⟩⟩⟩⟩⟩⟩⟩⟩⟩⟩⟩⟩⟩)
theorem bL_wsX11_come_r4 : ∀ w ∈ wsX11_come_r4, w ∈ wsL_law := (List.forall_mem_cons.mpr ⟨mwL_183, List.forall_mem_cons.mpr ⟨mwL_87, List.forall_mem_cons.mpr ⟨mwL_88, List.forall_mem_cons.mpr ⟨mwL_89, List.forall_mem_cons.mpr ⟨mwL_491, List.forall_mem_cons.mpr ⟨mwL_492, List.forall_mem_cons.mpr ⟨mwL_493, List.forall_mem_cons.mpr ⟨mwL_14, List.forall_mem_cons.mpr ⟨mwL_494, List.forall_mem_cons.mpr ⟨mwL_36, List.forall_mem_cons.mpr ⟨mwL_262, List.forall_mem_cons.mpr ⟨mwL_495, List.forall_mem_cons.mpr ⟨mwL_496, List.forall_mem_cons.mpr ⟨mwL_497, List.forall_mem_cons.mpr ⟨mwL_498, List.forall_mem_cons.mpr ⟨mwL_258, List.forall_mem_cons.mpr ⟨mwL_259, List.forall_mem_cons.mpr ⟨mwL_260, List.forall_mem_cons.mpr ⟨mwL_261, List.forall_mem_cons.mpr ⟨mwL_263, List.forall_mem_cons.mpr ⟨mwL_264, List.forall_mem_cons.mpr ⟨mwL_265, List.forall_mem_cons.mpr ⟨mwL_266, List.forall_mem_cons.mpr ⟨mwL_267, fun _ h => absurd h List.not_mem_nil⟩⟩⟩⟩⟩⟩⟩⟩⟩⟩⟩⟩⟩⟩⟩⟩⟩⟩⟩⟩⟩⟩⟩⟩)
theorem bL_wsX11_come_r5 : ∀ w ∈ wsX11_come_r5, w ∈ wsL_law := (List.forall_mem_cons.mpr ⟨mwL_268, List.forall_mem_cons.mpr ⟨mwL_40, List.forall_mem_cons.mpr ⟨mwL_269, List.forall_mem_cons.mpr ⟨mwL_188, List.forall_mem_cons.mpr ⟨mwL_270, List.forall_mem_cons.mpr ⟨mwL_271, List.forall_mem_cons.mpr ⟨mwL_272, List.forall_mem_cons.mpr ⟨mwL_273, List.forall_mem_cons.mpr ⟨mwL_274, List.forall_mem_cons.mpr ⟨mwL_39, List.forall_mem_cons.mpr ⟨mwL_275, List.forall_mem_cons.mpr ⟨mwL_93, List.forall_mem_cons.mpr ⟨mwL_212, List.forall_mem_cons.mpr ⟨mwL_213, List.forall_mem_cons.mpr ⟨mwL_276, List.forall_mem_cons.mpr ⟨mwL_277, List.forall_mem_cons.mpr ⟨mwL_278, List.forall_mem_cons.mpr ⟨mwL_279, List.forall_mem_cons.mpr ⟨mwL_280, List.forall_mem_cons.mpr ⟨mwL_281, List.forall_mem_cons.mpr ⟨mwL_282, List.forall_mem_cons.mpr ⟨mwL_283, List.forall_mem_cons.mpr ⟨mwL_284, List.forall_mem_cons.mpr ⟨mwL_285, fun _ h => absurd h List.not_mem_nil⟩⟩⟩⟩⟩⟩⟩⟩⟩⟩⟩⟩⟩⟩⟩⟩⟩⟩⟩⟩⟩⟩⟩⟩)
theorem bL_wsX11_come_r6 : ∀ w ∈ wsX11_come_r6, w ∈ wsL_law := (List.forall_mem_cons.mpr ⟨mwL_286, List.forall_mem_cons.mpr ⟨mwL_287, List.forall_mem_cons.mpr ⟨mwL_288, List.forall_mem_cons.mpr ⟨mwL_289, List.forall_mem_cons.mpr ⟨mwL_290, List.forall_mem_cons.mpr ⟨mwL_291, List.forall_mem_cons.mpr ⟨mwL_292, List.forall_mem_cons.mpr ⟨mwL_293, List.forall_mem_cons.mpr ⟨mwL_294, List.forall_mem_cons.mpr ⟨mwL_295, List.forall_mem_cons.mpr ⟨mwL_296, List.forall_mem_cons.mpr ⟨mwL_297, List.forall_mem_cons.mpr ⟨mwL_298, List.forall_mem_cons.mpr ⟨mwL_299, List.forall_mem_cons.mpr ⟨mwL_300, List.forall_mem_cons.mpr ⟨mwL_301, List.forall_mem_cons.mpr ⟨mwL_302, List.forall_mem_cons.mpr ⟨mwL_303, List.forall_mem_cons.mpr ⟨mwL_304, fun _ h => absurd h List.not_mem_nil⟩⟩⟩⟩⟩⟩⟩⟩⟩⟩⟩⟩⟩⟩⟩⟩⟩⟩⟩)
set_option maxRecDepth 20000 in
theorem ggL_law_X11_come : GoodIn wsL_law wsX11_come := goodIn_sub (List.forall_mem_cons.mpr ⟨mwL_485, List.forall_mem_append.mpr ⟨List.forall_mem_append.mpr ⟨List.forall_mem_append.mpr ⟨List.forall_mem_append.mpr ⟨List.forall_mem_append.mpr ⟨List.forall_mem_append.mpr ⟨List.forall_mem_append.mpr ⟨List.forall_mem_append.mpr ⟨List.forall_mem_append.mpr ⟨bL_wsX11_come_r1, List.forall_mem_append.mpr ⟨bL_wsX11_come_r2, List.forall_mem_append.mpr ⟨bL_wsX11_come_r3, List.forall_mem_append.mpr ⟨bL_wsX11_come_r4, List.forall_mem_append.mpr ⟨bL_wsX11_come_r5, bL_wsX11_come_r6⟩⟩⟩⟩⟩, inlX11⟩, inlX2⟩, inlX6⟩, inlX9⟩, inlX1⟩, inlX5⟩, inlX3⟩, inlX0⟩⟩) (by decide +kernel)
theorem gL_law_X11_come : GoodIn wsL_law (wsV RL 32 RX11 yX11_come wsX11_come) := goodIn_app (goodIn_sub (List.forall_mem_cons.mpr ⟨mwL_482, List.forall_mem_cons.mpr ⟨mwL_483, List.forall_mem_cons.mpr ⟨mwL_484, List.forall_mem_cons.mpr ⟨mwL_2, fun _ h => absurd h List.not_mem_nil⟩⟩⟩⟩) (by decide +kernel)) ggL_law_X11_come
theorem bL_wsX12_come_r1 : ∀ w ∈ wsX12_come_r1, w ∈ wsL_law := (List.forall_mem_cons.mpr ⟨mwL_131, List.forall_mem_cons.mpr ⟨mwL_309, List.forall_mem_cons.mpr ⟨mwL_310, List.forall_mem_cons.mpr ⟨mwL_5, List.forall_mem_cons.mpr ⟨mwL_311, List.forall_mem_cons.mpr ⟨mwL_312, List.forall_mem_cons.mpr ⟨mwL_313, List.forall_mem_cons.mpr ⟨mwL_314, List.forall_mem_cons.mpr ⟨mwL_315, List.forall_mem_cons.mpr ⟨mwL_316, List.forall_mem_cons.mpr ⟨mwL_132, List.forall_mem_cons.mpr ⟨mwL_353, List.forall_mem_cons.mpr ⟨mwL_354, List.forall_mem_cons.mpr ⟨mwL_355, List.forall_mem_cons.mpr ⟨mwL_356, List.forall_mem_cons.mpr ⟨mwL_329, List.forall_mem_cons.mpr ⟨mwL_330, List.forall_mem_cons.mpr ⟨mwL_331, List.forall_mem_cons.mpr ⟨mwL_332, List.forall_mem_cons.mpr ⟨mwL_333, List.forall_mem_cons.mpr ⟨mwL_334, List.forall_mem_cons.mpr ⟨mwL_335, List.forall_mem_cons.mpr ⟨mwL_336, List.forall_mem_cons.mpr ⟨mwL_337, fun _ h => absurd h List.not_mem_nil⟩⟩⟩⟩⟩⟩⟩⟩⟩⟩⟩⟩⟩⟩⟩⟩⟩⟩⟩⟩⟩⟩⟩⟩)
theorem bL_wsX12_come_r2 : ∀ w ∈ wsX12_come_r2, w ∈ wsL_law := (List.forall_mem_cons.mpr ⟨mwL_338, List.forall_mem_cons.mpr ⟨mwL_339, List.forall_mem_cons.mpr ⟨mwL_340, List.forall_mem_cons.mpr ⟨mwL_341, List.forall_mem_cons.mpr ⟨mwL_342, List.forall_mem_cons.mpr ⟨mwL_343, List.forall_mem_cons.mpr ⟨mwL_344, List.forall_mem_cons.mpr ⟨mwL_345, List.forall_mem_cons.mpr ⟨mwL_346, List.forall_mem_cons.mpr ⟨mwL_347, List.forall_mem_cons.mpr ⟨mwL_348, List.forall_mem_cons.mpr ⟨mwL_349, List.forall_mem_cons.mpr ⟨mwL_350, List.forall_mem_cons.mpr ⟨mwL_351, List.forall_mem_cons.mpr ⟨mwL_352, List.forall_mem_cons.mpr ⟨mwL_357, List.forall_mem_cons.mpr ⟨mwL_358, List.forall_mem_cons.mpr ⟨mwL_359, List.forall_mem_cons.mpr ⟨mwL_360, List.forall_mem_cons.mpr ⟨mwL_321, List.forall_mem_cons.mpr ⟨mwL_322, List.forall_mem_cons.mpr ⟨mwL_323, List.forall_mem_cons.mpr ⟨mwL_324, fun _ h => absurd h List.not_mem_nil⟩⟩⟩⟩⟩⟩⟩⟩⟩⟩⟩⟩⟩⟩⟩⟩⟩⟩⟩⟩⟩⟩⟩)
set_option maxRecDepth 20000 in
theorem ggL_law_X12_come : GoodIn wsL_law wsX12_come := goodIn_sub (List.forall_mem_cons.mpr ⟨mwL_502, List.forall_mem_append.mpr ⟨List.forall_mem_append.mpr ⟨bL_wsX12_come_r1, bL_wsX12_come_r2⟩, inlX12⟩⟩) (by decide +kernel)
theorem gL_law_X12_come : GoodIn wsL_law (wsV RL 35 RX12 yX12_come wsX12_come) := goodIn_app (goodIn_sub (List.forall_mem_cons.mpr ⟨mwL_499, List.forall_mem_cons.mpr ⟨mwL_500, List.forall_mem_cons.mpr ⟨mwL_501, List.forall_mem_cons.mpr ⟨mwL_5, fun _ h => absurd h List.not_mem_nil⟩⟩⟩⟩) (by decide +kernel)) ggL_law_X12_come
theorem bL_wsX11_put_r1 : ∀ w ∈ wsX11_put_r1, w ∈ wsL_law := (List.forall_mem_cons.mpr ⟨mwL_15, List.forall_mem_cons.mpr ⟨mwL_141, List.forall_mem_cons.mpr ⟨mwL_486, List.forall_mem_cons.mpr ⟨mwL_507, List.forall_mem_cons.mpr ⟨mwL_19, List.forall_mem_cons.mpr ⟨mwL_508, List.forall_mem_cons.mpr ⟨mwL_509, List.forall_mem_cons.mpr ⟨mwL_510, List.forall_mem_cons.mpr ⟨mwL_54, List.forall_mem_cons.mpr ⟨mwL_511, List.forall_mem_cons.mpr ⟨mwL_175, List.forall_mem_cons.mpr ⟨mwL_144, List.forall_mem_cons.mpr ⟨mwL_145, List.forall_mem_cons.mpr ⟨mwL_2, List.forall_mem_cons.mpr ⟨mwL_146, List.forall_mem_cons.mpr ⟨mwL_147, List.forall_mem_cons.mpr ⟨mwL_148, List.forall_mem_cons.mpr ⟨mwL_149, List.forall_mem_cons.mpr ⟨mwL_18, List.forall_mem_cons.mpr ⟨mwL_150, List.forall_mem_cons.mpr ⟨mwL_151, List.forall_mem_cons.mpr ⟨mwL_113, List.forall_mem_cons.mpr ⟨mwL_152, List.forall_mem_cons.mpr ⟨mwL_153, fun _ h => absurd h List.not_mem_nil⟩⟩⟩⟩⟩⟩⟩⟩⟩⟩⟩⟩⟩⟩⟩⟩⟩⟩⟩⟩⟩⟩⟩⟩)
theorem bL_wsX11_put_r2 : ∀ w ∈ wsX11_put_r2, w ∈ wsL_law := (List.forall_mem_cons.mpr ⟨mwL_154, List.forall_mem_cons.mpr ⟨mwL_155, List.forall_mem_cons.mpr ⟨mwL_156, List.forall_mem_cons.mpr ⟨mwL_157, List.forall_mem_cons.mpr ⟨mwL_158, List.forall_mem_cons.mpr ⟨mwL_22, List.forall_mem_cons.mpr ⟨mwL_159, List.forall_mem_cons.mpr ⟨mwL_160, List.forall_mem_cons.mpr ⟨mwL_51, List.forall_mem_cons.mpr ⟨mwL_55, List.forall_mem_cons.mpr ⟨mwL_59, List.forall_mem_cons.mpr ⟨mwL_161, List.forall_mem_cons.mpr ⟨mwL_162, List.forall_mem_cons.mpr ⟨mwL_163, List.forall_mem_cons.mpr ⟨mwL_50, List.forall_mem_cons.mpr ⟨mwL_164, List.forall_mem_cons.mpr ⟨mwL_165, List.forall_mem_cons.mpr ⟨mwL_166, List.forall_mem_cons.mpr ⟨mwL_64, List.forall_mem_cons.mpr ⟨mwL_167, List.forall_mem_cons.mpr ⟨mwL_168, List.forall_mem_cons.mpr ⟨mwL_169, List.forall_mem_cons.mpr ⟨mwL_170, List.forall_mem_cons.mpr ⟨mwL_65, fun _ h => absurd h List.not_mem_nil⟩⟩⟩⟩⟩⟩⟩⟩⟩⟩⟩⟩⟩⟩⟩⟩⟩⟩⟩⟩⟩⟩⟩⟩)
theorem bL_wsX11_put_r3 : ∀ w ∈ wsX11_put_r3, w ∈ wsL_law := (List.forall_mem_cons.mpr ⟨mwL_66, List.forall_mem_cons.mpr ⟨mwL_67, List.forall_mem_cons.mpr ⟨mwL_68, List.forall_mem_cons.mpr ⟨mwL_69, List.forall_mem_cons.mpr ⟨mwL_171, List.forall_mem_cons.mpr ⟨mwL_172, List.forall_mem_cons.mpr ⟨mwL_173, List.forall_mem_cons.mpr ⟨mwL_174, List.forall_mem_cons.mpr ⟨mwL_73, List.forall_mem_cons.mpr ⟨mwL_176, List.forall_mem_cons.mpr ⟨mwL_74, List.forall_mem_cons.mpr ⟨mwL_76, List.forall_mem_cons.mpr ⟨mwL_77, List.forall_mem_cons.mpr ⟨mwL_78, List.forall_mem_cons.mpr ⟨mwL_79, List.forall_mem_cons.mpr ⟨mwL_80, List.forall_mem_cons.mpr ⟨mwL_82, List.forall_mem_cons.mpr ⟨mwL_177, List.forall_mem_cons.mpr ⟨mwL_178, List.forall_mem_cons.mpr ⟨mwL_179, List.forall_mem_cons.mpr ⟨mwL_58, List.forall_mem_cons.mpr ⟨mwL_180, List.forall_mem_cons.mpr ⟨mwL_181, List.forall_mem_cons.mpr ⟨mwL_182, fun _ h => absurd h List.not_mem_nil⟩⟩⟩⟩⟩⟩⟩⟩⟩⟩⟩⟩⟩⟩⟩⟩⟩⟩⟩⟩⟩⟩⟩⟩)
theorem bL_wsX11_put_r4 : ∀ w ∈ wsX11_put_r4, w ∈ wsL_law := (List.forall_mem_cons.mpr ⟨mwL_86, List.forall_mem_cons.mpr ⟨mwL_183, List.forall_mem_cons.mpr ⟨mwL_87, List.forall_mem_cons.mpr ⟨mwL_88, List.forall_mem_cons.mpr ⟨mwL_89, List.forall_mem_cons.mpr ⟨mwL_512, List.forall_mem_cons.mpr ⟨mwL_513, List.forall_mem_cons.mpr ⟨mwL_514, List.forall_mem_cons.mpr ⟨mwL_14, List.forall_mem_cons.mpr ⟨mwL_515, List.forall_mem_cons.mpr ⟨mwL_36, List.forall_mem_cons.mpr ⟨mwL_262, List.forall_mem_cons.mpr ⟨mwL_269, List.forall_mem_cons.mpr ⟨mwL_264, List.forall_mem_cons.mpr ⟨mwL_265, List.forall_mem_cons.mpr ⟨mwL_266, List.forall_mem_cons.mpr ⟨mwL_267, List.forall_mem_cons.mpr ⟨mwL_268, List.forall_mem_cons.mpr ⟨mwL_40, List.forall_mem_cons.mpr ⟨mwL_188, List.forall_mem_cons.mpr ⟨mwL_270, List.forall_mem_cons.mpr ⟨mwL_271, List.forall_mem_cons.mpr ⟨mwL_272, List.forall_mem_cons.mpr ⟨mwL_273, fun _ h => absurd h List.not_mem_nil⟩⟩⟩⟩⟩⟩⟩⟩⟩⟩⟩⟩⟩⟩⟩⟩⟩⟩⟩⟩⟩⟩⟩⟩)
theorem bL_wsX11_put_r5 : ∀ w ∈ wsX11_put_r5, w ∈ wsL_law := (List.forall_mem_cons.mpr ⟨mwL_274, List.forall_mem_cons.mpr ⟨mwL_39, List.forall_mem_cons.mpr ⟨mwL_275, List.forall_mem_cons.mpr ⟨mwL_93, List.forall_mem_cons.mpr ⟨mwL_212, List.forall_mem_cons.mpr ⟨mwL_213, List.forall_mem_cons.mpr ⟨mwL_276, List.forall_mem_cons.mpr ⟨mwL_277, List.forall_mem_cons.mpr ⟨mwL_278, List.forall_mem_cons.mpr ⟨mwL_279, List.forall_mem_cons.mpr ⟨mwL_280, List.forall_mem_cons.mpr ⟨mwL_281, List.forall_mem_cons.mpr ⟨mwL_282, List.forall_mem_cons.mpr ⟨mwL_283, List.forall_mem_cons.mpr ⟨mwL_284, List.forall_mem_cons.mpr ⟨mwL_285, List.forall_mem_cons.mpr ⟨mwL_286, List.forall_mem_cons.mpr ⟨mwL_287, List.forall_mem_cons.mpr ⟨mwL_288, List.forall_mem_cons.mpr ⟨mwL_289, List.forall_mem_cons.mpr ⟨mwL_290, List.forall_mem_cons.mpr ⟨mwL_291, List.forall_mem_cons.mpr ⟨mwL_292, List.forall_mem_cons.mpr ⟨mwL_293, fun _ h => absurd h List.not_mem_nil⟩⟩⟩⟩⟩⟩⟩⟩⟩⟩⟩⟩⟩⟩⟩⟩⟩⟩⟩⟩⟩⟩⟩⟩)
theorem bL_wsX11_put_r6 : ∀ w ∈ wsX11_put_r6, w ∈ wsL_law := (List.forall_mem_cons.mpr ⟨mwL_294, List.forall_mem_cons.mpr ⟨mwL_295, List.forall_mem_cons.mpr ⟨mwL_296, List.forall_mem_cons.mpr ⟨mwL_297, List.forall_mem_cons.mpr ⟨mwL_298, List.forall_mem_cons.mpr ⟨mwL_299, List.forall_mem_cons.mpr ⟨mwL_300, List.forall_mem_cons.mpr ⟨mwL_301, List.forall_mem_cons.mpr ⟨mwL_302, List.forall_mem_cons.mpr ⟨mwL_303, List.forall_mem_cons.mpr ⟨mwL_304, fun _ h => absurd h List.not_mem_nil⟩⟩⟩⟩⟩⟩⟩⟩⟩⟩⟩)
set_option maxRecDepth 20000 in
theorem ggL_law_X11_put : GoodIn wsL_law wsX11_put := goodIn_sub (List.forall_mem_cons.mpr ⟨mwL_506, List.forall_mem_append.mpr ⟨List.forall_mem_append.mpr ⟨List.forall_mem_append.mpr ⟨List.forall_mem_append.mpr ⟨List.forall_mem_append.mpr ⟨List.forall_mem_append.mpr ⟨List.forall_mem_append.mpr ⟨List.forall_mem_append.mpr ⟨List.forall_mem_append.mpr ⟨bL_wsX11_put_r1, List.forall_mem_append.mpr ⟨bL_wsX11_put_r2, List.forall_mem_append.mpr ⟨bL_wsX11_put_r3, List.forall_mem_append.mpr ⟨bL_wsX11_put_r4, List.forall_mem_append.mpr ⟨bL_wsX11_put_r5, bL_wsX11_put_r6⟩⟩⟩⟩⟩, inlX11⟩, inlX2⟩, inlX6⟩, inlX9⟩, inlX1⟩, inlX5⟩, inlX3⟩, inlX0⟩⟩) (by decide +kernel)
theorem gL_law_X11_put : GoodIn wsL_law (wsV RL 36 RX11 yX11_put wsX11_put) := goodIn_app (goodIn_sub (List.forall_mem_cons.mpr ⟨mwL_503, List.forall_mem_cons.mpr ⟨mwL_504, List.forall_mem_cons.mpr ⟨mwL_505, List.forall_mem_cons.mpr ⟨mwL_2, fun _ h => absurd h List.not_mem_nil⟩⟩⟩⟩) (by decide +kernel)) ggL_law_X11_put
theorem bL_wsX12_put_r1 : ∀ w ∈ wsX12_put_r1, w ∈ wsL_law := (List.forall_mem_cons.mpr ⟨mwL_520, List.forall_mem_cons.mpr ⟨mwL_521, List.forall_mem_cons.mpr ⟨mwL_522, List.forall_mem_cons.mpr ⟨mwL_5, List.forall_mem_cons.mpr ⟨mwL_523, List.forall_mem_cons.mpr ⟨mwL_131, List.forall_mem_cons.mpr ⟨mwL_309, List.forall_mem_cons.mpr ⟨mwL_310, List.forall_mem_cons.mpr ⟨mwL_311, List.forall_mem_cons.mpr ⟨mwL_333, List.forall_mem_cons.mpr ⟨mwL_334, List.forall_mem_cons.mpr ⟨mwL_335, List.forall_mem_cons.mpr ⟨mwL_336, List.forall_mem_cons.mpr ⟨mwL_312, List.forall_mem_cons.mpr ⟨mwL_313, List.forall_mem_cons.mpr ⟨mwL_314, List.forall_mem_cons.mpr ⟨mwL_315, List.forall_mem_cons.mpr ⟨mwL_316, List.forall_mem_cons.mpr ⟨mwL_132, List.forall_mem_cons.mpr ⟨mwL_353, List.forall_mem_cons.mpr ⟨mwL_354, List.forall_mem_cons.mpr ⟨mwL_355, List.forall_mem_cons.mpr ⟨mwL_356, List.forall_mem_cons.mpr ⟨mwL_329, fun _ h => absurd h List.not_mem_nil⟩⟩⟩⟩⟩⟩⟩⟩⟩⟩⟩⟩⟩⟩⟩⟩⟩⟩⟩⟩⟩⟩⟩⟩)
theorem bL_wsX12_put_r2 : ∀ w ∈ wsX12_put_r2, w ∈ wsL_law := (List.forall_mem_cons.mpr ⟨mwL_330, List.forall_mem_cons.mpr ⟨mwL_331, List.forall_mem_cons.mpr ⟨mwL_332, List.forall_mem_cons.mpr ⟨mwL_337, List.forall_mem_cons.mpr ⟨mwL_338, List.forall_mem_cons.mpr ⟨mwL_339, List.forall_mem_cons.mpr ⟨mwL_340, List.forall_mem_cons.mpr ⟨mwL_341, List.forall_mem_cons.mpr ⟨mwL_342, List.forall_mem_cons.mpr ⟨mwL_343, List.forall_mem_cons.mpr ⟨mwL_344, List.forall_mem_cons.mpr ⟨mwL_345, List.forall_mem_cons.mpr ⟨mwL_346, List.forall_mem_cons.mpr ⟨mwL_347, List.forall_mem_cons.mpr ⟨mwL_348, List.forall_mem_cons.mpr ⟨mwL_349, List.forall_mem_cons.mpr ⟨mwL_350, List.forall_mem_cons.mpr ⟨mwL_351, List.forall_mem_cons.mpr ⟨mwL_352, List.forall_mem_cons.mpr ⟨mwL_357, List.forall_mem_cons.mpr ⟨mwL_358, List.forall_mem_cons.mpr ⟨mwL_359, List.forall_mem_cons.mpr ⟨mwL_360, List.forall_mem_cons.mpr ⟨mwL_321, fun _ h => absurd h List.not_mem_nil⟩⟩⟩⟩⟩⟩⟩⟩⟩⟩⟩⟩⟩⟩⟩⟩⟩⟩⟩⟩⟩⟩⟩⟩)
theorem bL_wsX12_put_r3 : ∀ w ∈ wsX12_put_r3, w ∈ wsL_law := (List.forall_mem_cons.mpr ⟨mwL_322, List.forall_mem_cons.mpr ⟨mwL_323, List.forall_mem_cons.mpr ⟨mwL_324, fun _ h => absurd h List.not_mem_nil⟩⟩⟩)
set_option maxRecDepth 20000 in
theorem ggL_law_X12_put : GoodIn wsL_law wsX12_put := goodIn_sub (List.forall_mem_cons.mpr ⟨mwL_519, List.forall_mem_append.mpr ⟨List.forall_mem_append.mpr ⟨bL_wsX12_put_r1, List.forall_mem_append.mpr ⟨bL_wsX12_put_r2, bL_wsX12_put_r3⟩⟩, inlX12⟩⟩) (by decide +kernel)
theorem gL_law_X12_put : GoodIn wsL_law (wsV RL 39 RX12 yX12_put wsX12_put) := goodIn_app (goodIn_sub (List.forall_mem_cons.mpr ⟨mwL_516, List.forall_mem_cons.mpr ⟨mwL_517, List.forall_mem_cons.mpr ⟨mwL_518, List.forall_mem_cons.mpr ⟨mwL_5, fun _ h => absurd h List.not_mem_nil⟩⟩⟩⟩) (by decide +kernel)) ggL_law_X12_put
theorem bL_wsX11_speed_r1 : ∀ w ∈ wsX11_speed_r1, w ∈ wsL_law := (List.forall_mem_cons.mpr ⟨mwL_15, List.forall_mem_cons.mpr ⟨mwL_141, List.forall_mem_cons.mpr ⟨mwL_486, List.forall_mem_cons.mpr ⟨mwL_528, List.forall_mem_cons.mpr ⟨mwL_19, List.forall_mem_cons.mpr ⟨mwL_508, List.forall_mem_cons.mpr ⟨mwL_509, List.forall_mem_cons.mpr ⟨mwL_510, List.forall_mem_cons.mpr ⟨mwL_54, List.forall_mem_cons.mpr ⟨mwL_511, List.forall_mem_cons.mpr ⟨mwL_175, List.forall_mem_cons.mpr ⟨mwL_488, List.forall_mem_cons.mpr ⟨mwL_489, List.forall_mem_cons.mpr ⟨mwL_2, List.forall_mem_cons.mpr ⟨mwL_490, List.forall_mem_cons.mpr ⟨mwL_147, List.forall_mem_cons.mpr ⟨mwL_148, List.forall_mem_cons.mpr ⟨mwL_149, List.forall_mem_cons.mpr ⟨mwL_18, List.forall_mem_cons.mpr ⟨mwL_150, List.forall_mem_cons.mpr ⟨mwL_151, List.forall_mem_cons.mpr ⟨mwL_113, List.forall_mem_cons.mpr ⟨mwL_152, List.forall_mem_cons.mpr ⟨mwL_153, fun _ h => absurd h List.not_mem_nil⟩⟩⟩⟩⟩⟩⟩⟩⟩⟩⟩⟩⟩⟩⟩⟩⟩⟩⟩⟩⟩⟩⟩⟩)
theorem bL_wsX11_speed_r2 : ∀ w ∈ wsX11_speed_r2, w ∈ wsL_law := (List.forall_mem_cons.mpr ⟨mwL_154, List.forall_mem_cons.mpr ⟨mwL_155, List.forall_mem_cons.mpr ⟨mwL_156, List.forall_mem_cons.mpr ⟨mwL_157, List.forall_mem_cons.mpr ⟨mwL_158, List.forall_mem_cons.mpr ⟨mwL_22, List.forall_mem_cons.mpr ⟨mwL_159, List.forall_mem_cons.mpr ⟨mwL_160, List.forall_mem_cons.mpr ⟨mwL_51, List.forall_mem_cons.mpr ⟨mwL_55, List.forall_mem_cons.mpr ⟨mwL_59, List.forall_mem_cons.mpr ⟨mwL_161, List.forall_mem_cons.mpr ⟨mwL_162, List.forall_mem_cons.mpr ⟨mwL_163, List.forall_mem_cons.mpr ⟨mwL_50, List.forall_mem_cons.mpr ⟨mwL_164, List.forall_mem_cons.mpr ⟨mwL_165, List.forall_mem_cons.mpr ⟨mwL_166, List.forall_mem_cons.mpr ⟨mwL_64, List.forall_mem_cons.mpr ⟨mwL_167, List.forall_mem_cons.mpr ⟨mwL_168, List.forall_mem_cons.mpr ⟨mwL_169, List.forall_mem_cons.mpr ⟨mwL_170, List.forall_mem_cons.mpr ⟨mwL_65, fun _ h => absurd h List.not_mem_nil⟩⟩⟩⟩⟩⟩⟩⟩⟩⟩⟩⟩⟩⟩⟩⟩⟩⟩⟩⟩⟩⟩⟩⟩)
theorem bL_wsX11_speed_r3 : ∀ w ∈ wsX11_speed_r3, w ∈ wsL_law := (List.forall_mem_cons.mpr ⟨mwL_66, List.forall_mem_cons.mpr ⟨mwL_67, List.forall_mem_cons.mpr ⟨mwL_68, List.forall_mem_cons.mpr ⟨mwL_69, List.forall_mem_cons.mpr ⟨mwL_171, List.forall_mem_cons.mpr ⟨mwL_172, List.forall_mem_cons.mpr ⟨mwL_173, List.forall_mem_cons.mpr ⟨mwL_174, List.forall_mem_cons.mpr ⟨mwL_73, List.forall_mem_cons.mpr ⟨mwL_176, List.forall_mem_cons.mpr ⟨mwL_74, List.forall_mem_cons.mpr ⟨mwL_76, List.forall_mem_cons.mpr ⟨mwL_77, List.forall_mem_cons.mpr ⟨mwL_78, List.forall_mem_cons.mpr ⟨mwL_79, List.forall_mem_cons.mpr ⟨mwL_80, List.forall_mem_cons.mpr ⟨mwL_82, List.forall_mem_cons.mpr ⟨mwL_177, List.forall_mem_cons.mpr ⟨mwL_178, List.forall_mem_cons.mpr ⟨mwL_179, List.forall_mem_cons.mpr ⟨mwL_58, List.forall_mem_cons.mpr ⟨mwL_180, List.forall_mem_cons.mpr ⟨mwL_181, List.forall_mem_cons.mpr ⟨mwL_182, fun _ h => absurd h List.not_mem_nil⟩⟩⟩⟩⟩⟩⟩⟩⟩⟩⟩⟩⟩⟩⟩⟩⟩⟩⟩⟩⟩⟩⟩⟩)
theorem bL_wsX11_speed_r4 : ∀ w ∈ wsX11_speed_r4, w ∈ wsL_law := (List.forall_mem_cons.mpr ⟨mwL_86, List.forall_mem_cons.mpr ⟨mwL_183, List.forall_mem_cons.mpr ⟨mwL_87, List.forall_mem_cons.mpr ⟨mwL_88, List.forall_mem_cons.mpr ⟨mwL_89, fun _ h => absurd h List.not_mem_nil⟩⟩⟩⟩⟩)
set_option maxRecDepth 20000 in
theorem ggL_law_X11_speed : GoodIn wsL_law wsX11_speed := goodIn_sub (List.forall_mem_cons.mpr ⟨mwL_527, List.forall_mem_append.mpr ⟨List.forall_mem_append.mpr ⟨List.forall_mem_append.mpr ⟨List.forall_mem_append.mpr ⟨List.forall_mem_append.mpr ⟨List.forall_mem_append.mpr ⟨List.forall_mem_append.mpr ⟨List.forall_mem_append.mpr ⟨bL_wsX11_speed_r1, List.forall_mem_append.mpr ⟨bL_wsX11_speed_r2, List.forall_mem_append.mpr ⟨bL_wsX11_speed_r3, bL_wsX11_speed_r4⟩⟩⟩, inlX11⟩, inlX2⟩, inlX6⟩, inlX9⟩, inlX1⟩, inlX5⟩, inlX3⟩⟩) (by decide +kernel)
theorem gL_law_X11_speed : GoodIn wsL_law (wsV RL 40 RX11 yX11_speed wsX11_speed) := goodIn_app (goodIn_sub (List.forall_mem_cons.mpr ⟨mwL_524, List.forall_mem_cons.mpr ⟨mwL_525, List.forall_mem_cons.mpr ⟨mwL_526, List.forall_mem_cons.mpr ⟨mwL_2, fun _ h => absurd h List.not_mem_nil⟩⟩⟩⟩) (by decide +kernel)) ggL_law_X11_speed
set_option maxRecDepth 20000 in
theorem ggL_law_X12_speed : GoodIn wsL_law wsX12_speed := goodIn_sub (List.forall_mem_cons.mpr ⟨mwL_532, List.forall_mem_append.mpr ⟨(List.forall_mem_cons.mpr ⟨mwL_520, List.forall_mem_cons.mpr ⟨mwL_521, List.forall_mem_cons.mpr ⟨mwL_522, List.forall_mem_cons.mpr ⟨mwL_5, List.forall_mem_cons.mpr ⟨mwL_523, List.forall_mem_cons.mpr ⟨mwL_131, List.forall_mem_cons.mpr ⟨mwL_309, List.forall_mem_cons.mpr ⟨mwL_310, List.forall_mem_cons.mpr ⟨mwL_311, List.forall_mem_cons.mpr ⟨mwL_333, List.forall_mem_cons.mpr ⟨mwL_334, List.forall_mem_cons.mpr ⟨mwL_335, List.forall_mem_cons.mpr ⟨mwL_336, List.forall_mem_cons.mpr ⟨mwL_312, List.forall_mem_cons.mpr ⟨mwL_313, List.forall_mem_cons.mpr ⟨mwL_314, List.forall_mem_cons.mpr ⟨mwL_315, List.forall_mem_cons.mpr ⟨mwL_316, List.forall_mem_cons.mpr ⟨mwL_132, List.forall_mem_cons.mpr ⟨mwL_353, List.forall_mem_cons.mpr ⟨mwL_354, List.forall_mem_cons.mpr ⟨mwL_355, List.forall_mem_cons.mpr ⟨mwL_356, fun _ h => absurd h List.not_mem_nil⟩⟩⟩⟩⟩⟩⟩⟩⟩⟩⟩⟩⟩⟩⟩⟩⟩⟩⟩⟩⟩⟩⟩), inlX12⟩⟩) (by decide +kernel)
theorem gL_law_X12_speed : GoodIn wsL_law (wsV RL 43 RX12 yX12_speed wsX12_speed) := goodIn_app (goodIn_sub (List.forall_mem_cons.mpr ⟨mwL_529, List.forall_mem_cons.mpr ⟨mwL_530, List.forall_mem_cons.mpr ⟨mwL_531, List.forall_mem_cons.mpr ⟨mwL_5, fun _ h => absurd h List.not_mem_nil⟩⟩⟩⟩) (by decide +kernel)) ggL_law_X12_speed
theorem bL_wsX11_pass_r1 : ∀ w ∈ wsX11_pass_r1, w ∈ wsL_law := (List.forall_mem_cons.mpr ⟨mwL_15, List.forall_mem_cons.mpr ⟨mwL_141, List.forall_mem_cons.mpr ⟨mwL_537, List.forall_mem_cons.mpr ⟨mwL_19, List.forall_mem_cons.mpr ⟨mwL_147, List.forall_mem_cons.mpr ⟨mwL_148, List.forall_mem_cons.mpr ⟨mwL_149, List.forall_mem_cons.mpr ⟨mwL_18, List.forall_mem_cons.mpr ⟨mwL_150, List.forall_mem_cons.mpr ⟨mwL_151, List.forall_mem_cons.mpr ⟨mwL_113, List.forall_mem_cons.mpr ⟨mwL_152, List.forall_mem_cons.mpr ⟨mwL_153, List.forall_mem_cons.mpr ⟨mwL_154, List.forall_mem_cons.mpr ⟨mwL_155, List.forall_mem_cons.mpr ⟨mwL_156, List.forall_mem_cons.mpr ⟨mwL_157, List.forall_mem_cons.mpr ⟨mwL_158, List.forall_mem_cons.mpr ⟨mwL_22, List.forall_mem_cons.mpr ⟨mwL_159, List.forall_mem_cons.mpr ⟨mwL_160, List.forall_mem_cons.mpr ⟨mwL_51, List.forall_mem_cons.mpr ⟨mwL_55, List.forall_mem_cons.mpr ⟨mwL_59, fun _ h => absurd h List.not_mem_nil⟩⟩⟩⟩⟩⟩⟩⟩⟩⟩⟩⟩⟩⟩⟩⟩⟩⟩⟩⟩⟩⟩⟩⟩)
theorem bL_wsX11_pass_r2 : ∀ w ∈ wsX11_pass_r2, w ∈ wsL_law := (List.forall_mem_cons.mpr ⟨mwL_161, List.forall_mem_cons.mpr ⟨mwL_162, List.forall_mem_cons.mpr ⟨mwL_163, List.forall_mem_cons.mpr ⟨mwL_50, List.forall_mem_cons.mpr ⟨mwL_164, List.forall_mem_cons.mpr ⟨mwL_165, List.forall_mem_cons.mpr ⟨mwL_166, List.forall_mem_cons.mpr ⟨mwL_64, List.forall_mem_cons.mpr ⟨mwL_167, List.forall_mem_cons.mpr ⟨mwL_168, List.forall_mem_cons.mpr ⟨mwL_169, List.forall_mem_cons.mpr ⟨mwL_170, List.forall_mem_cons.mpr ⟨mwL_65, List.forall_mem_cons.mpr ⟨mwL_66, List.forall_mem_cons.mpr ⟨mwL_67, List.forall_mem_cons.mpr ⟨mwL_68, List.forall_mem_cons.mpr ⟨mwL_69, List.forall_mem_cons.mpr ⟨mwL_171, List.forall_mem_cons.mpr ⟨mwL_172, List.forall_mem_cons.mpr ⟨mwL_173, List.forall_mem_cons.mpr ⟨mwL_54, List.forall_mem_cons.mpr ⟨mwL_174, List.forall_mem_cons.mpr ⟨mwL_175, List.forall_mem_cons.mpr ⟨mwL_73, fun _ h => absurd h List.not_mem_nil⟩⟩⟩⟩⟩⟩⟩⟩⟩⟩⟩⟩⟩⟩⟩⟩⟩⟩⟩⟩⟩⟩⟩⟩)
theorem bL_wsX11_pass_r3 : ∀ w ∈ wsX11_pass_r3, w ∈ wsL_law := (List.forall_mem_cons.mpr ⟨mwL_176, List.forall_mem_cons.mpr ⟨mwL_74, List.forall_mem_cons.mpr ⟨mwL_76, List.forall_mem_cons.mpr ⟨mwL_77, List.forall_mem_cons.mpr ⟨mwL_78, List.forall_mem_cons.mpr ⟨mwL_79, List.forall_mem_cons.mpr ⟨mwL_80, List.forall_mem_cons.mpr ⟨mwL_82, List.forall_mem_cons.mpr ⟨mwL_177, List.forall_mem_cons.mpr ⟨mwL_178, List.forall_mem_cons.mpr ⟨mwL_179, List.forall_mem_cons.mpr ⟨mwL_58, List.forall_mem_cons.mpr ⟨mwL_180, List.forall_mem_cons.mpr ⟨mwL_181, List.forall_mem_cons.mpr ⟨mwL_182, List.forall_mem_cons.mpr ⟨mwL_86, List.forall_mem_cons.mpr ⟨mwL_183, List.forall_mem_cons.mpr ⟨mwL_87, List.forall_mem_cons.mpr ⟨mwL_88, List.forall_mem_cons.mpr ⟨mwL_89, List.forall_mem_cons.mpr ⟨mwL_538, List.forall_mem_cons.mpr ⟨mwL_539, List.forall_mem_cons.mpr ⟨mwL_540, List.forall_mem_cons.mpr ⟨mwL_14, fun _ h => absurd h List.not_mem_nil⟩⟩⟩⟩⟩⟩⟩⟩⟩⟩⟩⟩⟩⟩⟩⟩⟩⟩⟩⟩⟩⟩⟩⟩)
theorem bL_wsX11_pass_r4 : ∀ w ∈ wsX11_pass_r4, w ∈ wsL_law := (List.forall_mem_cons.mpr ⟨mwL_541, List.forall_mem_cons.mpr ⟨mwL_36, List.forall_mem_cons.mpr ⟨mwL_282, List.forall_mem_cons.mpr ⟨mwL_262, List.forall_mem_cons.mpr ⟨mwL_263, List.forall_mem_cons.mpr ⟨mwL_281, List.forall_mem_cons.mpr ⟨mwL_269, List.forall_mem_cons.mpr ⟨mwL_542, List.forall_mem_cons.mpr ⟨mwL_543, List.forall_mem_cons.mpr ⟨mwL_544, List.forall_mem_cons.mpr ⟨mwL_545, List.forall_mem_cons.mpr ⟨mwL_546, List.forall_mem_cons.mpr ⟨mwL_547, List.forall_mem_cons.mpr ⟨mwL_289, List.forall_mem_cons.mpr ⟨mwL_549, List.forall_mem_cons.mpr ⟨mwL_550, List.forall_mem_cons.mpr ⟨mwL_2, List.forall_mem_cons.mpr ⟨mwL_551, List.forall_mem_cons.mpr ⟨mwL_144, List.forall_mem_cons.mpr ⟨mwL_145, List.forall_mem_cons.mpr ⟨mwL_146, List.forall_mem_cons.mpr ⟨mwL_552, List.forall_mem_cons.mpr ⟨mwL_553, List.forall_mem_cons.mpr ⟨mwL_554, fun _ h => absurd h List.not_mem_nil⟩⟩⟩⟩⟩⟩⟩⟩⟩⟩⟩⟩⟩⟩⟩⟩⟩⟩⟩⟩⟩⟩⟩⟩)
theorem bL_wsX11_pass_r5 : ∀ w ∈ wsX11_pass_r5, w ∈ wsL_law := (List.forall_mem_cons.mpr ⟨mwL_555, List.forall_mem_cons.mpr ⟨mwL_556, List.forall_mem_cons.mpr ⟨mwL_283, List.forall_mem_cons.mpr ⟨mwL_284, List.forall_mem_cons.mpr ⟨mwL_285, List.forall_mem_cons.mpr ⟨mwL_286, List.forall_mem_cons.mpr ⟨mwL_287, List.forall_mem_cons.mpr ⟨mwL_288, List.forall_mem_cons.mpr ⟨mwL_289, List.forall_mem_cons.mpr ⟨mwL_290, List.forall_mem_cons.mpr ⟨mwL_264, List.forall_mem_cons.mpr ⟨mwL_265, List.forall_mem_cons.mpr ⟨mwL_266, List.forall_mem_cons.mpr ⟨mwL_267, List.forall_mem_cons.mpr ⟨mwL_268, List.forall_mem_cons.mpr ⟨mwL_40, List.forall_mem_cons.mpr ⟨mwL_188, List.forall_mem_cons.mpr ⟨mwL_270, List.forall_mem_cons.mpr ⟨mwL_271, List.forall_mem_cons.mpr ⟨mwL_272, List.forall_mem_cons.mpr ⟨mwL_273, List.forall_mem_cons.mpr ⟨mwL_274, List.forall_mem_cons.mpr ⟨mwL_39, List.forall_mem_cons.mpr ⟨mwL_275, fun _ h => absurd h List.not_mem_nil⟩⟩⟩⟩⟩⟩⟩⟩⟩⟩⟩⟩⟩⟩⟩⟩⟩⟩⟩⟩⟩⟩⟩⟩)
theorem bL_wsX11_pass_r6 : ∀ w ∈ wsX11_pass_r6, w ∈ wsL_law := (List.forall_mem_cons.mpr ⟨mwL_93, List.forall_mem_cons.mpr ⟨mwL_212, List.forall_mem_cons.mpr ⟨mwL_213, List.forall_mem_cons.mpr ⟨mwL_276, List.forall_mem_cons.mpr ⟨mwL_277, List.forall_mem_cons.mpr ⟨mwL_278, List.forall_mem_cons.mpr ⟨mwL_279, List.forall_mem_cons.mpr ⟨mwL_280, List.forall_mem_cons.mpr ⟨mwL_291, List.forall_mem_cons.mpr ⟨mwL_292, List.forall_mem_cons.mpr ⟨mwL_293, List.forall_mem_cons.mpr ⟨mwL_294, List.forall_mem_cons.mpr ⟨mwL_295, List.forall_mem_cons.mpr ⟨mwL_296, List.forall_mem_cons.mpr ⟨mwL_297, List.forall_mem_cons.mpr ⟨mwL_298, List.forall_mem_cons.mpr ⟨mwL_299, List.forall_mem_cons.mpr ⟨mwL_300, List.forall_mem_cons.mpr ⟨mwL_301, List.forall_mem_cons.mpr ⟨mwL_302, List.forall_mem_cons.mpr ⟨mwL_303, List.forall_mem_cons.mpr ⟨mwL_304, List.forall_mem_cons.mpr ⟨mwL_557, List.forall_mem_cons.mpr ⟨mwL_558, fun _ h => absurd h List.not_mem_nil⟩⟩⟩⟩⟩⟩⟩⟩⟩⟩⟩⟩⟩⟩⟩⟩⟩⟩⟩⟩⟩⟩⟩⟩)
theorem bL_wsX11_pass_r7 : ∀ w ∈ wsX11_pass_r7, w ∈ wsL_law := (List.forall_mem_cons.mpr ⟨mwL_559, List.forall_mem_cons.mpr ⟨mwL_560, List.forall_mem_cons.mpr ⟨mwL_561, fun _ h => absurd h List.not_mem_nil⟩⟩⟩)
set_option maxRecDepth 20000 in
theorem ggL_law_X11_pass : GoodIn wsL_law wsX11_pass := goodIn_sub (List.forall_mem_cons.mpr ⟨mwL_536, List.forall_mem_append.mpr ⟨List.forall_mem_append.mpr ⟨List.forall_mem_append.mpr ⟨List.forall_mem_append.mpr ⟨List.forall_mem_append.mpr ⟨List.forall_mem_append.mpr ⟨List.forall_mem_append.mpr ⟨List.forall_mem_append.mpr ⟨List.forall_mem_append.mpr ⟨bL_wsX11_pass_r1, List.forall_mem_append.mpr ⟨bL_wsX11_pass_r2, List.forall_mem_append.mpr ⟨bL_wsX11_pass_r3, List.forall_mem_append.mpr ⟨bL_wsX11_pass_r4, List.forall_mem_append.mpr ⟨bL_wsX11_pass_r5, List.forall_mem_append.mpr ⟨bL_wsX11_pass_r6, bL_wsX11_pass_r7⟩⟩⟩⟩⟩⟩, inlX11⟩, inlX2⟩, inlX6⟩, inlX1⟩, inlX5⟩, inlX9⟩, inlX3⟩, inlX0⟩⟩) (by decide +kernel)
theorem gL_law_X11_pass : GoodIn wsL_law (wsV RL 44 RX11 yX11_pass wsX11_pass) := goodIn_app (goodIn_sub (List.forall_mem_cons.mpr ⟨mwL_533, List.forall_mem_cons.mpr ⟨mwL_534, List.forall_mem_cons.mpr ⟨mwL_535, List.forall_mem_cons.mpr ⟨mwL_2, fun _ h => absurd h List.not_mem_nil⟩⟩⟩⟩) (by decide +kernel)) ggL_law_X11_pass
theorem bL_wsX12_pass_r1 : ∀ w ∈ wsX12_pass_r1, w ∈ wsL_law := (List.forall_mem_cons.mpr ⟨mwL_131, List.forall_mem_cons.mpr ⟨mwL_309, List.forall_mem_cons.mpr ⟨mwL_310, List.forall_mem_cons.mpr ⟨mwL_5, List.forall_mem_cons.mpr ⟨mwL_311, List.forall_mem_cons.mpr ⟨mwL_312, List.forall_mem_cons.mpr ⟨mwL_313, List.forall_mem_cons.mpr ⟨mwL_314, List.forall_mem_cons.mpr ⟨mwL_315, List.forall_mem_cons.mpr ⟨mwL_316, List.forall_mem_cons.mpr ⟨mwL_132, List.forall_mem_cons.mpr ⟨mwL_566, List.forall_mem_cons.mpr ⟨mwL_567, List.forall_mem_cons.mpr ⟨mwL_568, List.forall_mem_cons.mpr ⟨mwL_569, List.forall_mem_cons.mpr ⟨mwL_570, List.forall_mem_cons.mpr ⟨mwL_571, List.forall_mem_cons.mpr ⟨mwL_572, List.forall_mem_cons.mpr ⟨mwL_573, List.forall_mem_cons.mpr ⟨mwL_333, List.forall_mem_cons.mpr ⟨mwL_334, List.forall_mem_cons.mpr ⟨mwL_335, List.forall_mem_cons.mpr ⟨mwL_336, List.forall_mem_cons.mpr ⟨mwL_574, fun _ h => absurd h List.not_mem_nil⟩⟩⟩⟩⟩⟩⟩⟩⟩⟩⟩⟩⟩⟩⟩⟩⟩⟩⟩⟩⟩⟩⟩⟩)
theorem bL_wsX12_pass_r2 : ∀ w ∈ wsX12_pass_r2, w ∈ wsL_law := (List.forall_mem_cons.mpr ⟨mwL_575, List.forall_mem_cons.mpr ⟨mwL_576, List.forall_mem_cons.mpr ⟨mwL_353, List.forall_mem_cons.mpr ⟨mwL_354, List.forall_mem_cons.mpr ⟨mwL_355, List.forall_mem_cons.mpr ⟨mwL_356, List.forall_mem_cons.mpr ⟨mwL_357, List.forall_mem_cons.mpr ⟨mwL_358, List.forall_mem_cons.mpr ⟨mwL_359, List.forall_mem_cons.mpr ⟨mwL_360, List.forall_mem_cons.mpr ⟨mwL_329, List.forall_mem_cons.mpr ⟨mwL_330, List.forall_mem_cons.mpr ⟨mwL_331, List.forall_mem_cons.mpr ⟨mwL_332, List.forall_mem_cons.mpr ⟨mwL_337, List.forall_mem_cons.mpr ⟨mwL_338, List.forall_mem_cons.mpr ⟨mwL_339, List.forall_mem_cons.mpr ⟨mwL_340, List.forall_mem_cons.mpr ⟨mwL_341, List.forall_mem_cons.mpr ⟨mwL_342, List.forall_mem_cons.mpr ⟨mwL_343, List.forall_mem_cons.mpr ⟨mwL_344, List.forall_mem_cons.mpr ⟨mwL_345, List.forall_mem_cons.mpr ⟨mwL_346, fun _ h => absurd h List.not_mem_nil⟩⟩⟩⟩⟩⟩⟩⟩⟩⟩⟩⟩⟩⟩⟩⟩⟩⟩⟩⟩⟩⟩⟩⟩)
theorem bL_wsX12_pass_r3 : ∀ w ∈ wsX12_pass_r3, w ∈ wsL_law := (List.forall_mem_cons.mpr ⟨mwL_347, List.forall_mem_cons.mpr ⟨mwL_348, List.forall_mem_cons.mpr ⟨mwL_349, List.forall_mem_cons.mpr ⟨mwL_350, List.forall_mem_cons.mpr ⟨mwL_351, List.forall_mem_cons.mpr ⟨mwL_352, List.forall_mem_cons.mpr ⟨mwL_321, List.forall_mem_cons.mpr ⟨mwL_322, List.forall_mem_cons.mpr ⟨mwL_323, List.forall_mem_cons.mpr ⟨mwL_324, fun _ h => absurd h List.not_mem_nil⟩⟩⟩⟩⟩⟩⟩⟩⟩⟩)
set_option maxRecDepth 20000 in
theorem ggL_law_X12_pass : GoodIn wsL_law wsX12_pass := goodIn_sub (List.forall_mem_cons.mpr ⟨mwL_565, List.forall_mem_append.mpr ⟨List.forall_mem_append.mpr ⟨bL_wsX12_pass_r1, List.forall_mem_append.mpr ⟨bL_wsX12_pass_r2, bL_wsX12_pass_r3⟩⟩, inlX12⟩⟩) (by decide +kernel)
theorem gL_law_X12_pass : GoodIn wsL_law (wsV RL 47 RX12 yX12_pass wsX12_pass) := goodIn_app (goodIn_sub (List.forall_mem_cons.mpr ⟨mwL_562, List.forall_mem_cons.mpr ⟨mwL_563, List.forall_mem_cons.mpr ⟨mwL_564, List.forall_mem_cons.mpr ⟨mwL_5, fun _ h => absurd h List.not_mem_nil⟩⟩⟩⟩) (by decide +kernel)) ggL_law_X12_pass
set_option maxRecDepth 20000 in
theorem ggL_law_X11_type : GoodIn wsL_law wsX11_type := goodIn_sub (List.forall_mem_cons.mpr ⟨mwL_580, List.forall_mem_append.mpr ⟨List.forall_mem_append.mpr ⟨(List.forall_mem_cons.mpr ⟨mwL_27, List.forall_mem_cons.mpr ⟨mwL_581, List.forall_mem_cons.mpr ⟨mwL_582, List.forall_mem_cons.mpr ⟨mwL_583, List.forall_mem_cons.mpr ⟨mwL_584, List.forall_mem_cons.mpr ⟨mwL_26, List.forall_mem_cons.mpr ⟨mwL_585, List.forall_mem_cons.mpr ⟨mwL_385, List.forall_mem_cons.mpr ⟨mwL_118, fun _ h => absurd h List.not_mem_nil⟩⟩⟩⟩⟩⟩⟩⟩⟩), inlX11⟩, inlX7⟩⟩) (by decide +kernel)
theorem gL_law_X11_type : GoodIn wsL_law (wsV RL 48 RX11 yX11_type wsX11_type) := goodIn_app (goodIn_sub (List.forall_mem_cons.mpr ⟨mwL_577, List.forall_mem_cons.mpr ⟨mwL_578, List.forall_mem_cons.mpr ⟨mwL_579, List.forall_mem_cons.mpr ⟨mwL_2, fun _ h => absurd h List.not_mem_nil⟩⟩⟩⟩) (by decide +kernel)) ggL_law_X11_type
set_option maxRecDepth 20000 in
theorem ggL_law_X12_type : GoodIn wsL_law wsX12_type := goodIn_sub (List.forall_mem_cons.mpr ⟨mwL_589, List.forall_mem_append.mpr ⟨(List.forall_mem_cons.mpr ⟨mwL_420, List.forall_mem_cons.mpr ⟨mwL_134, fun _ h => absurd h List.not_mem_nil⟩⟩), inlX12⟩⟩) (by decide +kernel)
theorem gL_law_X12_type : GoodIn wsL_law (wsV RL 52 RX12 yX12_type wsX12_type) := goodIn_app (goodIn_sub (List.forall_mem_cons.mpr ⟨mwL_586, List.forall_mem_cons.mpr ⟨mwL_587, List.forall_mem_cons.mpr ⟨mwL_588, List.forall_mem_cons.mpr ⟨mwL_5, fun _ h => absurd h List.not_mem_nil⟩⟩⟩⟩) (by decide +kernel)) ggL_law_X12_type
set_option maxRecDepth 20000 in
theorem ggL_law_X11_clearText : GoodIn wsL_law wsX11_clearText := goodIn_sub (List.forall_mem_cons.mpr ⟨mwL_593, List.forall_mem_append.mpr ⟨List.forall_mem_append.mpr ⟨(List.forall_mem_cons.mpr ⟨mwL_27, List.forall_mem_cons.mpr ⟨mwL_581, fun _ h => absurd h List.not_mem_nil⟩⟩), inlX11⟩, inlX7⟩⟩) (by decide +kernel)
theorem gL_law_X11_clearText : GoodIn wsL_law (wsV RL 53 RX11 yX11_clearText wsX11_clearText) := goodIn_app (goodIn_sub (List.forall_mem_cons.mpr ⟨mwL_590, List.forall_mem_cons.mpr ⟨mwL_591, List.forall_mem_cons.mpr ⟨mwL_592, List.forall_mem_cons.mpr ⟨mwL_2, fun _ h => absurd h List.not_mem_nil⟩⟩⟩⟩) (by decide +kernel)) ggL_law_X11_clearText
set_option maxRecDepth 20000 in
theorem ggL_law_X12_clearText : GoodIn wsL_law wsX12_clearText := goodIn_sub (List.forall_mem_cons.mpr ⟨mwL_597, List.forall_mem_append.mpr ⟨(List.forall_mem_cons.mpr ⟨mwL_420, fun _ h => absurd h List.not_mem_nil⟩), inlX12⟩⟩) (by decide +kernel)
theorem gL_law_X12_clearText : GoodIn wsL_law (wsV RL 56 RX12 yX12_clearText wsX12_clearText) := goodIn_app (goodIn_sub (List.forall_mem_cons.mpr ⟨mwL_594, List.forall_mem_cons.mpr ⟨mwL_595, List.forall_mem_cons.mpr ⟨mwL_596, List.forall_mem_cons.mpr ⟨mwL_5, fun _ h => absurd h List.not_mem_nil⟩⟩⟩⟩) (by decide +kernel)) ggL_law_X12_clearText
theorem bL_wsX11_undo_r1 : ∀ w ∈ wsX11_undo_r1, w ∈ wsL_law := (List.forall_mem_cons.mpr ⟨mwL_19, List.forall_mem_cons.mpr ⟨mwL_15, List.forall_mem_cons.mpr ⟨mwL_602, List.forall_mem_cons.mpr ⟨mwL_603, List.forall_mem_cons.mpr ⟨mwL_604, List.forall_mem_cons.mpr ⟨mwL_605, List.forall_mem_cons.mpr ⟨mwL_18, List.forall_mem_cons.mpr ⟨mwL_606, List.forall_mem_cons.mpr ⟨mwL_151, List.forall_mem_cons.mpr ⟨mwL_113, List.forall_mem_cons.mpr ⟨mwL_607, List.forall_mem_cons.mpr ⟨mwL_608, List.forall_mem_cons.mpr ⟨mwL_609, List.forall_mem_cons.mpr ⟨mwL_14, List.forall_mem_cons.mpr ⟨mwL_610, List.forall_mem_cons.mpr ⟨mwL_36, List.forall_mem_cons.mpr ⟨mwL_611, List.forall_mem_cons.mpr ⟨mwL_157, List.forall_mem_cons.mpr ⟨mwL_158, List.forall_mem_cons.mpr ⟨mwL_22, List.forall_mem_cons.mpr ⟨mwL_159, List.forall_mem_cons.mpr ⟨mwL_160, List.forall_mem_cons.mpr ⟨mwL_51, List.forall_mem_cons.mpr ⟨mwL_55, fun _ h => absurd h List.not_mem_nil⟩⟩⟩⟩⟩⟩⟩⟩⟩⟩⟩⟩⟩⟩⟩⟩⟩⟩⟩⟩⟩⟩⟩⟩)
theorem bL_wsX11_undo_r2 : ∀ w ∈ wsX11_undo_r2, w ∈ wsL_law := (List.forall_mem_cons.mpr ⟨mwL_59, List.forall_mem_cons.mpr ⟨mwL_161, List.forall_mem_cons.mpr ⟨mwL_162, List.forall_mem_cons.mpr ⟨mwL_163, List.forall_mem_cons.mpr ⟨mwL_50, List.forall_mem_cons.mpr ⟨mwL_164, List.forall_mem_cons.mpr ⟨mwL_165, List.forall_mem_cons.mpr ⟨mwL_166, List.forall_mem_cons.mpr ⟨mwL_64, List.forall_mem_cons.mpr ⟨mwL_167, List.forall_mem_cons.mpr ⟨mwL_168, List.forall_mem_cons.mpr ⟨mwL_169, List.forall_mem_cons.mpr ⟨mwL_170, List.forall_mem_cons.mpr ⟨mwL_65, List.forall_mem_cons.mpr ⟨mwL_66, List.forall_mem_cons.mpr ⟨mwL_67, List.forall_mem_cons.mpr ⟨mwL_68, List.forall_mem_cons.mpr ⟨mwL_69, List.forall_mem_cons.mpr ⟨mwL_171, List.forall_mem_cons.mpr ⟨mwL_172, List.forall_mem_cons.mpr ⟨mwL_173, List.forall_mem_cons.mpr ⟨mwL_54, List.forall_mem_cons.mpr ⟨mwL_174, List.forall_mem_cons.mpr ⟨mwL_175, fun _ h => absurd h List.not_mem_nil⟩⟩⟩⟩⟩⟩⟩⟩⟩⟩⟩⟩⟩⟩⟩⟩⟩⟩⟩⟩⟩⟩⟩⟩)
theorem bL_wsX11_undo_r3 : ∀ w ∈ wsX11_undo_r3, w ∈ wsL_law := (List.forall_mem_cons.mpr ⟨mwL_73, List.forall_mem_cons.mpr ⟨mwL_176, List.forall_mem_cons.mpr ⟨mwL_74, List.forall_mem_cons.mpr ⟨mwL_76, List.forall_mem_cons.mpr ⟨mwL_77, List.forall_mem_cons.mpr ⟨mwL_78, List.forall_mem_cons.mpr ⟨mwL_79, List.forall_mem_cons.mpr ⟨mwL_80, List.forall_mem_cons.mpr ⟨mwL_82, List.forall_mem_cons.mpr ⟨mwL_177, List.forall_mem_cons.mpr ⟨mwL_178, List.forall_mem_cons.mpr ⟨mwL_179, List.forall_mem_cons.mpr ⟨mwL_58, List.forall_mem_cons.mpr ⟨mwL_180, List.forall_mem_cons.mpr ⟨mwL_181, List.forall_mem_cons.mpr ⟨mwL_182, List.forall_mem_cons.mpr ⟨mwL_86, List.forall_mem_cons.mpr ⟨mwL_183, List.forall_mem_cons.mpr ⟨mwL_87, List.forall_mem_cons.mpr ⟨mwL_88, List.forall_mem_cons.mpr ⟨mwL_89, List.forall_mem_cons.mpr ⟨mwL_193, List.forall_mem_cons.mpr ⟨mwL_194, List.forall_mem_cons.mpr ⟨mwL_195, fun _ h => absurd h List.not_mem_nil⟩⟩⟩⟩⟩⟩⟩⟩⟩⟩⟩⟩⟩⟩⟩⟩⟩⟩⟩⟩⟩⟩⟩⟩)
theorem bL_wsX11_undo_r4 : ∀ w ∈ wsX11_undo_r4, w ∈ wsL_law := (List.forall_mem_cons.mpr ⟨mwL_196, List.forall_mem_cons.mpr ⟨mwL_40, List.forall_mem_cons.mpr ⟨mwL_188, List.forall_mem_cons.mpr ⟨mwL_44, List.forall_mem_cons.mpr ⟨mwL_197, List.forall_mem_cons.mpr ⟨mwL_198, List.forall_mem_cons.mpr ⟨mwL_199, List.forall_mem_cons.mpr ⟨mwL_39, List.forall_mem_cons.mpr ⟨mwL_200, List.forall_mem_cons.mpr ⟨mwL_93, List.forall_mem_cons.mpr ⟨mwL_201, List.forall_mem_cons.mpr ⟨mwL_202, List.forall_mem_cons.mpr ⟨mwL_203, List.forall_mem_cons.mpr ⟨mwL_204, List.forall_mem_cons.mpr ⟨mwL_205, List.forall_mem_cons.mpr ⟨mwL_206, List.forall_mem_cons.mpr ⟨mwL_207, List.forall_mem_cons.mpr ⟨mwL_208, List.forall_mem_cons.mpr ⟨mwL_209, List.forall_mem_cons.mpr ⟨mwL_210, List.forall_mem_cons.mpr ⟨mwL_211, List.forall_mem_cons.mpr ⟨mwL_212, List.forall_mem_cons.mpr ⟨mwL_2, List.forall_mem_cons.mpr ⟨mwL_213, fun _ h => absurd h List.not_mem_nil⟩⟩⟩⟩⟩⟩⟩⟩⟩⟩⟩⟩⟩⟩⟩⟩⟩⟩⟩⟩⟩⟩⟩⟩)
theorem bL_wsX11_undo_r5 : ∀ w ∈ wsX11_undo_r5, w ∈ wsL_law := (List.forall_mem_cons.mpr ⟨mwL_214, List.forall_mem_cons.mpr ⟨mwL_215, List.forall_mem_cons.mpr ⟨mwL_216, List.forall_mem_cons.mpr ⟨mwL_217, List.forall_mem_cons.mpr ⟨mwL_145, List.forall_mem_cons.mpr ⟨mwL_146, List.forall_mem_cons.mpr ⟨mwL_218, List.forall_mem_cons.mpr ⟨mwL_219, List.forall_mem_cons.mpr ⟨mwL_220, List.forall_mem_cons.mpr ⟨mwL_43, List.forall_mem_cons.mpr ⟨mwL_221, List.forall_mem_cons.mpr ⟨mwL_99, List.forall_mem_cons.mpr ⟨mwL_100, List.forall_mem_cons.mpr ⟨mwL_222, List.forall_mem_cons.mpr ⟨mwL_223, List.forall_mem_cons.mpr ⟨mwL_224, List.forall_mem_cons.mpr ⟨mwL_225, List.forall_mem_cons.mpr ⟨mwL_226, List.forall_mem_cons.mpr ⟨mwL_227, List.forall_mem_cons.mpr ⟨mwL_228, List.forall_mem_cons.mpr ⟨mwL_229, List.forall_mem_cons.mpr ⟨mwL_230, List.forall_mem_cons.mpr ⟨mwL_231, List.forall_mem_cons.mpr ⟨mwL_232, fun _ h => absurd h List.not_mem_nil⟩⟩⟩⟩⟩⟩⟩⟩⟩⟩⟩⟩⟩⟩⟩⟩⟩⟩⟩⟩⟩⟩⟩⟩)
theorem bL_wsX11_undo_r6 : ∀ w ∈ wsX11_undo_r6, w ∈ wsL_law := (List.forall_mem_cons.mpr ⟨mwL_104, List.forall_mem_cons.mpr ⟨mwL_233, List.forall_mem_cons.mpr ⟨mwL_97, List.forall_mem_cons.mpr ⟨mwL_98, List.forall_mem_cons.mpr ⟨mwL_234, List.forall_mem_cons.mpr ⟨mwL_235, List.forall_mem_cons.mpr ⟨mwL_236, List.forall_mem_cons.mpr ⟨mwL_237, List.forall_mem_cons.mpr ⟨mwL_103, List.forall_mem_cons.mpr ⟨mwL_238, List.forall_mem_cons.mpr ⟨mwL_239, List.forall_mem_cons.mpr ⟨mwL_240, List.forall_mem_cons.mpr ⟨mwL_241, List.forall_mem_cons.mpr ⟨mwL_242, List.forall_mem_cons.mpr ⟨mwL_243, List.forall_mem_cons.mpr ⟨mwL_244, List.forall_mem_cons.mpr ⟨mwL_245, List.forall_mem_cons.mpr ⟨mwL_246, List.forall_mem_cons.mpr ⟨mwL_247, List.forall_mem_cons.mpr ⟨mwL_248, List.forall_mem_cons.mpr ⟨mwL_249, List.forall_mem_cons.mpr ⟨mwL_250, List.forall_mem_cons.mpr ⟨mwL_251, List.forall_mem_cons.mpr ⟨mwL_252, fun _ h => absurd h List.not_mem_nil⟩⟩⟩⟩⟩⟩⟩⟩⟩⟩⟩⟩⟩⟩⟩⟩⟩⟩⟩⟩⟩⟩⟩⟩)
theorem bL_wsX11_undo_r7 : ∀ w ∈ wsX11_undo_r7, w ∈ wsL_law := (List.forall_mem_cons.mpr ⟨mwL_253, List.forall_mem_cons.mpr ⟨mwL_254, List.forall_mem_cons.mpr ⟨mwL_255, List.forall_mem_cons.mpr ⟨mwL_256, List.forall_mem_cons.mpr ⟨mwL_257, fun _ h => absurd h List.not_mem_nil⟩⟩⟩⟩⟩)
set_option maxRecDepth 20000 in
theorem ggL_law_X11_undo : GoodIn wsL_law wsX11_undo := goodIn_sub (List.forall_mem_cons.mpr ⟨mwL_601, List.forall_mem_append.mpr ⟨List.forall_mem_append.mpr ⟨List.forall_mem_append.mpr ⟨List.forall_mem_append.mpr ⟨List.forall_mem_append.mpr ⟨List.forall_mem_append.mpr ⟨List.forall_mem_append.mpr ⟨List.forall_mem_append.mpr ⟨List.forall_mem_append.mpr ⟨List.forall_mem_append.mpr ⟨List.forall_mem_append.mpr ⟨bL_wsX11_undo_r1, List.forall_mem_append.mpr ⟨bL_wsX11_undo_r2, List.forall_mem_append.mpr ⟨bL_wsX11_undo_r3, List.forall_mem_append.mpr ⟨bL_wsX11_undo_r4, List.forall_mem_append.mpr ⟨bL_wsX11_undo_r5, List.forall_mem_append.mpr ⟨bL_wsX11_undo_r6, bL_wsX11_undo_r7⟩⟩⟩⟩⟩⟩, inlX11⟩, inlX1⟩, inlX2⟩, inlX6⟩, inlX5⟩, inlX9⟩, inlX3⟩, inlX0⟩, inlX8⟩, inlX10⟩⟩) (by decide +kernel)
theorem gL_law_X11_undo : GoodIn wsL_law (wsV RL 57 RX11 yX11_undo wsX11_undo) := goodIn_app (goodIn_sub (List.forall_mem_cons.mpr ⟨mwL_598, List.forall_mem_cons.mpr ⟨mwL_599, List.forall_mem_cons.mpr ⟨mwL_600, List.forall_mem_cons.mpr ⟨mwL_2, fun _ h => absurd h List.not_mem_nil⟩⟩⟩⟩) (by decide +kernel)) ggL_law_X11_undo
set_option maxRecDepth 20000 in
theorem ggL_law_X12_undo : GoodIn wsL_law wsX12_undo := goodIn_sub (List.forall_mem_cons.mpr ⟨mwL_615, List.forall_mem_append.mpr ⟨(List.forall_mem_cons.mpr ⟨mwL_316, List.forall_mem_cons.mpr ⟨mwL_131, List.forall_mem_cons.mpr ⟨mwL_132, fun _ h => absurd h List.not_mem_nil⟩⟩⟩), inlX12⟩⟩) (by decide +kernel)
theorem gL_law_X12_undo : GoodIn wsL_law (wsV RL 60 RX12 yX12_undo wsX12_undo) := goodIn_app (goodIn_sub (List.forall_mem_cons.mpr ⟨mwL_612, List.forall_mem_cons.mpr ⟨mwL_613, List.forall_mem_cons.mpr ⟨mwL_614, List.forall_mem_cons.mpr ⟨mwL_5, fun _ h => absurd h List.not_mem_nil⟩⟩⟩⟩) (by decide +kernel)) ggL_law_X12_undo
theorem bL_wsX11_keep_r1 : ∀ w ∈ wsX11_keep_r1, w ∈ wsL_law := (List.forall_mem_cons.mpr ⟨mwL_23, List.forall_mem_cons.mpr ⟨mwL_15, List.forall_mem_cons.mpr ⟨mwL_141, List.forall_mem_cons.mpr ⟨mwL_620, List.forall_mem_cons.mpr ⟨mwL_142, List.forall_mem_cons.mpr ⟨mwL_621, List.forall_mem_cons.mpr ⟨mwL_157, List.forall_mem_cons.mpr ⟨mwL_158, List.forall_mem_cons.mpr ⟨mwL_22, List.forall_mem_cons.mpr ⟨mwL_159, List.forall_mem_cons.mpr ⟨mwL_160, List.forall_mem_cons.mpr ⟨mwL_51, List.forall_mem_cons.mpr ⟨mwL_55, List.forall_mem_cons.mpr ⟨mwL_59, List.forall_mem_cons.mpr ⟨mwL_161, List.forall_mem_cons.mpr ⟨mwL_162, List.forall_mem_cons.mpr ⟨mwL_163, List.forall_mem_cons.mpr ⟨mwL_50, List.forall_mem_cons.mpr ⟨mwL_164, List.forall_mem_cons.mpr ⟨mwL_165, List.forall_mem_cons.mpr ⟨mwL_166, List.forall_mem_cons.mpr ⟨mwL_64, List.forall_mem_cons.mpr ⟨mwL_167, List.forall_mem_cons.mpr ⟨mwL_168, fun _ h => absurd h List.not_mem_nil⟩⟩⟩⟩⟩⟩⟩⟩⟩⟩⟩⟩⟩⟩⟩⟩⟩⟩⟩⟩⟩⟩⟩⟩)
theorem bL_wsX11_keep_r2 : ∀ w ∈ wsX11_keep_r2, w ∈ wsL_law := (List.forall_mem_cons.mpr ⟨mwL_169, List.forall_mem_cons.mpr ⟨mwL_170, List.forall_mem_cons.mpr ⟨mwL_65, List.forall_mem_cons.mpr ⟨mwL_66, List.forall_mem_cons.mpr ⟨mwL_67, List.forall_mem_cons.mpr ⟨mwL_68, List.forall_mem_cons.mpr ⟨mwL_69, List.forall_mem_cons.mpr ⟨mwL_171, List.forall_mem_cons.mpr ⟨mwL_172, List.forall_mem_cons.mpr ⟨mwL_173, List.forall_mem_cons.mpr ⟨mwL_54, List.forall_mem_cons.mpr ⟨mwL_174, List.forall_mem_cons.mpr ⟨mwL_175, List.forall_mem_cons.mpr ⟨mwL_73, List.forall_mem_cons.mpr ⟨mwL_176, List.forall_mem_cons.mpr ⟨mwL_74, List.forall_mem_cons.mpr ⟨mwL_76, List.forall_mem_cons.mpr ⟨mwL_77, List.forall_mem_cons.mpr ⟨mwL_78, List.forall_mem_cons.mpr ⟨mwL_79, List.forall_mem_cons.mpr ⟨mwL_80, List.forall_mem_cons.mpr ⟨mwL_82, List.forall_mem_cons.mpr ⟨mwL_177, List.forall_mem_cons.mpr ⟨mwL_178, fun _ h => absurd h List.not_mem_nil⟩⟩⟩⟩⟩⟩⟩⟩⟩⟩⟩⟩⟩⟩⟩⟩⟩⟩⟩⟩⟩⟩⟩⟩)
theorem bL_wsX11_keep_r3 : ∀ w ∈ wsX11_keep_r3, w ∈ wsL_law := (List.forall_mem_cons.mpr ⟨mwL_179, List.forall_mem_cons.mpr ⟨mwL_58, List.forall_mem_cons.mpr ⟨mwL_180, List.forall_mem_cons.mpr ⟨mwL_181, List.forall_mem_cons.mpr ⟨mwL_182, List.forall_mem_cons.mpr ⟨mwL_86, List.forall_mem_cons.mpr ⟨mwL_183, List.forall_mem_cons.mpr ⟨mwL_87, List.forall_mem_cons.mpr ⟨mwL_88, List.forall_mem_cons.mpr ⟨mwL_89, List.forall_mem_cons.mpr ⟨mwL_622, List.forall_mem_cons.mpr ⟨mwL_623, List.forall_mem_cons.mpr ⟨mwL_624, List.forall_mem_cons.mpr ⟨mwL_625, List.forall_mem_cons.mpr ⟨mwL_626, List.forall_mem_cons.mpr ⟨mwL_299, List.forall_mem_cons.mpr ⟨mwL_300, List.forall_mem_cons.mpr ⟨mwL_301, List.forall_mem_cons.mpr ⟨mwL_302, List.forall_mem_cons.mpr ⟨mwL_303, List.forall_mem_cons.mpr ⟨mwL_304, fun _ h => absurd h List.not_mem_nil⟩⟩⟩⟩⟩⟩⟩⟩⟩⟩⟩⟩⟩⟩⟩⟩⟩⟩⟩⟩⟩)
set_option maxRecDepth 20000 in
theorem ggL_law_X11_keep : GoodIn wsL_law wsX11_keep := goodIn_sub (List.forall_mem_cons.mpr ⟨mwL_619, List.forall_mem_append.mpr ⟨List.forall_mem_append.mpr ⟨List.forall_mem_append.mpr ⟨List.forall_mem_append.mpr ⟨List.forall_mem_append.mpr ⟨List.forall_mem_append.mpr ⟨List.forall_mem_append.mpr ⟨bL_wsX11_keep_r1, List.forall_mem_append.mpr ⟨bL_wsX11_keep_r2, bL_wsX11_keep_r3⟩⟩, inlX11⟩, inlX2⟩, inlX6⟩, inlX5⟩, inlX9⟩, inlX3⟩⟩) (by decide +kernel)
theorem gL_law_X11_keep : GoodIn wsL_law (wsV RL 61 RX11 yX11_keep wsX11_keep) := goodIn_app (goodIn_sub (List.forall_mem_cons.mpr ⟨mwL_616, List.forall_mem_cons.mpr ⟨mwL_617, List.forall_mem_cons.mpr ⟨mwL_618, List.forall_mem_cons.mpr ⟨mwL_2, fun _ h => absurd h List.not_mem_nil⟩⟩⟩⟩) (by decide +kernel)) ggL_law_X11_keep
set_option maxRecDepth 20000 in
theorem ggL_law_X12_keep : GoodIn wsL_law wsX12_keep := goodIn_sub (List.forall_mem_cons.mpr ⟨mwL_630, List.forall_mem_append.mpr ⟨(List.forall_mem_cons.mpr ⟨mwL_133, List.forall_mem_cons.mpr ⟨mwL_131, List.forall_mem_cons.mpr ⟨mwL_631, List.forall_mem_cons.mpr ⟨mwL_632, List.forall_mem_cons.mpr ⟨mwL_633, List.forall_mem_cons.mpr ⟨mwL_634, List.forall_mem_cons.mpr ⟨mwL_5, List.forall_mem_cons.mpr ⟨mwL_635, List.forall_mem_cons.mpr ⟨mwL_349, List.forall_mem_cons.mpr ⟨mwL_350, List.forall_mem_cons.mpr ⟨mwL_351, List.forall_mem_cons.mpr ⟨mwL_352, fun _ h => absurd h List.not_mem_nil⟩⟩⟩⟩⟩⟩⟩⟩⟩⟩⟩⟩), inlX12⟩⟩) (by decide +kernel)
theorem gL_law_X12_keep : GoodIn wsL_law (wsV RL 64 RX12 yX12_keep wsX12_keep) := goodIn_app (goodIn_sub (List.forall_mem_cons.mpr ⟨mwL_627, List.forall_mem_cons.mpr ⟨mwL_628, List.forall_mem_cons.mpr ⟨mwL_629, List.forall_mem_cons.mpr ⟨mwL_5, fun _ h => absurd h List.not_mem_nil⟩⟩⟩⟩) (by decide +kernel)) ggL_law_X12_keep
theorem bL_wsX11_restore_r1 : ∀ w ∈ wsX11_restore_r1, w ∈ wsL_law := (List.forall_mem_cons.mpr ⟨mwL_620, List.forall_mem_cons.mpr ⟨mwL_19, List.forall_mem_cons.mpr ⟨mwL_15, List.forall_mem_cons.mpr ⟨mwL_141, List.forall_mem_cons.mpr ⟨mwL_23, List.forall_mem_cons.mpr ⟨mwL_142, List.forall_mem_cons.mpr ⟨mwL_147, List.forall_mem_cons.mpr ⟨mwL_148, List.forall_mem_cons.mpr ⟨mwL_149, List.forall_mem_cons.mpr ⟨mwL_18, List.forall_mem_cons.mpr ⟨mwL_150, List.forall_mem_cons.mpr ⟨mwL_151, List.forall_mem_cons.mpr ⟨mwL_113, List.forall_mem_cons.mpr ⟨mwL_152, List.forall_mem_cons.mpr ⟨mwL_153, List.forall_mem_cons.mpr ⟨mwL_154, List.forall_mem_cons.mpr ⟨mwL_155, List.forall_mem_cons.mpr ⟨mwL_156, List.forall_mem_cons.mpr ⟨mwL_157, List.forall_mem_cons.mpr ⟨mwL_158, List.forall_mem_cons.mpr ⟨mwL_22, List.forall_mem_cons.mpr ⟨mwL_159, List.forall_mem_cons.mpr ⟨mwL_160, List.forall_mem_cons.mpr ⟨mwL_51, fun _ h => absurd h List.not_mem_nil⟩⟩⟩⟩⟩⟩⟩⟩⟩⟩⟩⟩⟩⟩⟩⟩⟩⟩⟩⟩⟩⟩⟩⟩)
theorem bL_wsX11_restore_r2 : ∀ w ∈ wsX11_restore_r2, w ∈ wsL_law := (List.forall_mem_cons.mpr ⟨mwL_55, List.forall_mem_cons.mpr ⟨mwL_59, List.forall_mem_cons.mpr ⟨mwL_161, List.forall_mem_cons.mpr ⟨mwL_162, List.forall_mem_cons.mpr ⟨mwL_163, List.forall_mem_cons.mpr ⟨mwL_50, List.forall_mem_cons.mpr ⟨mwL_164, List.forall_mem_cons.mpr ⟨mwL_165, List.forall_mem_cons.mpr ⟨mwL_166, List.forall_mem_cons.mpr ⟨mwL_64, List.forall_mem_cons.mpr ⟨mwL_167, List.forall_mem_cons.mpr ⟨mwL_168, List.forall_mem_cons.mpr ⟨mwL_169, List.forall_mem_cons.mpr ⟨mwL_170, List.forall_mem_cons.mpr ⟨mwL_65, List.forall_mem_cons.mpr ⟨mwL_66, List.forall_mem_cons.mpr ⟨mwL_67, List.forall_mem_cons.mpr ⟨mwL_68, List.forall_mem_cons.mpr ⟨mwL_69, List.forall_mem_cons.mpr ⟨mwL_171, List.forall_mem_cons.mpr ⟨mwL_172, List.forall_mem_cons.mpr ⟨mwL_173, List.forall_mem_cons.mpr ⟨mwL_54, List.forall_mem_cons.mpr ⟨mwL_174, fun _ h => absurd h List.not_mem_nil⟩⟩⟩⟩⟩⟩⟩⟩⟩⟩⟩⟩⟩⟩⟩⟩⟩⟩⟩⟩⟩⟩⟩⟩)
theorem bL_wsX11_restore_r3 : ∀ w ∈ wsX11_restore_r3, w ∈ wsL_law := (List.forall_mem_cons.mpr ⟨mwL_175, List.forall_mem_cons.mpr ⟨mwL_73, List.forall_mem_cons.mpr ⟨mwL_176, List.forall_mem_cons.mpr ⟨mwL_74, List.forall_mem_cons.mpr ⟨mwL_76, List.forall_mem_cons.mpr ⟨mwL_77, List.forall_mem_cons.mpr ⟨mwL_78, List.forall_mem_cons.mpr ⟨mwL_79, List.forall_mem_cons.mpr ⟨mwL_80, List.forall_mem_cons.mpr ⟨mwL_82, List.forall_mem_cons.mpr ⟨mwL_177, List.forall_mem_cons.mpr ⟨mwL_178, List.forall_mem_cons.mpr ⟨mwL_179, List.forall_mem_cons.mpr ⟨mwL_58, List.forall_mem_cons.mpr ⟨mwL_180, List.forall_mem_cons.mpr ⟨mwL_181, List.forall_mem_cons.mpr ⟨mwL_182, List.forall_mem_cons.mpr ⟨mwL_86, List.forall_mem_cons.mpr ⟨mwL_183, List.forall_mem_cons.mpr ⟨mwL_87, List.forall_mem_cons.mpr ⟨mwL_88, List.forall_mem_cons.mpr ⟨mwL_89, List.forall_mem_cons.mpr ⟨mwL_607, List.forall_mem_cons.mpr ⟨mwL_608, fun _ h => absurd h List.not_mem_nil⟩⟩⟩⟩⟩⟩⟩⟩⟩⟩⟩⟩⟩⟩⟩⟩⟩⟩⟩⟩⟩⟩⟩⟩)
theorem bL_wsX11_restore_r4 : ∀ w ∈ wsX11_restore_r4, w ∈ wsL_law := (List.forall_mem_cons.mpr ⟨mwL_609, List.forall_mem_cons.mpr ⟨mwL_14, List.forall_mem_cons.mpr ⟨mwL_610, List.forall_mem_cons.mpr ⟨mwL_36, List.forall_mem_cons.mpr ⟨mwL_611, List.forall_mem_cons.mpr ⟨mwL_193, List.forall_mem_cons.mpr ⟨mwL_194, List.forall_mem_cons.mpr ⟨mwL_195, List.forall_mem_cons.mpr ⟨mwL_196, List.forall_mem_cons.mpr ⟨mwL_40, List.forall_mem_cons.mpr ⟨mwL_188, List.forall_mem_cons.mpr ⟨mwL_44, List.forall_mem_cons.mpr ⟨mwL_197, List.forall_mem_cons.mpr ⟨mwL_198, List.forall_mem_cons.mpr ⟨mwL_199, List.forall_mem_cons.mpr ⟨mwL_39, List.forall_mem_cons.mpr ⟨mwL_200, List.forall_mem_cons.mpr ⟨mwL_93, List.forall_mem_cons.mpr ⟨mwL_201, List.forall_mem_cons.mpr ⟨mwL_202, List.forall_mem_cons.mpr ⟨mwL_203, List.forall_mem_cons.mpr ⟨mwL_204, List.forall_mem_cons.mpr ⟨mwL_205, List.forall_mem_cons.mpr ⟨mwL_206, fun _ h => absurd h List.not_mem_nil⟩⟩⟩⟩⟩⟩⟩⟩⟩⟩⟩⟩⟩⟩⟩⟩⟩⟩⟩⟩⟩⟩⟩⟩)
theorem bL_wsX11_restore_r5 : ∀ w ∈ wsX11_restore_r5, w ∈ wsL_law := (List.forall_mem_cons.mpr ⟨mwL_207, List.forall_mem_cons.mpr ⟨mwL_208, List.forall_mem_cons.mpr ⟨mwL_209, List.forall_mem_cons.mpr ⟨mwL_210, List.forall_mem_cons.mpr ⟨mwL_211, List.forall_mem_cons.mpr ⟨mwL_212, List.forall_mem_cons.mpr ⟨mwL_2, List.forall_mem_cons.mpr ⟨mwL_213, List.forall_mem_cons.mpr ⟨mwL_214, List.forall_mem_cons.mpr ⟨mwL_215, List.forall_mem_cons.mpr ⟨mwL_216, List.forall_mem_cons.mpr ⟨mwL_217, List.forall_mem_cons.mpr ⟨mwL_145, List.forall_mem_cons.mpr ⟨mwL_146, List.forall_mem_cons.mpr ⟨mwL_218, List.forall_mem_cons.mpr ⟨mwL_219, List.forall_mem_cons.mpr ⟨mwL_220, List.forall_mem_cons.mpr ⟨mwL_43, List.forall_mem_cons.mpr ⟨mwL_221, List.forall_mem_cons.mpr ⟨mwL_99, List.forall_mem_cons.mpr ⟨mwL_100, List.forall_mem_cons.mpr ⟨mwL_222, List.forall_mem_cons.mpr ⟨mwL_223, List.forall_mem_cons.mpr ⟨mwL_224, fun _ h => absurd h List.not_mem_nil⟩⟩⟩⟩⟩⟩⟩⟩⟩⟩⟩⟩⟩⟩⟩⟩⟩⟩⟩⟩⟩⟩⟩⟩)
theorem bL_wsX11_restore_r6 : ∀ w ∈ wsX11_restore_r6, w ∈ wsL_law := (List.forall_mem_cons.mpr ⟨mwL_225, List.forall_mem_cons.mpr ⟨mwL_226, List.forall_mem_cons.mpr ⟨mwL_227, List.forall_mem_cons.mpr ⟨mwL_228, List.forall_mem_cons.mpr ⟨mwL_229, List.forall_mem_cons.mpr ⟨mwL_230, List.forall_mem_cons.mpr ⟨mwL_231, List.forall_mem_cons.mpr ⟨mwL_232, List.forall_mem_cons.mpr ⟨mwL_104, List.forall_mem_cons.mpr ⟨mwL_233, List.forall_mem_cons.mpr ⟨mwL_97, List.forall_mem_cons.mpr ⟨mwL_98, List.forall_mem_cons.mpr ⟨mwL_234, List.forall_mem_cons.mpr ⟨mwL_235, List.forall_mem_cons.mpr ⟨mwL_236, List.forall_mem_cons.mpr ⟨mwL_237, List.forall_mem_cons.mpr ⟨mwL_103, List.forall_mem_cons.mpr ⟨mwL_238, List.forall_mem_cons.mpr ⟨mwL_239, List.forall_mem_cons.mpr ⟨mwL_240, List.forall_mem_cons.mpr ⟨mwL_241, List.forall_mem_cons.mpr ⟨mwL_242, List.forall_mem_cons.mpr ⟨mwL_243, List.forall_mem_cons.mpr ⟨mwL_244, fun _ h => absurd h List.not_mem_nil⟩⟩⟩⟩⟩⟩⟩⟩⟩⟩⟩⟩⟩⟩⟩⟩⟩⟩⟩⟩⟩⟩⟩⟩)
theorem bL_wsX11_restore_r7 : ∀ w ∈ wsX11_restore_r7, w ∈ wsL_law := (List.forall_mem_cons.mpr ⟨mwL_245, List.forall_mem_cons.mpr ⟨mwL_246, List.forall_mem_cons.mpr ⟨mwL_247, List.forall_mem_cons.mpr ⟨mwL_248, List.forall_mem_cons.mpr ⟨mwL_249, List.forall_mem_cons.mpr ⟨mwL_250, List.forall_mem_cons.mpr ⟨mwL_251, List.forall_mem_cons.mpr ⟨mwL_252, List.forall_mem_cons.mpr ⟨mwL_253, List.forall_mem_cons.mpr ⟨mwL_254, List.forall_mem_cons.mpr ⟨mwL_255, List.forall_mem_cons.mpr ⟨mwL_256, List.forall_mem_cons.mpr ⟨mwL_257, List.forall_mem_cons.mpr ⟨mwL_622, List.forall_mem_cons.mpr ⟨mwL_623, List.forall_mem_cons.mpr ⟨mwL_624, List.forall_mem_cons.mpr ⟨mwL_625, List.forall_mem_cons.mpr ⟨mwL_626, List.forall_mem_cons.mpr ⟨mwL_299, List.forall_mem_cons.mpr ⟨mwL_300, List.forall_mem_cons.mpr ⟨mwL_301, List.forall_mem_cons.mpr ⟨mwL_302, List.forall_mem_cons.mpr ⟨mwL_303, List.forall_mem_cons.mpr ⟨mwL_304, fun _ h => absurd h List.not_mem_nil⟩⟩⟩⟩⟩⟩⟩⟩⟩⟩⟩⟩⟩⟩⟩⟩⟩⟩⟩⟩⟩⟩⟩⟩)
set_option maxRecDepth 20000 in
theorem ggL_law_X11_restore : GoodIn wsL_law wsX11_restore := goodIn_sub (List.forall_mem_cons.mpr ⟨mwL_639, List.forall_mem_append.mpr ⟨List.forall_mem_append.mpr ⟨List.forall_mem_append.mpr ⟨List.forall_mem_append.mpr ⟨List.forall_mem_append.mpr ⟨List.forall_mem_append.mpr ⟨List.forall_mem_append.mpr ⟨List.forall_mem_append.mpr ⟨List.forall_mem_append.mpr ⟨List.forall_mem_append.mpr ⟨List.forall_mem_append.mpr ⟨bL_wsX11_restore_r1, List.forall_mem_append.mpr ⟨bL_wsX11_restore_r2, List.forall_mem_append.mpr ⟨bL_wsX11_restore_r3, List.forall_mem_append.mpr ⟨bL_wsX11_restore_r4, List.forall_mem_append.mpr ⟨bL_wsX11_restore_r5, List.forall_mem_append.mpr ⟨bL_wsX11_restore_r6, bL_wsX11_restore_r7⟩⟩⟩⟩⟩⟩, inlX11⟩, inlX2⟩, inlX6⟩, inlX1⟩, inlX5⟩, inlX9⟩, inlX3⟩, inlX0⟩, inlX8⟩, inlX10⟩⟩) (by decide +kernel)
theorem gL_law_X11_restore : GoodIn wsL_law (wsV RL 65 RX11 yX11_restore wsX11_restore) := goodIn_app (goodIn_sub (List.forall_mem_cons.mpr ⟨mwL_636, List.forall_mem_cons.mpr ⟨mwL_637, List.forall_mem_cons.mpr ⟨mwL_638, List.forall_mem_cons.mpr ⟨mwL_2, fun _ h => absurd h List.not_mem_nil⟩⟩⟩⟩) (by decide +kernel)) ggL_law_X11_restore
set_option maxRecDepth 20000 in
theorem ggL_law_X12_restore : GoodIn wsL_law wsX12_restore := goodIn_sub (List.forall_mem_cons.mpr ⟨mwL_643, List.forall_mem_append.mpr ⟨(List.forall_mem_cons.mpr ⟨mwL_631, List.forall_mem_cons.mpr ⟨mwL_131, List.forall_mem_cons.mpr ⟨mwL_133, List.forall_mem_cons.mpr ⟨mwL_312, List.forall_mem_cons.mpr ⟨mwL_313, List.forall_mem_cons.mpr ⟨mwL_314, List.forall_mem_cons.mpr ⟨mwL_5, List.forall_mem_cons.mpr ⟨mwL_315, List.forall_mem_cons.mpr ⟨mwL_316, List.forall_mem_cons.mpr ⟨mwL_132, List.forall_mem_cons.mpr ⟨mwL_632, List.forall_mem_cons.mpr ⟨mwL_633, List.forall_mem_cons.mpr ⟨mwL_634, List.forall_mem_cons.mpr ⟨mwL_635, List.forall_mem_cons.mpr ⟨mwL_349, List.forall_mem_cons.mpr ⟨mwL_350, List.forall_mem_cons.mpr ⟨mwL_351, List.forall_mem_cons.mpr ⟨mwL_352, fun _ h => absurd h List.not_mem_nil⟩⟩⟩⟩⟩⟩⟩⟩⟩⟩⟩⟩⟩⟩⟩⟩⟩⟩), inlX12⟩⟩) (by decide +kernel)
theorem gL_law_X12_restore : GoodIn wsL_law (wsV RL 68 RX12 yX12_restore wsX12_restore) := goodIn_app (goodIn_sub (List.forall_mem_cons.mpr ⟨mwL_640, List.forall_mem_cons.mpr ⟨mwL_641, List.forall_mem_cons.mpr ⟨mwL_642, List.forall_mem_cons.mpr ⟨mwL_5, fun _ h => absurd h List.not_mem_nil⟩⟩⟩⟩) (by decide +kernel)) ggL_law_X12_restore
theorem bL_wsX11_span_r1 : ∀ w ∈ wsX11_span_r1, w ∈ wsL_law := (List.forall_mem_cons.mpr ⟨mwL_15, List.forall_mem_cons.mpr ⟨mwL_141, List.forall_mem_cons.mpr ⟨mwL_142, List.forall_mem_cons.mpr ⟨mwL_468, List.forall_mem_cons.mpr ⟨mwL_469, List.forall_mem_cons.mpr ⟨mwL_648, List.forall_mem_cons.mpr ⟨mwL_649, List.forall_mem_cons.mpr ⟨mwL_650, List.forall_mem_cons.mpr ⟨mwL_651, List.forall_mem_cons.mpr ⟨mwL_652, List.forall_mem_cons.mpr ⟨mwL_486, List.forall_mem_cons.mpr ⟨mwL_653, List.forall_mem_cons.mpr ⟨mwL_654, List.forall_mem_cons.mpr ⟨mwL_442, List.forall_mem_cons.mpr ⟨mwL_443, List.forall_mem_cons.mpr ⟨mwL_444, List.forall_mem_cons.mpr ⟨mwL_50, List.forall_mem_cons.mpr ⟨mwL_445, List.forall_mem_cons.mpr ⟨mwL_165, List.forall_mem_cons.mpr ⟨mwL_446, List.forall_mem_cons.mpr ⟨mwL_209, List.forall_mem_cons.mpr ⟨mwL_210, List.forall_mem_cons.mpr ⟨mwL_211, List.forall_mem_cons.mpr ⟨mwL_166, fun _ h => absurd h List.not_mem_nil⟩⟩⟩⟩⟩⟩⟩⟩⟩⟩⟩⟩⟩⟩⟩⟩⟩⟩⟩⟩⟩⟩⟩⟩)
theorem bL_wsX11_span_r2 : ∀ w ∈ wsX11_span_r2, w ∈ wsL_law := (List.forall_mem_cons.mpr ⟨mwL_212, List.forall_mem_cons.mpr ⟨mwL_2, List.forall_mem_cons.mpr ⟨mwL_213, List.forall_mem_cons.mpr ⟨mwL_655, List.forall_mem_cons.mpr ⟨mwL_656, List.forall_mem_cons.mpr ⟨mwL_657, List.forall_mem_cons.mpr ⟨mwL_54, List.forall_mem_cons.mpr ⟨mwL_658, List.forall_mem_cons.mpr ⟨mwL_175, List.forall_mem_cons.mpr ⟨mwL_76, fun _ h => absurd h List.not_mem_nil⟩⟩⟩⟩⟩⟩⟩⟩⟩⟩)
set_option maxRecDepth 20000 in
theorem ggL_law_X11_span : GoodIn wsL_law wsX11_span := goodIn_sub (List.forall_mem_cons.mpr ⟨mwL_647, List.forall_mem_append.mpr ⟨List.forall_mem_append.mpr ⟨List.forall_mem_append.mpr ⟨List.forall_mem_append.mpr ⟨List.forall_mem_append.mpr ⟨List.forall_mem_append.mpr ⟨List.forall_mem_append.mpr ⟨bL_wsX11_span_r1, bL_wsX11_span_r2⟩, inlX11⟩, inlX2⟩, inlX6⟩, inlX5⟩, inlX8⟩, inlX9⟩⟩) (by decide +kernel)
theorem gL_law_X11_span : GoodIn wsL_law (wsV RL 69 RX11 yX11_span wsX11_span) := goodIn_app (goodIn_sub (List.forall_mem_cons.mpr ⟨mwL_644, List.forall_mem_cons.mpr ⟨mwL_645, List.forall_mem_cons.mpr ⟨mwL_646, List.forall_mem_cons.mpr ⟨mwL_2, fun _ h => absurd h List.not_mem_nil⟩⟩⟩⟩) (by decide +kernel)) ggL_law_X11_span
theorem bL_wsX12_span_r1 : ∀ w ∈ wsX12_span_r1, w ∈ wsL_law := (List.forall_mem_cons.mpr ⟨mwL_663, List.forall_mem_cons.mpr ⟨mwL_664, List.forall_mem_cons.mpr ⟨mwL_460, List.forall_mem_cons.mpr ⟨mwL_461, List.forall_mem_cons.mpr ⟨mwL_462, List.forall_mem_cons.mpr ⟨mwL_5, List.forall_mem_cons.mpr ⟨mwL_463, List.forall_mem_cons.mpr ⟨mwL_131, List.forall_mem_cons.mpr ⟨mwL_309, List.forall_mem_cons.mpr ⟨mwL_310, List.forall_mem_cons.mpr ⟨mwL_311, List.forall_mem_cons.mpr ⟨mwL_345, List.forall_mem_cons.mpr ⟨mwL_346, List.forall_mem_cons.mpr ⟨mwL_347, List.forall_mem_cons.mpr ⟨mwL_348, List.forall_mem_cons.mpr ⟨mwL_349, List.forall_mem_cons.mpr ⟨mwL_350, List.forall_mem_cons.mpr ⟨mwL_351, List.forall_mem_cons.mpr ⟨mwL_352, List.forall_mem_cons.mpr ⟨mwL_665, List.forall_mem_cons.mpr ⟨mwL_666, List.forall_mem_cons.mpr ⟨mwL_667, List.forall_mem_cons.mpr ⟨mwL_668, List.forall_mem_cons.mpr ⟨mwL_135, fun _ h => absurd h List.not_mem_nil⟩⟩⟩⟩⟩⟩⟩⟩⟩⟩⟩⟩⟩⟩⟩⟩⟩⟩⟩⟩⟩⟩⟩⟩)
theorem bL_wsX12_span_r2 : ∀ w ∈ wsX12_span_r2, w ∈ wsL_law := (List.forall_mem_cons.mpr ⟨mwL_136, List.forall_mem_cons.mpr ⟨mwL_669, List.forall_mem_cons.mpr ⟨mwL_670, List.forall_mem_cons.mpr ⟨mwL_671, List.forall_mem_cons.mpr ⟨mwL_672, List.forall_mem_cons.mpr ⟨mwL_337, List.forall_mem_cons.mpr ⟨mwL_338, List.forall_mem_cons.mpr ⟨mwL_339, List.forall_mem_cons.mpr ⟨mwL_340, fun _ h => absurd h List.not_mem_nil⟩⟩⟩⟩⟩⟩⟩⟩⟩)
set_option maxRecDepth 20000 in
theorem ggL_law_X12_span : GoodIn wsL_law wsX12_span := goodIn_sub (List.forall_mem_cons.mpr ⟨mwL_662, List.forall_mem_append.mpr ⟨List.forall_mem_append.mpr ⟨bL_wsX12_span_r1, bL_wsX12_span_r2⟩, inlX12⟩⟩) (by decide +kernel)
theorem gL_law_X12_span : GoodIn wsL_law (wsV RL 72 RX12 yX12_span wsX12_span) := goodIn_app (goodIn_sub (List.forall_mem_cons.mpr ⟨mwL_659, List.forall_mem_cons.mpr ⟨mwL_660, List.forall_mem_cons.mpr ⟨mwL_661, List.forall_mem_cons.mpr ⟨mwL_5, fun _ h => absurd h List.not_mem_nil⟩⟩⟩⟩) (by decide +kernel)) ggL_law_X12_span
theorem bL_wsX11_walker_r1 : ∀ w ∈ wsX11_walker_r1, w ∈ wsL_law := (List.forall_mem_cons.mpr ⟨mwL_15, List.forall_mem_cons.mpr ⟨mwL_141, List.forall_mem_cons.mpr ⟨mwL_486, List.forall_mem_cons.mpr ⟨mwL_507, List.forall_mem_cons.mpr ⟨mwL_528, List.forall_mem_cons.mpr ⟨mwL_677, List.forall_mem_cons.mpr ⟨mwL_678, List.forall_mem_cons.mpr ⟨mwL_679, List.forall_mem_cons.mpr ⟨mwL_680, List.forall_mem_cons.mpr ⟨mwL_681, List.forall_mem_cons.mpr ⟨mwL_508, List.forall_mem_cons.mpr ⟨mwL_509, List.forall_mem_cons.mpr ⟨mwL_510, List.forall_mem_cons.mpr ⟨mwL_54, List.forall_mem_cons.mpr ⟨mwL_511, List.forall_mem_cons.mpr ⟨mwL_175, List.forall_mem_cons.mpr ⟨mwL_682, List.forall_mem_cons.mpr ⟨mwL_299, List.forall_mem_cons.mpr ⟨mwL_300, List.forall_mem_cons.mpr ⟨mwL_301, List.forall_mem_cons.mpr ⟨mwL_302, List.forall_mem_cons.mpr ⟨mwL_303, List.forall_mem_cons.mpr ⟨mwL_304, List.forall_mem_cons.mpr ⟨mwL_683, fun _ h => absurd h List.not_mem_nil⟩⟩⟩⟩⟩⟩⟩⟩⟩⟩⟩⟩⟩⟩⟩⟩⟩⟩⟩⟩⟩⟩⟩⟩)
theorem bL_wsX11_walker_r2 : ∀ w ∈ wsX11_walker_r2, w ∈ wsL_law := (List.forall_mem_cons.mpr ⟨mwL_684, List.forall_mem_cons.mpr ⟨mwL_685, List.forall_mem_cons.mpr ⟨mwL_2, List.forall_mem_cons.mpr ⟨mwL_686, List.forall_mem_cons.mpr ⟨mwL_537, List.forall_mem_cons.mpr ⟨mwL_687, List.forall_mem_cons.mpr ⟨mwL_688, List.forall_mem_cons.mpr ⟨mwL_689, List.forall_mem_cons.mpr ⟨mwL_690, List.forall_mem_cons.mpr ⟨mwL_691, List.forall_mem_cons.mpr ⟨mwL_76, List.forall_mem_cons.mpr ⟨mwL_82, List.forall_mem_cons.mpr ⟨mwL_212, List.forall_mem_cons.mpr ⟨mwL_213, fun _ h => absurd h List.not_mem_nil⟩⟩⟩⟩⟩⟩⟩⟩⟩⟩⟩⟩⟩⟩)
set_option maxRecDepth 20000 in
theorem ggL_law_X11_walker : GoodIn wsL_law wsX11_walker := goodIn_sub (List.forall_mem_cons.mpr ⟨mwL_676, List.forall_mem_append.mpr ⟨List.forall_mem_append.mpr ⟨List.forall_mem_append.mpr ⟨List.forall_mem_append.mpr ⟨List.forall_mem_append.mpr ⟨bL_wsX11_walker_r1, bL_wsX11_walker_r2⟩, inlX11⟩, inlX2⟩, inlX6⟩, inlX9⟩⟩) (by decide +kernel)
theorem gL_law_X11_walker : GoodIn wsL_law (wsV RL 73 RX11 yX11_walker wsX11_walker) := goodIn_app (goodIn_sub (List.forall_mem_cons.mpr ⟨mwL_673, List.forall_mem_cons.mpr ⟨mwL_674, List.forall_mem_cons.mpr ⟨mwL_675, List.forall_mem_cons.mpr ⟨mwL_2, fun _ h => absurd h List.not_mem_nil⟩⟩⟩⟩) (by decide +kernel)) ggL_law_X11_walker
theorem bL_wsX12_walker_r1 : ∀ w ∈ wsX12_walker_r1, w ∈ wsL_law := (List.forall_mem_cons.mpr ⟨mwL_131, List.forall_mem_cons.mpr ⟨mwL_520, List.forall_mem_cons.mpr ⟨mwL_521, List.forall_mem_cons.mpr ⟨mwL_522, List.forall_mem_cons.mpr ⟨mwL_5, List.forall_mem_cons.mpr ⟨mwL_523, List.forall_mem_cons.mpr ⟨mwL_309, List.forall_mem_cons.mpr ⟨mwL_310, List.forall_mem_cons.mpr ⟨mwL_311, List.forall_mem_cons.mpr ⟨mwL_696, List.forall_mem_cons.mpr ⟨mwL_697, List.forall_mem_cons.mpr ⟨mwL_698, List.forall_mem_cons.mpr ⟨mwL_699, List.forall_mem_cons.mpr ⟨mwL_337, List.forall_mem_cons.mpr ⟨mwL_338, List.forall_mem_cons.mpr ⟨mwL_339, List.forall_mem_cons.mpr ⟨mwL_340, List.forall_mem_cons.mpr ⟨mwL_333, List.forall_mem_cons.mpr ⟨mwL_334, List.forall_mem_cons.mpr ⟨mwL_335, List.forall_mem_cons.mpr ⟨mwL_336, List.forall_mem_cons.mpr ⟨mwL_700, List.forall_mem_cons.mpr ⟨mwL_701, List.forall_mem_cons.mpr ⟨mwL_702, fun _ h => absurd h List.not_mem_nil⟩⟩⟩⟩⟩⟩⟩⟩⟩⟩⟩⟩⟩⟩⟩⟩⟩⟩⟩⟩⟩⟩⟩⟩)
theorem bL_wsX12_walker_r2 : ∀ w ∈ wsX12_walker_r2, w ∈ wsL_law := (List.forall_mem_cons.mpr ⟨mwL_703, fun _ h => absurd h List.not_mem_nil⟩)
set_option maxRecDepth 20000 in
theorem ggL_law_X12_walker : GoodIn wsL_law wsX12_walker := goodIn_sub (List.forall_mem_cons.mpr ⟨mwL_695, List.forall_mem_append.mpr ⟨List.forall_mem_append.mpr ⟨bL_wsX12_walker_r1, bL_wsX12_walker_r2⟩, inlX12⟩⟩) (by decide +kernel)
theorem gL_law_X12_walker : GoodIn wsL_law (wsV RL 76 RX12 yX12_walker wsX12_walker) := goodIn_app (goodIn_sub (List.forall_mem_cons.mpr ⟨mwL_692, List.forall_mem_cons.mpr ⟨mwL_693, List.forall_mem_cons.mpr ⟨mwL_694, List.forall_mem_cons.mpr ⟨mwL_5, fun _ h => absurd h List.not_mem_nil⟩⟩⟩⟩) (by decide +kernel)) ggL_law_X12_walker
set_option maxRecDepth 20000 in
theorem ggL_law_X11_inside : GoodIn wsL_law wsX11_inside := goodIn_sub (List.forall_mem_cons.mpr ⟨mwL_707, List.forall_mem_append.mpr ⟨List.forall_mem_append.mpr ⟨List.forall_mem_append.mpr ⟨List.forall_mem_append.mpr ⟨(List.forall_mem_cons.mpr ⟨mwL_15, List.forall_mem_cons.mpr ⟨mwL_141, List.forall_mem_cons.mpr ⟨mwL_486, List.forall_mem_cons.mpr ⟨mwL_677, List.forall_mem_cons.mpr ⟨mwL_508, List.forall_mem_cons.mpr ⟨mwL_509, List.forall_mem_cons.mpr ⟨mwL_510, List.forall_mem_cons.mpr ⟨mwL_54, List.forall_mem_cons.mpr ⟨mwL_511, List.forall_mem_cons.mpr ⟨mwL_175, List.forall_mem_cons.mpr ⟨mwL_708, List.forall_mem_cons.mpr ⟨mwL_709, List.forall_mem_cons.mpr ⟨mwL_2, List.forall_mem_cons.mpr ⟨mwL_710, List.forall_mem_cons.mpr ⟨mwL_711, List.forall_mem_cons.mpr ⟨mwL_212, List.forall_mem_cons.mpr ⟨mwL_213, fun _ h => absurd h List.not_mem_nil⟩⟩⟩⟩⟩⟩⟩⟩⟩⟩⟩⟩⟩⟩⟩⟩⟩), inlX11⟩, inlX2⟩, inlX6⟩, inlX9⟩⟩) (by decide +kernel)
theorem gL_law_X11_inside : GoodIn wsL_law (wsV RL 77 RX11 yX11_inside wsX11_inside) := goodIn_app (goodIn_sub (List.forall_mem_cons.mpr ⟨mwL_704, List.forall_mem_cons.mpr ⟨mwL_705, List.forall_mem_cons.mpr ⟨mwL_706, List.forall_mem_cons.mpr ⟨mwL_2, fun _ h => absurd h List.not_mem_nil⟩⟩⟩⟩) (by decide +kernel)) ggL_law_X11_inside
set_option maxRecDepth 20000 in
theorem ggL_law_X12_inside : GoodIn wsL_law wsX12_inside := goodIn_sub (List.forall_mem_cons.mpr ⟨mwL_715, List.forall_mem_append.mpr ⟨(List.forall_mem_cons.mpr ⟨mwL_131, List.forall_mem_cons.mpr ⟨mwL_520, List.forall_mem_cons.mpr ⟨mwL_521, List.forall_mem_cons.mpr ⟨mwL_522, List.forall_mem_cons.mpr ⟨mwL_5, List.forall_mem_cons.mpr ⟨mwL_523, List.forall_mem_cons.mpr ⟨mwL_309, List.forall_mem_cons.mpr ⟨mwL_310, List.forall_mem_cons.mpr ⟨mwL_311, List.forall_mem_cons.mpr ⟨mwL_337, List.forall_mem_cons.mpr ⟨mwL_338, List.forall_mem_cons.mpr ⟨mwL_339, List.forall_mem_cons.mpr ⟨mwL_340, fun _ h => absurd h List.not_mem_nil⟩⟩⟩⟩⟩⟩⟩⟩⟩⟩⟩⟩⟩), inlX12⟩⟩) (by decide +kernel)
theorem gL_law_X12_inside : GoodIn wsL_law (wsV RL 80 RX12 yX12_inside wsX12_inside) := goodIn_app (goodIn_sub (List.forall_mem_cons.mpr ⟨mwL_712, List.forall_mem_cons.mpr ⟨mwL_713, List.forall_mem_cons.mpr ⟨mwL_714, List.forall_mem_cons.mpr ⟨mwL_5, fun _ h => absurd h List.not_mem_nil⟩⟩⟩⟩) (by decide +kernel)) ggL_law_X12_inside
theorem bL_wsX11_ask_r1 : ∀ w ∈ wsX11_ask_r1, w ∈ wsL_law := (List.forall_mem_cons.mpr ⟨mwL_15, List.forall_mem_cons.mpr ⟨mwL_720, List.forall_mem_cons.mpr ⟨mwL_650, List.forall_mem_cons.mpr ⟨mwL_141, List.forall_mem_cons.mpr ⟨mwL_142, List.forall_mem_cons.mpr ⟨mwL_144, List.forall_mem_cons.mpr ⟨mwL_145, List.forall_mem_cons.mpr ⟨mwL_2, List.forall_mem_cons.mpr ⟨mwL_146, List.forall_mem_cons.mpr ⟨mwL_721, List.forall_mem_cons.mpr ⟨mwL_273, List.forall_mem_cons.mpr ⟨mwL_274, List.forall_mem_cons.mpr ⟨mwL_39, List.forall_mem_cons.mpr ⟨mwL_275, List.forall_mem_cons.mpr ⟨mwL_93, List.forall_mem_cons.mpr ⟨mwL_682, List.forall_mem_cons.mpr ⟨mwL_299, List.forall_mem_cons.mpr ⟨mwL_300, List.forall_mem_cons.mpr ⟨mwL_301, List.forall_mem_cons.mpr ⟨mwL_302, List.forall_mem_cons.mpr ⟨mwL_303, List.forall_mem_cons.mpr ⟨mwL_304, List.forall_mem_cons.mpr ⟨mwL_722, List.forall_mem_cons.mpr ⟨mwL_723, fun _ h => absurd h List.not_mem_nil⟩⟩⟩⟩⟩⟩⟩⟩⟩⟩⟩⟩⟩⟩⟩⟩⟩⟩⟩⟩⟩⟩⟩⟩)
theorem bL_wsX11_ask_r2 : ∀ w ∈ wsX11_ask_r2, w ∈ wsL_law := (List.forall_mem_cons.mpr ⟨mwL_724, List.forall_mem_cons.mpr ⟨mwL_43, List.forall_mem_cons.mpr ⟨mwL_725, List.forall_mem_cons.mpr ⟨mwL_104, List.forall_mem_cons.mpr ⟨mwL_235, List.forall_mem_cons.mpr ⟨mwL_236, List.forall_mem_cons.mpr ⟨mwL_237, List.forall_mem_cons.mpr ⟨mwL_103, List.forall_mem_cons.mpr ⟨mwL_238, List.forall_mem_cons.mpr ⟨mwL_239, List.forall_mem_cons.mpr ⟨mwL_240, List.forall_mem_cons.mpr ⟨mwL_241, List.forall_mem_cons.mpr ⟨mwL_242, List.forall_mem_cons.mpr ⟨mwL_243, List.forall_mem_cons.mpr ⟨mwL_244, List.forall_mem_cons.mpr ⟨mwL_245, List.forall_mem_cons.mpr ⟨mwL_726, List.forall_mem_cons.mpr ⟨mwL_727, List.forall_mem_cons.mpr ⟨mwL_728, List.forall_mem_cons.mpr ⟨mwL_729, List.forall_mem_cons.mpr ⟨mwL_100, List.forall_mem_cons.mpr ⟨mwL_233, List.forall_mem_cons.mpr ⟨mwL_246, List.forall_mem_cons.mpr ⟨mwL_247, fun _ h => absurd h List.not_mem_nil⟩⟩⟩⟩⟩⟩⟩⟩⟩⟩⟩⟩⟩⟩⟩⟩⟩⟩⟩⟩⟩⟩⟩⟩)
theorem bL_wsX11_ask_r3 : ∀ w ∈ wsX11_ask_r3, w ∈ wsL_law := (List.forall_mem_cons.mpr ⟨mwL_248, List.forall_mem_cons.mpr ⟨mwL_249, List.forall_mem_cons.mpr ⟨mwL_730, List.forall_mem_cons.mpr ⟨mwL_731, List.forall_mem_cons.mpr ⟨mwL_732, List.forall_mem_cons.mpr ⟨mwL_733, List.forall_mem_cons.mpr ⟨mwL_250, List.forall_mem_cons.mpr ⟨mwL_251, List.forall_mem_cons.mpr ⟨mwL_252, List.forall_mem_cons.mpr ⟨mwL_253, List.forall_mem_cons.mpr ⟨mwL_254, List.forall_mem_cons.mpr ⟨mwL_255, List.forall_mem_cons.mpr ⟨mwL_256, List.forall_mem_cons.mpr ⟨mwL_257, List.forall_mem_cons.mpr ⟨mwL_734, List.forall_mem_cons.mpr ⟨mwL_735, List.forall_mem_cons.mpr ⟨mwL_736, List.forall_mem_cons.mpr ⟨mwL_737, List.forall_mem_cons.mpr ⟨mwL_738, List.forall_mem_cons.mpr ⟨mwL_739, List.forall_mem_cons.mpr ⟨mwL_740, List.forall_mem_cons.mpr ⟨mwL_741, List.forall_mem_cons.mpr ⟨mwL_222, List.forall_mem_cons.mpr ⟨mwL_97, fun _ h => absurd h List.not_mem_nil⟩⟩⟩⟩⟩⟩⟩⟩⟩⟩⟩⟩⟩⟩⟩⟩⟩⟩⟩⟩⟩⟩⟩⟩)
theorem bL_wsX11_ask_r4 : ∀ w ∈ wsX11_ask_r4, w ∈ wsL_law := (List.forall_mem_cons.mpr ⟨mwL_99, List.forall_mem_cons.mpr ⟨mwL_742, List.forall_mem_cons.mpr ⟨mwL_743, List.forall_mem_cons.mpr ⟨mwL_289, List.forall_mem_cons.mpr ⟨mwL_744, List.forall_mem_cons.mpr ⟨mwL_228, List.forall_mem_cons.mpr ⟨mwL_209, List.forall_mem_cons.mpr ⟨mwL_210, List.forall_mem_cons.mpr ⟨mwL_50, List.forall_mem_cons.mpr ⟨mwL_211, List.forall_mem_cons.mpr ⟨mwL_166, List.forall_mem_cons.mpr ⟨mwL_212, List.forall_mem_cons.mpr ⟨mwL_213, List.forall_mem_cons.mpr ⟨mwL_745, List.forall_mem_cons.mpr ⟨mwL_746, List.forall_mem_cons.mpr ⟨mwL_747, List.forall_mem_cons.mpr ⟨mwL_223, List.forall_mem_cons.mpr ⟨mwL_224, List.forall_mem_cons.mpr ⟨mwL_708, List.forall_mem_cons.mpr ⟨mwL_709, List.forall_mem_cons.mpr ⟨mwL_710, List.forall_mem_cons.mpr ⟨mwL_711, List.forall_mem_cons.mpr ⟨mwL_748, List.forall_mem_cons.mpr ⟨mwL_749, fun _ h => absurd h List.not_mem_nil⟩⟩⟩⟩⟩⟩⟩⟩⟩⟩⟩⟩⟩⟩⟩⟩⟩⟩⟩⟩⟩⟩⟩⟩)
theorem bL_wsX11_ask_r5 : ∀ w ∈ wsX11_ask_r5, w ∈ wsL_law := (List.forall_mem_cons.mpr ⟨mwL_750, List.forall_mem_cons.mpr ⟨mwL_751, List.forall_mem_cons.mpr ⟨mwL_165, List.forall_mem_cons.mpr ⟨mwL_67, List.forall_mem_cons.mpr ⟨mwL_66, fun _ h => absurd h List.not_mem_nil⟩⟩⟩⟩⟩)
set_option maxRecDepth 20000 in
theorem ggL_law_X11_ask : GoodIn wsL_law wsX11_ask := goodIn_sub (List.forall_mem_cons.mpr ⟨mwL_719, List.forall_mem_append.mpr ⟨List.forall_mem_append.mpr ⟨List.forall_mem_append.mpr ⟨List.forall_mem_append.mpr ⟨List.forall_mem_append.mpr ⟨List.forall_mem_append.mpr ⟨List.forall_mem_append.mpr ⟨List.forall_mem_append.mpr ⟨bL_wsX11_ask_r1, List.forall_mem_append.mpr ⟨bL_wsX11_ask_r2, List.forall_mem_append.mpr ⟨bL_wsX11_ask_r3, List.forall_mem_append.mpr ⟨bL_wsX11_ask_r4, bL_wsX11_ask_r5⟩⟩⟩⟩, inlX11⟩, inlX2⟩, inlX6⟩, inlX0⟩, inlX8⟩, inlX10⟩, inlX5⟩⟩) (by decide +kernel)
theorem gL_law_X11_ask : GoodIn wsL_law (wsV RL 81 RX11 yX11_ask wsX11_ask) := goodIn_app (goodIn_sub (List.forall_mem_cons.mpr ⟨mwL_716, List.forall_mem_cons.mpr ⟨mwL_717, List.forall_mem_cons.mpr ⟨mwL_718, List.forall_mem_cons.mpr ⟨mwL_2, fun _ h => absurd h List.not_mem_nil⟩⟩⟩⟩) (by decide +kernel)) ggL_law_X11_ask
theorem bL_wsX12_ask_r1 : ∀ w ∈ wsX12_ask_r1, w ∈ wsL_law := (List.forall_mem_cons.mpr ⟨mwL_309, List.forall_mem_cons.mpr ⟨mwL_310, List.forall_mem_cons.mpr ⟨mwL_5, List.forall_mem_cons.mpr ⟨mwL_311, List.forall_mem_cons.mpr ⟨mwL_756, List.forall_mem_cons.mpr ⟨mwL_757, List.forall_mem_cons.mpr ⟨mwL_758, List.forall_mem_cons.mpr ⟨mwL_759, List.forall_mem_cons.mpr ⟨mwL_131, List.forall_mem_cons.mpr ⟨mwL_341, List.forall_mem_cons.mpr ⟨mwL_342, List.forall_mem_cons.mpr ⟨mwL_343, List.forall_mem_cons.mpr ⟨mwL_344, List.forall_mem_cons.mpr ⟨mwL_345, List.forall_mem_cons.mpr ⟨mwL_346, List.forall_mem_cons.mpr ⟨mwL_347, List.forall_mem_cons.mpr ⟨mwL_348, List.forall_mem_cons.mpr ⟨mwL_349, List.forall_mem_cons.mpr ⟨mwL_350, List.forall_mem_cons.mpr ⟨mwL_351, List.forall_mem_cons.mpr ⟨mwL_352, List.forall_mem_cons.mpr ⟨mwL_760, List.forall_mem_cons.mpr ⟨mwL_761, List.forall_mem_cons.mpr ⟨mwL_762, fun _ h => absurd h List.not_mem_nil⟩⟩⟩⟩⟩⟩⟩⟩⟩⟩⟩⟩⟩⟩⟩⟩⟩⟩⟩⟩⟩⟩⟩⟩)
theorem bL_wsX12_ask_r2 : ∀ w ∈ wsX12_ask_r2, w ∈ wsL_law := (List.forall_mem_cons.mpr ⟨mwL_763, List.forall_mem_cons.mpr ⟨mwL_135, List.forall_mem_cons.mpr ⟨mwL_764, List.forall_mem_cons.mpr ⟨mwL_765, List.forall_mem_cons.mpr ⟨mwL_766, List.forall_mem_cons.mpr ⟨mwL_767, List.forall_mem_cons.mpr ⟨mwL_136, List.forall_mem_cons.mpr ⟨mwL_768, List.forall_mem_cons.mpr ⟨mwL_664, List.forall_mem_cons.mpr ⟨mwL_665, List.forall_mem_cons.mpr ⟨mwL_666, List.forall_mem_cons.mpr ⟨mwL_667, List.forall_mem_cons.mpr ⟨mwL_668, List.forall_mem_cons.mpr ⟨mwL_663, List.forall_mem_cons.mpr ⟨mwL_769, List.forall_mem_cons.mpr ⟨mwL_770, List.forall_mem_cons.mpr ⟨mwL_771, List.forall_mem_cons.mpr ⟨mwL_772, List.forall_mem_cons.mpr ⟨mwL_773, List.forall_mem_cons.mpr ⟨mwL_774, List.forall_mem_cons.mpr ⟨mwL_775, List.forall_mem_cons.mpr ⟨mwL_776, fun _ h => absurd h List.not_mem_nil⟩⟩⟩⟩⟩⟩⟩⟩⟩⟩⟩⟩⟩⟩⟩⟩⟩⟩⟩⟩⟩⟩)
set_option maxRecDepth 20000 in
theorem ggL_law_X12_ask : GoodIn wsL_law wsX12_ask := goodIn_sub (List.forall_mem_cons.mpr ⟨mwL_755, List.forall_mem_append.mpr ⟨List.forall_mem_append.mpr ⟨bL_wsX12_ask_r1, bL_wsX12_ask_r2⟩, inlX12⟩⟩) (by decide +kernel)
theorem gL_law_X12_ask : GoodIn wsL_law (wsV RL 84 RX12 yX12_ask wsX12_ask) := goodIn_app (goodIn_sub (List.forall_mem_cons.mpr ⟨mwL_752, List.forall_mem_cons.mpr ⟨mwL_753, List.forall_mem_cons.mpr ⟨mwL_754, List.forall_mem_cons.mpr ⟨mwL_5, fun _ h => absurd h List.not_mem_nil⟩⟩⟩⟩) (by decide +kernel)) ggL_law_X12_ask
set_option maxRecDepth 20000 in
theorem ggL_law_X11_free : GoodIn wsL_law wsX11_free := goodIn_sub (List.forall_mem_cons.mpr ⟨mwL_780, List.forall_mem_append.mpr ⟨List.forall_mem_append.mpr ⟨List.forall_mem_append.mpr ⟨(List.forall_mem_cons.mpr ⟨mwL_15, List.forall_mem_cons.mpr ⟨mwL_720, List.forall_mem_cons.mpr ⟨mwL_144, List.forall_mem_cons.mpr ⟨mwL_145, List.forall_mem_cons.mpr ⟨mwL_2, List.forall_mem_cons.mpr ⟨mwL_146, List.forall_mem_cons.mpr ⟨mwL_781, List.forall_mem_cons.mpr ⟨mwL_782, List.forall_mem_cons.mpr ⟨mwL_783, List.forall_mem_cons.mpr ⟨mwL_39, List.forall_mem_cons.mpr ⟨mwL_784, List.forall_mem_cons.mpr ⟨mwL_785, List.forall_mem_cons.mpr ⟨mwL_786, List.forall_mem_cons.mpr ⟨mwL_289, List.forall_mem_cons.mpr ⟨mwL_787, List.forall_mem_cons.mpr ⟨mwL_93, List.forall_mem_cons.mpr ⟨mwL_788, List.forall_mem_cons.mpr ⟨mwL_789, List.forall_mem_cons.mpr ⟨mwL_790, List.forall_mem_cons.mpr ⟨mwL_791, List.forall_mem_cons.mpr ⟨mwL_792, List.forall_mem_cons.mpr ⟨mwL_743, List.forall_mem_cons.mpr ⟨mwL_744, fun _ h => absurd h List.not_mem_nil⟩⟩⟩⟩⟩⟩⟩⟩⟩⟩⟩⟩⟩⟩⟩⟩⟩⟩⟩⟩⟩⟩⟩), inlX11⟩, inlX2⟩, inlX0⟩⟩) (by decide +kernel)
theorem gL_law_X11_free : GoodIn wsL_law (wsV RL 85 RX11 yX11_free wsX11_free) := goodIn_app (goodIn_sub (List.forall_mem_cons.mpr ⟨mwL_777, List.forall_mem_cons.mpr ⟨mwL_778, List.forall_mem_cons.mpr ⟨mwL_779, List.forall_mem_cons.mpr ⟨mwL_2, fun _ h => absurd h List.not_mem_nil⟩⟩⟩⟩) (by decide +kernel)) ggL_law_X11_free
set_option maxRecDepth 20000 in
theorem ggL_law_X12_free : GoodIn wsL_law wsX12_free := goodIn_sub (List.forall_mem_cons.mpr ⟨mwL_796, List.forall_mem_append.mpr ⟨(List.forall_mem_cons.mpr ⟨mwL_309, List.forall_mem_cons.mpr ⟨mwL_310, List.forall_mem_cons.mpr ⟨mwL_5, List.forall_mem_cons.mpr ⟨mwL_311, List.forall_mem_cons.mpr ⟨mwL_756, List.forall_mem_cons.mpr ⟨mwL_757, List.forall_mem_cons.mpr ⟨mwL_758, List.forall_mem_cons.mpr ⟨mwL_759, List.forall_mem_cons.mpr ⟨mwL_131, List.forall_mem_cons.mpr ⟨mwL_341, List.forall_mem_cons.mpr ⟨mwL_342, List.forall_mem_cons.mpr ⟨mwL_343, List.forall_mem_cons.mpr ⟨mwL_344, List.forall_mem_cons.mpr ⟨mwL_345, List.forall_mem_cons.mpr ⟨mwL_346, List.forall_mem_cons.mpr ⟨mwL_347, List.forall_mem_cons.mpr ⟨mwL_348, List.forall_mem_cons.mpr ⟨mwL_349, List.forall_mem_cons.mpr ⟨mwL_350, List.forall_mem_cons.mpr ⟨mwL_351, List.forall_mem_cons.mpr ⟨mwL_352, fun _ h => absurd h List.not_mem_nil⟩⟩⟩⟩⟩⟩⟩⟩⟩⟩⟩⟩⟩⟩⟩⟩⟩⟩⟩⟩⟩), inlX12⟩⟩) (by decide +kernel)
theorem gL_law_X12_free : GoodIn wsL_law (wsV RL 89 RX12 yX12_free wsX12_free) := goodIn_app (goodIn_sub (List.forall_mem_cons.mpr ⟨mwL_793, List.forall_mem_cons.mpr ⟨mwL_794, List.forall_mem_cons.mpr ⟨mwL_795, List.forall_mem_cons.mpr ⟨mwL_5, fun _ h => absurd h List.not_mem_nil⟩⟩⟩⟩) (by decide +kernel)) ggL_law_X12_free
theorem bL_wsX11_most_r1 : ∀ w ∈ wsX11_most_r1, w ∈ wsL_law := (List.forall_mem_cons.mpr ⟨mwL_15, List.forall_mem_cons.mpr ⟨mwL_720, List.forall_mem_cons.mpr ⟨mwL_801, List.forall_mem_cons.mpr ⟨mwL_802, List.forall_mem_cons.mpr ⟨mwL_803, List.forall_mem_cons.mpr ⟨mwL_39, List.forall_mem_cons.mpr ⟨mwL_804, List.forall_mem_cons.mpr ⟨mwL_93, List.forall_mem_cons.mpr ⟨mwL_805, List.forall_mem_cons.mpr ⟨mwL_299, List.forall_mem_cons.mpr ⟨mwL_300, List.forall_mem_cons.mpr ⟨mwL_301, List.forall_mem_cons.mpr ⟨mwL_302, List.forall_mem_cons.mpr ⟨mwL_303, List.forall_mem_cons.mpr ⟨mwL_304, List.forall_mem_cons.mpr ⟨mwL_721, List.forall_mem_cons.mpr ⟨mwL_273, List.forall_mem_cons.mpr ⟨mwL_274, List.forall_mem_cons.mpr ⟨mwL_275, List.forall_mem_cons.mpr ⟨mwL_145, List.forall_mem_cons.mpr ⟨mwL_2, List.forall_mem_cons.mpr ⟨mwL_146, List.forall_mem_cons.mpr ⟨mwL_682, List.forall_mem_cons.mpr ⟨mwL_806, fun _ h => absurd h List.not_mem_nil⟩⟩⟩⟩⟩⟩⟩⟩⟩⟩⟩⟩⟩⟩⟩⟩⟩⟩⟩⟩⟩⟩⟩⟩)
theorem bL_wsX11_most_r2 : ∀ w ∈ wsX11_most_r2, w ∈ wsL_law := (List.forall_mem_cons.mpr ⟨mwL_807, List.forall_mem_cons.mpr ⟨mwL_808, List.forall_mem_cons.mpr ⟨mwL_809, fun _ h => absurd h List.not_mem_nil⟩⟩⟩)
set_option maxRecDepth 20000 in
theorem ggL_law_X11_most : GoodIn wsL_law wsX11_most := goodIn_sub (List.forall_mem_cons.mpr ⟨mwL_800, List.forall_mem_append.mpr ⟨List.forall_mem_append.mpr ⟨List.forall_mem_append.mpr ⟨List.forall_mem_append.mpr ⟨bL_wsX11_most_r1, bL_wsX11_most_r2⟩, inlX11⟩, inlX2⟩, inlX0⟩⟩) (by decide +kernel)
theorem gL_law_X11_most : GoodIn wsL_law (wsV RL 90 RX11 yX11_most wsX11_most) := goodIn_app (goodIn_sub (List.forall_mem_cons.mpr ⟨mwL_797, List.forall_mem_cons.mpr ⟨mwL_798, List.forall_mem_cons.mpr ⟨mwL_799, List.forall_mem_cons.mpr ⟨mwL_2, fun _ h => absurd h List.not_mem_nil⟩⟩⟩⟩) (by decide +kernel)) ggL_law_X11_most
set_option maxRecDepth 20000 in
theorem ggL_law_X12_most : GoodIn wsL_law wsX12_most := goodIn_sub (List.forall_mem_cons.mpr ⟨mwL_813, List.forall_mem_append.mpr ⟨(List.forall_mem_cons.mpr ⟨mwL_309, List.forall_mem_cons.mpr ⟨mwL_310, List.forall_mem_cons.mpr ⟨mwL_5, List.forall_mem_cons.mpr ⟨mwL_311, List.forall_mem_cons.mpr ⟨mwL_756, List.forall_mem_cons.mpr ⟨mwL_757, List.forall_mem_cons.mpr ⟨mwL_758, List.forall_mem_cons.mpr ⟨mwL_759, List.forall_mem_cons.mpr ⟨mwL_131, List.forall_mem_cons.mpr ⟨mwL_341, List.forall_mem_cons.mpr ⟨mwL_342, List.forall_mem_cons.mpr ⟨mwL_343, List.forall_mem_cons.mpr ⟨mwL_344, List.forall_mem_cons.mpr ⟨mwL_345, List.forall_mem_cons.mpr ⟨mwL_346, List.forall_mem_cons.mpr ⟨mwL_347, List.forall_mem_cons.mpr ⟨mwL_348, List.forall_mem_cons.mpr ⟨mwL_349, List.forall_mem_cons.mpr ⟨mwL_350, List.forall_mem_cons.mpr ⟨mwL_351, List.forall_mem_cons.mpr ⟨mwL_352, fun _ h => absurd h List.not_mem_nil⟩⟩⟩⟩⟩⟩⟩⟩⟩⟩⟩⟩⟩⟩⟩⟩⟩⟩⟩⟩⟩), inlX12⟩⟩) (by decide +kernel)
theorem gL_law_X12_most : GoodIn wsL_law (wsV RL 93 RX12 yX12_most wsX12_most) := goodIn_app (goodIn_sub (List.forall_mem_cons.mpr ⟨mwL_810, List.forall_mem_cons.mpr ⟨mwL_811, List.forall_mem_cons.mpr ⟨mwL_812, List.forall_mem_cons.mpr ⟨mwL_5, fun _ h => absurd h List.not_mem_nil⟩⟩⟩⟩) (by decide +kernel)) ggL_law_X12_most
theorem bL_wsX11_changesIn_r1 : ∀ w ∈ wsX11_changesIn_r1, w ∈ wsL_law := (List.forall_mem_cons.mpr ⟨mwL_15, List.forall_mem_cons.mpr ⟨mwL_141, List.forall_mem_cons.mpr ⟨mwL_486, List.forall_mem_cons.mpr ⟨mwL_508, List.forall_mem_cons.mpr ⟨mwL_509, List.forall_mem_cons.mpr ⟨mwL_510, List.forall_mem_cons.mpr ⟨mwL_54, List.forall_mem_cons.mpr ⟨mwL_511, List.forall_mem_cons.mpr ⟨mwL_175, List.forall_mem_cons.mpr ⟨mwL_818, List.forall_mem_cons.mpr ⟨mwL_819, List.forall_mem_cons.mpr ⟨mwL_820, List.forall_mem_cons.mpr ⟨mwL_14, List.forall_mem_cons.mpr ⟨mwL_821, List.forall_mem_cons.mpr ⟨mwL_36, List.forall_mem_cons.mpr ⟨mwL_262, List.forall_mem_cons.mpr ⟨mwL_269, List.forall_mem_cons.mpr ⟨mwL_822, List.forall_mem_cons.mpr ⟨mwL_40, List.forall_mem_cons.mpr ⟨mwL_272, List.forall_mem_cons.mpr ⟨mwL_273, List.forall_mem_cons.mpr ⟨mwL_274, List.forall_mem_cons.mpr ⟨mwL_39, List.forall_mem_cons.mpr ⟨mwL_275, fun _ h => absurd h List.not_mem_nil⟩⟩⟩⟩⟩⟩⟩⟩⟩⟩⟩⟩⟩⟩⟩⟩⟩⟩⟩⟩⟩⟩⟩⟩)
theorem bL_wsX11_changesIn_r2 : ∀ w ∈ wsX11_changesIn_r2, w ∈ wsL_law := (List.forall_mem_cons.mpr ⟨mwL_93, List.forall_mem_cons.mpr ⟨mwL_145, List.forall_mem_cons.mpr ⟨mwL_2, List.forall_mem_cons.mpr ⟨mwL_146, List.forall_mem_cons.mpr ⟨mwL_552, List.forall_mem_cons.mpr ⟨mwL_553, List.forall_mem_cons.mpr ⟨mwL_554, List.forall_mem_cons.mpr ⟨mwL_555, List.forall_mem_cons.mpr ⟨mwL_556, List.forall_mem_cons.mpr ⟨mwL_550, List.forall_mem_cons.mpr ⟨mwL_551, List.forall_mem_cons.mpr ⟨mwL_144, fun _ h => absurd h List.not_mem_nil⟩⟩⟩⟩⟩⟩⟩⟩⟩⟩⟩⟩)
set_option maxRecDepth 20000 in
theorem ggL_law_X11_changesIn : GoodIn wsL_law wsX11_changesIn := goodIn_sub (List.forall_mem_cons.mpr ⟨mwL_817, List.forall_mem_append.mpr ⟨List.forall_mem_append.mpr ⟨List.forall_mem_append.mpr ⟨List.forall_mem_append.mpr ⟨List.forall_mem_append.mpr ⟨List.forall_mem_append.mpr ⟨bL_wsX11_changesIn_r1, bL_wsX11_changesIn_r2⟩, inlX11⟩, inlX2⟩, inlX6⟩, inlX9⟩, inlX0⟩⟩) (by decide +kernel)
theorem gL_law_X11_changesIn : GoodIn wsL_law (wsV RL 94 RX11 yX11_changesIn wsX11_changesIn) := goodIn_app (goodIn_sub (List.forall_mem_cons.mpr ⟨mwL_814, List.forall_mem_cons.mpr ⟨mwL_815, List.forall_mem_cons.mpr ⟨mwL_816, List.forall_mem_cons.mpr ⟨mwL_2, fun _ h => absurd h List.not_mem_nil⟩⟩⟩⟩) (by decide +kernel)) ggL_law_X11_changesIn
theorem bL_wsX12_changesIn_r1 : ∀ w ∈ wsX12_changesIn_r1, w ∈ wsL_law := (List.forall_mem_cons.mpr ⟨mwL_520, List.forall_mem_cons.mpr ⟨mwL_521, List.forall_mem_cons.mpr ⟨mwL_522, List.forall_mem_cons.mpr ⟨mwL_5, List.forall_mem_cons.mpr ⟨mwL_523, List.forall_mem_cons.mpr ⟨mwL_131, List.forall_mem_cons.mpr ⟨mwL_309, List.forall_mem_cons.mpr ⟨mwL_310, List.forall_mem_cons.mpr ⟨mwL_311, List.forall_mem_cons.mpr ⟨mwL_333, List.forall_mem_cons.mpr ⟨mwL_334, List.forall_mem_cons.mpr ⟨mwL_335, List.forall_mem_cons.mpr ⟨mwL_336, List.forall_mem_cons.mpr ⟨mwL_574, List.forall_mem_cons.mpr ⟨mwL_575, List.forall_mem_cons.mpr ⟨mwL_576, List.forall_mem_cons.mpr ⟨mwL_827, List.forall_mem_cons.mpr ⟨mwL_828, List.forall_mem_cons.mpr ⟨mwL_829, List.forall_mem_cons.mpr ⟨mwL_830, List.forall_mem_cons.mpr ⟨mwL_341, List.forall_mem_cons.mpr ⟨mwL_342, List.forall_mem_cons.mpr ⟨mwL_343, List.forall_mem_cons.mpr ⟨mwL_344, fun _ h => absurd h List.not_mem_nil⟩⟩⟩⟩⟩⟩⟩⟩⟩⟩⟩⟩⟩⟩⟩⟩⟩⟩⟩⟩⟩⟩⟩⟩)
theorem bL_wsX12_changesIn_r2 : ∀ w ∈ wsX12_changesIn_r2, w ∈ wsL_law := (List.forall_mem_cons.mpr ⟨mwL_345, List.forall_mem_cons.mpr ⟨mwL_346, List.forall_mem_cons.mpr ⟨mwL_347, List.forall_mem_cons.mpr ⟨mwL_348, List.forall_mem_cons.mpr ⟨mwL_349, List.forall_mem_cons.mpr ⟨mwL_350, List.forall_mem_cons.mpr ⟨mwL_351, List.forall_mem_cons.mpr ⟨mwL_352, fun _ h => absurd h List.not_mem_nil⟩⟩⟩⟩⟩⟩⟩⟩)
set_option maxRecDepth 20000 in
theorem ggL_law_X12_changesIn : GoodIn wsL_law wsX12_changesIn := goodIn_sub (List.forall_mem_cons.mpr ⟨mwL_826, List.forall_mem_append.mpr ⟨List.forall_mem_append.mpr ⟨bL_wsX12_changesIn_r1, bL_wsX12_changesIn_r2⟩, inlX12⟩⟩) (by decide +kernel)
theorem gL_law_X12_changesIn : GoodIn wsL_law (wsV RL 97 RX12 yX12_changesIn wsX12_changesIn) := goodIn_app (goodIn_sub (List.forall_mem_cons.mpr ⟨mwL_823, List.forall_mem_cons.mpr ⟨mwL_824, List.forall_mem_cons.mpr ⟨mwL_825, List.forall_mem_cons.mpr ⟨mwL_5, fun _ h => absurd h List.not_mem_nil⟩⟩⟩⟩) (by decide +kernel)) ggL_law_X12_changesIn
theorem bL_wsX11_meetIn_r1 : ∀ w ∈ wsX11_meetIn_r1, w ∈ wsL_law := (List.forall_mem_cons.mpr ⟨mwL_15, List.forall_mem_cons.mpr ⟨mwL_141, List.forall_mem_cons.mpr ⟨mwL_486, List.forall_mem_cons.mpr ⟨mwL_508, List.forall_mem_cons.mpr ⟨mwL_509, List.forall_mem_cons.mpr ⟨mwL_510, List.forall_mem_cons.mpr ⟨mwL_54, List.forall_mem_cons.mpr ⟨mwL_511, List.forall_mem_cons.mpr ⟨mwL_175, List.forall_mem_cons.mpr ⟨mwL_835, List.forall_mem_cons.mpr ⟨mwL_836, List.forall_mem_cons.mpr ⟨mwL_837, List.forall_mem_cons.mpr ⟨mwL_838, List.forall_mem_cons.mpr ⟨mwL_73, List.forall_mem_cons.mpr ⟨mwL_74, List.forall_mem_cons.mpr ⟨mwL_552, List.forall_mem_cons.mpr ⟨mwL_2, List.forall_mem_cons.mpr ⟨mwL_553, List.forall_mem_cons.mpr ⟨mwL_554, List.forall_mem_cons.mpr ⟨mwL_555, List.forall_mem_cons.mpr ⟨mwL_556, List.forall_mem_cons.mpr ⟨mwL_550, List.forall_mem_cons.mpr ⟨mwL_551, List.forall_mem_cons.mpr ⟨mwL_144, fun _ h => absurd h List.not_mem_nil⟩⟩⟩⟩⟩⟩⟩⟩⟩⟩⟩⟩⟩⟩⟩⟩⟩⟩⟩⟩⟩⟩⟩⟩)
theorem bL_wsX11_meetIn_r2 : ∀ w ∈ wsX11_meetIn_r2, w ∈ wsL_law := (List.forall_mem_cons.mpr ⟨mwL_145, List.forall_mem_cons.mpr ⟨mwL_146, fun _ h => absurd h List.not_mem_nil⟩⟩)
set_option maxRecDepth 20000 in
theorem ggL_law_X11_meetIn : GoodIn wsL_law wsX11_meetIn := goodIn_sub (List.forall_mem_cons.mpr ⟨mwL_834, List.forall_mem_append.mpr ⟨List.forall_mem_append.mpr ⟨List.forall_mem_append.mpr ⟨List.forall_mem_append.mpr ⟨List.forall_mem_append.mpr ⟨bL_wsX11_meetIn_r1, bL_wsX11_meetIn_r2⟩, inlX11⟩, inlX2⟩, inlX6⟩, inlX9⟩⟩) (by decide +kernel)
theorem gL_law_X11_meetIn : GoodIn wsL_law (wsV RL 98 RX11 yX11_meetIn wsX11_meetIn) := goodIn_app (goodIn_sub (List.forall_mem_cons.mpr ⟨mwL_831, List.forall_mem_cons.mpr ⟨mwL_832, List.forall_mem_cons.mpr ⟨mwL_833, List.forall_mem_cons.mpr ⟨mwL_2, fun _ h => absurd h List.not_mem_nil⟩⟩⟩⟩) (by decide +kernel)) ggL_law_X11_meetIn
set_option maxRecDepth 20000 in
theorem ggL_law_X12_meetIn : GoodIn wsL_law wsX12_meetIn := goodIn_sub (List.forall_mem_cons.mpr ⟨mwL_842, List.forall_mem_append.mpr ⟨(List.forall_mem_cons.mpr ⟨mwL_520, List.forall_mem_cons.mpr ⟨mwL_521, List.forall_mem_cons.mpr ⟨mwL_522, List.forall_mem_cons.mpr ⟨mwL_5, List.forall_mem_cons.mpr ⟨mwL_523, List.forall_mem_cons.mpr ⟨mwL_131, List.forall_mem_cons.mpr ⟨mwL_309, List.forall_mem_cons.mpr ⟨mwL_310, List.forall_mem_cons.mpr ⟨mwL_311, List.forall_mem_cons.mpr ⟨mwL_333, List.forall_mem_cons.mpr ⟨mwL_334, List.forall_mem_cons.mpr ⟨mwL_335, List.forall_mem_cons.mpr ⟨mwL_336, List.forall_mem_cons.mpr ⟨mwL_574, List.forall_mem_cons.mpr ⟨mwL_575, List.forall_mem_cons.mpr ⟨mwL_576, fun _ h => absurd h List.not_mem_nil⟩⟩⟩⟩⟩⟩⟩⟩⟩⟩⟩⟩⟩⟩⟩⟩), inlX12⟩⟩) (by decide +kernel)
theorem gL_law_X12_meetIn : GoodIn wsL_law (wsV RL 101 RX12 yX12_meetIn wsX12_meetIn) := goodIn_app (goodIn_sub (List.forall_mem_cons.mpr ⟨mwL_839, List.forall_mem_cons.mpr ⟨mwL_840, List.forall_mem_cons.mpr ⟨mwL_841, List.forall_mem_cons.mpr ⟨mwL_5, fun _ h => absurd h List.not_mem_nil⟩⟩⟩⟩) (by decide +kernel)) ggL_law_X12_meetIn
theorem bL_wsX11_index_r1 : ∀ w ∈ wsX11_index_r1, w ∈ wsL_law := (List.forall_mem_cons.mpr ⟨mwL_15, List.forall_mem_cons.mpr ⟨mwL_141, List.forall_mem_cons.mpr ⟨mwL_142, List.forall_mem_cons.mpr ⟨mwL_650, List.forall_mem_cons.mpr ⟨mwL_622, List.forall_mem_cons.mpr ⟨mwL_623, List.forall_mem_cons.mpr ⟨mwL_624, List.forall_mem_cons.mpr ⟨mwL_50, List.forall_mem_cons.mpr ⟨mwL_625, List.forall_mem_cons.mpr ⟨mwL_166, List.forall_mem_cons.mpr ⟨mwL_626, List.forall_mem_cons.mpr ⟨mwL_299, List.forall_mem_cons.mpr ⟨mwL_300, List.forall_mem_cons.mpr ⟨mwL_301, List.forall_mem_cons.mpr ⟨mwL_302, List.forall_mem_cons.mpr ⟨mwL_303, List.forall_mem_cons.mpr ⟨mwL_304, List.forall_mem_cons.mpr ⟨mwL_847, List.forall_mem_cons.mpr ⟨mwL_848, List.forall_mem_cons.mpr ⟨mwL_849, List.forall_mem_cons.mpr ⟨mwL_43, List.forall_mem_cons.mpr ⟨mwL_850, List.forall_mem_cons.mpr ⟨mwL_100, List.forall_mem_cons.mpr ⟨mwL_851, fun _ h => absurd h List.not_mem_nil⟩⟩⟩⟩⟩⟩⟩⟩⟩⟩⟩⟩⟩⟩⟩⟩⟩⟩⟩⟩⟩⟩⟩⟩)
theorem bL_wsX11_index_r2 : ∀ w ∈ wsX11_index_r2, w ∈ wsL_law := (List.forall_mem_cons.mpr ⟨mwL_852, List.forall_mem_cons.mpr ⟨mwL_853, List.forall_mem_cons.mpr ⟨mwL_854, List.forall_mem_cons.mpr ⟨mwL_222, List.forall_mem_cons.mpr ⟨mwL_98, List.forall_mem_cons.mpr ⟨mwL_855, List.forall_mem_cons.mpr ⟨mwL_786, List.forall_mem_cons.mpr ⟨mwL_289, List.forall_mem_cons.mpr ⟨mwL_787, List.forall_mem_cons.mpr ⟨mwL_228, List.forall_mem_cons.mpr ⟨mwL_209, List.forall_mem_cons.mpr ⟨mwL_210, List.forall_mem_cons.mpr ⟨mwL_211, List.forall_mem_cons.mpr ⟨mwL_212, List.forall_mem_cons.mpr ⟨mwL_2, List.forall_mem_cons.mpr ⟨mwL_213, List.forall_mem_cons.mpr ⟨mwL_856, List.forall_mem_cons.mpr ⟨mwL_857, List.forall_mem_cons.mpr ⟨mwL_858, List.forall_mem_cons.mpr ⟨mwL_859, List.forall_mem_cons.mpr ⟨mwL_99, List.forall_mem_cons.mpr ⟨mwL_860, List.forall_mem_cons.mpr ⟨mwL_861, List.forall_mem_cons.mpr ⟨mwL_862, fun _ h => absurd h List.not_mem_nil⟩⟩⟩⟩⟩⟩⟩⟩⟩⟩⟩⟩⟩⟩⟩⟩⟩⟩⟩⟩⟩⟩⟩⟩)
theorem bL_wsX11_index_r3 : ∀ w ∈ wsX11_index_r3, w ∈ wsL_law := (List.forall_mem_cons.mpr ⟨mwL_863, List.forall_mem_cons.mpr ⟨mwL_864, fun _ h => absurd h List.not_mem_nil⟩⟩)
set_option maxRecDepth 20000 in
theorem ggL_law_X11_index : GoodIn wsL_law wsX11_index := goodIn_sub (List.forall_mem_cons.mpr ⟨mwL_846, List.forall_mem_append.mpr ⟨List.forall_mem_append.mpr ⟨List.forall_mem_append.mpr ⟨List.forall_mem_append.mpr ⟨List.forall_mem_append.mpr ⟨List.forall_mem_append.mpr ⟨bL_wsX11_index_r1, List.forall_mem_append.mpr ⟨bL_wsX11_index_r2, bL_wsX11_index_r3⟩⟩, inlX11⟩, inlX2⟩, inlX6⟩, inlX5⟩, inlX8⟩⟩) (by decide +kernel)
theorem gL_law_X11_index : GoodIn wsL_law (wsV RL 102 RX11 yX11_index wsX11_index) := goodIn_app (goodIn_sub (List.forall_mem_cons.mpr ⟨mwL_843, List.forall_mem_cons.mpr ⟨mwL_844, List.forall_mem_cons.mpr ⟨mwL_845, List.forall_mem_cons.mpr ⟨mwL_2, fun _ h => absurd h List.not_mem_nil⟩⟩⟩⟩) (by decide +kernel)) ggL_law_X11_index
theorem bL_wsX12_index_r1 : ∀ w ∈ wsX12_index_r1, w ∈ wsL_law := (List.forall_mem_cons.mpr ⟨mwL_135, List.forall_mem_cons.mpr ⟨mwL_136, List.forall_mem_cons.mpr ⟨mwL_768, List.forall_mem_cons.mpr ⟨mwL_309, List.forall_mem_cons.mpr ⟨mwL_310, List.forall_mem_cons.mpr ⟨mwL_5, List.forall_mem_cons.mpr ⟨mwL_311, List.forall_mem_cons.mpr ⟨mwL_632, List.forall_mem_cons.mpr ⟨mwL_633, List.forall_mem_cons.mpr ⟨mwL_634, List.forall_mem_cons.mpr ⟨mwL_635, List.forall_mem_cons.mpr ⟨mwL_131, List.forall_mem_cons.mpr ⟨mwL_349, List.forall_mem_cons.mpr ⟨mwL_350, List.forall_mem_cons.mpr ⟨mwL_351, List.forall_mem_cons.mpr ⟨mwL_352, List.forall_mem_cons.mpr ⟨mwL_764, List.forall_mem_cons.mpr ⟨mwL_765, List.forall_mem_cons.mpr ⟨mwL_766, List.forall_mem_cons.mpr ⟨mwL_767, List.forall_mem_cons.mpr ⟨mwL_664, List.forall_mem_cons.mpr ⟨mwL_345, List.forall_mem_cons.mpr ⟨mwL_346, List.forall_mem_cons.mpr ⟨mwL_347, fun _ h => absurd h List.not_mem_nil⟩⟩⟩⟩⟩⟩⟩⟩⟩⟩⟩⟩⟩⟩⟩⟩⟩⟩⟩⟩⟩⟩⟩⟩)
theorem bL_wsX12_index_r2 : ∀ w ∈ wsX12_index_r2, w ∈ wsL_law := (List.forall_mem_cons.mpr ⟨mwL_348, List.forall_mem_cons.mpr ⟨mwL_665, List.forall_mem_cons.mpr ⟨mwL_666, List.forall_mem_cons.mpr ⟨mwL_667, List.forall_mem_cons.mpr ⟨mwL_668, List.forall_mem_cons.mpr ⟨mwL_663, fun _ h => absurd h List.not_mem_nil⟩⟩⟩⟩⟩⟩)
set_option maxRecDepth 20000 in
theorem ggL_law_X12_index : GoodIn wsL_law wsX12_index := goodIn_sub (List.forall_mem_cons.mpr ⟨mwL_868, List.forall_mem_append.mpr ⟨List.forall_mem_append.mpr ⟨bL_wsX12_index_r1, bL_wsX12_index_r2⟩, inlX12⟩⟩) (by decide +kernel)
theorem gL_law_X12_index : GoodIn wsL_law (wsV RL 105 RX12 yX12_index wsX12_index) := goodIn_app (goodIn_sub (List.forall_mem_cons.mpr ⟨mwL_865, List.forall_mem_cons.mpr ⟨mwL_866, List.forall_mem_cons.mpr ⟨mwL_867, List.forall_mem_cons.mpr ⟨mwL_5, fun _ h => absurd h List.not_mem_nil⟩⟩⟩⟩) (by decide +kernel)) ggL_law_X12_index
set_option maxRecDepth 20000 in
theorem ggL_law_X11_event : GoodIn wsL_law wsX11_event := goodIn_sub (List.forall_mem_cons.mpr ⟨mwL_872, List.forall_mem_append.mpr ⟨List.forall_mem_append.mpr ⟨List.forall_mem_append.mpr ⟨List.forall_mem_append.mpr ⟨(List.forall_mem_cons.mpr ⟨mwL_15, List.forall_mem_cons.mpr ⟨mwL_141, List.forall_mem_cons.mpr ⟨mwL_873, List.forall_mem_cons.mpr ⟨mwL_874, List.forall_mem_cons.mpr ⟨mwL_875, List.forall_mem_cons.mpr ⟨mwL_876, List.forall_mem_cons.mpr ⟨mwL_877, List.forall_mem_cons.mpr ⟨mwL_878, List.forall_mem_cons.mpr ⟨mwL_879, List.forall_mem_cons.mpr ⟨mwL_880, List.forall_mem_cons.mpr ⟨mwL_881, List.forall_mem_cons.mpr ⟨mwL_58, List.forall_mem_cons.mpr ⟨mwL_882, List.forall_mem_cons.mpr ⟨mwL_182, List.forall_mem_cons.mpr ⟨mwL_287, List.forall_mem_cons.mpr ⟨mwL_288, List.forall_mem_cons.mpr ⟨mwL_289, List.forall_mem_cons.mpr ⟨mwL_290, fun _ h => absurd h List.not_mem_nil⟩⟩⟩⟩⟩⟩⟩⟩⟩⟩⟩⟩⟩⟩⟩⟩⟩⟩), inlX11⟩, inlX2⟩, inlX6⟩, inlX3⟩⟩) (by decide +kernel)
theorem gL_law_X11_event : GoodIn wsL_law (wsV RL 106 RX11 yX11_event wsX11_event) := goodIn_app (goodIn_sub (List.forall_mem_cons.mpr ⟨mwL_869, List.forall_mem_cons.mpr ⟨mwL_870, List.forall_mem_cons.mpr ⟨mwL_871, List.forall_mem_cons.mpr ⟨mwL_2, fun _ h => absurd h List.not_mem_nil⟩⟩⟩⟩) (by decide +kernel)) ggL_law_X11_event
set_option maxRecDepth 20000 in
theorem ggL_law_X12_event : GoodIn wsL_law wsX12_event := goodIn_sub (List.forall_mem_cons.mpr ⟨mwL_886, List.forall_mem_append.mpr ⟨(List.forall_mem_cons.mpr ⟨mwL_131, List.forall_mem_cons.mpr ⟨mwL_309, List.forall_mem_cons.mpr ⟨mwL_310, List.forall_mem_cons.mpr ⟨mwL_5, List.forall_mem_cons.mpr ⟨mwL_311, fun _ h => absurd h List.not_mem_nil⟩⟩⟩⟩⟩), inlX12⟩⟩) (by decide +kernel)
theorem gL_law_X12_event : GoodIn wsL_law (wsV RL 109 RX12 yX12_event wsX12_event) := goodIn_app (goodIn_sub (List.forall_mem_cons.mpr ⟨mwL_883, List.forall_mem_cons.mpr ⟨mwL_884, List.forall_mem_cons.mpr ⟨mwL_885, List.forall_mem_cons.mpr ⟨mwL_5, fun _ h => absurd h List.not_mem_nil⟩⟩⟩⟩) (by decide +kernel)) ggL_law_X12_event
theorem bL_wsX11_count_r1 : ∀ w ∈ wsX11_count_r1, w ∈ wsL_law := (List.forall_mem_cons.mpr ⟨mwL_15, List.forall_mem_cons.mpr ⟨mwL_141, List.forall_mem_cons.mpr ⟨mwL_537, List.forall_mem_cons.mpr ⟨mwL_142, List.forall_mem_cons.mpr ⟨mwL_143, List.forall_mem_cons.mpr ⟨mwL_486, List.forall_mem_cons.mpr ⟨mwL_487, List.forall_mem_cons.mpr ⟨mwL_678, List.forall_mem_cons.mpr ⟨mwL_679, List.forall_mem_cons.mpr ⟨mwL_648, List.forall_mem_cons.mpr ⟨mwL_649, List.forall_mem_cons.mpr ⟨mwL_19, List.forall_mem_cons.mpr ⟨mwL_602, List.forall_mem_cons.mpr ⟨mwL_27, List.forall_mem_cons.mpr ⟨mwL_581, List.forall_mem_cons.mpr ⟨mwL_622, List.forall_mem_cons.mpr ⟨mwL_623, List.forall_mem_cons.mpr ⟨mwL_624, List.forall_mem_cons.mpr ⟨mwL_50, List.forall_mem_cons.mpr ⟨mwL_625, List.forall_mem_cons.mpr ⟨mwL_166, List.forall_mem_cons.mpr ⟨mwL_626, List.forall_mem_cons.mpr ⟨mwL_299, List.forall_mem_cons.mpr ⟨mwL_300, fun _ h => absurd h List.not_mem_nil⟩⟩⟩⟩⟩⟩⟩⟩⟩⟩⟩⟩⟩⟩⟩⟩⟩⟩⟩⟩⟩⟩⟩⟩)
theorem bL_wsX11_count_r2 : ∀ w ∈ wsX11_count_r2, w ∈ wsL_law := (List.forall_mem_cons.mpr ⟨mwL_301, List.forall_mem_cons.mpr ⟨mwL_302, List.forall_mem_cons.mpr ⟨mwL_303, List.forall_mem_cons.mpr ⟨mwL_304, List.forall_mem_cons.mpr ⟨mwL_891, List.forall_mem_cons.mpr ⟨mwL_892, List.forall_mem_cons.mpr ⟨mwL_2, List.forall_mem_cons.mpr ⟨mwL_893, List.forall_mem_cons.mpr ⟨mwL_894, List.forall_mem_cons.mpr ⟨mwL_895, List.forall_mem_cons.mpr ⟨mwL_896, List.forall_mem_cons.mpr ⟨mwL_897, List.forall_mem_cons.mpr ⟨mwL_165, List.forall_mem_cons.mpr ⟨mwL_66, List.forall_mem_cons.mpr ⟨mwL_67, List.forall_mem_cons.mpr ⟨mwL_446, List.forall_mem_cons.mpr ⟨mwL_209, List.forall_mem_cons.mpr ⟨mwL_210, List.forall_mem_cons.mpr ⟨mwL_211, List.forall_mem_cons.mpr ⟨mwL_212, List.forall_mem_cons.mpr ⟨mwL_213, List.forall_mem_cons.mpr ⟨mwL_898, List.forall_mem_cons.mpr ⟨mwL_899, List.forall_mem_cons.mpr ⟨mwL_900, fun _ h => absurd h List.not_mem_nil⟩⟩⟩⟩⟩⟩⟩⟩⟩⟩⟩⟩⟩⟩⟩⟩⟩⟩⟩⟩⟩⟩⟩⟩)
theorem bL_wsX11_count_r3 : ∀ w ∈ wsX11_count_r3, w ∈ wsL_law := (List.forall_mem_cons.mpr ⟨mwL_54, List.forall_mem_cons.mpr ⟨mwL_901, List.forall_mem_cons.mpr ⟨mwL_175, List.forall_mem_cons.mpr ⟨mwL_76, List.forall_mem_cons.mpr ⟨mwL_682, List.forall_mem_cons.mpr ⟨mwL_902, List.forall_mem_cons.mpr ⟨mwL_903, List.forall_mem_cons.mpr ⟨mwL_904, List.forall_mem_cons.mpr ⟨mwL_905, List.forall_mem_cons.mpr ⟨mwL_906, List.forall_mem_cons.mpr ⟨mwL_907, List.forall_mem_cons.mpr ⟨mwL_908, List.forall_mem_cons.mpr ⟨mwL_909, fun _ h => absurd h List.not_mem_nil⟩⟩⟩⟩⟩⟩⟩⟩⟩⟩⟩⟩⟩)
set_option maxRecDepth 20000 in
theorem ggL_law_X11_count : GoodIn wsL_law wsX11_count := goodIn_sub (List.forall_mem_cons.mpr ⟨mwL_890, List.forall_mem_append.mpr ⟨List.forall_mem_append.mpr ⟨List.forall_mem_append.mpr ⟨List.forall_mem_append.mpr ⟨List.forall_mem_append.mpr ⟨List.forall_mem_append.mpr ⟨List.forall_mem_append.mpr ⟨List.forall_mem_append.mpr ⟨bL_wsX11_count_r1, List.forall_mem_append.mpr ⟨bL_wsX11_count_r2, bL_wsX11_count_r3⟩⟩, inlX11⟩, inlX2⟩, inlX6⟩, inlX5⟩, inlX9⟩, inlX1⟩, inlX7⟩⟩) (by decide +kernel)
theorem gL_law_X11_count : GoodIn wsL_law (wsV RL 110 RX11 yX11_count wsX11_count) := goodIn_app (goodIn_sub (List.forall_mem_cons.mpr ⟨mwL_887, List.forall_mem_cons.mpr ⟨mwL_888, List.forall_mem_cons.mpr ⟨mwL_889, List.forall_mem_cons.mpr ⟨mwL_2, fun _ h => absurd h List.not_mem_nil⟩⟩⟩⟩) (by decide +kernel)) ggL_law_X11_count
theorem bL_wsX12_count_r1 : ∀ w ∈ wsX12_count_r1, w ∈ wsL_law := (List.forall_mem_cons.mpr ⟨mwL_131, List.forall_mem_cons.mpr ⟨mwL_316, List.forall_mem_cons.mpr ⟨mwL_420, List.forall_mem_cons.mpr ⟨mwL_632, List.forall_mem_cons.mpr ⟨mwL_633, List.forall_mem_cons.mpr ⟨mwL_634, List.forall_mem_cons.mpr ⟨mwL_5, List.forall_mem_cons.mpr ⟨mwL_635, List.forall_mem_cons.mpr ⟨mwL_349, List.forall_mem_cons.mpr ⟨mwL_350, List.forall_mem_cons.mpr ⟨mwL_351, List.forall_mem_cons.mpr ⟨mwL_352, List.forall_mem_cons.mpr ⟨mwL_914, List.forall_mem_cons.mpr ⟨mwL_915, List.forall_mem_cons.mpr ⟨mwL_916, List.forall_mem_cons.mpr ⟨mwL_917, List.forall_mem_cons.mpr ⟨mwL_345, List.forall_mem_cons.mpr ⟨mwL_346, List.forall_mem_cons.mpr ⟨mwL_347, List.forall_mem_cons.mpr ⟨mwL_348, List.forall_mem_cons.mpr ⟨mwL_918, List.forall_mem_cons.mpr ⟨mwL_919, List.forall_mem_cons.mpr ⟨mwL_920, List.forall_mem_cons.mpr ⟨mwL_921, fun _ h => absurd h List.not_mem_nil⟩⟩⟩⟩⟩⟩⟩⟩⟩⟩⟩⟩⟩⟩⟩⟩⟩⟩⟩⟩⟩⟩⟩⟩)
theorem bL_wsX12_count_r2 : ∀ w ∈ wsX12_count_r2, w ∈ wsL_law := (List.forall_mem_cons.mpr ⟨mwL_669, List.forall_mem_cons.mpr ⟨mwL_670, List.forall_mem_cons.mpr ⟨mwL_671, List.forall_mem_cons.mpr ⟨mwL_672, List.forall_mem_cons.mpr ⟨mwL_337, List.forall_mem_cons.mpr ⟨mwL_338, List.forall_mem_cons.mpr ⟨mwL_339, List.forall_mem_cons.mpr ⟨mwL_340, List.forall_mem_cons.mpr ⟨mwL_922, List.forall_mem_cons.mpr ⟨mwL_923, List.forall_mem_cons.mpr ⟨mwL_924, List.forall_mem_cons.mpr ⟨mwL_925, fun _ h => absurd h List.not_mem_nil⟩⟩⟩⟩⟩⟩⟩⟩⟩⟩⟩⟩)
set_option maxRecDepth 20000 in
theorem ggL_law_X12_count : GoodIn wsL_law wsX12_count := goodIn_sub (List.forall_mem_cons.mpr ⟨mwL_913, List.forall_mem_append.mpr ⟨List.forall_mem_append.mpr ⟨bL_wsX12_count_r1, bL_wsX12_count_r2⟩, inlX12⟩⟩) (by decide +kernel)
theorem gL_law_X12_count : GoodIn wsL_law (wsV RL 113 RX12 yX12_count wsX12_count) := goodIn_app (goodIn_sub (List.forall_mem_cons.mpr ⟨mwL_910, List.forall_mem_cons.mpr ⟨mwL_911, List.forall_mem_cons.mpr ⟨mwL_912, List.forall_mem_cons.mpr ⟨mwL_5, fun _ h => absurd h List.not_mem_nil⟩⟩⟩⟩) (by decide +kernel)) ggL_law_X12_count
theorem dL_law_0 : decode cL_law 0 = .ok (.new 7, 3) := by decide +kernel
theorem dL_law_3 : decode cL_law 3 = .ok (.dup, 1) := by decide +kernel
theorem dL_law_4 : decode cL_law 4 = .ok (.invokespecial 9, 3) := by decide +kernel
theorem dL_law_7 : decode cL_law 7 = .ok (.astore_n 1, 1) := by decide +kernel
theorem dL_law_8 : decode cL_law 8 = .ok (.new 10, 3) := by decide +kernel
theorem dL_law_11 : decode cL_law 11 = .ok (.dup, 1) := by decide +kernel
theorem dL_law_12 : decode cL_law 12 = .ok (.invokespecial 12, 3) := by decide +kernel
theorem dL_law_15 : decode cL_law 15 = .ok (.astore_n 2, 1) := by decide +kernel
theorem dL_law_16 : decode cL_law 16 = .ok (.iconst 0, 1) := by decide +kernel
theorem dL_law_17 : decode cL_law 17 = .ok (.istore_n 3, 1) := by decide +kernel
theorem dL_law_18 : decode cL_law 18 = .ok (.iload_n 3, 1) := by decide +kernel
theorem dL_law_19 : decode cL_law 19 = .ok (.aload_n 0, 1) := by decide +kernel
theorem dL_law_20 : decode cL_law 20 = .ok (.arraylength, 1) := by decide +kernel
theorem dL_law_21 : decode cL_law 21 = .ok (.iconst 3, 1) := by decide +kernel
theorem dL_law_22 : decode cL_law 22 = .ok (.isub, 1) := by decide +kernel
theorem dL_law_23 : decode cL_law 23 = .ok (.if_icmp .gt 767, 3) := by decide +kernel
theorem dL_law_26 : decode cL_law 26 = .ok (.aload_n 0, 1) := by decide +kernel
theorem dL_law_27 : decode cL_law 27 = .ok (.iload_n 3, 1) := by decide +kernel
theorem dL_law_28 : decode cL_law 28 = .ok (.iaload, 1) := by decide +kernel
theorem dL_law_29 : decode cL_law 29 = .ok (.bipush 31, 2) := by decide +kernel
theorem dL_law_31 : decode cL_law 31 = .ok (.iand, 1) := by decide +kernel
theorem dL_law_32 : decode cL_law 32 = .ok (.tableswitch 752 0 23 #[112, 145, 158, 181, 214, 247, 280, 313, 336, 361, 374, 387, 400, 413, 446, 479, 512, 545, 594, 617, 640, 673, 696, 729], 112) := by decide +kernel
theorem dL_law_144 : decode cL_law 144 = .ok (.aload_n 1, 1) := by decide +kernel
theorem dL_law_145 : decode cL_law 145 = .ok (.aload_n 0, 1) := by decide +kernel
theorem dL_law_146 : decode cL_law 146 = .ok (.iload_n 3, 1) := by decide +kernel
theorem dL_law_147 : decode cL_law 147 = .ok (.iconst 1, 1) := by decide +kernel
theorem dL_law_148 : decode cL_law 148 = .ok (.iadd, 1) := by decide +kernel
theorem dL_law_149 : decode cL_law 149 = .ok (.iaload, 1) := by decide +kernel
theorem dL_law_150 : decode cL_law 150 = .ok (.aload_n 0, 1) := by decide +kernel
theorem dL_law_151 : decode cL_law 151 = .ok (.iload_n 3, 1) := by decide +kernel
theorem dL_law_152 : decode cL_law 152 = .ok (.iconst 2, 1) := by decide +kernel
theorem dL_law_153 : decode cL_law 153 = .ok (.iadd, 1) := by decide +kernel
theorem dL_law_154 : decode cL_law 154 = .ok (.iaload, 1) := by decide +kernel
theorem dL_law_155 : decode cL_law 155 = .ok (.invokevirtual 13, 3) := by decide +kernel
theorem dL_law_158 : decode cL_law 158 = .ok (.aload_n 2, 1) := by decide +kernel
theorem dL_law_159 : decode cL_law 159 = .ok (.aload_n 0, 1) := by decide +kernel
theorem dL_law_160 : decode cL_law 160 = .ok (.iload_n 3, 1) := by decide +kernel
theorem dL_law_161 : decode cL_law 161 = .ok (.iconst 1, 1) := by decide +kernel
theorem dL_law_162 : decode cL_law 162 = .ok (.iadd, 1) := by decide +kernel
theorem dL_law_163 : decode cL_law 163 = .ok (.iaload, 1) := by decide +kernel
theorem dL_law_164 : decode cL_law 164 = .ok (.aload_n 0, 1) := by decide +kernel
theorem dL_law_165 : decode cL_law 165 = .ok (.iload_n 3, 1) := by decide +kernel
theorem dL_law_166 : decode cL_law 166 = .ok (.iconst 2, 1) := by decide +kernel
theorem dL_law_167 : decode cL_law 167 = .ok (.iadd, 1) := by decide +kernel
theorem dL_law_168 : decode cL_law 168 = .ok (.iaload, 1) := by decide +kernel
theorem dL_law_169 : decode cL_law 169 = .ok (.invokevirtual 17, 3) := by decide +kernel
theorem dL_law_172 : decode cL_law 172 = .ok (.if_icmp .eq 612, 3) := by decide +kernel
theorem dL_law_175 : decode cL_law 175 = .ok (.iconst 0, 1) := by decide +kernel
theorem dL_law_176 : decode cL_law 176 = .ok (.ireturn, 1) := by decide +kernel
theorem dL_law_177 : decode cL_law 177 = .ok (.aload_n 1, 1) := by decide +kernel
theorem dL_law_178 : decode cL_law 178 = .ok (.invokevirtual 18, 3) := by decide +kernel
theorem dL_law_181 : decode cL_law 181 = .ok (.aload_n 2, 1) := by decide +kernel
theorem dL_law_182 : decode cL_law 182 = .ok (.invokevirtual 22, 3) := by decide +kernel
theorem dL_law_185 : decode cL_law 185 = .ok (.if_icmp .eq 599, 3) := by decide +kernel
theorem dL_law_188 : decode cL_law 188 = .ok (.iconst 0, 1) := by decide +kernel
theorem dL_law_189 : decode cL_law 189 = .ok (.ireturn, 1) := by decide +kernel
theorem dL_law_190 : decode cL_law 190 = .ok (.aload_n 1, 1) := by decide +kernel
theorem dL_law_191 : decode cL_law 191 = .ok (.aload_n 0, 1) := by decide +kernel
theorem dL_law_192 : decode cL_law 192 = .ok (.iload_n 3, 1) := by decide +kernel
theorem dL_law_193 : decode cL_law 193 = .ok (.iconst 1, 1) := by decide +kernel
theorem dL_law_194 : decode cL_law 194 = .ok (.iadd, 1) := by decide +kernel
theorem dL_law_195 : decode cL_law 195 = .ok (.iaload, 1) := by decide +kernel
theorem dL_law_196 : decode cL_law 196 = .ok (.invokevirtual 23, 3) := by decide +kernel
theorem dL_law_199 : decode cL_law 199 = .ok (.aload_n 2, 1) := by decide +kernel
theorem dL_law_200 : decode cL_law 200 = .ok (.aload_n 0, 1) := by decide +kernel
theorem dL_law_201 : decode cL_law 201 = .ok (.iload_n 3, 1) := by decide +kernel
theorem dL_law_202 : decode cL_law 202 = .ok (.iconst 1, 1) := by decide +kernel
theorem dL_law_203 : decode cL_law 203 = .ok (.iadd, 1) := by decide +kernel
theorem dL_law_204 : decode cL_law 204 = .ok (.iaload, 1) := by decide +kernel
theorem dL_law_205 : decode cL_law 205 = .ok (.invokevirtual 27, 3) := by decide +kernel
theorem dL_law_208 : decode cL_law 208 = .ok (.if_icmp .eq 576, 3) := by decide +kernel
theorem dL_law_211 : decode cL_law 211 = .ok (.iconst 0, 1) := by decide +kernel
theorem dL_law_212 : decode cL_law 212 = .ok (.ireturn, 1) := by decide +kernel
theorem dL_law_213 : decode cL_law 213 = .ok (.aload_n 1, 1) := by decide +kernel
theorem dL_law_214 : decode cL_law 214 = .ok (.aload_n 0, 1) := by decide +kernel
theorem dL_law_215 : decode cL_law 215 = .ok (.iload_n 3, 1) := by decide +kernel
theorem dL_law_216 : decode cL_law 216 = .ok (.iconst 1, 1) := by decide +kernel
theorem dL_law_217 : decode cL_law 217 = .ok (.iadd, 1) := by decide +kernel
theorem dL_law_218 : decode cL_law 218 = .ok (.iaload, 1) := by decide +kernel
theorem dL_law_219 : decode cL_law 219 = .ok (.aload_n 0, 1) := by decide +kernel
theorem dL_law_220 : decode cL_law 220 = .ok (.iload_n 3, 1) := by decide +kernel
theorem dL_law_221 : decode cL_law 221 = .ok (.iconst 2, 1) := by decide +kernel
theorem dL_law_222 : decode cL_law 222 = .ok (.iadd, 1) := by decide +kernel
theorem dL_law_223 : decode cL_law 223 = .ok (.iaload, 1) := by decide +kernel
theorem dL_law_224 : decode cL_law 224 = .ok (.invokevirtual 28, 3) := by decide +kernel
theorem dL_law_227 : decode cL_law 227 = .ok (.aload_n 2, 1) := by decide +kernel
theorem dL_law_228 : decode cL_law 228 = .ok (.aload_n 0, 1) := by decide +kernel
theorem dL_law_229 : decode cL_law 229 = .ok (.iload_n 3, 1) := by decide +kernel
theorem dL_law_230 : decode cL_law 230 = .ok (.iconst 1, 1) := by decide +kernel
theorem dL_law_231 : decode cL_law 231 = .ok (.iadd, 1) := by decide +kernel
theorem dL_law_232 : decode cL_law 232 = .ok (.iaload, 1) := by decide +kernel
theorem dL_law_233 : decode cL_law 233 = .ok (.aload_n 0, 1) := by decide +kernel
theorem dL_law_234 : decode cL_law 234 = .ok (.iload_n 3, 1) := by decide +kernel
theorem dL_law_235 : decode cL_law 235 = .ok (.iconst 2, 1) := by decide +kernel
theorem dL_law_236 : decode cL_law 236 = .ok (.iadd, 1) := by decide +kernel
theorem dL_law_237 : decode cL_law 237 = .ok (.iaload, 1) := by decide +kernel
theorem dL_law_238 : decode cL_law 238 = .ok (.invokevirtual 31, 3) := by decide +kernel
theorem dL_law_241 : decode cL_law 241 = .ok (.if_icmp .eq 543, 3) := by decide +kernel
theorem dL_law_244 : decode cL_law 244 = .ok (.iconst 0, 1) := by decide +kernel
theorem dL_law_245 : decode cL_law 245 = .ok (.ireturn, 1) := by decide +kernel
theorem dL_law_246 : decode cL_law 246 = .ok (.aload_n 1, 1) := by decide +kernel
theorem dL_law_247 : decode cL_law 247 = .ok (.aload_n 0, 1) := by decide +kernel
theorem dL_law_248 : decode cL_law 248 = .ok (.iload_n 3, 1) := by decide +kernel
theorem dL_law_249 : decode cL_law 249 = .ok (.iconst 1, 1) := by decide +kernel
theorem dL_law_250 : decode cL_law 250 = .ok (.iadd, 1) := by decide +kernel
theorem dL_law_251 : decode cL_law 251 = .ok (.iaload, 1) := by decide +kernel
theorem dL_law_252 : decode cL_law 252 = .ok (.aload_n 0, 1) := by decide +kernel
theorem dL_law_253 : decode cL_law 253 = .ok (.iload_n 3, 1) := by decide +kernel
theorem dL_law_254 : decode cL_law 254 = .ok (.iconst 2, 1) := by decide +kernel
theorem dL_law_255 : decode cL_law 255 = .ok (.iadd, 1) := by decide +kernel
theorem dL_law_256 : decode cL_law 256 = .ok (.iaload, 1) := by decide +kernel
theorem dL_law_257 : decode cL_law 257 = .ok (.invokevirtual 32, 3) := by decide +kernel
theorem dL_law_260 : decode cL_law 260 = .ok (.aload_n 2, 1) := by decide +kernel
theorem dL_law_261 : decode cL_law 261 = .ok (.aload_n 0, 1) := by decide +kernel
theorem dL_law_262 : decode cL_law 262 = .ok (.iload_n 3, 1) := by decide +kernel
theorem dL_law_263 : decode cL_law 263 = .ok (.iconst 1, 1) := by decide +kernel
theorem dL_law_264 : decode cL_law 264 = .ok (.iadd, 1) := by decide +kernel
theorem dL_law_265 : decode cL_law 265 = .ok (.iaload, 1) := by decide +kernel
theorem dL_law_266 : decode cL_law 266 = .ok (.aload_n 0, 1) := by decide +kernel
theorem dL_law_267 : decode cL_law 267 = .ok (.iload_n 3, 1) := by decide +kernel
theorem dL_law_268 : decode cL_law 268 = .ok (.iconst 2, 1) := by decide +kernel
theorem dL_law_269 : decode cL_law 269 = .ok (.iadd, 1) := by decide +kernel
theorem dL_law_270 : decode cL_law 270 = .ok (.iaload, 1) := by decide +kernel
theorem dL_law_271 : decode cL_law 271 = .ok (.invokevirtual 35, 3) := by decide +kernel
theorem dL_law_274 : decode cL_law 274 = .ok (.if_icmp .eq 510, 3) := by decide +kernel
theorem dL_law_277 : decode cL_law 277 = .ok (.iconst 0, 1) := by decide +kernel
theorem dL_law_278 : decode cL_law 278 = .ok (.ireturn, 1) := by decide +kernel
theorem dL_law_279 : decode cL_law 279 = .ok (.aload_n 1, 1) := by decide +kernel
theorem dL_law_280 : decode cL_law 280 = .ok (.aload_n 0, 1) := by decide +kernel
theorem dL_law_281 : decode cL_law 281 = .ok (.iload_n 3, 1) := by decide +kernel
theorem dL_law_282 : decode cL_law 282 = .ok (.iconst 1, 1) := by decide +kernel
theorem dL_law_283 : decode cL_law 283 = .ok (.iadd, 1) := by decide +kernel
theorem dL_law_284 : decode cL_law 284 = .ok (.iaload, 1) := by decide +kernel
theorem dL_law_285 : decode cL_law 285 = .ok (.aload_n 0, 1) := by decide +kernel
theorem dL_law_286 : decode cL_law 286 = .ok (.iload_n 3, 1) := by decide +kernel
theorem dL_law_287 : decode cL_law 287 = .ok (.iconst 2, 1) := by decide +kernel
theorem dL_law_288 : decode cL_law 288 = .ok (.iadd, 1) := by decide +kernel
theorem dL_law_289 : decode cL_law 289 = .ok (.iaload, 1) := by decide +kernel
theorem dL_law_290 : decode cL_law 290 = .ok (.invokevirtual 36, 3) := by decide +kernel
theorem dL_law_293 : decode cL_law 293 = .ok (.aload_n 2, 1) := by decide +kernel
theorem dL_law_294 : decode cL_law 294 = .ok (.aload_n 0, 1) := by decide +kernel
theorem dL_law_295 : decode cL_law 295 = .ok (.iload_n 3, 1) := by decide +kernel
theorem dL_law_296 : decode cL_law 296 = .ok (.iconst 1, 1) := by decide +kernel
theorem dL_law_297 : decode cL_law 297 = .ok (.iadd, 1) := by decide +kernel
theorem dL_law_298 : decode cL_law 298 = .ok (.iaload, 1) := by decide +kernel
theorem dL_law_299 : decode cL_law 299 = .ok (.aload_n 0, 1) := by decide +kernel
theorem dL_law_300 : decode cL_law 300 = .ok (.iload_n 3, 1) := by decide +kernel
theorem dL_law_301 : decode cL_law 301 = .ok (.iconst 2, 1) := by decide +kernel
theorem dL_law_302 : decode cL_law 302 = .ok (.iadd, 1) := by decide +kernel
theorem dL_law_303 : decode cL_law 303 = .ok (.iaload, 1) := by decide +kernel
theorem dL_law_304 : decode cL_law 304 = .ok (.invokevirtual 39, 3) := by decide +kernel
theorem dL_law_307 : decode cL_law 307 = .ok (.if_icmp .eq 477, 3) := by decide +kernel
theorem dL_law_310 : decode cL_law 310 = .ok (.iconst 0, 1) := by decide +kernel
theorem dL_law_311 : decode cL_law 311 = .ok (.ireturn, 1) := by decide +kernel
theorem dL_law_312 : decode cL_law 312 = .ok (.aload_n 1, 1) := by decide +kernel
theorem dL_law_313 : decode cL_law 313 = .ok (.aload_n 0, 1) := by decide +kernel
theorem dL_law_314 : decode cL_law 314 = .ok (.iload_n 3, 1) := by decide +kernel
theorem dL_law_315 : decode cL_law 315 = .ok (.iconst 1, 1) := by decide +kernel
theorem dL_law_316 : decode cL_law 316 = .ok (.iadd, 1) := by decide +kernel
theorem dL_law_317 : decode cL_law 317 = .ok (.iaload, 1) := by decide +kernel
theorem dL_law_318 : decode cL_law 318 = .ok (.aload_n 0, 1) := by decide +kernel
theorem dL_law_319 : decode cL_law 319 = .ok (.iload_n 3, 1) := by decide +kernel
theorem dL_law_320 : decode cL_law 320 = .ok (.iconst 2, 1) := by decide +kernel
theorem dL_law_321 : decode cL_law 321 = .ok (.iadd, 1) := by decide +kernel
theorem dL_law_322 : decode cL_law 322 = .ok (.iaload, 1) := by decide +kernel
theorem dL_law_323 : decode cL_law 323 = .ok (.invokevirtual 40, 3) := by decide +kernel
theorem dL_law_326 : decode cL_law 326 = .ok (.aload_n 2, 1) := by decide +kernel
theorem dL_law_327 : decode cL_law 327 = .ok (.aload_n 0, 1) := by decide +kernel
theorem dL_law_328 : decode cL_law 328 = .ok (.iload_n 3, 1) := by decide +kernel
theorem dL_law_329 : decode cL_law 329 = .ok (.iconst 1, 1) := by decide +kernel
theorem dL_law_330 : decode cL_law 330 = .ok (.iadd, 1) := by decide +kernel
theorem dL_law_331 : decode cL_law 331 = .ok (.iaload, 1) := by decide +kernel
theorem dL_law_332 : decode cL_law 332 = .ok (.aload_n 0, 1) := by decide +kernel
theorem dL_law_333 : decode cL_law 333 = .ok (.iload_n 3, 1) := by decide +kernel
theorem dL_law_334 : decode cL_law 334 = .ok (.iconst 2, 1) := by decide +kernel
theorem dL_law_335 : decode cL_law 335 = .ok (.iadd, 1) := by decide +kernel
theorem dL_law_336 : decode cL_law 336 = .ok (.iaload, 1) := by decide +kernel
theorem dL_law_337 : decode cL_law 337 = .ok (.invokevirtual 43, 3) := by decide +kernel
theorem dL_law_340 : decode cL_law 340 = .ok (.if_icmp .eq 444, 3) := by decide +kernel
theorem dL_law_343 : decode cL_law 343 = .ok (.iconst 0, 1) := by decide +kernel
theorem dL_law_344 : decode cL_law 344 = .ok (.ireturn, 1) := by decide +kernel
theorem dL_law_345 : decode cL_law 345 = .ok (.aload_n 1, 1) := by decide +kernel
theorem dL_law_346 : decode cL_law 346 = .ok (.aload_n 0, 1) := by decide +kernel
theorem dL_law_347 : decode cL_law 347 = .ok (.iload_n 3, 1) := by decide +kernel
theorem dL_law_348 : decode cL_law 348 = .ok (.iconst 1, 1) := by decide +kernel
theorem dL_law_349 : decode cL_law 349 = .ok (.iadd, 1) := by decide +kernel
theorem dL_law_350 : decode cL_law 350 = .ok (.iaload, 1) := by decide +kernel
theorem dL_law_351 : decode cL_law 351 = .ok (.invokevirtual 44, 3) := by decide +kernel
theorem dL_law_354 : decode cL_law 354 = .ok (.aload_n 2, 1) := by decide +kernel
theorem dL_law_355 : decode cL_law 355 = .ok (.aload_n 0, 1) := by decide +kernel
theorem dL_law_356 : decode cL_law 356 = .ok (.iload_n 3, 1) := by decide +kernel
theorem dL_law_357 : decode cL_law 357 = .ok (.iconst 1, 1) := by decide +kernel
theorem dL_law_358 : decode cL_law 358 = .ok (.iadd, 1) := by decide +kernel
theorem dL_law_359 : decode cL_law 359 = .ok (.iaload, 1) := by decide +kernel
theorem dL_law_360 : decode cL_law 360 = .ok (.invokevirtual 47, 3) := by decide +kernel
theorem dL_law_363 : decode cL_law 363 = .ok (.if_icmp .eq 421, 3) := by decide +kernel
theorem dL_law_366 : decode cL_law 366 = .ok (.iconst 0, 1) := by decide +kernel
theorem dL_law_367 : decode cL_law 367 = .ok (.ireturn, 1) := by decide +kernel
theorem dL_law_368 : decode cL_law 368 = .ok (.aload_n 1, 1) := by decide +kernel
theorem dL_law_369 : decode cL_law 369 = .ok (.aload_n 0, 1) := by decide +kernel
theorem dL_law_370 : decode cL_law 370 = .ok (.iload_n 3, 1) := by decide +kernel
theorem dL_law_371 : decode cL_law 371 = .ok (.iconst 1, 1) := by decide +kernel
theorem dL_law_372 : decode cL_law 372 = .ok (.iadd, 1) := by decide +kernel
theorem dL_law_373 : decode cL_law 373 = .ok (.iaload, 1) := by decide +kernel
theorem dL_law_374 : decode cL_law 374 = .ok (.i2c, 1) := by decide +kernel
theorem dL_law_375 : decode cL_law 375 = .ok (.invokevirtual 48, 3) := by decide +kernel
theorem dL_law_378 : decode cL_law 378 = .ok (.aload_n 2, 1) := by decide +kernel
theorem dL_law_379 : decode cL_law 379 = .ok (.aload_n 0, 1) := by decide +kernel
theorem dL_law_380 : decode cL_law 380 = .ok (.iload_n 3, 1) := by decide +kernel
theorem dL_law_381 : decode cL_law 381 = .ok (.iconst 1, 1) := by decide +kernel
theorem dL_law_382 : decode cL_law 382 = .ok (.iadd, 1) := by decide +kernel
theorem dL_law_383 : decode cL_law 383 = .ok (.iaload, 1) := by decide +kernel
theorem dL_law_384 : decode cL_law 384 = .ok (.i2c, 1) := by decide +kernel
theorem dL_law_385 : decode cL_law 385 = .ok (.invokevirtual 52, 3) := by decide +kernel
theorem dL_law_388 : decode cL_law 388 = .ok (.if_icmp .eq 396, 3) := by decide +kernel
theorem dL_law_391 : decode cL_law 391 = .ok (.iconst 0, 1) := by decide +kernel
theorem dL_law_392 : decode cL_law 392 = .ok (.ireturn, 1) := by decide +kernel
theorem dL_law_393 : decode cL_law 393 = .ok (.aload_n 1, 1) := by decide +kernel
theorem dL_law_394 : decode cL_law 394 = .ok (.invokevirtual 53, 3) := by decide +kernel
theorem dL_law_397 : decode cL_law 397 = .ok (.aload_n 2, 1) := by decide +kernel
theorem dL_law_398 : decode cL_law 398 = .ok (.invokevirtual 56, 3) := by decide +kernel
theorem dL_law_401 : decode cL_law 401 = .ok (.if_icmp .eq 383, 3) := by decide +kernel
theorem dL_law_404 : decode cL_law 404 = .ok (.iconst 0, 1) := by decide +kernel
theorem dL_law_405 : decode cL_law 405 = .ok (.ireturn, 1) := by decide +kernel
theorem dL_law_406 : decode cL_law 406 = .ok (.aload_n 1, 1) := by decide +kernel
theorem dL_law_407 : decode cL_law 407 = .ok (.invokevirtual 57, 3) := by decide +kernel
theorem dL_law_410 : decode cL_law 410 = .ok (.aload_n 2, 1) := by decide +kernel
theorem dL_law_411 : decode cL_law 411 = .ok (.invokevirtual 60, 3) := by decide +kernel
theorem dL_law_414 : decode cL_law 414 = .ok (.if_icmp .eq 370, 3) := by decide +kernel
theorem dL_law_417 : decode cL_law 417 = .ok (.iconst 0, 1) := by decide +kernel
theorem dL_law_418 : decode cL_law 418 = .ok (.ireturn, 1) := by decide +kernel
theorem dL_law_419 : decode cL_law 419 = .ok (.aload_n 1, 1) := by decide +kernel
theorem dL_law_420 : decode cL_law 420 = .ok (.invokevirtual 61, 3) := by decide +kernel
theorem dL_law_423 : decode cL_law 423 = .ok (.aload_n 2, 1) := by decide +kernel
theorem dL_law_424 : decode cL_law 424 = .ok (.invokevirtual 64, 3) := by decide +kernel
theorem dL_law_427 : decode cL_law 427 = .ok (.if_icmp .eq 357, 3) := by decide +kernel
theorem dL_law_430 : decode cL_law 430 = .ok (.iconst 0, 1) := by decide +kernel
theorem dL_law_431 : decode cL_law 431 = .ok (.ireturn, 1) := by decide +kernel
theorem dL_law_432 : decode cL_law 432 = .ok (.aload_n 1, 1) := by decide +kernel
theorem dL_law_433 : decode cL_law 433 = .ok (.invokevirtual 65, 3) := by decide +kernel
theorem dL_law_436 : decode cL_law 436 = .ok (.aload_n 2, 1) := by decide +kernel
theorem dL_law_437 : decode cL_law 437 = .ok (.invokevirtual 68, 3) := by decide +kernel
theorem dL_law_440 : decode cL_law 440 = .ok (.if_icmp .eq 344, 3) := by decide +kernel
theorem dL_law_443 : decode cL_law 443 = .ok (.iconst 0, 1) := by decide +kernel
theorem dL_law_444 : decode cL_law 444 = .ok (.ireturn, 1) := by decide +kernel
theorem dL_law_445 : decode cL_law 445 = .ok (.aload_n 1, 1) := by decide +kernel
theorem dL_law_446 : decode cL_law 446 = .ok (.aload_n 0, 1) := by decide +kernel
theorem dL_law_447 : decode cL_law 447 = .ok (.iload_n 3, 1) := by decide +kernel
theorem dL_law_448 : decode cL_law 448 = .ok (.iconst 1, 1) := by decide +kernel
theorem dL_law_449 : decode cL_law 449 = .ok (.iadd, 1) := by decide +kernel
theorem dL_law_450 : decode cL_law 450 = .ok (.iaload, 1) := by decide +kernel
theorem dL_law_451 : decode cL_law 451 = .ok (.aload_n 0, 1) := by decide +kernel
theorem dL_law_452 : decode cL_law 452 = .ok (.iload_n 3, 1) := by decide +kernel
theorem dL_law_453 : decode cL_law 453 = .ok (.iconst 2, 1) := by decide +kernel
theorem dL_law_454 : decode cL_law 454 = .ok (.iadd, 1) := by decide +kernel
theorem dL_law_455 : decode cL_law 455 = .ok (.iaload, 1) := by decide +kernel
theorem dL_law_456 : decode cL_law 456 = .ok (.invokevirtual 69, 3) := by decide +kernel
theorem dL_law_459 : decode cL_law 459 = .ok (.aload_n 2, 1) := by decide +kernel
theorem dL_law_460 : decode cL_law 460 = .ok (.aload_n 0, 1) := by decide +kernel
theorem dL_law_461 : decode cL_law 461 = .ok (.iload_n 3, 1) := by decide +kernel
theorem dL_law_462 : decode cL_law 462 = .ok (.iconst 1, 1) := by decide +kernel
theorem dL_law_463 : decode cL_law 463 = .ok (.iadd, 1) := by decide +kernel
theorem dL_law_464 : decode cL_law 464 = .ok (.iaload, 1) := by decide +kernel
theorem dL_law_465 : decode cL_law 465 = .ok (.aload_n 0, 1) := by decide +kernel
theorem dL_law_466 : decode cL_law 466 = .ok (.iload_n 3, 1) := by decide +kernel
theorem dL_law_467 : decode cL_law 467 = .ok (.iconst 2, 1) := by decide +kernel
theorem dL_law_468 : decode cL_law 468 = .ok (.iadd, 1) := by decide +kernel
theorem dL_law_469 : decode cL_law 469 = .ok (.iaload, 1) := by decide +kernel
theorem dL_law_470 : decode cL_law 470 = .ok (.invokevirtual 72, 3) := by decide +kernel
theorem dL_law_473 : decode cL_law 473 = .ok (.if_icmp .eq 311, 3) := by decide +kernel
theorem dL_law_476 : decode cL_law 476 = .ok (.iconst 0, 1) := by decide +kernel
theorem dL_law_477 : decode cL_law 477 = .ok (.ireturn, 1) := by decide +kernel
theorem dL_law_478 : decode cL_law 478 = .ok (.aload_n 1, 1) := by decide +kernel
theorem dL_law_479 : decode cL_law 479 = .ok (.aload_n 0, 1) := by decide +kernel
theorem dL_law_480 : decode cL_law 480 = .ok (.iload_n 3, 1) := by decide +kernel
theorem dL_law_481 : decode cL_law 481 = .ok (.iconst 1, 1) := by decide +kernel
theorem dL_law_482 : decode cL_law 482 = .ok (.iadd, 1) := by decide +kernel
theorem dL_law_483 : decode cL_law 483 = .ok (.iaload, 1) := by decide +kernel
theorem dL_law_484 : decode cL_law 484 = .ok (.aload_n 0, 1) := by decide +kernel
theorem dL_law_485 : decode cL_law 485 = .ok (.iload_n 3, 1) := by decide +kernel
theorem dL_law_486 : decode cL_law 486 = .ok (.iconst 2, 1) := by decide +kernel
theorem dL_law_487 : decode cL_law 487 = .ok (.iadd, 1) := by decide +kernel
theorem dL_law_488 : decode cL_law 488 = .ok (.iaload, 1) := by decide +kernel
theorem dL_law_489 : decode cL_law 489 = .ok (.invokevirtual 73, 3) := by decide +kernel
theorem dL_law_492 : decode cL_law 492 = .ok (.aload_n 2, 1) := by decide +kernel
theorem dL_law_493 : decode cL_law 493 = .ok (.aload_n 0, 1) := by decide +kernel
theorem dL_law_494 : decode cL_law 494 = .ok (.iload_n 3, 1) := by decide +kernel
theorem dL_law_495 : decode cL_law 495 = .ok (.iconst 1, 1) := by decide +kernel
theorem dL_law_496 : decode cL_law 496 = .ok (.iadd, 1) := by decide +kernel
theorem dL_law_497 : decode cL_law 497 = .ok (.iaload, 1) := by decide +kernel
theorem dL_law_498 : decode cL_law 498 = .ok (.aload_n 0, 1) := by decide +kernel
theorem dL_law_499 : decode cL_law 499 = .ok (.iload_n 3, 1) := by decide +kernel
theorem dL_law_500 : decode cL_law 500 = .ok (.iconst 2, 1) := by decide +kernel
theorem dL_law_501 : decode cL_law 501 = .ok (.iadd, 1) := by decide +kernel
theorem dL_law_502 : decode cL_law 502 = .ok (.iaload, 1) := by decide +kernel
theorem dL_law_503 : decode cL_law 503 = .ok (.invokevirtual 76, 3) := by decide +kernel
theorem dL_law_506 : decode cL_law 506 = .ok (.if_icmp .eq 278, 3) := by decide +kernel
theorem dL_law_509 : decode cL_law 509 = .ok (.iconst 0, 1) := by decide +kernel
theorem dL_law_510 : decode cL_law 510 = .ok (.ireturn, 1) := by decide +kernel
theorem dL_law_511 : decode cL_law 511 = .ok (.aload_n 1, 1) := by decide +kernel
theorem dL_law_512 : decode cL_law 512 = .ok (.aload_n 0, 1) := by decide +kernel
theorem dL_law_513 : decode cL_law 513 = .ok (.iload_n 3, 1) := by decide +kernel
theorem dL_law_514 : decode cL_law 514 = .ok (.iconst 1, 1) := by decide +kernel
theorem dL_law_515 : decode cL_law 515 = .ok (.iadd, 1) := by decide +kernel
theorem dL_law_516 : decode cL_law 516 = .ok (.iaload, 1) := by decide +kernel
theorem dL_law_517 : decode cL_law 517 = .ok (.aload_n 0, 1) := by decide +kernel
theorem dL_law_518 : decode cL_law 518 = .ok (.iload_n 3, 1) := by decide +kernel
theorem dL_law_519 : decode cL_law 519 = .ok (.iconst 2, 1) := by decide +kernel
theorem dL_law_520 : decode cL_law 520 = .ok (.iadd, 1) := by decide +kernel
theorem dL_law_521 : decode cL_law 521 = .ok (.iaload, 1) := by decide +kernel
theorem dL_law_522 : decode cL_law 522 = .ok (.invokevirtual 77, 3) := by decide +kernel
theorem dL_law_525 : decode cL_law 525 = .ok (.aload_n 2, 1) := by decide +kernel
theorem dL_law_526 : decode cL_law 526 = .ok (.aload_n 0, 1) := by decide +kernel
theorem dL_law_527 : decode cL_law 527 = .ok (.iload_n 3, 1) := by decide +kernel
theorem dL_law_528 : decode cL_law 528 = .ok (.iconst 1, 1) := by decide +kernel
theorem dL_law_529 : decode cL_law 529 = .ok (.iadd, 1) := by decide +kernel
theorem dL_law_530 : decode cL_law 530 = .ok (.iaload, 1) := by decide +kernel
theorem dL_law_531 : decode cL_law 531 = .ok (.aload_n 0, 1) := by decide +kernel
theorem dL_law_532 : decode cL_law 532 = .ok (.iload_n 3, 1) := by decide +kernel
theorem dL_law_533 : decode cL_law 533 = .ok (.iconst 2, 1) := by decide +kernel
theorem dL_law_534 : decode cL_law 534 = .ok (.iadd, 1) := by decide +kernel
theorem dL_law_535 : decode cL_law 535 = .ok (.iaload, 1) := by decide +kernel
theorem dL_law_536 : decode cL_law 536 = .ok (.invokevirtual 80, 3) := by decide +kernel
theorem dL_law_539 : decode cL_law 539 = .ok (.if_icmp .eq 245, 3) := by decide +kernel
theorem dL_law_542 : decode cL_law 542 = .ok (.iconst 0, 1) := by decide +kernel
theorem dL_law_543 : decode cL_law 543 = .ok (.ireturn, 1) := by decide +kernel
theorem dL_law_544 : decode cL_law 544 = .ok (.aload_n 1, 1) := by decide +kernel
theorem dL_law_545 : decode cL_law 545 = .ok (.aload_n 0, 1) := by decide +kernel
theorem dL_law_546 : decode cL_law 546 = .ok (.iload_n 3, 1) := by decide +kernel
theorem dL_law_547 : decode cL_law 547 = .ok (.iconst 1, 1) := by decide +kernel
theorem dL_law_548 : decode cL_law 548 = .ok (.iadd, 1) := by decide +kernel
theorem dL_law_549 : decode cL_law 549 = .ok (.iaload, 1) := by decide +kernel
theorem dL_law_550 : decode cL_law 550 = .ok (.aload_n 0, 1) := by decide +kernel
theorem dL_law_551 : decode cL_law 551 = .ok (.iload_n 3, 1) := by decide +kernel
theorem dL_law_552 : decode cL_law 552 = .ok (.iconst 2, 1) := by decide +kernel
theorem dL_law_553 : decode cL_law 553 = .ok (.iadd, 1) := by decide +kernel
theorem dL_law_554 : decode cL_law 554 = .ok (.iaload, 1) := by decide +kernel
theorem dL_law_555 : decode cL_law 555 = .ok (.invokevirtual 81, 3) := by decide +kernel
theorem dL_law_558 : decode cL_law 558 = .ok (.aload_n 2, 1) := by decide +kernel
theorem dL_law_559 : decode cL_law 559 = .ok (.aload_n 0, 1) := by decide +kernel
theorem dL_law_560 : decode cL_law 560 = .ok (.iload_n 3, 1) := by decide +kernel
theorem dL_law_561 : decode cL_law 561 = .ok (.iconst 1, 1) := by decide +kernel
theorem dL_law_562 : decode cL_law 562 = .ok (.iadd, 1) := by decide +kernel
theorem dL_law_563 : decode cL_law 563 = .ok (.iaload, 1) := by decide +kernel
theorem dL_law_564 : decode cL_law 564 = .ok (.aload_n 0, 1) := by decide +kernel
theorem dL_law_565 : decode cL_law 565 = .ok (.iload_n 3, 1) := by decide +kernel
theorem dL_law_566 : decode cL_law 566 = .ok (.iconst 2, 1) := by decide +kernel
theorem dL_law_567 : decode cL_law 567 = .ok (.iadd, 1) := by decide +kernel
theorem dL_law_568 : decode cL_law 568 = .ok (.iaload, 1) := by decide +kernel
theorem dL_law_569 : decode cL_law 569 = .ok (.invokevirtual 84, 3) := by decide +kernel
theorem dL_law_572 : decode cL_law 572 = .ok (.if_icmp .eq 212, 3) := by decide +kernel
theorem dL_law_575 : decode cL_law 575 = .ok (.iconst 0, 1) := by decide +kernel
theorem dL_law_576 : decode cL_law 576 = .ok (.ireturn, 1) := by decide +kernel
theorem dL_law_577 : decode cL_law 577 = .ok (.aload_n 1, 1) := by decide +kernel
theorem dL_law_578 : decode cL_law 578 = .ok (.aload_n 0, 1) := by decide +kernel
theorem dL_law_579 : decode cL_law 579 = .ok (.iload_n 3, 1) := by decide +kernel
theorem dL_law_580 : decode cL_law 580 = .ok (.iconst 1, 1) := by decide +kernel
theorem dL_law_581 : decode cL_law 581 = .ok (.iadd, 1) := by decide +kernel
theorem dL_law_582 : decode cL_law 582 = .ok (.iaload, 1) := by decide +kernel
theorem dL_law_583 : decode cL_law 583 = .ok (.aload_n 0, 1) := by decide +kernel
theorem dL_law_584 : decode cL_law 584 = .ok (.iload_n 3, 1) := by decide +kernel
theorem dL_law_585 : decode cL_law 585 = .ok (.iconst 2, 1) := by decide +kernel
theorem dL_law_586 : decode cL_law 586 = .ok (.iadd, 1) := by decide +kernel
theorem dL_law_587 : decode cL_law 587 = .ok (.iaload, 1) := by decide +kernel
theorem dL_law_588 : decode cL_law 588 = .ok (.ifCond .eq 7, 3) := by decide +kernel
theorem dL_law_591 : decode cL_law 591 = .ok (.iconst 1, 1) := by decide +kernel
theorem dL_law_592 : decode cL_law 592 = .ok (.goto 4, 3) := by decide +kernel
theorem dL_law_595 : decode cL_law 595 = .ok (.iconst 0, 1) := by decide +kernel
theorem dL_law_596 : decode cL_law 596 = .ok (.invokevirtual 85, 3) := by decide +kernel
theorem dL_law_599 : decode cL_law 599 = .ok (.aload_n 2, 1) := by decide +kernel
theorem dL_law_600 : decode cL_law 600 = .ok (.aload_n 0, 1) := by decide +kernel
theorem dL_law_601 : decode cL_law 601 = .ok (.iload_n 3, 1) := by decide +kernel
theorem dL_law_602 : decode cL_law 602 = .ok (.iconst 1, 1) := by decide +kernel
theorem dL_law_603 : decode cL_law 603 = .ok (.iadd, 1) := by decide +kernel
theorem dL_law_604 : decode cL_law 604 = .ok (.iaload, 1) := by decide +kernel
theorem dL_law_605 : decode cL_law 605 = .ok (.aload_n 0, 1) := by decide +kernel
theorem dL_law_606 : decode cL_law 606 = .ok (.iload_n 3, 1) := by decide +kernel
theorem dL_law_607 : decode cL_law 607 = .ok (.iconst 2, 1) := by decide +kernel
theorem dL_law_608 : decode cL_law 608 = .ok (.iadd, 1) := by decide +kernel
theorem dL_law_609 : decode cL_law 609 = .ok (.iaload, 1) := by decide +kernel
theorem dL_law_610 : decode cL_law 610 = .ok (.ifCond .eq 7, 3) := by decide +kernel
theorem dL_law_613 : decode cL_law 613 = .ok (.iconst 1, 1) := by decide +kernel
theorem dL_law_614 : decode cL_law 614 = .ok (.goto 4, 3) := by decide +kernel
theorem dL_law_617 : decode cL_law 617 = .ok (.iconst 0, 1) := by decide +kernel
theorem dL_law_618 : decode cL_law 618 = .ok (.invokevirtual 89, 3) := by decide +kernel
theorem dL_law_621 : decode cL_law 621 = .ok (.if_icmp .eq 163, 3) := by decide +kernel
theorem dL_law_624 : decode cL_law 624 = .ok (.iconst 0, 1) := by decide +kernel
theorem dL_law_625 : decode cL_law 625 = .ok (.ireturn, 1) := by decide +kernel
theorem dL_law_626 : decode cL_law 626 = .ok (.aload_n 1, 1) := by decide +kernel
theorem dL_law_627 : decode cL_law 627 = .ok (.aload_n 0, 1) := by decide +kernel
theorem dL_law_628 : decode cL_law 628 = .ok (.iload_n 3, 1) := by decide +kernel
theorem dL_law_629 : decode cL_law 629 = .ok (.iconst 1, 1) := by decide +kernel
theorem dL_law_630 : decode cL_law 630 = .ok (.iadd, 1) := by decide +kernel
theorem dL_law_631 : decode cL_law 631 = .ok (.iaload, 1) := by decide +kernel
theorem dL_law_632 : decode cL_law 632 = .ok (.invokevirtual 90, 3) := by decide +kernel
theorem dL_law_635 : decode cL_law 635 = .ok (.aload_n 2, 1) := by decide +kernel
theorem dL_law_636 : decode cL_law 636 = .ok (.aload_n 0, 1) := by decide +kernel
theorem dL_law_637 : decode cL_law 637 = .ok (.iload_n 3, 1) := by decide +kernel
theorem dL_law_638 : decode cL_law 638 = .ok (.iconst 1, 1) := by decide +kernel
theorem dL_law_639 : decode cL_law 639 = .ok (.iadd, 1) := by decide +kernel
theorem dL_law_640 : decode cL_law 640 = .ok (.iaload, 1) := by decide +kernel
theorem dL_law_641 : decode cL_law 641 = .ok (.invokevirtual 93, 3) := by decide +kernel
theorem dL_law_644 : decode cL_law 644 = .ok (.if_icmp .eq 140, 3) := by decide +kernel
theorem dL_law_647 : decode cL_law 647 = .ok (.iconst 0, 1) := by decide +kernel
theorem dL_law_648 : decode cL_law 648 = .ok (.ireturn, 1) := by decide +kernel
theorem dL_law_649 : decode cL_law 649 = .ok (.aload_n 1, 1) := by decide +kernel
theorem dL_law_650 : decode cL_law 650 = .ok (.aload_n 0, 1) := by decide +kernel
theorem dL_law_651 : decode cL_law 651 = .ok (.iload_n 3, 1) := by decide +kernel
theorem dL_law_652 : decode cL_law 652 = .ok (.iconst 1, 1) := by decide +kernel
theorem dL_law_653 : decode cL_law 653 = .ok (.iadd, 1) := by decide +kernel
theorem dL_law_654 : decode cL_law 654 = .ok (.iaload, 1) := by decide +kernel
theorem dL_law_655 : decode cL_law 655 = .ok (.invokevirtual 94, 3) := by decide +kernel
theorem dL_law_658 : decode cL_law 658 = .ok (.aload_n 2, 1) := by decide +kernel
theorem dL_law_659 : decode cL_law 659 = .ok (.aload_n 0, 1) := by decide +kernel
theorem dL_law_660 : decode cL_law 660 = .ok (.iload_n 3, 1) := by decide +kernel
theorem dL_law_661 : decode cL_law 661 = .ok (.iconst 1, 1) := by decide +kernel
theorem dL_law_662 : decode cL_law 662 = .ok (.iadd, 1) := by decide +kernel
theorem dL_law_663 : decode cL_law 663 = .ok (.iaload, 1) := by decide +kernel
theorem dL_law_664 : decode cL_law 664 = .ok (.invokevirtual 97, 3) := by decide +kernel
theorem dL_law_667 : decode cL_law 667 = .ok (.if_icmp .eq 117, 3) := by decide +kernel
theorem dL_law_670 : decode cL_law 670 = .ok (.iconst 0, 1) := by decide +kernel
theorem dL_law_671 : decode cL_law 671 = .ok (.ireturn, 1) := by decide +kernel
theorem dL_law_672 : decode cL_law 672 = .ok (.aload_n 1, 1) := by decide +kernel
theorem dL_law_673 : decode cL_law 673 = .ok (.aload_n 0, 1) := by decide +kernel
theorem dL_law_674 : decode cL_law 674 = .ok (.iload_n 3, 1) := by decide +kernel
theorem dL_law_675 : decode cL_law 675 = .ok (.iconst 1, 1) := by decide +kernel
theorem dL_law_676 : decode cL_law 676 = .ok (.iadd, 1) := by decide +kernel
theorem dL_law_677 : decode cL_law 677 = .ok (.iaload, 1) := by decide +kernel
theorem dL_law_678 : decode cL_law 678 = .ok (.aload_n 0, 1) := by decide +kernel
theorem dL_law_679 : decode cL_law 679 = .ok (.iload_n 3, 1) := by decide +kernel
theorem dL_law_680 : decode cL_law 680 = .ok (.iconst 2, 1) := by decide +kernel
theorem dL_law_681 : decode cL_law 681 = .ok (.iadd, 1) := by decide +kernel
theorem dL_law_682 : decode cL_law 682 = .ok (.iaload, 1) := by decide +kernel
theorem dL_law_683 : decode cL_law 683 = .ok (.invokevirtual 98, 3) := by decide +kernel
theorem dL_law_686 : decode cL_law 686 = .ok (.aload_n 2, 1) := by decide +kernel
theorem dL_law_687 : decode cL_law 687 = .ok (.aload_n 0, 1) := by decide +kernel
theorem dL_law_688 : decode cL_law 688 = .ok (.iload_n 3, 1) := by decide +kernel
theorem dL_law_689 : decode cL_law 689 = .ok (.iconst 1, 1) := by decide +kernel
theorem dL_law_690 : decode cL_law 690 = .ok (.iadd, 1) := by decide +kernel
theorem dL_law_691 : decode cL_law 691 = .ok (.iaload, 1) := by decide +kernel
theorem dL_law_692 : decode cL_law 692 = .ok (.aload_n 0, 1) := by decide +kernel
theorem dL_law_693 : decode cL_law 693 = .ok (.iload_n 3, 1) := by decide +kernel
theorem dL_law_694 : decode cL_law 694 = .ok (.iconst 2, 1) := by decide +kernel
theorem dL_law_695 : decode cL_law 695 = .ok (.iadd, 1) := by decide +kernel
theorem dL_law_696 : decode cL_law 696 = .ok (.iaload, 1) := by decide +kernel
theorem dL_law_697 : decode cL_law 697 = .ok (.invokevirtual 101, 3) := by decide +kernel
theorem dL_law_700 : decode cL_law 700 = .ok (.if_icmp .eq 84, 3) := by decide +kernel
theorem dL_law_703 : decode cL_law 703 = .ok (.iconst 0, 1) := by decide +kernel
theorem dL_law_704 : decode cL_law 704 = .ok (.ireturn, 1) := by decide +kernel
theorem dL_law_705 : decode cL_law 705 = .ok (.aload_n 1, 1) := by decide +kernel
theorem dL_law_706 : decode cL_law 706 = .ok (.aload_n 0, 1) := by decide +kernel
theorem dL_law_707 : decode cL_law 707 = .ok (.iload_n 3, 1) := by decide +kernel
theorem dL_law_708 : decode cL_law 708 = .ok (.iconst 1, 1) := by decide +kernel
theorem dL_law_709 : decode cL_law 709 = .ok (.iadd, 1) := by decide +kernel
theorem dL_law_710 : decode cL_law 710 = .ok (.iaload, 1) := by decide +kernel
theorem dL_law_711 : decode cL_law 711 = .ok (.invokevirtual 102, 3) := by decide +kernel
theorem dL_law_714 : decode cL_law 714 = .ok (.aload_n 2, 1) := by decide +kernel
theorem dL_law_715 : decode cL_law 715 = .ok (.aload_n 0, 1) := by decide +kernel
theorem dL_law_716 : decode cL_law 716 = .ok (.iload_n 3, 1) := by decide +kernel
theorem dL_law_717 : decode cL_law 717 = .ok (.iconst 1, 1) := by decide +kernel
theorem dL_law_718 : decode cL_law 718 = .ok (.iadd, 1) := by decide +kernel
theorem dL_law_719 : decode cL_law 719 = .ok (.iaload, 1) := by decide +kernel
theorem dL_law_720 : decode cL_law 720 = .ok (.invokevirtual 105, 3) := by decide +kernel
theorem dL_law_723 : decode cL_law 723 = .ok (.if_icmp .eq 61, 3) := by decide +kernel
theorem dL_law_726 : decode cL_law 726 = .ok (.iconst 0, 1) := by decide +kernel
theorem dL_law_727 : decode cL_law 727 = .ok (.ireturn, 1) := by decide +kernel
theorem dL_law_728 : decode cL_law 728 = .ok (.aload_n 1, 1) := by decide +kernel
theorem dL_law_729 : decode cL_law 729 = .ok (.aload_n 0, 1) := by decide +kernel
theorem dL_law_730 : decode cL_law 730 = .ok (.iload_n 3, 1) := by decide +kernel
theorem dL_law_731 : decode cL_law 731 = .ok (.iconst 1, 1) := by decide +kernel
theorem dL_law_732 : decode cL_law 732 = .ok (.iadd, 1) := by decide +kernel
theorem dL_law_733 : decode cL_law 733 = .ok (.iaload, 1) := by decide +kernel
theorem dL_law_734 : decode cL_law 734 = .ok (.aload_n 0, 1) := by decide +kernel
theorem dL_law_735 : decode cL_law 735 = .ok (.iload_n 3, 1) := by decide +kernel
theorem dL_law_736 : decode cL_law 736 = .ok (.iconst 2, 1) := by decide +kernel
theorem dL_law_737 : decode cL_law 737 = .ok (.iadd, 1) := by decide +kernel
theorem dL_law_738 : decode cL_law 738 = .ok (.iaload, 1) := by decide +kernel
theorem dL_law_739 : decode cL_law 739 = .ok (.invokevirtual 106, 3) := by decide +kernel
theorem dL_law_742 : decode cL_law 742 = .ok (.aload_n 2, 1) := by decide +kernel
theorem dL_law_743 : decode cL_law 743 = .ok (.aload_n 0, 1) := by decide +kernel
theorem dL_law_744 : decode cL_law 744 = .ok (.iload_n 3, 1) := by decide +kernel
theorem dL_law_745 : decode cL_law 745 = .ok (.iconst 1, 1) := by decide +kernel
theorem dL_law_746 : decode cL_law 746 = .ok (.iadd, 1) := by decide +kernel
theorem dL_law_747 : decode cL_law 747 = .ok (.iaload, 1) := by decide +kernel
theorem dL_law_748 : decode cL_law 748 = .ok (.aload_n 0, 1) := by decide +kernel
theorem dL_law_749 : decode cL_law 749 = .ok (.iload_n 3, 1) := by decide +kernel
theorem dL_law_750 : decode cL_law 750 = .ok (.iconst 2, 1) := by decide +kernel
theorem dL_law_751 : decode cL_law 751 = .ok (.iadd, 1) := by decide +kernel
theorem dL_law_752 : decode cL_law 752 = .ok (.iaload, 1) := by decide +kernel
theorem dL_law_753 : decode cL_law 753 = .ok (.invokevirtual 109, 3) := by decide +kernel
theorem dL_law_756 : decode cL_law 756 = .ok (.if_icmp .eq 28, 3) := by decide +kernel
theorem dL_law_759 : decode cL_law 759 = .ok (.iconst 0, 1) := by decide +kernel
theorem dL_law_760 : decode cL_law 760 = .ok (.ireturn, 1) := by decide +kernel
theorem dL_law_761 : decode cL_law 761 = .ok (.aload_n 1, 1) := by decide +kernel
theorem dL_law_762 : decode cL_law 762 = .ok (.aload_n 0, 1) := by decide +kernel
theorem dL_law_763 : decode cL_law 763 = .ok (.iload_n 3, 1) := by decide +kernel
theorem dL_law_764 : decode cL_law 764 = .ok (.iconst 1, 1) := by decide +kernel
theorem dL_law_765 : decode cL_law 765 = .ok (.iadd, 1) := by decide +kernel
theorem dL_law_766 : decode cL_law 766 = .ok (.iaload, 1) := by decide +kernel
theorem dL_law_767 : decode cL_law 767 = .ok (.invokevirtual 110, 3) := by decide +kernel
theorem dL_law_770 : decode cL_law 770 = .ok (.aload_n 2, 1) := by decide +kernel
theorem dL_law_771 : decode cL_law 771 = .ok (.aload_n 0, 1) := by decide +kernel
theorem dL_law_772 : decode cL_law 772 = .ok (.iload_n 3, 1) := by decide +kernel
theorem dL_law_773 : decode cL_law 773 = .ok (.iconst 1, 1) := by decide +kernel
theorem dL_law_774 : decode cL_law 774 = .ok (.iadd, 1) := by decide +kernel
theorem dL_law_775 : decode cL_law 775 = .ok (.iaload, 1) := by decide +kernel
theorem dL_law_776 : decode cL_law 776 = .ok (.invokevirtual 113, 3) := by decide +kernel
theorem dL_law_779 : decode cL_law 779 = .ok (.if_icmp .eq 5, 3) := by decide +kernel
theorem dL_law_782 : decode cL_law 782 = .ok (.iconst 0, 1) := by decide +kernel
theorem dL_law_783 : decode cL_law 783 = .ok (.ireturn, 1) := by decide +kernel
theorem dL_law_784 : decode cL_law 784 = .ok (.iinc 3 3, 3) := by decide +kernel
theorem dL_law_787 : decode cL_law 787 = .ok (.goto (-769), 3) := by decide +kernel
theorem dL_law_790 : decode cL_law 790 = .ok (.iconst 1, 1) := by decide +kernel
theorem dL_law_791 : decode cL_law 791 = .ok (.ireturn, 1) := by decide +kernel
