/-! the methods: name, code, locals, kind of answer -/
def m_Core_init : MM := (⟨"TokenMesh$Core", "<init>", "()V"⟩, prog_2_method_1_code, 1, none)
theorem w_43 : Cond.initialized "TokenMesh$Core" ∈ GT := gt_at 43 (by decide +kernel) (by decide +kernel)
theorem k_Core_init : MK m_Core_init 0 := ⟨gt_at 115 (by decide +kernel) (by decide +kernel), w_43, by decide +kernel, by decide +kernel, by decide⟩
theorem y_Core_init : plainName m_Core_init.1.cls = true := by decide +kernel
theorem i_Core_init : Cond.instanceMethod m_Core_init.1 ∈ GT := gt_at 114 (by decide +kernel) (by decide +kernel)
def m_Core_begin : MM := (⟨"TokenMesh$Core", "begin", "(ZII)V"⟩, prog_2_method_2_code, 4, none)
theorem k_Core_begin : MK m_Core_begin 3 := ⟨gt_at 264 (by decide +kernel) (by decide +kernel), w_43, by decide +kernel, by decide +kernel, by decide⟩
theorem y_Core_begin : plainName m_Core_begin.1.cls = true := by decide +kernel
theorem i_Core_begin : Cond.instanceMethod m_Core_begin.1 ∈ GT := gt_at 262 (by decide +kernel) (by decide +kernel)
theorem s_Core_begin : Cond.selects m_Core_begin.1.cls m_Core_begin.1 m_Core_begin.1 ∈ GT := gt_at 263 (by decide +kernel) (by decide +kernel)
def m_Core_isDue : MM := (⟨"TokenMesh$Core", "isDue", "(I)Z"⟩, prog_2_method_3_code, 2, (some .boolean))
theorem k_Core_isDue : MK m_Core_isDue 1 := ⟨gt_at 442 (by decide +kernel) (by decide +kernel), w_43, by decide +kernel, by decide +kernel, by decide⟩
theorem y_Core_isDue : plainName m_Core_isDue.1.cls = true := by decide +kernel
theorem i_Core_isDue : Cond.instanceMethod m_Core_isDue.1 ∈ GT := gt_at 440 (by decide +kernel) (by decide +kernel)
theorem s_Core_isDue : Cond.selects m_Core_isDue.1.cls m_Core_isDue.1 m_Core_isDue.1 ∈ GT := gt_at 441 (by decide +kernel) (by decide +kernel)
def m_Core_isBusyWith : MM := (⟨"TokenMesh$Core", "isBusyWith", "(I)Z"⟩, prog_2_method_4_code, 2, (some .boolean))
theorem k_Core_isBusyWith : MK m_Core_isBusyWith 1 := ⟨gt_at 490 (by decide +kernel) (by decide +kernel), w_43, by decide +kernel, by decide +kernel, by decide⟩
theorem y_Core_isBusyWith : plainName m_Core_isBusyWith.1.cls = true := by decide +kernel
theorem i_Core_isBusyWith : Cond.instanceMethod m_Core_isBusyWith.1 ∈ GT := gt_at 488 (by decide +kernel) (by decide +kernel)
theorem s_Core_isBusyWith : Cond.selects m_Core_isBusyWith.1.cls m_Core_isBusyWith.1 m_Core_isBusyWith.1 ∈ GT := gt_at 489 (by decide +kernel) (by decide +kernel)
def m_Desk_init : MM := (⟨"TokenMesh$Desk", "<init>", "()V"⟩, prog_3_method_1_code, 1, none)
theorem w_44 : Cond.initialized "TokenMesh$Desk" ∈ GT := gt_at 44 (by decide +kernel) (by decide +kernel)
theorem k_Desk_init : MK m_Desk_init 0 := ⟨gt_at 161 (by decide +kernel) (by decide +kernel), w_44, by decide +kernel, by decide +kernel, by decide⟩
theorem y_Desk_init : plainName m_Desk_init.1.cls = true := by decide +kernel
theorem i_Desk_init : Cond.instanceMethod m_Desk_init.1 ∈ GT := gt_at 160 (by decide +kernel) (by decide +kernel)
def m_Desk_strike : MM := (⟨"TokenMesh$Desk", "strike", "(II)V"⟩, prog_3_method_2_code, 4, none)
theorem k_Desk_strike : MK m_Desk_strike 2 := ⟨gt_at 502 (by decide +kernel) (by decide +kernel), w_44, by decide +kernel, by decide +kernel, by decide⟩
theorem y_Desk_strike : plainName m_Desk_strike.1.cls = true := by decide +kernel
theorem i_Desk_strike : Cond.instanceMethod m_Desk_strike.1 ∈ GT := gt_at 500 (by decide +kernel) (by decide +kernel)
theorem s_Desk_strike : Cond.selects m_Desk_strike.1.cls m_Desk_strike.1 m_Desk_strike.1 ∈ GT := gt_at 501 (by decide +kernel) (by decide +kernel)
def m_Letter_init : MM := (⟨"TokenMesh$Letter", "<init>", "()V"⟩, prog_4_method_1_code, 1, none)
theorem w_55 : Cond.initialized "TokenMesh$Letter" ∈ GT := gt_at 55 (by decide +kernel) (by decide +kernel)
theorem k_Letter_init : MK m_Letter_init 0 := ⟨gt_at 376 (by decide +kernel) (by decide +kernel), w_55, by decide +kernel, by decide +kernel, by decide⟩
theorem y_Letter_init : plainName m_Letter_init.1.cls = true := by decide +kernel
theorem i_Letter_init : Cond.instanceMethod m_Letter_init.1 ∈ GT := gt_at 375 (by decide +kernel) (by decide +kernel)
def m_Letter_address : MM := (⟨"TokenMesh$Letter", "address", "(IIII)V"⟩, prog_4_method_2_code, 5, none)
theorem k_Letter_address : MK m_Letter_address 4 := ⟨gt_at 430 (by decide +kernel) (by decide +kernel), w_55, by decide +kernel, by decide +kernel, by decide⟩
theorem y_Letter_address : plainName m_Letter_address.1.cls = true := by decide +kernel
theorem i_Letter_address : Cond.instanceMethod m_Letter_address.1 ∈ GT := gt_at 428 (by decide +kernel) (by decide +kernel)
theorem s_Letter_address : Cond.selects m_Letter_address.1.cls m_Letter_address.1 m_Letter_address.1 ∈ GT := gt_at 429 (by decide +kernel) (by decide +kernel)
def m_Letter_yieldsTo : MM := (⟨"TokenMesh$Letter", "yieldsTo", "(IIII)Z"⟩, prog_4_method_3_code, 5, (some .boolean))
theorem k_Letter_yieldsTo : MK m_Letter_yieldsTo 4 := ⟨gt_at 307 (by decide +kernel) (by decide +kernel), w_55, by decide +kernel, by decide +kernel, by decide⟩
theorem y_Letter_yieldsTo : plainName m_Letter_yieldsTo.1.cls = true := by decide +kernel
theorem i_Letter_yieldsTo : Cond.instanceMethod m_Letter_yieldsTo.1 ∈ GT := gt_at 305 (by decide +kernel) (by decide +kernel)
theorem s_Letter_yieldsTo : Cond.selects m_Letter_yieldsTo.1.cls m_Letter_yieldsTo.1 m_Letter_yieldsTo.1 ∈ GT := gt_at 306 (by decide +kernel) (by decide +kernel)
def m_Letter_sum : MM := (⟨"TokenMesh$Letter", "sum", "()I"⟩, prog_4_method_4_code, 2, (some .int))
theorem k_Letter_sum : MK m_Letter_sum 0 := ⟨gt_at 576 (by decide +kernel) (by decide +kernel), w_55, by decide +kernel, by decide +kernel, by decide⟩
theorem y_Letter_sum : plainName m_Letter_sum.1.cls = true := by decide +kernel
theorem i_Letter_sum : Cond.instanceMethod m_Letter_sum.1 ∈ GT := gt_at 574 (by decide +kernel) (by decide +kernel)
theorem s_Letter_sum : Cond.selects m_Letter_sum.1.cls m_Letter_sum.1 m_Letter_sum.1 ∈ GT := gt_at 575 (by decide +kernel) (by decide +kernel)
def m_Mail_init : MM := (⟨"TokenMesh$Mail", "<init>", "()V"⟩, prog_5_method_1_code, 1, none)
theorem w_48 : Cond.initialized "TokenMesh$Mail" ∈ GT := gt_at 48 (by decide +kernel) (by decide +kernel)
theorem k_Mail_init : MK m_Mail_init 0 := ⟨gt_at 205 (by decide +kernel) (by decide +kernel), w_48, by decide +kernel, by decide +kernel, by decide⟩
theorem y_Mail_init : plainName m_Mail_init.1.cls = true := by decide +kernel
theorem i_Mail_init : Cond.instanceMethod m_Mail_init.1 ∈ GT := gt_at 204 (by decide +kernel) (by decide +kernel)
def m_Mail_size : MM := (⟨"TokenMesh$Mail", "size", "()I"⟩, prog_5_method_2_code, 1, (some .int))
theorem k_Mail_size : MK m_Mail_size 0 := ⟨gt_at 564 (by decide +kernel) (by decide +kernel), w_48, by decide +kernel, by decide +kernel, by decide⟩
theorem y_Mail_size : plainName m_Mail_size.1.cls = true := by decide +kernel
theorem i_Mail_size : Cond.instanceMethod m_Mail_size.1 ∈ GT := gt_at 562 (by decide +kernel) (by decide +kernel)
theorem s_Mail_size : Cond.selects m_Mail_size.1.cls m_Mail_size.1 m_Mail_size.1 ∈ GT := gt_at 563 (by decide +kernel) (by decide +kernel)
def m_Mail_has : MM := (⟨"TokenMesh$Mail", "has", "(I)Z"⟩, prog_5_method_3_code, 2, (some .boolean))
theorem k_Mail_has : MK m_Mail_has 1 := ⟨gt_at 454 (by decide +kernel) (by decide +kernel), w_48, by decide +kernel, by decide +kernel, by decide⟩
theorem y_Mail_has : plainName m_Mail_has.1.cls = true := by decide +kernel
theorem i_Mail_has : Cond.instanceMethod m_Mail_has.1 ∈ GT := gt_at 452 (by decide +kernel) (by decide +kernel)
theorem s_Mail_has : Cond.selects m_Mail_has.1.cls m_Mail_has.1 m_Mail_has.1 ∈ GT := gt_at 453 (by decide +kernel) (by decide +kernel)
def m_Mail_at : MM := (⟨"TokenMesh$Mail", "at", "(I)LTokenMesh$Letter;"⟩, prog_5_method_4_code, 2, (some (.object "TokenMesh$Letter")))
theorem k_Mail_at : MK m_Mail_at 1 := ⟨gt_at 572 (by decide +kernel) (by decide +kernel), w_48, by decide +kernel, by decide +kernel, by decide⟩
theorem y_Mail_at : plainName m_Mail_at.1.cls = true := by decide +kernel
theorem i_Mail_at : Cond.instanceMethod m_Mail_at.1 ∈ GT := gt_at 570 (by decide +kernel) (by decide +kernel)
theorem s_Mail_at : Cond.selects m_Mail_at.1.cls m_Mail_at.1 m_Mail_at.1 ∈ GT := gt_at 571 (by decide +kernel) (by decide +kernel)
def m_Mail_take : MM := (⟨"TokenMesh$Mail", "take", "(I)LTokenMesh$Letter;"⟩, prog_5_method_5_code, 2, (some (.object "TokenMesh$Letter")))
theorem k_Mail_take : MK m_Mail_take 1 := ⟨gt_at 458 (by decide +kernel) (by decide +kernel), w_48, by decide +kernel, by decide +kernel, by decide⟩
theorem y_Mail_take : plainName m_Mail_take.1.cls = true := by decide +kernel
theorem i_Mail_take : Cond.instanceMethod m_Mail_take.1 ∈ GT := gt_at 456 (by decide +kernel) (by decide +kernel)
theorem s_Mail_take : Cond.selects m_Mail_take.1.cls m_Mail_take.1 m_Mail_take.1 ∈ GT := gt_at 457 (by decide +kernel) (by decide +kernel)
def m_Mail_giveBack : MM := (⟨"TokenMesh$Mail", "giveBack", "(LTokenMesh$Letter;)V"⟩, prog_5_method_6_code, 2, none)
theorem k_Mail_giveBack : MK m_Mail_giveBack 1 := ⟨gt_at 552 (by decide +kernel) (by decide +kernel), w_48, by decide +kernel, by decide +kernel, by decide⟩
theorem y_Mail_giveBack : plainName m_Mail_giveBack.1.cls = true := by decide +kernel
theorem i_Mail_giveBack : Cond.instanceMethod m_Mail_giveBack.1 ∈ GT := gt_at 550 (by decide +kernel) (by decide +kernel)
theorem s_Mail_giveBack : Cond.selects m_Mail_giveBack.1.cls m_Mail_giveBack.1 m_Mail_giveBack.1 ∈ GT := gt_at 551 (by decide +kernel) (by decide +kernel)
def m_Mail_send : MM := (⟨"TokenMesh$Mail", "send", "(IIII)LTokenMesh$Letter;"⟩, prog_5_method_7_code, 6, (some (.object "TokenMesh$Letter")))
theorem k_Mail_send : MK m_Mail_send 4 := ⟨gt_at 280 (by decide +kernel) (by decide +kernel), w_48, by decide +kernel, by decide +kernel, by decide⟩
theorem y_Mail_send : plainName m_Mail_send.1.cls = true := by decide +kernel
theorem i_Mail_send : Cond.instanceMethod m_Mail_send.1 ∈ GT := gt_at 278 (by decide +kernel) (by decide +kernel)
theorem s_Mail_send : Cond.selects m_Mail_send.1.cls m_Mail_send.1 m_Mail_send.1 ∈ GT := gt_at 279 (by decide +kernel) (by decide +kernel)
def m_Mail_dropOlder : MM := (⟨"TokenMesh$Mail", "dropOlder", "(IIII)V"⟩, prog_5_method_8_code, 6, none)
theorem k_Mail_dropOlder : MK m_Mail_dropOlder 4 := ⟨gt_at 284 (by decide +kernel) (by decide +kernel), w_48, by decide +kernel, by decide +kernel, by decide⟩
theorem y_Mail_dropOlder : plainName m_Mail_dropOlder.1.cls = true := by decide +kernel
theorem i_Mail_dropOlder : Cond.instanceMethod m_Mail_dropOlder.1 ∈ GT := gt_at 283 (by decide +kernel) (by decide +kernel)
theorem s_Mail_dropOlder : Cond.selects m_Mail_dropOlder.1.cls m_Mail_dropOlder.1 m_Mail_dropOlder.1 ∈ GT := gt_at 4 (by decide +kernel) (by decide +kernel)
def m_Req_init : MM := (⟨"TokenMesh$Request", "<init>", "(IIZ)V"⟩, prog_6_method_1_code, 4, none)
theorem w_56 : Cond.initialized "TokenMesh$Request" ∈ GT := gt_at 56 (by decide +kernel) (by decide +kernel)
theorem k_Req_init : MK m_Req_init 3 := ⟨gt_at 530 (by decide +kernel) (by decide +kernel), w_56, by decide +kernel, by decide +kernel, by decide⟩
theorem y_Req_init : plainName m_Req_init.1.cls = true := by decide +kernel
theorem i_Req_init : Cond.instanceMethod m_Req_init.1 ∈ GT := gt_at 529 (by decide +kernel) (by decide +kernel)
def m_Req_isOf : MM := (⟨"TokenMesh$Request", "isOf", "(II)Z"⟩, prog_6_method_2_code, 3, (some .boolean))
theorem k_Req_isOf : MK m_Req_isOf 2 := ⟨gt_at 509 (by decide +kernel) (by decide +kernel), w_56, by decide +kernel, by decide +kernel, by decide⟩
theorem y_Req_isOf : plainName m_Req_isOf.1.cls = true := by decide +kernel
theorem i_Req_isOf : Cond.instanceMethod m_Req_isOf.1 ∈ GT := gt_at 507 (by decide +kernel) (by decide +kernel)
theorem s_Req_isOf : Cond.selects m_Req_isOf.1.cls m_Req_isOf.1 m_Req_isOf.1 ∈ GT := gt_at 508 (by decide +kernel) (by decide +kernel)
def m_Share_init : MM := (⟨"TokenMesh$Share", "<init>", "()V"⟩, prog_7_method_1_code, 1, none)
theorem w_42 : Cond.initialized "TokenMesh$Share" ∈ GT := gt_at 42 (by decide +kernel) (by decide +kernel)
theorem k_Share_init : MK m_Share_init 0 := ⟨gt_at 79 (by decide +kernel) (by decide +kernel), w_42, by decide +kernel, by decide +kernel, by decide⟩
theorem y_Share_init : plainName m_Share_init.1.cls = true := by decide +kernel
theorem i_Share_init : Cond.instanceMethod m_Share_init.1 ∈ GT := gt_at 78 (by decide +kernel) (by decide +kernel)
def m_Share_gain : MM := (⟨"TokenMesh$Share", "gain", "(LTokenMesh$Letter;)V"⟩, prog_7_method_2_code, 2, none)
theorem k_Share_gain : MK m_Share_gain 1 := ⟨gt_at 482 (by decide +kernel) (by decide +kernel), w_42, by decide +kernel, by decide +kernel, by decide⟩
theorem y_Share_gain : plainName m_Share_gain.1.cls = true := by decide +kernel
theorem i_Share_gain : Cond.instanceMethod m_Share_gain.1 ∈ GT := gt_at 480 (by decide +kernel) (by decide +kernel)
theorem s_Share_gain : Cond.selects m_Share_gain.1.cls m_Share_gain.1 m_Share_gain.1 ∈ GT := gt_at 481 (by decide +kernel) (by decide +kernel)
def m_Share_lose : MM := (⟨"TokenMesh$Share", "lose", "(IZ)V"⟩, prog_7_method_3_code, 3, none)
theorem k_Share_lose : MK m_Share_lose 2 := ⟨gt_at 470 (by decide +kernel) (by decide +kernel), w_42, by decide +kernel, by decide +kernel, by decide⟩
theorem y_Share_lose : plainName m_Share_lose.1.cls = true := by decide +kernel
theorem i_Share_lose : Cond.instanceMethod m_Share_lose.1 ∈ GT := gt_at 468 (by decide +kernel) (by decide +kernel)
theorem s_Share_lose : Cond.selects m_Share_lose.1.cls m_Share_lose.1 m_Share_lose.1 ∈ GT := gt_at 469 (by decide +kernel) (by decide +kernel)
def m_Share_learn : MM := (⟨"TokenMesh$Share", "learn", "(IZI)V"⟩, prog_7_method_4_code, 4, none)
theorem k_Share_learn : MK m_Share_learn 3 := ⟨gt_at 519 (by decide +kernel) (by decide +kernel), w_42, by decide +kernel, by decide +kernel, by decide⟩
theorem y_Share_learn : plainName m_Share_learn.1.cls = true := by decide +kernel
theorem i_Share_learn : Cond.instanceMethod m_Share_learn.1 ∈ GT := gt_at 517 (by decide +kernel) (by decide +kernel)
theorem s_Share_learn : Cond.selects m_Share_learn.1.cls m_Share_learn.1 m_Share_learn.1 ∈ GT := gt_at 518 (by decide +kernel) (by decide +kernel)
def m_TM_init : MM := (⟨"TokenMesh", "<init>", "(III)V"⟩, prog_1_method_1_code, 6, none)
theorem w_40 : Cond.initialized "TokenMesh" ∈ GT := gt_at 40 (by decide +kernel) (by decide +kernel)
theorem k_TM_init : MK m_TM_init 3 := ⟨gt_at 61 (by decide +kernel) (by decide +kernel), w_40, by decide +kernel, by decide +kernel, by decide⟩
theorem y_TM_init : plainName m_TM_init.1.cls = true := by decide +kernel
theorem i_TM_init : Cond.instanceMethod m_TM_init.1 ∈ GT := gt_at 60 (by decide +kernel) (by decide +kernel)
def m_TM_issue : MM := (⟨"TokenMesh", "issue", "(IZII)I"⟩, prog_1_method_2_code, 6, (some .int))
theorem k_TM_issue : MK m_TM_issue 4 := ⟨gt_at 253 (by decide +kernel) (by decide +kernel), w_40, by decide +kernel, by decide +kernel, by decide⟩
theorem y_TM_issue : plainName m_TM_issue.1.cls = true := by decide +kernel
theorem i_TM_issue : Cond.instanceMethod m_TM_issue.1 ∈ GT := gt_at 251 (by decide +kernel) (by decide +kernel)
theorem s_TM_issue : Cond.selects m_TM_issue.1.cls m_TM_issue.1 m_TM_issue.1 ∈ GT := gt_at 252 (by decide +kernel) (by decide +kernel)
def m_TM_tick : MM := (⟨"TokenMesh", "tick", "(I)I"⟩, prog_1_method_3_code, 4, (some .int))
theorem k_TM_tick : MK m_TM_tick 1 := ⟨gt_at 438 (by decide +kernel) (by decide +kernel), w_40, by decide +kernel, by decide +kernel, by decide⟩
theorem y_TM_tick : plainName m_TM_tick.1.cls = true := by decide +kernel
theorem i_TM_tick : Cond.instanceMethod m_TM_tick.1 ∈ GT := gt_at 436 (by decide +kernel) (by decide +kernel)
theorem s_TM_tick : Cond.selects m_TM_tick.1.cls m_TM_tick.1 m_TM_tick.1 ∈ GT := gt_at 437 (by decide +kernel) (by decide +kernel)
def m_TM_deliver : MM := (⟨"TokenMesh", "deliver", "(I)I"⟩, prog_1_method_4_code, 4, (some .int))
theorem k_TM_deliver : MK m_TM_deliver 1 := ⟨gt_at 450 (by decide +kernel) (by decide +kernel), w_40, by decide +kernel, by decide +kernel, by decide⟩
theorem y_TM_deliver : plainName m_TM_deliver.1.cls = true := by decide +kernel
theorem i_TM_deliver : Cond.instanceMethod m_TM_deliver.1 ∈ GT := gt_at 448 (by decide +kernel) (by decide +kernel)
theorem s_TM_deliver : Cond.selects m_TM_deliver.1.cls m_TM_deliver.1 m_TM_deliver.1 ∈ GT := gt_at 449 (by decide +kernel) (by decide +kernel)
def m_TM_evict : MM := (⟨"TokenMesh", "evict", "(II)Z"⟩, prog_1_method_5_code, 4, (some .boolean))
theorem k_TM_evict : MK m_TM_evict 2 := ⟨gt_at 556 (by decide +kernel) (by decide +kernel), w_40, by decide +kernel, by decide +kernel, by decide⟩
theorem y_TM_evict : plainName m_TM_evict.1.cls = true := by decide +kernel
theorem i_TM_evict : Cond.instanceMethod m_TM_evict.1 ∈ GT := gt_at 554 (by decide +kernel) (by decide +kernel)
theorem s_TM_evict : Cond.selects m_TM_evict.1.cls m_TM_evict.1 m_TM_evict.1 ∈ GT := gt_at 555 (by decide +kernel) (by decide +kernel)
def m_TM_letters : MM := (⟨"TokenMesh", "letters", "()I"⟩, prog_1_method_6_code, 1, (some .int))
theorem k_TM_letters : MK m_TM_letters 0 := ⟨gt_at 560 (by decide +kernel) (by decide +kernel), w_40, by decide +kernel, by decide +kernel, by decide⟩
theorem y_TM_letters : plainName m_TM_letters.1.cls = true := by decide +kernel
theorem i_TM_letters : Cond.instanceMethod m_TM_letters.1 ∈ GT := gt_at 558 (by decide +kernel) (by decide +kernel)
theorem s_TM_letters : Cond.selects m_TM_letters.1.cls m_TM_letters.1 m_TM_letters.1 ∈ GT := gt_at 559 (by decide +kernel) (by decide +kernel)
def m_TM_letter : MM := (⟨"TokenMesh", "letter", "(I)I"⟩, prog_1_method_7_code, 2, (some .int))
theorem k_TM_letter : MK m_TM_letter 1 := ⟨gt_at 568 (by decide +kernel) (by decide +kernel), w_40, by decide +kernel, by decide +kernel, by decide⟩
theorem y_TM_letter : plainName m_TM_letter.1.cls = true := by decide +kernel
theorem i_TM_letter : Cond.instanceMethod m_TM_letter.1 ∈ GT := gt_at 566 (by decide +kernel) (by decide +kernel)
theorem s_TM_letter : Cond.selects m_TM_letter.1.cls m_TM_letter.1 m_TM_letter.1 ∈ GT := gt_at 567 (by decide +kernel) (by decide +kernel)
def m_TM_tokens : MM := (⟨"TokenMesh", "tokens", "(II)I"⟩, prog_1_method_8_code, 4, (some .int))
theorem k_TM_tokens : MK m_TM_tokens 2 := ⟨gt_at 580 (by decide +kernel) (by decide +kernel), w_40, by decide +kernel, by decide +kernel, by decide⟩
theorem y_TM_tokens : plainName m_TM_tokens.1.cls = true := by decide +kernel
theorem i_TM_tokens : Cond.instanceMethod m_TM_tokens.1 ∈ GT := gt_at 578 (by decide +kernel) (by decide +kernel)
theorem s_TM_tokens : Cond.selects m_TM_tokens.1.cls m_TM_tokens.1 m_TM_tokens.1 ∈ GT := gt_at 579 (by decide +kernel) (by decide +kernel)
def m_TM_data : MM := (⟨"TokenMesh", "data", "(II)I"⟩, prog_1_method_9_code, 4, (some .int))
theorem k_TM_data : MK m_TM_data 2 := ⟨gt_at 588 (by decide +kernel) (by decide +kernel), w_40, by decide +kernel, by decide +kernel, by decide⟩
theorem y_TM_data : plainName m_TM_data.1.cls = true := by decide +kernel
theorem i_TM_data : Cond.instanceMethod m_TM_data.1 ∈ GT := gt_at 586 (by decide +kernel) (by decide +kernel)
theorem s_TM_data : Cond.selects m_TM_data.1.cls m_TM_data.1 m_TM_data.1 ∈ GT := gt_at 587 (by decide +kernel) (by decide +kernel)
def m_TM_knows : MM := (⟨"TokenMesh", "knows", "(II)I"⟩, prog_1_method_10_code, 4, (some .int))
theorem k_TM_knows : MK m_TM_knows 2 := ⟨gt_at 592 (by decide +kernel) (by decide +kernel), w_40, by decide +kernel, by decide +kernel, by decide⟩
theorem y_TM_knows : plainName m_TM_knows.1.cls = true := by decide +kernel
theorem i_TM_knows : Cond.instanceMethod m_TM_knows.1 ∈ GT := gt_at 590 (by decide +kernel) (by decide +kernel)
theorem s_TM_knows : Cond.selects m_TM_knows.1.cls m_TM_knows.1 m_TM_knows.1 ∈ GT := gt_at 591 (by decide +kernel) (by decide +kernel)
def m_TM_row : MM := (⟨"TokenMesh", "row", "(I)I"⟩, prog_1_method_11_code, 2, (some .int))
theorem k_TM_row : MK m_TM_row 1 := ⟨gt_at 596 (by decide +kernel) (by decide +kernel), w_40, by decide +kernel, by decide +kernel, by decide⟩
theorem y_TM_row : plainName m_TM_row.1.cls = true := by decide +kernel
theorem i_TM_row : Cond.instanceMethod m_TM_row.1 ∈ GT := gt_at 594 (by decide +kernel) (by decide +kernel)
theorem s_TM_row : Cond.selects m_TM_row.1.cls m_TM_row.1 m_TM_row.1 ∈ GT := gt_at 595 (by decide +kernel) (by decide +kernel)
def m_TM_state : MM := (⟨"TokenMesh", "state", "(I)I"⟩, prog_1_method_12_code, 3, (some .int))
theorem k_TM_state : MK m_TM_state 1 := ⟨gt_at 601 (by decide +kernel) (by decide +kernel), w_40, by decide +kernel, by decide +kernel, by decide⟩
theorem y_TM_state : plainName m_TM_state.1.cls = true := by decide +kernel
theorem i_TM_state : Cond.instanceMethod m_TM_state.1 ∈ GT := gt_at 599 (by decide +kernel) (by decide +kernel)
theorem s_TM_state : Cond.selects m_TM_state.1.cls m_TM_state.1 m_TM_state.1 ∈ GT := gt_at 600 (by decide +kernel) (by decide +kernel)
def m_TM_ended : MM := (⟨"TokenMesh", "ended", "(I)I"⟩, prog_1_method_13_code, 2, (some .int))
theorem k_TM_ended : MK m_TM_ended 1 := ⟨gt_at 605 (by decide +kernel) (by decide +kernel), w_40, by decide +kernel, by decide +kernel, by decide⟩
theorem y_TM_ended : plainName m_TM_ended.1.cls = true := by decide +kernel
theorem i_TM_ended : Cond.instanceMethod m_TM_ended.1 ∈ GT := gt_at 603 (by decide +kernel) (by decide +kernel)
theorem s_TM_ended : Cond.selects m_TM_ended.1.cls m_TM_ended.1 m_TM_ended.1 ∈ GT := gt_at 604 (by decide +kernel) (by decide +kernel)
def m_TM_result : MM := (⟨"TokenMesh", "result", "(I)I"⟩, prog_1_method_14_code, 2, (some .int))
theorem k_TM_result : MK m_TM_result 1 := ⟨gt_at 609 (by decide +kernel) (by decide +kernel), w_40, by decide +kernel, by decide +kernel, by decide⟩
theorem y_TM_result : plainName m_TM_result.1.cls = true := by decide +kernel
theorem i_TM_result : Cond.instanceMethod m_TM_result.1 ∈ GT := gt_at 607 (by decide +kernel) (by decide +kernel)
theorem s_TM_result : Cond.selects m_TM_result.1.cls m_TM_result.1 m_TM_result.1 ∈ GT := gt_at 608 (by decide +kernel) (by decide +kernel)
def m_TM_memory : MM := (⟨"TokenMesh", "memory", "(I)I"⟩, prog_1_method_15_code, 4, (some .int))
theorem k_TM_memory : MK m_TM_memory 1 := ⟨gt_at 613 (by decide +kernel) (by decide +kernel), w_40, by decide +kernel, by decide +kernel, by decide⟩
theorem y_TM_memory : plainName m_TM_memory.1.cls = true := by decide +kernel
theorem i_TM_memory : Cond.instanceMethod m_TM_memory.1 ∈ GT := gt_at 611 (by decide +kernel) (by decide +kernel)
theorem s_TM_memory : Cond.selects m_TM_memory.1.cls m_TM_memory.1 m_TM_memory.1 ∈ GT := gt_at 612 (by decide +kernel) (by decide +kernel)
def m_TM_clamp : MM := (⟨"TokenMesh", "clamp", "(III)I"⟩, prog_1_method_16_code, 3, (some .int))
theorem k_TM_clamp : MK m_TM_clamp 3 := ⟨gt_at 67 (by decide +kernel) (by decide +kernel), w_40, by decide +kernel, by decide +kernel, by decide⟩
theorem y_TM_clamp : plainName m_TM_clamp.1.cls = true := by decide +kernel
theorem t_TM_clamp : Cond.static m_TM_clamp.1 ∈ GT := gt_at 66 (by decide +kernel) (by decide +kernel)
def m_TM_isCore : MM := (⟨"TokenMesh", "isCore", "(I)Z"⟩, prog_1_method_17_code, 2, (some .boolean))
theorem k_TM_isCore : MK m_TM_isCore 1 := ⟨gt_at 257 (by decide +kernel) (by decide +kernel), w_40, by decide +kernel, by decide +kernel, by decide⟩
theorem y_TM_isCore : plainName m_TM_isCore.1.cls = true := by decide +kernel
theorem i_TM_isCore : Cond.instanceMethod m_TM_isCore.1 ∈ GT := gt_at 256 (by decide +kernel) (by decide +kernel)
theorem s_TM_isCore : Cond.selects m_TM_isCore.1.cls m_TM_isCore.1 m_TM_isCore.1 ∈ GT := gt_at 0 (by decide +kernel) (by decide +kernel)
def m_TM_isNode : MM := (⟨"TokenMesh", "isNode", "(I)Z"⟩, prog_1_method_18_code, 2, (some .boolean))
theorem k_TM_isNode : MK m_TM_isNode 1 := ⟨gt_at 584 (by decide +kernel) (by decide +kernel), w_40, by decide +kernel, by decide +kernel, by decide⟩
theorem y_TM_isNode : plainName m_TM_isNode.1.cls = true := by decide +kernel
theorem i_TM_isNode : Cond.instanceMethod m_TM_isNode.1 ∈ GT := gt_at 583 (by decide +kernel) (by decide +kernel)
theorem s_TM_isNode : Cond.selects m_TM_isNode.1.cls m_TM_isNode.1 m_TM_isNode.1 ∈ GT := gt_at 21 (by decide +kernel) (by decide +kernel)
def m_TM_isBlock : MM := (⟨"TokenMesh", "isBlock", "(I)Z"⟩, prog_1_method_19_code, 1, (some .boolean))
theorem k_TM_isBlock : MK m_TM_isBlock 1 := ⟨gt_at 260 (by decide +kernel) (by decide +kernel), w_40, by decide +kernel, by decide +kernel, by decide⟩
theorem y_TM_isBlock : plainName m_TM_isBlock.1.cls = true := by decide +kernel
theorem t_TM_isBlock : Cond.static m_TM_isBlock.1 ∈ GT := gt_at 259 (by decide +kernel) (by decide +kernel)
def m_TM_share : MM := (⟨"TokenMesh", "share", "(II)LTokenMesh$Share;"⟩, prog_1_method_20_code, 3, (some (.object "TokenMesh$Share")))
theorem k_TM_share : MK m_TM_share 2 := ⟨gt_at 272 (by decide +kernel) (by decide +kernel), w_40, by decide +kernel, by decide +kernel, by decide⟩
theorem y_TM_share : plainName m_TM_share.1.cls = true := by decide +kernel
theorem i_TM_share : Cond.instanceMethod m_TM_share.1 ∈ GT := gt_at 271 (by decide +kernel) (by decide +kernel)
theorem s_TM_share : Cond.selects m_TM_share.1.cls m_TM_share.1 m_TM_share.1 ∈ GT := gt_at 2 (by decide +kernel) (by decide +kernel)
def m_TM_canEnd : MM := (⟨"TokenMesh", "canEnd", "(I)Z"⟩, prog_1_method_21_code, 4, (some .boolean))
theorem k_TM_canEnd : MK m_TM_canEnd 1 := ⟨gt_at 268 (by decide +kernel) (by decide +kernel), w_40, by decide +kernel, by decide +kernel, by decide⟩
theorem y_TM_canEnd : plainName m_TM_canEnd.1.cls = true := by decide +kernel
theorem i_TM_canEnd : Cond.instanceMethod m_TM_canEnd.1 ∈ GT := gt_at 267 (by decide +kernel) (by decide +kernel)
theorem s_TM_canEnd : Cond.selects m_TM_canEnd.1.cls m_TM_canEnd.1 m_TM_canEnd.1 ∈ GT := gt_at 1 (by decide +kernel) (by decide +kernel)
def m_TM_endd : MM := (⟨"TokenMesh", "end", "(I)V"⟩, prog_1_method_22_code, 5, none)
theorem k_TM_endd : MK m_TM_endd 1 := ⟨gt_at 276 (by decide +kernel) (by decide +kernel), w_40, by decide +kernel, by decide +kernel, by decide⟩
theorem y_TM_endd : plainName m_TM_endd.1.cls = true := by decide +kernel
theorem i_TM_endd : Cond.instanceMethod m_TM_endd.1 ∈ GT := gt_at 275 (by decide +kernel) (by decide +kernel)
theorem s_TM_endd : Cond.selects m_TM_endd.1.cls m_TM_endd.1 m_TM_endd.1 ∈ GT := gt_at 3 (by decide +kernel) (by decide +kernel)
def m_TM_ask : MM := (⟨"TokenMesh", "ask", "(I)V"⟩, prog_1_method_23_code, 4, none)
theorem k_TM_ask : MK m_TM_ask 1 := ⟨gt_at 434 (by decide +kernel) (by decide +kernel), w_40, by decide +kernel, by decide +kernel, by decide⟩
theorem y_TM_ask : plainName m_TM_ask.1.cls = true := by decide +kernel
theorem i_TM_ask : Cond.instanceMethod m_TM_ask.1 ∈ GT := gt_at 433 (by decide +kernel) (by decide +kernel)
theorem s_TM_ask : Cond.selects m_TM_ask.1.cls m_TM_ask.1 m_TM_ask.1 ∈ GT := gt_at 9 (by decide +kernel) (by decide +kernel)
def m_TM_askAgain : MM := (⟨"TokenMesh", "askAgain", "(I)V"⟩, prog_1_method_24_code, 4, none)
theorem k_TM_askAgain : MK m_TM_askAgain 1 := ⟨gt_at 446 (by decide +kernel) (by decide +kernel), w_40, by decide +kernel, by decide +kernel, by decide⟩
theorem y_TM_askAgain : plainName m_TM_askAgain.1.cls = true := by decide +kernel
theorem i_TM_askAgain : Cond.instanceMethod m_TM_askAgain.1 ∈ GT := gt_at 445 (by decide +kernel) (by decide +kernel)
theorem s_TM_askAgain : Cond.selects m_TM_askAgain.1.cls m_TM_askAgain.1 m_TM_askAgain.1 ∈ GT := gt_at 10 (by decide +kernel) (by decide +kernel)
def m_TM_give : MM := (⟨"TokenMesh", "give", "(IIIIZZ)V"⟩, prog_1_method_25_code, 9, none)
theorem k_TM_give : MK m_TM_give 6 := ⟨gt_at 466 (by decide +kernel) (by decide +kernel), w_40, by decide +kernel, by decide +kernel, by decide⟩
theorem y_TM_give : plainName m_TM_give.1.cls = true := by decide +kernel
theorem i_TM_give : Cond.instanceMethod m_TM_give.1 ∈ GT := gt_at 465 (by decide +kernel) (by decide +kernel)
theorem s_TM_give : Cond.selects m_TM_give.1.cls m_TM_give.1 m_TM_give.1 ∈ GT := gt_at 12 (by decide +kernel) (by decide +kernel)
def m_TM_giveWay : MM := (⟨"TokenMesh", "giveWay", "(II)V"⟩, prog_1_method_26_code, 4, none)
theorem k_TM_giveWay : MK m_TM_giveWay 2 := ⟨gt_at 486 (by decide +kernel) (by decide +kernel), w_40, by decide +kernel, by decide +kernel, by decide⟩
theorem y_TM_giveWay : plainName m_TM_giveWay.1.cls = true := by decide +kernel
theorem i_TM_giveWay : Cond.instanceMethod m_TM_giveWay.1 ∈ GT := gt_at 485 (by decide +kernel) (by decide +kernel)
theorem s_TM_giveWay : Cond.selects m_TM_giveWay.1.cls m_TM_giveWay.1 m_TM_giveWay.1 ∈ GT := gt_at 15 (by decide +kernel) (by decide +kernel)
def m_TM_onRead : MM := (⟨"TokenMesh", "onRead", "(III)V"⟩, prog_1_method_27_code, 6, none)
theorem k_TM_onRead : MK m_TM_onRead 3 := ⟨gt_at 462 (by decide +kernel) (by decide +kernel), w_40, by decide +kernel, by decide +kernel, by decide⟩
theorem y_TM_onRead : plainName m_TM_onRead.1.cls = true := by decide +kernel
theorem i_TM_onRead : Cond.instanceMethod m_TM_onRead.1 ∈ GT := gt_at 461 (by decide +kernel) (by decide +kernel)
theorem s_TM_onRead : Cond.selects m_TM_onRead.1.cls m_TM_onRead.1 m_TM_onRead.1 ∈ GT := gt_at 11 (by decide +kernel) (by decide +kernel)
def m_TM_onWrite : MM := (⟨"TokenMesh", "onWrite", "(III)V"⟩, prog_1_method_28_code, 5, none)
theorem k_TM_onWrite : MK m_TM_onWrite 3 := ⟨gt_at 474 (by decide +kernel) (by decide +kernel), w_40, by decide +kernel, by decide +kernel, by decide⟩
theorem y_TM_onWrite : plainName m_TM_onWrite.1.cls = true := by decide +kernel
theorem i_TM_onWrite : Cond.instanceMethod m_TM_onWrite.1 ∈ GT := gt_at 473 (by decide +kernel) (by decide +kernel)
theorem s_TM_onWrite : Cond.selects m_TM_onWrite.1.cls m_TM_onWrite.1 m_TM_onWrite.1 ∈ GT := gt_at 13 (by decide +kernel) (by decide +kernel)
def m_TM_onTokens : MM := (⟨"TokenMesh", "onTokens", "(LTokenMesh$Letter;)V"⟩, prog_1_method_29_code, 2, none)
theorem k_TM_onTokens : MK m_TM_onTokens 1 := ⟨gt_at 478 (by decide +kernel) (by decide +kernel), w_40, by decide +kernel, by decide +kernel, by decide⟩
theorem y_TM_onTokens : plainName m_TM_onTokens.1.cls = true := by decide +kernel
theorem i_TM_onTokens : Cond.instanceMethod m_TM_onTokens.1 ∈ GT := gt_at 477 (by decide +kernel) (by decide +kernel)
theorem s_TM_onTokens : Cond.selects m_TM_onTokens.1.cls m_TM_onTokens.1 m_TM_onTokens.1 ∈ GT := gt_at 14 (by decide +kernel) (by decide +kernel)
def m_TM_onPlease : MM := (⟨"TokenMesh", "onPlease", "(IIIZ)V"⟩, prog_1_method_30_code, 6, none)
theorem k_TM_onPlease : MK m_TM_onPlease 4 := ⟨gt_at 494 (by decide +kernel) (by decide +kernel), w_40, by decide +kernel, by decide +kernel, by decide⟩
theorem y_TM_onPlease : plainName m_TM_onPlease.1.cls = true := by decide +kernel
theorem i_TM_onPlease : Cond.instanceMethod m_TM_onPlease.1 ∈ GT := gt_at 493 (by decide +kernel) (by decide +kernel)
theorem s_TM_onPlease : Cond.selects m_TM_onPlease.1.cls m_TM_onPlease.1 m_TM_onPlease.1 ∈ GT := gt_at 16 (by decide +kernel) (by decide +kernel)
def m_TM_onKnow : MM := (⟨"TokenMesh", "onKnow", "(LTokenMesh$Letter;)V"⟩, prog_1_method_31_code, 5, none)
theorem k_TM_onKnow : MK m_TM_onKnow 1 := ⟨gt_at 548 (by decide +kernel) (by decide +kernel), w_40, by decide +kernel, by decide +kernel, by decide⟩
theorem y_TM_onKnow : plainName m_TM_onKnow.1.cls = true := by decide +kernel
theorem i_TM_onKnow : Cond.instanceMethod m_TM_onKnow.1 ∈ GT := gt_at 547 (by decide +kernel) (by decide +kernel)
theorem s_TM_onKnow : Cond.selects m_TM_onKnow.1.cls m_TM_onKnow.1 m_TM_onKnow.1 ∈ GT := gt_at 20 (by decide +kernel) (by decide +kernel)
def m_TM_lapse : MM := (⟨"TokenMesh", "lapse", "(II)V"⟩, prog_1_method_32_code, 5, none)
theorem k_TM_lapse : MK m_TM_lapse 2 := ⟨gt_at 498 (by decide +kernel) (by decide +kernel), w_40, by decide +kernel, by decide +kernel, by decide⟩
theorem y_TM_lapse : plainName m_TM_lapse.1.cls = true := by decide +kernel
theorem i_TM_lapse : Cond.instanceMethod m_TM_lapse.1 ∈ GT := gt_at 497 (by decide +kernel) (by decide +kernel)
theorem s_TM_lapse : Cond.selects m_TM_lapse.1.cls m_TM_lapse.1 m_TM_lapse.1 ∈ GT := gt_at 17 (by decide +kernel) (by decide +kernel)
def m_TM_activateFirst : MM := (⟨"TokenMesh", "activateFirst", "(I)V"⟩, prog_1_method_33_code, 3, none)
theorem k_TM_activateFirst : MK m_TM_activateFirst 1 := ⟨gt_at 523 (by decide +kernel) (by decide +kernel), w_40, by decide +kernel, by decide +kernel, by decide⟩
theorem y_TM_activateFirst : plainName m_TM_activateFirst.1.cls = true := by decide +kernel
theorem i_TM_activateFirst : Cond.instanceMethod m_TM_activateFirst.1 ∈ GT := gt_at 522 (by decide +kernel) (by decide +kernel)
theorem s_TM_activateFirst : Cond.selects m_TM_activateFirst.1.cls m_TM_activateFirst.1 m_TM_activateFirst.1 ∈ GT := gt_at 19 (by decide +kernel) (by decide +kernel)
def m_TM_tellActive : MM := (⟨"TokenMesh", "tellActive", "(I)V"⟩, prog_1_method_34_code, 7, none)
theorem k_TM_tellActive : MK m_TM_tellActive 1 := ⟨gt_at 515 (by decide +kernel) (by decide +kernel), w_40, by decide +kernel, by decide +kernel, by decide⟩
theorem y_TM_tellActive : plainName m_TM_tellActive.1.cls = true := by decide +kernel
theorem i_TM_tellActive : Cond.instanceMethod m_TM_tellActive.1 ∈ GT := gt_at 514 (by decide +kernel) (by decide +kernel)
theorem s_TM_tellActive : Cond.selects m_TM_tellActive.1.cls m_TM_tellActive.1 m_TM_tellActive.1 ∈ GT := gt_at 18 (by decide +kernel) (by decide +kernel)
def m_MM_init : MM := (⟨"TokenMeshModel", "<init>", "(III)V"⟩, prog_9_method_1_code, 6, none)
theorem w_49 : Cond.initialized "TokenMeshModel" ∈ GT := gt_at 49 (by decide +kernel) (by decide +kernel)
theorem k_MM_init : MK m_MM_init 3 := ⟨gt_at 621 (by decide +kernel) (by decide +kernel), w_49, by decide +kernel, by decide +kernel, by decide⟩
theorem y_MM_init : plainName m_MM_init.1.cls = true := by decide +kernel
theorem i_MM_init : Cond.instanceMethod m_MM_init.1 ∈ GT := gt_at 620 (by decide +kernel) (by decide +kernel)
def m_MM_isCore : MM := (⟨"TokenMeshModel", "isCore", "(I)Z"⟩, prog_9_method_3_code, 2, (some .boolean))
theorem k_MM_isCore : MK m_MM_isCore 1 := ⟨gt_at 752 (by decide +kernel) (by decide +kernel), w_49, by decide +kernel, by decide +kernel, by decide⟩
theorem y_MM_isCore : plainName m_MM_isCore.1.cls = true := by decide +kernel
theorem i_MM_isCore : Cond.instanceMethod m_MM_isCore.1 ∈ GT := gt_at 751 (by decide +kernel) (by decide +kernel)
theorem s_MM_isCore : Cond.selects m_MM_isCore.1.cls m_MM_isCore.1 m_MM_isCore.1 ∈ GT := gt_at 22 (by decide +kernel) (by decide +kernel)
def m_MM_isNode : MM := (⟨"TokenMeshModel", "isNode", "(I)Z"⟩, prog_9_method_4_code, 2, (some .boolean))
theorem k_MM_isNode : MK m_MM_isNode 1 := ⟨gt_at 843 (by decide +kernel) (by decide +kernel), w_49, by decide +kernel, by decide +kernel, by decide⟩
theorem y_MM_isNode : plainName m_MM_isNode.1.cls = true := by decide +kernel
theorem i_MM_isNode : Cond.instanceMethod m_MM_isNode.1 ∈ GT := gt_at 842 (by decide +kernel) (by decide +kernel)
theorem s_MM_isNode : Cond.selects m_MM_isNode.1.cls m_MM_isNode.1 m_MM_isNode.1 ∈ GT := gt_at 38 (by decide +kernel) (by decide +kernel)
def m_MM_isBlock : MM := (⟨"TokenMeshModel", "isBlock", "(I)Z"⟩, prog_9_method_5_code, 1, (some .boolean))
theorem k_MM_isBlock : MK m_MM_isBlock 1 := ⟨gt_at 755 (by decide +kernel) (by decide +kernel), w_49, by decide +kernel, by decide +kernel, by decide⟩
theorem y_MM_isBlock : plainName m_MM_isBlock.1.cls = true := by decide +kernel
theorem t_MM_isBlock : Cond.static m_MM_isBlock.1 ∈ GT := gt_at 754 (by decide +kernel) (by decide +kernel)
def m_MM_move : MM := (⟨"TokenMeshModel", "move", "(II)V"⟩, prog_9_method_6_code, 3, none)
theorem k_MM_move : MK m_MM_move 2 := ⟨gt_at 775 (by decide +kernel) (by decide +kernel), w_49, by decide +kernel, by decide +kernel, by decide⟩
theorem y_MM_move : plainName m_MM_move.1.cls = true := by decide +kernel
theorem i_MM_move : Cond.instanceMethod m_MM_move.1 ∈ GT := gt_at 774 (by decide +kernel) (by decide +kernel)
theorem s_MM_move : Cond.selects m_MM_move.1.cls m_MM_move.1 m_MM_move.1 ∈ GT := gt_at 27 (by decide +kernel) (by decide +kernel)
def m_MM_remove : MM := (⟨"TokenMeshModel", "remove", "(I)V"⟩, prog_9_method_7_code, 3, none)
theorem k_MM_remove : MK m_MM_remove 1 := ⟨gt_at 771 (by decide +kernel) (by decide +kernel), w_49, by decide +kernel, by decide +kernel, by decide⟩
theorem y_MM_remove : plainName m_MM_remove.1.cls = true := by decide +kernel
theorem i_MM_remove : Cond.instanceMethod m_MM_remove.1 ∈ GT := gt_at 770 (by decide +kernel) (by decide +kernel)
theorem s_MM_remove : Cond.selects m_MM_remove.1.cls m_MM_remove.1 m_MM_remove.1 ∈ GT := gt_at 26 (by decide +kernel) (by decide +kernel)
def m_MM_send : MM := (⟨"TokenMeshModel", "send", "(IIII)I"⟩, prog_9_method_8_code, 7, (some .int))
theorem k_MM_send : MK m_MM_send 4 := ⟨gt_at 767 (by decide +kernel) (by decide +kernel), w_49, by decide +kernel, by decide +kernel, by decide⟩
theorem y_MM_send : plainName m_MM_send.1.cls = true := by decide +kernel
theorem i_MM_send : Cond.instanceMethod m_MM_send.1 ∈ GT := gt_at 766 (by decide +kernel) (by decide +kernel)
theorem s_MM_send : Cond.selects m_MM_send.1.cls m_MM_send.1 m_MM_send.1 ∈ GT := gt_at 25 (by decide +kernel) (by decide +kernel)
def m_MM_give : MM := (⟨"TokenMeshModel", "give", "(IIIIZZ)V"⟩, prog_9_method_9_code, 9, none)
theorem k_MM_give : MK m_MM_give 6 := ⟨gt_at 795 (by decide +kernel) (by decide +kernel), w_49, by decide +kernel, by decide +kernel, by decide⟩
theorem y_MM_give : plainName m_MM_give.1.cls = true := by decide +kernel
theorem i_MM_give : Cond.instanceMethod m_MM_give.1 ∈ GT := gt_at 794 (by decide +kernel) (by decide +kernel)
theorem s_MM_give : Cond.selects m_MM_give.1.cls m_MM_give.1 m_MM_give.1 ∈ GT := gt_at 30 (by decide +kernel) (by decide +kernel)
def m_MM_giveWay : MM := (⟨"TokenMeshModel", "giveWay", "(II)V"⟩, prog_9_method_10_code, 5, none)
theorem k_MM_giveWay : MK m_MM_giveWay 2 := ⟨gt_at 803 (by decide +kernel) (by decide +kernel), w_49, by decide +kernel, by decide +kernel, by decide⟩
theorem y_MM_giveWay : plainName m_MM_giveWay.1.cls = true := by decide +kernel
theorem i_MM_giveWay : Cond.instanceMethod m_MM_giveWay.1 ∈ GT := gt_at 802 (by decide +kernel) (by decide +kernel)
theorem s_MM_giveWay : Cond.selects m_MM_giveWay.1.cls m_MM_giveWay.1 m_MM_giveWay.1 ∈ GT := gt_at 32 (by decide +kernel) (by decide +kernel)
def m_MM_canEnd : MM := (⟨"TokenMeshModel", "canEnd", "(I)Z"⟩, prog_9_method_11_code, 3, (some .boolean))
theorem k_MM_canEnd : MK m_MM_canEnd 1 := ⟨gt_at 759 (by decide +kernel) (by decide +kernel), w_49, by decide +kernel, by decide +kernel, by decide⟩
theorem y_MM_canEnd : plainName m_MM_canEnd.1.cls = true := by decide +kernel
theorem i_MM_canEnd : Cond.instanceMethod m_MM_canEnd.1 ∈ GT := gt_at 758 (by decide +kernel) (by decide +kernel)
theorem s_MM_canEnd : Cond.selects m_MM_canEnd.1.cls m_MM_canEnd.1 m_MM_canEnd.1 ∈ GT := gt_at 23 (by decide +kernel) (by decide +kernel)
def m_MM_endd : MM := (⟨"TokenMeshModel", "end", "(I)V"⟩, prog_9_method_12_code, 4, none)
theorem k_MM_endd : MK m_MM_endd 1 := ⟨gt_at 763 (by decide +kernel) (by decide +kernel), w_49, by decide +kernel, by decide +kernel, by decide⟩
theorem y_MM_endd : plainName m_MM_endd.1.cls = true := by decide +kernel
theorem i_MM_endd : Cond.instanceMethod m_MM_endd.1 ∈ GT := gt_at 762 (by decide +kernel) (by decide +kernel)
theorem s_MM_endd : Cond.selects m_MM_endd.1.cls m_MM_endd.1 m_MM_endd.1 ∈ GT := gt_at 24 (by decide +kernel) (by decide +kernel)
def m_MM_ask : MM := (⟨"TokenMeshModel", "ask", "(I)V"⟩, prog_9_method_13_code, 4, none)
theorem k_MM_ask : MK m_MM_ask 1 := ⟨gt_at 779 (by decide +kernel) (by decide +kernel), w_49, by decide +kernel, by decide +kernel, by decide⟩
theorem y_MM_ask : plainName m_MM_ask.1.cls = true := by decide +kernel
theorem i_MM_ask : Cond.instanceMethod m_MM_ask.1 ∈ GT := gt_at 778 (by decide +kernel) (by decide +kernel)
theorem s_MM_ask : Cond.selects m_MM_ask.1.cls m_MM_ask.1 m_MM_ask.1 ∈ GT := gt_at 28 (by decide +kernel) (by decide +kernel)
def m_MM_issue : MM := (⟨"TokenMeshModel", "issue", "(IZII)I"⟩, prog_9_method_14_code, 5, (some .int))
theorem k_MM_issue : MK m_MM_issue 4 := ⟨gt_at 748 (by decide +kernel) (by decide +kernel), w_49, by decide +kernel, by decide +kernel, by decide⟩
theorem y_MM_issue : plainName m_MM_issue.1.cls = true := by decide +kernel
theorem i_MM_issue : Cond.instanceMethod m_MM_issue.1 ∈ GT := gt_at 746 (by decide +kernel) (by decide +kernel)
theorem s_MM_issue : Cond.selects m_MM_issue.1.cls m_MM_issue.1 m_MM_issue.1 ∈ GT := gt_at 747 (by decide +kernel) (by decide +kernel)
def m_MM_tick : MM := (⟨"TokenMeshModel", "tick", "(I)I"⟩, prog_9_method_15_code, 4, (some .int))
theorem k_MM_tick : MK m_MM_tick 1 := ⟨gt_at 783 (by decide +kernel) (by decide +kernel), w_49, by decide +kernel, by decide +kernel, by decide⟩
theorem y_MM_tick : plainName m_MM_tick.1.cls = true := by decide +kernel
theorem i_MM_tick : Cond.instanceMethod m_MM_tick.1 ∈ GT := gt_at 781 (by decide +kernel) (by decide +kernel)
theorem s_MM_tick : Cond.selects m_MM_tick.1.cls m_MM_tick.1 m_MM_tick.1 ∈ GT := gt_at 782 (by decide +kernel) (by decide +kernel)
def m_MM_repeat : MM := (⟨"TokenMeshModel", "repeat", "(I)V"⟩, prog_9_method_16_code, 3, none)
theorem k_MM_repeat : MK m_MM_repeat 1 := ⟨gt_at 787 (by decide +kernel) (by decide +kernel), w_49, by decide +kernel, by decide +kernel, by decide⟩
theorem y_MM_repeat : plainName m_MM_repeat.1.cls = true := by decide +kernel
theorem i_MM_repeat : Cond.instanceMethod m_MM_repeat.1 ∈ GT := gt_at 786 (by decide +kernel) (by decide +kernel)
theorem s_MM_repeat : Cond.selects m_MM_repeat.1.cls m_MM_repeat.1 m_MM_repeat.1 ∈ GT := gt_at 29 (by decide +kernel) (by decide +kernel)
def m_MM_tellAll : MM := (⟨"TokenMeshModel", "tellAll", "(I)V"⟩, prog_9_method_17_code, 5, none)
theorem k_MM_tellAll : MK m_MM_tellAll 1 := ⟨gt_at 819 (by decide +kernel) (by decide +kernel), w_49, by decide +kernel, by decide +kernel, by decide⟩
theorem y_MM_tellAll : plainName m_MM_tellAll.1.cls = true := by decide +kernel
theorem i_MM_tellAll : Cond.instanceMethod m_MM_tellAll.1 ∈ GT := gt_at 818 (by decide +kernel) (by decide +kernel)
theorem s_MM_tellAll : Cond.selects m_MM_tellAll.1.cls m_MM_tellAll.1 m_MM_tellAll.1 ∈ GT := gt_at 36 (by decide +kernel) (by decide +kernel)
def m_MM_takeOut : MM := (⟨"TokenMeshModel", "takeOut", "(II)V"⟩, prog_9_method_18_code, 4, none)
theorem k_MM_takeOut : MK m_MM_takeOut 2 := ⟨gt_at 815 (by decide +kernel) (by decide +kernel), w_49, by decide +kernel, by decide +kernel, by decide⟩
theorem y_MM_takeOut : plainName m_MM_takeOut.1.cls = true := by decide +kernel
theorem i_MM_takeOut : Cond.instanceMethod m_MM_takeOut.1 ∈ GT := gt_at 814 (by decide +kernel) (by decide +kernel)
theorem s_MM_takeOut : Cond.selects m_MM_takeOut.1.cls m_MM_takeOut.1 m_MM_takeOut.1 ∈ GT := gt_at 35 (by decide +kernel) (by decide +kernel)
def m_MM_activate : MM := (⟨"TokenMeshModel", "activate", "(I)V"⟩, prog_9_method_19_code, 3, none)
theorem k_MM_activate : MK m_MM_activate 1 := ⟨gt_at 823 (by decide +kernel) (by decide +kernel), w_49, by decide +kernel, by decide +kernel, by decide⟩
theorem y_MM_activate : plainName m_MM_activate.1.cls = true := by decide +kernel
theorem i_MM_activate : Cond.instanceMethod m_MM_activate.1 ∈ GT := gt_at 822 (by decide +kernel) (by decide +kernel)
theorem s_MM_activate : Cond.selects m_MM_activate.1.cls m_MM_activate.1 m_MM_activate.1 ∈ GT := gt_at 37 (by decide +kernel) (by decide +kernel)
def m_MM_lapse : MM := (⟨"TokenMeshModel", "lapse", "(II)V"⟩, prog_9_method_20_code, 5, none)
theorem k_MM_lapse : MK m_MM_lapse 2 := ⟨gt_at 811 (by decide +kernel) (by decide +kernel), w_49, by decide +kernel, by decide +kernel, by decide⟩
theorem y_MM_lapse : plainName m_MM_lapse.1.cls = true := by decide +kernel
theorem i_MM_lapse : Cond.instanceMethod m_MM_lapse.1 ∈ GT := gt_at 810 (by decide +kernel) (by decide +kernel)
theorem s_MM_lapse : Cond.selects m_MM_lapse.1.cls m_MM_lapse.1 m_MM_lapse.1 ∈ GT := gt_at 34 (by decide +kernel) (by decide +kernel)
def m_MM_please : MM := (⟨"TokenMeshModel", "please", "(IIIZ)V"⟩, prog_9_method_21_code, 6, none)
theorem k_MM_please : MK m_MM_please 4 := ⟨gt_at 807 (by decide +kernel) (by decide +kernel), w_49, by decide +kernel, by decide +kernel, by decide⟩
theorem y_MM_please : plainName m_MM_please.1.cls = true := by decide +kernel
theorem i_MM_please : Cond.instanceMethod m_MM_please.1 ∈ GT := gt_at 806 (by decide +kernel) (by decide +kernel)
theorem s_MM_please : Cond.selects m_MM_please.1.cls m_MM_please.1 m_MM_please.1 ∈ GT := gt_at 33 (by decide +kernel) (by decide +kernel)
def m_MM_getTokens : MM := (⟨"TokenMeshModel", "getTokens", "(IIIZZI)V"⟩, prog_9_method_22_code, 8, none)
theorem k_MM_getTokens : MK m_MM_getTokens 6 := ⟨gt_at 799 (by decide +kernel) (by decide +kernel), w_49, by decide +kernel, by decide +kernel, by decide⟩
theorem y_MM_getTokens : plainName m_MM_getTokens.1.cls = true := by decide +kernel
theorem i_MM_getTokens : Cond.instanceMethod m_MM_getTokens.1 ∈ GT := gt_at 798 (by decide +kernel) (by decide +kernel)
theorem s_MM_getTokens : Cond.selects m_MM_getTokens.1.cls m_MM_getTokens.1 m_MM_getTokens.1 ∈ GT := gt_at 31 (by decide +kernel) (by decide +kernel)
def m_MM_deliver : MM := (⟨"TokenMeshModel", "deliver", "(I)I"⟩, prog_9_method_23_code, 11, (some .int))
theorem k_MM_deliver : MK m_MM_deliver 1 := ⟨gt_at 791 (by decide +kernel) (by decide +kernel), w_49, by decide +kernel, by decide +kernel, by decide⟩
theorem y_MM_deliver : plainName m_MM_deliver.1.cls = true := by decide +kernel
theorem i_MM_deliver : Cond.instanceMethod m_MM_deliver.1 ∈ GT := gt_at 789 (by decide +kernel) (by decide +kernel)
theorem s_MM_deliver : Cond.selects m_MM_deliver.1.cls m_MM_deliver.1 m_MM_deliver.1 ∈ GT := gt_at 790 (by decide +kernel) (by decide +kernel)
def m_MM_evict : MM := (⟨"TokenMeshModel", "evict", "(II)Z"⟩, prog_9_method_24_code, 3, (some .boolean))
theorem k_MM_evict : MK m_MM_evict 2 := ⟨gt_at 827 (by decide +kernel) (by decide +kernel), w_49, by decide +kernel, by decide +kernel, by decide⟩
theorem y_MM_evict : plainName m_MM_evict.1.cls = true := by decide +kernel
theorem i_MM_evict : Cond.instanceMethod m_MM_evict.1 ∈ GT := gt_at 825 (by decide +kernel) (by decide +kernel)
theorem s_MM_evict : Cond.selects m_MM_evict.1.cls m_MM_evict.1 m_MM_evict.1 ∈ GT := gt_at 826 (by decide +kernel) (by decide +kernel)
def m_MM_letters : MM := (⟨"TokenMeshModel", "letters", "()I"⟩, prog_9_method_25_code, 1, (some .int))
theorem k_MM_letters : MK m_MM_letters 0 := ⟨gt_at 831 (by decide +kernel) (by decide +kernel), w_49, by decide +kernel, by decide +kernel, by decide⟩
theorem y_MM_letters : plainName m_MM_letters.1.cls = true := by decide +kernel
theorem i_MM_letters : Cond.instanceMethod m_MM_letters.1 ∈ GT := gt_at 829 (by decide +kernel) (by decide +kernel)
theorem s_MM_letters : Cond.selects m_MM_letters.1.cls m_MM_letters.1 m_MM_letters.1 ∈ GT := gt_at 830 (by decide +kernel) (by decide +kernel)
def m_MM_letter : MM := (⟨"TokenMeshModel", "letter", "(I)I"⟩, prog_9_method_26_code, 3, (some .int))
theorem k_MM_letter : MK m_MM_letter 1 := ⟨gt_at 835 (by decide +kernel) (by decide +kernel), w_49, by decide +kernel, by decide +kernel, by decide⟩
theorem y_MM_letter : plainName m_MM_letter.1.cls = true := by decide +kernel
theorem i_MM_letter : Cond.instanceMethod m_MM_letter.1 ∈ GT := gt_at 833 (by decide +kernel) (by decide +kernel)
theorem s_MM_letter : Cond.selects m_MM_letter.1.cls m_MM_letter.1 m_MM_letter.1 ∈ GT := gt_at 834 (by decide +kernel) (by decide +kernel)
def m_MM_tokens : MM := (⟨"TokenMeshModel", "tokens", "(II)I"⟩, prog_9_method_27_code, 4, (some .int))
theorem k_MM_tokens : MK m_MM_tokens 2 := ⟨gt_at 839 (by decide +kernel) (by decide +kernel), w_49, by decide +kernel, by decide +kernel, by decide⟩
theorem y_MM_tokens : plainName m_MM_tokens.1.cls = true := by decide +kernel
theorem i_MM_tokens : Cond.instanceMethod m_MM_tokens.1 ∈ GT := gt_at 837 (by decide +kernel) (by decide +kernel)
theorem s_MM_tokens : Cond.selects m_MM_tokens.1.cls m_MM_tokens.1 m_MM_tokens.1 ∈ GT := gt_at 838 (by decide +kernel) (by decide +kernel)
def m_MM_data : MM := (⟨"TokenMeshModel", "data", "(II)I"⟩, prog_9_method_28_code, 3, (some .int))
theorem k_MM_data : MK m_MM_data 2 := ⟨gt_at 847 (by decide +kernel) (by decide +kernel), w_49, by decide +kernel, by decide +kernel, by decide⟩
theorem y_MM_data : plainName m_MM_data.1.cls = true := by decide +kernel
theorem i_MM_data : Cond.instanceMethod m_MM_data.1 ∈ GT := gt_at 845 (by decide +kernel) (by decide +kernel)
theorem s_MM_data : Cond.selects m_MM_data.1.cls m_MM_data.1 m_MM_data.1 ∈ GT := gt_at 846 (by decide +kernel) (by decide +kernel)
def m_MM_knows : MM := (⟨"TokenMeshModel", "knows", "(II)I"⟩, prog_9_method_29_code, 4, (some .int))
theorem k_MM_knows : MK m_MM_knows 2 := ⟨gt_at 851 (by decide +kernel) (by decide +kernel), w_49, by decide +kernel, by decide +kernel, by decide⟩
theorem y_MM_knows : plainName m_MM_knows.1.cls = true := by decide +kernel
theorem i_MM_knows : Cond.instanceMethod m_MM_knows.1 ∈ GT := gt_at 849 (by decide +kernel) (by decide +kernel)
theorem s_MM_knows : Cond.selects m_MM_knows.1.cls m_MM_knows.1 m_MM_knows.1 ∈ GT := gt_at 850 (by decide +kernel) (by decide +kernel)
def m_MM_row : MM := (⟨"TokenMeshModel", "row", "(I)I"⟩, prog_9_method_30_code, 2, (some .int))
theorem k_MM_row : MK m_MM_row 1 := ⟨gt_at 855 (by decide +kernel) (by decide +kernel), w_49, by decide +kernel, by decide +kernel, by decide⟩
theorem y_MM_row : plainName m_MM_row.1.cls = true := by decide +kernel
theorem i_MM_row : Cond.instanceMethod m_MM_row.1 ∈ GT := gt_at 853 (by decide +kernel) (by decide +kernel)
theorem s_MM_row : Cond.selects m_MM_row.1.cls m_MM_row.1 m_MM_row.1 ∈ GT := gt_at 854 (by decide +kernel) (by decide +kernel)
def m_MM_state : MM := (⟨"TokenMeshModel", "state", "(I)I"⟩, prog_9_method_31_code, 2, (some .int))
theorem k_MM_state : MK m_MM_state 1 := ⟨gt_at 859 (by decide +kernel) (by decide +kernel), w_49, by decide +kernel, by decide +kernel, by decide⟩
theorem y_MM_state : plainName m_MM_state.1.cls = true := by decide +kernel
theorem i_MM_state : Cond.instanceMethod m_MM_state.1 ∈ GT := gt_at 857 (by decide +kernel) (by decide +kernel)
theorem s_MM_state : Cond.selects m_MM_state.1.cls m_MM_state.1 m_MM_state.1 ∈ GT := gt_at 858 (by decide +kernel) (by decide +kernel)
def m_MM_ended : MM := (⟨"TokenMeshModel", "ended", "(I)I"⟩, prog_9_method_32_code, 2, (some .int))
theorem k_MM_ended : MK m_MM_ended 1 := ⟨gt_at 863 (by decide +kernel) (by decide +kernel), w_49, by decide +kernel, by decide +kernel, by decide⟩
theorem y_MM_ended : plainName m_MM_ended.1.cls = true := by decide +kernel
theorem i_MM_ended : Cond.instanceMethod m_MM_ended.1 ∈ GT := gt_at 861 (by decide +kernel) (by decide +kernel)
theorem s_MM_ended : Cond.selects m_MM_ended.1.cls m_MM_ended.1 m_MM_ended.1 ∈ GT := gt_at 862 (by decide +kernel) (by decide +kernel)
def m_MM_result : MM := (⟨"TokenMeshModel", "result", "(I)I"⟩, prog_9_method_33_code, 2, (some .int))
theorem k_MM_result : MK m_MM_result 1 := ⟨gt_at 867 (by decide +kernel) (by decide +kernel), w_49, by decide +kernel, by decide +kernel, by decide⟩
theorem y_MM_result : plainName m_MM_result.1.cls = true := by decide +kernel
theorem i_MM_result : Cond.instanceMethod m_MM_result.1 ∈ GT := gt_at 865 (by decide +kernel) (by decide +kernel)
theorem s_MM_result : Cond.selects m_MM_result.1.cls m_MM_result.1 m_MM_result.1 ∈ GT := gt_at 866 (by decide +kernel) (by decide +kernel)
def m_MM_memory : MM := (⟨"TokenMeshModel", "memory", "(I)I"⟩, prog_9_method_34_code, 4, (some .int))
theorem k_MM_memory : MK m_MM_memory 1 := ⟨gt_at 871 (by decide +kernel) (by decide +kernel), w_49, by decide +kernel, by decide +kernel, by decide⟩
theorem y_MM_memory : plainName m_MM_memory.1.cls = true := by decide +kernel
theorem i_MM_memory : Cond.instanceMethod m_MM_memory.1 ∈ GT := gt_at 869 (by decide +kernel) (by decide +kernel)
theorem s_MM_memory : Cond.selects m_MM_memory.1.cls m_MM_memory.1 m_MM_memory.1 ∈ GT := gt_at 870 (by decide +kernel) (by decide +kernel)
def m_Math_max : MM := (⟨"java/lang/Math", "max", "(II)I"⟩, prog_13_method_65_code, 2, (some .int))
theorem w_41 : Cond.initialized "java/lang/Math" ∈ GT := gt_at 41 (by decide +kernel) (by decide +kernel)
theorem k_Math_max : MK m_Math_max 2 := ⟨gt_at 73 (by decide +kernel) (by decide +kernel), w_41, by decide +kernel, by decide +kernel, by decide⟩
theorem t_Math_max : Cond.static m_Math_max.1 ∈ GT := gt_at 72 (by decide +kernel) (by decide +kernel)
def m_Math_min : MM := (⟨"java/lang/Math", "min", "(II)I"⟩, prog_13_method_69_code, 2, (some .int))
theorem k_Math_min : MK m_Math_min 2 := ⟨gt_at 70 (by decide +kernel) (by decide +kernel), w_41, by decide +kernel, by decide +kernel, by decide⟩
theorem t_Math_min : Cond.static m_Math_min.1 ∈ GT := gt_at 69 (by decide +kernel) (by decide +kernel)
def m_AC_init : MM := (⟨"java/util/AbstractCollection", "<init>", "()V"⟩, prog_15_method_1_code, 1, none)
theorem w_45 : Cond.initialized "java/util/AbstractCollection" ∈ GT := gt_at 45 (by decide +kernel) (by decide +kernel)
theorem k_AC_init : MK m_AC_init 0 := ⟨gt_at 173 (by decide +kernel) (by decide +kernel), w_45, by decide +kernel, by decide +kernel, by decide⟩
theorem y_AC_init : plainName m_AC_init.1.cls = true := by decide +kernel
theorem i_AC_init : Cond.instanceMethod m_AC_init.1 ∈ GT := gt_at 172 (by decide +kernel) (by decide +kernel)
def m_AbL_init : MM := (⟨"java/util/AbstractList", "<init>", "()V"⟩, prog_16_method_1_code, 1, none)
theorem w_46 : Cond.initialized "java/util/AbstractList" ∈ GT := gt_at 46 (by decide +kernel) (by decide +kernel)
theorem k_AbL_init : MK m_AbL_init 0 := ⟨gt_at 170 (by decide +kernel) (by decide +kernel), w_46, by decide +kernel, by decide +kernel, by decide⟩
theorem y_AbL_init : plainName m_AbL_init.1.cls = true := by decide +kernel
theorem i_AbL_init : Cond.instanceMethod m_AbL_init.1 ∈ GT := gt_at 169 (by decide +kernel) (by decide +kernel)
def m_AL_init : MM := (⟨"java/util/ArrayList", "<init>", "()V"⟩, prog_17_method_2_code, 1, none)
theorem w_47 : Cond.initialized "java/util/ArrayList" ∈ GT := gt_at 47 (by decide +kernel) (by decide +kernel)
theorem k_AL_init : MK m_AL_init 0 := ⟨gt_at 167 (by decide +kernel) (by decide +kernel), w_47, by decide +kernel, by decide +kernel, by decide⟩
theorem y_AL_init : plainName m_AL_init.1.cls = true := by decide +kernel
theorem i_AL_init : Cond.instanceMethod m_AL_init.1 ∈ GT := gt_at 166 (by decide +kernel) (by decide +kernel)
def m_AL_grow1 : MM := (⟨"java/util/ArrayList", "grow", "(I)[Ljava/lang/Object;"⟩, prog_17_method_6_code, 4, (some (.array (.object "java/lang/Object"))))
theorem k_AL_grow1 : MK m_AL_grow1 1 := ⟨gt_at 334 (by decide +kernel) (by decide +kernel), w_47, by decide +kernel, by decide +kernel, by decide⟩
theorem y_AL_grow1 : plainName m_AL_grow1.1.cls = true := by decide +kernel
theorem i_AL_grow1 : Cond.instanceMethod m_AL_grow1.1 ∈ GT := gt_at 333 (by decide +kernel) (by decide +kernel)
theorem s_AL_grow1 : Cond.selects m_AL_grow1.1.cls m_AL_grow1.1 m_AL_grow1.1 ∈ GT := gt_at 8 (by decide +kernel) (by decide +kernel)
def m_AL_grow0 : MM := (⟨"java/util/ArrayList", "grow", "()[Ljava/lang/Object;"⟩, prog_17_method_7_code, 1, (some (.array (.object "java/lang/Object"))))
theorem k_AL_grow0 : MK m_AL_grow0 0 := ⟨gt_at 330 (by decide +kernel) (by decide +kernel), w_47, by decide +kernel, by decide +kernel, by decide⟩
theorem y_AL_grow0 : plainName m_AL_grow0.1.cls = true := by decide +kernel
theorem i_AL_grow0 : Cond.instanceMethod m_AL_grow0.1 ∈ GT := gt_at 329 (by decide +kernel) (by decide +kernel)
theorem s_AL_grow0 : Cond.selects m_AL_grow0.1.cls m_AL_grow0.1 m_AL_grow0.1 ∈ GT := gt_at 7 (by decide +kernel) (by decide +kernel)
def m_AL_size : MM := (⟨"java/util/ArrayList", "size", "()I"⟩, prog_17_method_8_code, 1, (some .int))
theorem k_AL_size : MK m_AL_size 0 := ⟨gt_at 288 (by decide +kernel) (by decide +kernel), w_47, by decide +kernel, by decide +kernel, by decide⟩
theorem y_AL_size : plainName m_AL_size.1.cls = true := by decide +kernel
theorem i_AL_size : Cond.instanceMethod m_AL_size.1 ∈ GT := gt_at 286 (by decide +kernel) (by decide +kernel)
theorem s_AL_size : Cond.selects m_AL_size.1.cls m_AL_size.1 m_AL_size.1 ∈ GT := gt_at 287 (by decide +kernel) (by decide +kernel)
def m_AL_isEmpty : MM := (⟨"java/util/ArrayList", "isEmpty", "()Z"⟩, prog_17_method_9_code, 1, (some .boolean))
theorem k_AL_isEmpty : MK m_AL_isEmpty 0 := ⟨gt_at 372 (by decide +kernel) (by decide +kernel), w_47, by decide +kernel, by decide +kernel, by decide⟩
theorem y_AL_isEmpty : plainName m_AL_isEmpty.1.cls = true := by decide +kernel
theorem i_AL_isEmpty : Cond.instanceMethod m_AL_isEmpty.1 ∈ GT := gt_at 370 (by decide +kernel) (by decide +kernel)
theorem s_AL_isEmpty : Cond.selects m_AL_isEmpty.1.cls m_AL_isEmpty.1 m_AL_isEmpty.1 ∈ GT := gt_at 371 (by decide +kernel) (by decide +kernel)
def m_AL_elementData : MM := (⟨"java/util/ArrayList", "elementData", "(I)Ljava/lang/Object;"⟩, prog_17_method_18_code, 2, (some (.object "java/lang/Object")))
theorem k_AL_elementData : MK m_AL_elementData 1 := ⟨gt_at 302 (by decide +kernel) (by decide +kernel), w_47, by decide +kernel, by decide +kernel, by decide⟩
theorem y_AL_elementData : plainName m_AL_elementData.1.cls = true := by decide +kernel
theorem i_AL_elementData : Cond.instanceMethod m_AL_elementData.1 ∈ GT := gt_at 300 (by decide +kernel) (by decide +kernel)
theorem s_AL_elementData : Cond.selects m_AL_elementData.1.cls m_AL_elementData.1 m_AL_elementData.1 ∈ GT := gt_at 301 (by decide +kernel) (by decide +kernel)
def m_AL_get : MM := (⟨"java/util/ArrayList", "get", "(I)Ljava/lang/Object;"⟩, prog_17_method_20_code, 2, (some (.object "java/lang/Object")))
theorem k_AL_get : MK m_AL_get 1 := ⟨gt_at 292 (by decide +kernel) (by decide +kernel), w_47, by decide +kernel, by decide +kernel, by decide⟩
theorem y_AL_get : plainName m_AL_get.1.cls = true := by decide +kernel
theorem i_AL_get : Cond.instanceMethod m_AL_get.1 ∈ GT := gt_at 290 (by decide +kernel) (by decide +kernel)
theorem s_AL_get : Cond.selects m_AL_get.1.cls m_AL_get.1 m_AL_get.1 ∈ GT := gt_at 291 (by decide +kernel) (by decide +kernel)
def m_AL_add3 : MM := (⟨"java/util/ArrayList", "add", "(Ljava/lang/Object;[Ljava/lang/Object;I)V"⟩, prog_17_method_24_code, 4, none)
theorem k_AL_add3 : MK m_AL_add3 3 := ⟨gt_at 326 (by decide +kernel) (by decide +kernel), w_47, by decide +kernel, by decide +kernel, by decide⟩
theorem y_AL_add3 : plainName m_AL_add3.1.cls = true := by decide +kernel
theorem i_AL_add3 : Cond.instanceMethod m_AL_add3.1 ∈ GT := gt_at 325 (by decide +kernel) (by decide +kernel)
theorem s_AL_add3 : Cond.selects m_AL_add3.1.cls m_AL_add3.1 m_AL_add3.1 ∈ GT := gt_at 6 (by decide +kernel) (by decide +kernel)
def m_AL_add1 : MM := (⟨"java/util/ArrayList", "add", "(Ljava/lang/Object;)Z"⟩, prog_17_method_25_code, 2, (some .boolean))
theorem k_AL_add1 : MK m_AL_add1 1 := ⟨gt_at 322 (by decide +kernel) (by decide +kernel), w_47, by decide +kernel, by decide +kernel, by decide⟩
theorem y_AL_add1 : plainName m_AL_add1.1.cls = true := by decide +kernel
theorem i_AL_add1 : Cond.instanceMethod m_AL_add1.1 ∈ GT := gt_at 320 (by decide +kernel) (by decide +kernel)
theorem s_AL_add1 : Cond.selects m_AL_add1.1.cls m_AL_add1.1 m_AL_add1.1 ∈ GT := gt_at 321 (by decide +kernel) (by decide +kernel)
def m_AL_remove : MM := (⟨"java/util/ArrayList", "remove", "(I)Ljava/lang/Object;"⟩, prog_17_method_29_code, 4, (some (.object "java/lang/Object")))
theorem k_AL_remove : MK m_AL_remove 1 := ⟨gt_at 311 (by decide +kernel) (by decide +kernel), w_47, by decide +kernel, by decide +kernel, by decide⟩
theorem y_AL_remove : plainName m_AL_remove.1.cls = true := by decide +kernel
theorem i_AL_remove : Cond.instanceMethod m_AL_remove.1 ∈ GT := gt_at 309 (by decide +kernel) (by decide +kernel)
theorem s_AL_remove : Cond.selects m_AL_remove.1.cls m_AL_remove.1 m_AL_remove.1 ∈ GT := gt_at 310 (by decide +kernel) (by decide +kernel)
def m_AL_fastRemove : MM := (⟨"java/util/ArrayList", "fastRemove", "([Ljava/lang/Object;I)V"⟩, prog_17_method_39_code, 4, none)
theorem k_AL_fastRemove : MK m_AL_fastRemove 2 := ⟨gt_at 315 (by decide +kernel) (by decide +kernel), w_47, by decide +kernel, by decide +kernel, by decide⟩
theorem y_AL_fastRemove : plainName m_AL_fastRemove.1.cls = true := by decide +kernel
theorem i_AL_fastRemove : Cond.instanceMethod m_AL_fastRemove.1 ∈ GT := gt_at 314 (by decide +kernel) (by decide +kernel)
theorem s_AL_fastRemove : Cond.selects m_AL_fastRemove.1.cls m_AL_fastRemove.1 m_AL_fastRemove.1 ∈ GT := gt_at 5 (by decide +kernel) (by decide +kernel)
def m_Arrs_copyOf2 : MM := (⟨"java/util/Arrays", "copyOf", "([Ljava/lang/Object;I)[Ljava/lang/Object;"⟩, prog_18_method_119_code, 2, (some (.array (.object "java/lang/Object"))))
theorem w_54 : Cond.initialized "java/util/Arrays" ∈ GT := gt_at 54 (by decide +kernel) (by decide +kernel)
theorem k_Arrs_copyOf2 : MK m_Arrs_copyOf2 2 := ⟨gt_at 345 (by decide +kernel) (by decide +kernel), w_54, by decide +kernel, by decide +kernel, by decide⟩
theorem y_Arrs_copyOf2 : plainName m_Arrs_copyOf2.1.cls = true := by decide +kernel
theorem t_Arrs_copyOf2 : Cond.static m_Arrs_copyOf2.1 ∈ GT := gt_at 344 (by decide +kernel) (by decide +kernel)
def m_Arrs_copyOf3 : MM := (⟨"java/util/Arrays", "copyOf", "([Ljava/lang/Object;ILjava/lang/Class;)[Ljava/lang/Object;"⟩, prog_18_method_120_code, 4, (some (.array (.object "java/lang/Object"))))
theorem k_Arrs_copyOf3 : MK m_Arrs_copyOf3 3 := ⟨gt_at 361 (by decide +kernel) (by decide +kernel), w_54, by decide +kernel, by decide +kernel, by decide⟩
theorem y_Arrs_copyOf3 : plainName m_Arrs_copyOf3.1.cls = true := by decide +kernel
theorem t_Arrs_copyOf3 : Cond.static m_Arrs_copyOf3.1 ∈ GT := gt_at 360 (by decide +kernel) (by decide +kernel)
def m_Objs_checkIndex : MM := (⟨"java/util/Objects", "checkIndex", "(II)I"⟩, prog_21_method_17_code, 2, (some .int))
theorem w_50 : Cond.initialized "java/util/Objects" ∈ GT := gt_at 50 (by decide +kernel) (by decide +kernel)
theorem k_Objs_checkIndex : MK m_Objs_checkIndex 2 := ⟨gt_at 295 (by decide +kernel) (by decide +kernel), w_50, by decide +kernel, by decide +kernel, by decide⟩
theorem y_Objs_checkIndex : plainName m_Objs_checkIndex.1.cls = true := by decide +kernel
theorem t_Objs_checkIndex : Cond.static m_Objs_checkIndex.1 ∈ GT := gt_at 294 (by decide +kernel) (by decide +kernel)
def m_ASup_newLength : MM := (⟨"jdk/internal/util/ArraysSupport", "newLength", "(III)I"⟩, prog_24_method_27_code, 4, (some .int))
theorem w_53 : Cond.initialized "jdk/internal/util/ArraysSupport" ∈ GT := gt_at 53 (by decide +kernel) (by decide +kernel)
theorem k_ASup_newLength : MK m_ASup_newLength 3 := ⟨gt_at 337 (by decide +kernel) (by decide +kernel), w_53, by decide +kernel, by decide +kernel, by decide⟩
theorem y_ASup_newLength : plainName m_ASup_newLength.1.cls = true := by decide +kernel
theorem t_ASup_newLength : Cond.static m_ASup_newLength.1 ∈ GT := gt_at 336 (by decide +kernel) (by decide +kernel)
def m_ASup_hugeLength : MM := (⟨"jdk/internal/util/ArraysSupport", "hugeLength", "(II)I"⟩, prog_24_method_28_code, 3, (some .int))
theorem k_ASup_hugeLength : MK m_ASup_hugeLength 2 := ⟨gt_at 342 (by decide +kernel) (by decide +kernel), w_53, by decide +kernel, by decide +kernel, by decide⟩
theorem y_ASup_hugeLength : plainName m_ASup_hugeLength.1.cls = true := by decide +kernel
theorem t_ASup_hugeLength : Cond.static m_ASup_hugeLength.1 ∈ GT := gt_at 341 (by decide +kernel) (by decide +kernel)
def m_Pre_checkIndex : MM := (⟨"jdk/internal/util/Preconditions", "checkIndex", "(IILjava/util/function/BiFunction;)I"⟩, prog_25_method_11_code, 3, (some .int))
theorem w_51 : Cond.initialized "jdk/internal/util/Preconditions" ∈ GT := gt_at 51 (by decide +kernel) (by decide +kernel)
theorem k_Pre_checkIndex : MK m_Pre_checkIndex 3 := ⟨gt_at 298 (by decide +kernel) (by decide +kernel), w_51, by decide +kernel, by decide +kernel, by decide⟩
theorem y_Pre_checkIndex : plainName m_Pre_checkIndex.1.cls = true := by decide +kernel
theorem t_Pre_checkIndex : Cond.static m_Pre_checkIndex.1 ∈ GT := gt_at 297 (by decide +kernel) (by decide +kernel)
def m_Law_cell : MM := (⟨"TokenMeshLaw", "cell", "([II)I"⟩, method_2_code, 2, (some .int))
theorem w_39 : Cond.initialized "TokenMeshLaw" ∈ GT := gt_at 39 (by decide +kernel) (by decide +kernel)
theorem k_Law_cell : MK m_Law_cell 2 := ⟨gt_at 616 (by decide +kernel) (by decide +kernel), w_39, by decide +kernel, by decide +kernel, by decide⟩
theorem y_Law_cell : plainName m_Law_cell.1.cls = true := by decide +kernel
theorem t_Law_cell : Cond.static m_Law_cell.1 ∈ GT := gt_at 615 (by decide +kernel) (by decide +kernel)
def m_Law_law : MM := (⟨"TokenMeshLaw", "law", "([I)Z"⟩, code, 4, (some .boolean))
theorem y_Law_law : plainName m_Law_law.1.cls = true := by decide +kernel
/-! field sites and call sites: by the class that asks and its pool index -/
theorem w_52 : Cond.initialized "java/lang/System" ∈ GT := gt_at 52 (by decide +kernel) (by decide +kernel)
theorem l_Law_7 : Cond.classLink "TokenMeshLaw" 7 "TokenMesh" ∈ GT := gt_at 57 (by decide +kernel) (by decide +kernel)
theorem n_TM : Cond.instantiable "TokenMesh" 11 ∈ GT := gt_at 58 (by decide +kernel) (by decide +kernel)
theorem c_Law_15 : Cond.methodLink "TokenMeshLaw" 15 m_TM_init.1 ∈ GT := gt_at 59 (by decide +kernel) (by decide +kernel)
theorem c_TM_1 : Cond.methodLink "TokenMesh" 1 ⟨"java/lang/Object", "<init>", "()V"⟩ ∈ GT := gt_at 62 (by decide +kernel) (by decide +kernel)
theorem c_TM_7 : Cond.methodLink "TokenMesh" 7 m_TM_clamp.1 ∈ GT := gt_at 65 (by decide +kernel) (by decide +kernel)
theorem c_TM_213 : Cond.methodLink "TokenMesh" 213 m_Math_min.1 ∈ GT := gt_at 68 (by decide +kernel) (by decide +kernel)
theorem c_TM_219 : Cond.methodLink "TokenMesh" 219 m_Math_max.1 ∈ GT := gt_at 71 (by decide +kernel) (by decide +kernel)
theorem l_TM_29 : Cond.classLink "TokenMesh" 29 "TokenMesh$Share" ∈ GT := gt_at 74 (by decide +kernel) (by decide +kernel)
theorem a_Share : Cond.arrayOver (.object "TokenMesh$Share") ∈ NT := nt_at 75 (by decide +kernel) (by decide +kernel)
theorem n_Share : Cond.instantiable "TokenMesh$Share" 7 ∈ GT := gt_at 76 (by decide +kernel) (by decide +kernel)
theorem c_TM_35 : Cond.methodLinkNest "TokenMesh" 35 m_Share_init.1 "TokenMesh" ∈ NT := nt_at 77 (by decide +kernel) (by decide +kernel)
theorem c_Share_3 : Cond.methodLink "TokenMesh$Share" 3 ⟨"java/lang/Object", "<init>", "()V"⟩ ∈ GT := gt_at 80 (by decide +kernel) (by decide +kernel)
theorem f_TM_54 : FS "TokenMesh" 54 6 0 := ⟨_, "TokenMesh$Share", rfl, by decide, gt_at 81 (by decide +kernel) (by decide +kernel), Or.inl rfl⟩
theorem f_Share_15 : FS "TokenMesh$Share" 15 6 0 := ⟨_, "TokenMesh$Share", rfl, by decide, gt_at 82 (by decide +kernel) (by decide +kernel), Or.inl rfl⟩
theorem f_TM_57 : FS "TokenMesh" 57 6 1 := ⟨_, "TokenMesh$Share", rfl, by decide, gt_at 83 (by decide +kernel) (by decide +kernel), Or.inl rfl⟩
theorem f_Share_21 : FS "TokenMesh$Share" 21 6 1 := ⟨_, "TokenMesh$Share", rfl, by decide, gt_at 84 (by decide +kernel) (by decide +kernel), Or.inl rfl⟩
theorem f_TM_61 : FS "TokenMesh" 61 6 2 := ⟨_, "TokenMesh$Share", rfl, by decide, gt_at 85 (by decide +kernel) (by decide +kernel), Or.inl rfl⟩
theorem f_Share_29 : FS "TokenMesh$Share" 29 6 2 := ⟨_, "TokenMesh$Share", rfl, by decide, gt_at 86 (by decide +kernel) (by decide +kernel), Or.inl rfl⟩
theorem f_Share_35 : FS "TokenMesh$Share" 35 6 3 := ⟨_, "TokenMesh$Share", rfl, by decide, gt_at 87 (by decide +kernel) (by decide +kernel), Or.inl rfl⟩
theorem f_TM_183 : FS "TokenMesh" 183 6 3 := ⟨_, "TokenMesh$Share", rfl, by decide, gt_at 88 (by decide +kernel) (by decide +kernel), Or.inl rfl⟩
theorem f_Share_9 : FS "TokenMesh$Share" 9 6 4 := ⟨_, "TokenMesh$Share", rfl, by decide, gt_at 89 (by decide +kernel) (by decide +kernel), Or.inl rfl⟩
theorem f_TM_186 : FS "TokenMesh" 186 6 4 := ⟨_, "TokenMesh$Share", rfl, by decide, gt_at 90 (by decide +kernel) (by decide +kernel), Or.inl rfl⟩
theorem f_Share_36 : FS "TokenMesh$Share" 36 6 5 := ⟨_, "TokenMesh$Share", rfl, by decide, gt_at 91 (by decide +kernel) (by decide +kernel), Or.inl rfl⟩
theorem f_TM_189 : FS "TokenMesh" 189 6 5 := ⟨_, "TokenMesh$Share", rfl, by decide, gt_at 92 (by decide +kernel) (by decide +kernel), Or.inl rfl⟩
theorem f_Share_39 : FS "TokenMesh$Share" 39 6 6 := ⟨_, "TokenMesh$Share", rfl, by decide, gt_at 93 (by decide +kernel) (by decide +kernel), Or.inl rfl⟩
theorem f_TM_260 : FS "TokenMesh" 260 6 6 := ⟨_, "TokenMesh$Share", rfl, by decide, gt_at 94 (by decide +kernel) (by decide +kernel), Or.inl rfl⟩
theorem l_TM_36 : Cond.classLink "TokenMesh" 36 "TokenMesh$Core" ∈ GT := gt_at 110 (by decide +kernel) (by decide +kernel)
theorem a_Core : Cond.arrayOver (.object "TokenMesh$Core") ∈ NT := nt_at 111 (by decide +kernel) (by decide +kernel)
theorem n_Core : Cond.instantiable "TokenMesh$Core" 10 ∈ GT := gt_at 112 (by decide +kernel) (by decide +kernel)
theorem c_TM_42 : Cond.methodLinkNest "TokenMesh" 42 m_Core_init.1 "TokenMesh" ∈ NT := nt_at 113 (by decide +kernel) (by decide +kernel)
theorem c_Core_1 : Cond.methodLink "TokenMesh$Core" 1 ⟨"java/lang/Object", "<init>", "()V"⟩ ∈ GT := gt_at 116 (by decide +kernel) (by decide +kernel)
theorem f_Core_7 : FS "TokenMesh$Core" 7 1 0 := ⟨_, "TokenMesh$Core", rfl, by decide, gt_at 117 (by decide +kernel) (by decide +kernel), Or.inl rfl⟩
theorem f_TM_229 : FS "TokenMesh" 229 1 0 := ⟨_, "TokenMesh$Core", rfl, by decide, gt_at 118 (by decide +kernel) (by decide +kernel), Or.inl rfl⟩
theorem f_Core_13 : FS "TokenMesh$Core" 13 1 1 := ⟨_, "TokenMesh$Core", rfl, by decide, gt_at 119 (by decide +kernel) (by decide +kernel), Or.inl rfl⟩
theorem f_TM_78 : FS "TokenMesh" 78 1 1 := ⟨_, "TokenMesh$Core", rfl, by decide, gt_at 120 (by decide +kernel) (by decide +kernel), Or.inl rfl⟩
theorem f_Core_17 : FS "TokenMesh$Core" 17 1 2 := ⟨_, "TokenMesh$Core", rfl, by decide, gt_at 121 (by decide +kernel) (by decide +kernel), Or.inl rfl⟩
theorem f_TM_223 : FS "TokenMesh" 223 1 2 := ⟨_, "TokenMesh$Core", rfl, by decide, gt_at 122 (by decide +kernel) (by decide +kernel), Or.inl rfl⟩
theorem f_Core_20 : FS "TokenMesh$Core" 20 1 3 := ⟨_, "TokenMesh$Core", rfl, by decide, gt_at 123 (by decide +kernel) (by decide +kernel), Or.inl rfl⟩
theorem f_TM_222 : FS "TokenMesh" 222 1 3 := ⟨_, "TokenMesh$Core", rfl, by decide, gt_at 124 (by decide +kernel) (by decide +kernel), Or.inl rfl⟩
theorem f_Core_23 : FS "TokenMesh$Core" 23 1 4 := ⟨_, "TokenMesh$Core", rfl, by decide, gt_at 125 (by decide +kernel) (by decide +kernel), Or.inl rfl⟩
theorem f_TM_224 : FS "TokenMesh" 224 1 4 := ⟨_, "TokenMesh$Core", rfl, by decide, gt_at 126 (by decide +kernel) (by decide +kernel), Or.inl rfl⟩
theorem f_Core_26 : FS "TokenMesh$Core" 26 1 5 := ⟨_, "TokenMesh$Core", rfl, by decide, gt_at 127 (by decide +kernel) (by decide +kernel), Or.inl rfl⟩
theorem f_TM_199 : FS "TokenMesh" 199 1 5 := ⟨_, "TokenMesh$Core", rfl, by decide, gt_at 128 (by decide +kernel) (by decide +kernel), Or.inl rfl⟩
theorem f_TM_95 : FS "TokenMesh" 95 1 6 := ⟨_, "TokenMesh$Core", rfl, by decide, gt_at 129 (by decide +kernel) (by decide +kernel), Or.inl rfl⟩
theorem f_Core_32 : FS "TokenMesh$Core" 32 1 6 := ⟨_, "TokenMesh$Core", rfl, by decide, gt_at 130 (by decide +kernel) (by decide +kernel), Or.inl rfl⟩
theorem f_Core_29 : FS "TokenMesh$Core" 29 1 7 := ⟨_, "TokenMesh$Core", rfl, by decide, gt_at 131 (by decide +kernel) (by decide +kernel), Or.inl rfl⟩
theorem f_TM_202 : FS "TokenMesh" 202 1 7 := ⟨_, "TokenMesh$Core", rfl, by decide, gt_at 132 (by decide +kernel) (by decide +kernel), Or.inl rfl⟩
theorem f_TM_205 : FS "TokenMesh" 205 1 8 := ⟨_, "TokenMesh$Core", rfl, by decide, gt_at 133 (by decide +kernel) (by decide +kernel), Or.inl rfl⟩
theorem f_TM_208 : FS "TokenMesh" 208 1 9 := ⟨_, "TokenMesh$Core", rfl, by decide, gt_at 134 (by decide +kernel) (by decide +kernel), Or.inl rfl⟩
theorem l_TM_47 : Cond.classLink "TokenMesh" 47 "TokenMesh$Desk" ∈ GT := gt_at 156 (by decide +kernel) (by decide +kernel)
theorem a_Desk : Cond.arrayOver (.object "TokenMesh$Desk") ∈ NT := nt_at 157 (by decide +kernel) (by decide +kernel)
theorem n_Desk : Cond.instantiable "TokenMesh$Desk" 3 ∈ GT := gt_at 158 (by decide +kernel) (by decide +kernel)
theorem c_TM_53 : Cond.methodLinkNest "TokenMesh" 53 m_Desk_init.1 "TokenMesh" ∈ NT := nt_at 159 (by decide +kernel) (by decide +kernel)
theorem c_Desk_1 : Cond.methodLink "TokenMesh$Desk" 1 ⟨"java/lang/Object", "<init>", "()V"⟩ ∈ GT := gt_at 162 (by decide +kernel) (by decide +kernel)
theorem l_Desk_7 : Cond.classLink "TokenMesh$Desk" 7 "java/util/ArrayList" ∈ GT := gt_at 163 (by decide +kernel) (by decide +kernel)
theorem n_AL : Cond.instantiable "java/util/ArrayList" 3 ∈ GT := gt_at 164 (by decide +kernel) (by decide +kernel)
theorem c_Desk_9 : Cond.methodLink "TokenMesh$Desk" 9 m_AL_init.1 ∈ GT := gt_at 165 (by decide +kernel) (by decide +kernel)
theorem c_AL_1 : Cond.methodLink "java/util/ArrayList" 1 m_AbL_init.1 ∈ GT := gt_at 168 (by decide +kernel) (by decide +kernel)
theorem c_AbL_1 : Cond.methodLink "java/util/AbstractList" 1 m_AC_init.1 ∈ GT := gt_at 171 (by decide +kernel) (by decide +kernel)
theorem c_AC_1 : Cond.methodLink "java/util/AbstractCollection" 1 ⟨"java/lang/Object", "<init>", "()V"⟩ ∈ GT := gt_at 174 (by decide +kernel) (by decide +kernel)
theorem w_175 : Cond.fieldLink "java/util/ArrayList" 39 "java/util/ArrayList" "DEFAULTCAPACITY_EMPTY_ELEMENTDATA" "[Ljava/lang/Object;" ∈ GT := gt_at 175 (by decide +kernel) (by decide +kernel)
theorem f_AL_9 : FS "java/util/ArrayList" 9 0 1 := ⟨_, "java/util/ArrayList", rfl, by decide, gt_at 177 (by decide +kernel) (by decide +kernel), Or.inl rfl⟩
theorem f_AL_48 : FS "java/util/ArrayList" 48 0 2 := ⟨_, "java/util/ArrayList", rfl, by decide, gt_at 178 (by decide +kernel) (by decide +kernel), Or.inl rfl⟩
theorem f_AbL_7 : FS "java/util/AbstractList" 7 0 0 := ⟨_, "java/util/AbstractList", rfl, by decide, gt_at 179 (by decide +kernel) (by decide +kernel), Or.inl rfl⟩
theorem f_AL_63 : FS "java/util/ArrayList" 63 0 0 := ⟨_, "java/util/ArrayList", rfl, by decide, gt_at 180 (by decide +kernel) (by decide +kernel), Or.inr (gt_at 181 (by decide +kernel) (by decide +kernel))⟩
theorem a_int : Cond.arrayClass .int ∈ GT := gt_at 189 (by decide +kernel) (by decide +kernel)
theorem f_Desk_10 : FS "TokenMesh$Desk" 10 2 0 := ⟨_, "TokenMesh$Desk", rfl, by decide, gt_at 190 (by decide +kernel) (by decide +kernel), Or.inl rfl⟩
theorem f_TM_192 : FS "TokenMesh" 192 2 0 := ⟨_, "TokenMesh$Desk", rfl, by decide, gt_at 191 (by decide +kernel) (by decide +kernel), Or.inl rfl⟩
theorem f_TM_253 : FS "TokenMesh" 253 2 1 := ⟨_, "TokenMesh$Desk", rfl, by decide, gt_at 192 (by decide +kernel) (by decide +kernel), Or.inl rfl⟩
theorem f_TM_286 : FS "TokenMesh" 286 2 2 := ⟨_, "TokenMesh$Desk", rfl, by decide, gt_at 193 (by decide +kernel) (by decide +kernel), Or.inl rfl⟩
theorem l_TM_64 : Cond.classLink "TokenMesh" 64 "TokenMesh$Mail" ∈ GT := gt_at 201 (by decide +kernel) (by decide +kernel)
theorem n_Mail : Cond.instantiable "TokenMesh$Mail" 2 ∈ GT := gt_at 202 (by decide +kernel) (by decide +kernel)
theorem c_TM_66 : Cond.methodLinkNest "TokenMesh" 66 m_Mail_init.1 "TokenMesh" ∈ NT := nt_at 203 (by decide +kernel) (by decide +kernel)
theorem c_Mail_3 : Cond.methodLink "TokenMesh$Mail" 3 ⟨"java/lang/Object", "<init>", "()V"⟩ ∈ GT := gt_at 206 (by decide +kernel) (by decide +kernel)
theorem l_Mail_9 : Cond.classLink "TokenMesh$Mail" 9 "java/util/ArrayList" ∈ GT := gt_at 207 (by decide +kernel) (by decide +kernel)
theorem c_Mail_11 : Cond.methodLink "TokenMesh$Mail" 11 m_AL_init.1 ∈ GT := gt_at 208 (by decide +kernel) (by decide +kernel)
theorem f_Mail_12 : FS "TokenMesh$Mail" 12 4 0 := ⟨_, "TokenMesh$Mail", rfl, by decide, gt_at 209 (by decide +kernel) (by decide +kernel), Or.inl rfl⟩
theorem f_Mail_18 : FS "TokenMesh$Mail" 18 4 1 := ⟨_, "TokenMesh$Mail", rfl, by decide, gt_at 210 (by decide +kernel) (by decide +kernel), Or.inl rfl⟩
theorem f_TM_13 : FS "TokenMesh" 13 7 0 := ⟨_, "TokenMesh", rfl, by decide, gt_at 216 (by decide +kernel) (by decide +kernel), Or.inl rfl⟩
theorem f_TM_23 : FS "TokenMesh" 23 7 1 := ⟨_, "TokenMesh", rfl, by decide, gt_at 217 (by decide +kernel) (by decide +kernel), Or.inl rfl⟩
theorem f_TM_26 : FS "TokenMesh" 26 7 2 := ⟨_, "TokenMesh", rfl, by decide, gt_at 218 (by decide +kernel) (by decide +kernel), Or.inl rfl⟩
theorem f_TM_17 : FS "TokenMesh" 17 7 3 := ⟨_, "TokenMesh", rfl, by decide, gt_at 219 (by decide +kernel) (by decide +kernel), Or.inl rfl⟩
theorem f_TM_20 : FS "TokenMesh" 20 7 4 := ⟨_, "TokenMesh", rfl, by decide, gt_at 220 (by decide +kernel) (by decide +kernel), Or.inl rfl⟩
theorem f_TM_31 : FS "TokenMesh" 31 7 5 := ⟨_, "TokenMesh", rfl, by decide, gt_at 221 (by decide +kernel) (by decide +kernel), Or.inl rfl⟩
theorem f_TM_38 : FS "TokenMesh" 38 7 6 := ⟨_, "TokenMesh", rfl, by decide, gt_at 222 (by decide +kernel) (by decide +kernel), Or.inl rfl⟩
theorem f_TM_49 : FS "TokenMesh" 49 7 7 := ⟨_, "TokenMesh", rfl, by decide, gt_at 223 (by decide +kernel) (by decide +kernel), Or.inl rfl⟩
theorem f_TM_43 : FS "TokenMesh" 43 7 8 := ⟨_, "TokenMesh", rfl, by decide, gt_at 224 (by decide +kernel) (by decide +kernel), Or.inl rfl⟩
theorem f_TM_67 : FS "TokenMesh" 67 7 9 := ⟨_, "TokenMesh", rfl, by decide, gt_at 225 (by decide +kernel) (by decide +kernel), Or.inl rfl⟩
theorem f_TM_92 : FS "TokenMesh" 92 7 10 := ⟨_, "TokenMesh", rfl, by decide, gt_at 226 (by decide +kernel) (by decide +kernel), Or.inl rfl⟩
theorem c_Law_21 : Cond.methodLink "TokenMeshLaw" 21 m_TM_issue.1 ∈ GT := gt_at 250 (by decide +kernel) (by decide +kernel)
theorem c_TM_71 : Cond.methodLink "TokenMesh" 71 m_TM_isCore.1 ∈ GT := gt_at 254 (by decide +kernel) (by decide +kernel)
theorem c_TM_75 : Cond.methodLink "TokenMesh" 75 m_TM_isBlock.1 ∈ GT := gt_at 258 (by decide +kernel) (by decide +kernel)
theorem c_TM_81 : Cond.methodLink "TokenMesh" 81 m_Core_begin.1 ∈ GT := gt_at 261 (by decide +kernel) (by decide +kernel)
theorem c_TM_85 : Cond.methodLink "TokenMesh" 85 m_TM_canEnd.1 ∈ GT := gt_at 265 (by decide +kernel) (by decide +kernel)
theorem c_TM_159 : Cond.methodLink "TokenMesh" 159 m_TM_share.1 ∈ GT := gt_at 269 (by decide +kernel) (by decide +kernel)
theorem c_TM_88 : Cond.methodLink "TokenMesh" 88 m_TM_endd.1 ∈ GT := gt_at 273 (by decide +kernel) (by decide +kernel)
theorem c_TM_225 : Cond.methodLink "TokenMesh" 225 m_Mail_send.1 ∈ GT := gt_at 277 (by decide +kernel) (by decide +kernel)
theorem c_Mail_38 : Cond.methodLink "TokenMesh$Mail" 38 m_Mail_dropOlder.1 ∈ GT := gt_at 281 (by decide +kernel) (by decide +kernel)
theorem c_Mail_21 : Cond.methodLink "TokenMesh$Mail" 21 m_AL_size.1 ∈ GT := gt_at 285 (by decide +kernel) (by decide +kernel)
theorem c_Mail_25 : Cond.methodLink "TokenMesh$Mail" 25 m_AL_get.1 ∈ GT := gt_at 289 (by decide +kernel) (by decide +kernel)
theorem c_AL_118 : Cond.methodLink "java/util/ArrayList" 118 m_Objs_checkIndex.1 ∈ GT := gt_at 293 (by decide +kernel) (by decide +kernel)
theorem c_Objs_105 : Cond.methodLink "java/util/Objects" 105 m_Pre_checkIndex.1 ∈ GT := gt_at 296 (by decide +kernel) (by decide +kernel)
theorem c_AL_123 : Cond.methodLink "java/util/ArrayList" 123 m_AL_elementData.1 ∈ GT := gt_at 299 (by decide +kernel) (by decide +kernel)
theorem l_Mail_29 : Cond.classLink "TokenMesh$Mail" 29 "TokenMesh$Letter" ∈ GT := gt_at 303 (by decide +kernel) (by decide +kernel)
theorem c_Mail_50 : Cond.methodLink "TokenMesh$Mail" 50 m_Letter_yieldsTo.1 ∈ GT := gt_at 304 (by decide +kernel) (by decide +kernel)
theorem c_Mail_31 : Cond.methodLink "TokenMesh$Mail" 31 m_AL_remove.1 ∈ GT := gt_at 308 (by decide +kernel) (by decide +kernel)
theorem c_AL_144 : Cond.methodLink "java/util/ArrayList" 144 m_AL_fastRemove.1 ∈ GT := gt_at 312 (by decide +kernel) (by decide +kernel)
theorem c_AL_112 : Cond.methodLink "java/util/ArrayList" 112 ⟨"java/lang/System", "arraycopy", "(Ljava/lang/Object;ILjava/lang/Object;II)V"⟩ ∈ GT := gt_at 316 (by decide +kernel) (by decide +kernel)
theorem v_arraycopy : Cond.native arraycopyName ∈ GT := gt_at 318 (by decide +kernel) (by decide +kernel)
theorem c_Mail_34 : Cond.methodLink "TokenMesh$Mail" 34 m_AL_add1.1 ∈ GT := gt_at 319 (by decide +kernel) (by decide +kernel)
theorem c_AL_131 : Cond.methodLink "java/util/ArrayList" 131 m_AL_add3.1 ∈ GT := gt_at 323 (by decide +kernel) (by decide +kernel)
theorem c_AL_129 : Cond.methodLink "java/util/ArrayList" 129 m_AL_grow0.1 ∈ GT := gt_at 327 (by decide +kernel) (by decide +kernel)
theorem c_AL_69 : Cond.methodLink "java/util/ArrayList" 69 m_AL_grow1.1 ∈ GT := gt_at 331 (by decide +kernel) (by decide +kernel)
theorem c_AL_73 : Cond.methodLink "java/util/ArrayList" 73 m_ASup_newLength.1 ∈ GT := gt_at 335 (by decide +kernel) (by decide +kernel)
theorem c_ASup_194 : Cond.methodLink "jdk/internal/util/ArraysSupport" 194 m_Math_max.1 ∈ GT := gt_at 338 (by decide +kernel) (by decide +kernel)
theorem u_ASup_200 : Cond.constant "jdk/internal/util/ArraysSupport" 200 2147483639 ∈ GT := gt_at 339 (by decide +kernel) (by decide +kernel)
theorem c_ASup_201 : Cond.methodLink "jdk/internal/util/ArraysSupport" 201 m_ASup_hugeLength.1 ∈ GT := gt_at 340 (by decide +kernel) (by decide +kernel)
theorem c_AL_66 : Cond.methodLink "java/util/ArrayList" 66 m_Arrs_copyOf2.1 ∈ GT := gt_at 343 (by decide +kernel) (by decide +kernel)
theorem c_Arrs_86 : Cond.methodLink "java/util/Arrays" 86 ⟨"java/lang/Object", "getClass", "()Ljava/lang/Class;"⟩ ∈ GT := gt_at 346 (by decide +kernel) (by decide +kernel)
theorem v_getClass : Cond.native gcN ∈ GT := gt_at 358 (by decide +kernel) (by decide +kernel)
theorem c_Arrs_300 : Cond.methodLink "java/util/Arrays" 300 m_Arrs_copyOf3.1 ∈ GT := gt_at 359 (by decide +kernel) (by decide +kernel)
theorem l_Arrs_110 : Cond.classLink "java/util/Arrays" 110 "[Ljava/lang/Object;" ∈ GT := gt_at 362 (by decide +kernel) (by decide +kernel)
theorem a_Obj : Cond.arrayOver (.object "java/lang/Object") ∈ NT := nt_at 363 (by decide +kernel) (by decide +kernel)
theorem l_Arrs_2 : Cond.classLink "java/util/Arrays" 2 "java/lang/Object" ∈ GT := gt_at 364 (by decide +kernel) (by decide +kernel)
theorem c_Arrs_304 : Cond.methodLink "java/util/Arrays" 304 m_Math_min.1 ∈ GT := gt_at 365 (by decide +kernel) (by decide +kernel)
theorem c_Arrs_150 : Cond.methodLink "java/util/Arrays" 150 ⟨"java/lang/System", "arraycopy", "(Ljava/lang/Object;ILjava/lang/Object;II)V"⟩ ∈ GT := gt_at 366 (by decide +kernel) (by decide +kernel)
theorem c_AL_79 : Cond.methodLink "java/util/ArrayList" 79 m_Math_max.1 ∈ GT := gt_at 367 (by decide +kernel) (by decide +kernel)
theorem l_AL_7 : Cond.classLink "java/util/ArrayList" 7 "java/lang/Object" ∈ GT := gt_at 368 (by decide +kernel) (by decide +kernel)
theorem c_Mail_42 : Cond.methodLink "TokenMesh$Mail" 42 m_AL_isEmpty.1 ∈ GT := gt_at 369 (by decide +kernel) (by decide +kernel)
theorem n_Letter : Cond.instantiable "TokenMesh$Letter" 11 ∈ GT := gt_at 373 (by decide +kernel) (by decide +kernel)
theorem c_Mail_46 : Cond.methodLinkNest "TokenMesh$Mail" 46 m_Letter_init.1 "TokenMesh" ∈ NT := nt_at 374 (by decide +kernel) (by decide +kernel)
theorem c_Letter_3 : Cond.methodLink "TokenMesh$Letter" 3 ⟨"java/lang/Object", "<init>", "()V"⟩ ∈ GT := gt_at 377 (by decide +kernel) (by decide +kernel)
theorem f_Letter_9 : FS "TokenMesh$Letter" 9 3 0 := ⟨_, "TokenMesh$Letter", rfl, by decide, gt_at 378 (by decide +kernel) (by decide +kernel), Or.inl rfl⟩
theorem f_TM_114 : FS "TokenMesh" 114 3 0 := ⟨_, "TokenMesh$Letter", rfl, by decide, gt_at 379 (by decide +kernel) (by decide +kernel), Or.inl rfl⟩
theorem f_Letter_15 : FS "TokenMesh$Letter" 15 3 1 := ⟨_, "TokenMesh$Letter", rfl, by decide, gt_at 380 (by decide +kernel) (by decide +kernel), Or.inl rfl⟩
theorem f_TM_125 : FS "TokenMesh" 125 3 1 := ⟨_, "TokenMesh$Letter", rfl, by decide, gt_at 381 (by decide +kernel) (by decide +kernel), Or.inl rfl⟩
theorem f_Letter_18 : FS "TokenMesh$Letter" 18 3 2 := ⟨_, "TokenMesh$Letter", rfl, by decide, gt_at 382 (by decide +kernel) (by decide +kernel), Or.inl rfl⟩
theorem f_TM_119 : FS "TokenMesh" 119 3 2 := ⟨_, "TokenMesh$Letter", rfl, by decide, gt_at 383 (by decide +kernel) (by decide +kernel), Or.inl rfl⟩
theorem f_Letter_21 : FS "TokenMesh$Letter" 21 3 3 := ⟨_, "TokenMesh$Letter", rfl, by decide, gt_at 384 (by decide +kernel) (by decide +kernel), Or.inl rfl⟩
theorem f_TM_122 : FS "TokenMesh" 122 3 3 := ⟨_, "TokenMesh$Letter", rfl, by decide, gt_at 385 (by decide +kernel) (by decide +kernel), Or.inl rfl⟩
theorem f_Share_18 : FS "TokenMesh$Share" 18 3 4 := ⟨_, "TokenMesh$Letter", rfl, by decide, gt_at 386 (by decide +kernel) (by decide +kernel), Or.inl rfl⟩
theorem f_Letter_24 : FS "TokenMesh$Letter" 24 3 4 := ⟨_, "TokenMesh$Letter", rfl, by decide, gt_at 387 (by decide +kernel) (by decide +kernel), Or.inl rfl⟩
theorem f_TM_230 : FS "TokenMesh" 230 3 4 := ⟨_, "TokenMesh$Letter", rfl, by decide, gt_at 388 (by decide +kernel) (by decide +kernel), Or.inl rfl⟩
theorem f_Share_25 : FS "TokenMesh$Share" 25 3 5 := ⟨_, "TokenMesh$Letter", rfl, by decide, gt_at 389 (by decide +kernel) (by decide +kernel), Or.inl rfl⟩
theorem f_Letter_27 : FS "TokenMesh$Letter" 27 3 5 := ⟨_, "TokenMesh$Letter", rfl, by decide, gt_at 390 (by decide +kernel) (by decide +kernel), Or.inl rfl⟩
theorem f_TM_211 : FS "TokenMesh" 211 3 5 := ⟨_, "TokenMesh$Letter", rfl, by decide, gt_at 391 (by decide +kernel) (by decide +kernel), Or.inl rfl⟩
theorem f_Letter_31 : FS "TokenMesh$Letter" 31 3 6 := ⟨_, "TokenMesh$Letter", rfl, by decide, gt_at 392 (by decide +kernel) (by decide +kernel), Or.inl rfl⟩
theorem f_Share_26 : FS "TokenMesh$Share" 26 3 6 := ⟨_, "TokenMesh$Letter", rfl, by decide, gt_at 393 (by decide +kernel) (by decide +kernel), Or.inl rfl⟩
theorem f_TM_231 : FS "TokenMesh" 231 3 6 := ⟨_, "TokenMesh$Letter", rfl, by decide, gt_at 394 (by decide +kernel) (by decide +kernel), Or.inl rfl⟩
theorem f_Letter_34 : FS "TokenMesh$Letter" 34 3 7 := ⟨_, "TokenMesh$Letter", rfl, by decide, gt_at 395 (by decide +kernel) (by decide +kernel), Or.inl rfl⟩
theorem f_Share_32 : FS "TokenMesh$Share" 32 3 7 := ⟨_, "TokenMesh$Letter", rfl, by decide, gt_at 396 (by decide +kernel) (by decide +kernel), Or.inl rfl⟩
theorem f_TM_212 : FS "TokenMesh" 212 3 7 := ⟨_, "TokenMesh$Letter", rfl, by decide, gt_at 397 (by decide +kernel) (by decide +kernel), Or.inl rfl⟩
theorem f_Letter_37 : FS "TokenMesh$Letter" 37 3 8 := ⟨_, "TokenMesh$Letter", rfl, by decide, gt_at 398 (by decide +kernel) (by decide +kernel), Or.inl rfl⟩
theorem f_TM_139 : FS "TokenMesh" 139 3 8 := ⟨_, "TokenMesh$Letter", rfl, by decide, gt_at 399 (by decide +kernel) (by decide +kernel), Or.inl rfl⟩
theorem f_Letter_40 : FS "TokenMesh$Letter" 40 3 9 := ⟨_, "TokenMesh$Letter", rfl, by decide, gt_at 400 (by decide +kernel) (by decide +kernel), Or.inl rfl⟩
theorem f_TM_263 : FS "TokenMesh" 263 3 9 := ⟨_, "TokenMesh$Letter", rfl, by decide, gt_at 401 (by decide +kernel) (by decide +kernel), Or.inl rfl⟩
theorem f_Letter_43 : FS "TokenMesh$Letter" 43 3 10 := ⟨_, "TokenMesh$Letter", rfl, by decide, gt_at 402 (by decide +kernel) (by decide +kernel), Or.inl rfl⟩
theorem f_TM_142 : FS "TokenMesh" 142 3 10 := ⟨_, "TokenMesh$Letter", rfl, by decide, gt_at 403 (by decide +kernel) (by decide +kernel), Or.inl rfl⟩
theorem c_Mail_47 : Cond.methodLink "TokenMesh$Mail" 47 m_Letter_address.1 ∈ GT := gt_at 427 (by decide +kernel) (by decide +kernel)
theorem c_TM_98 : Cond.methodLink "TokenMesh" 98 m_TM_ask.1 ∈ GT := gt_at 431 (by decide +kernel) (by decide +kernel)
theorem c_Law_26 : Cond.methodLink "TokenMeshLaw" 26 m_TM_tick.1 ∈ GT := gt_at 435 (by decide +kernel) (by decide +kernel)
theorem c_TM_101 : Cond.methodLink "TokenMesh" 101 m_Core_isDue.1 ∈ GT := gt_at 439 (by decide +kernel) (by decide +kernel)
theorem c_TM_104 : Cond.methodLink "TokenMesh" 104 m_TM_askAgain.1 ∈ GT := gt_at 443 (by decide +kernel) (by decide +kernel)
theorem c_Law_31 : Cond.methodLink "TokenMeshLaw" 31 m_TM_deliver.1 ∈ GT := gt_at 447 (by decide +kernel) (by decide +kernel)
theorem c_TM_107 : Cond.methodLink "TokenMesh" 107 m_Mail_has.1 ∈ GT := gt_at 451 (by decide +kernel) (by decide +kernel)
theorem c_TM_110 : Cond.methodLink "TokenMesh" 110 m_Mail_take.1 ∈ GT := gt_at 455 (by decide +kernel) (by decide +kernel)
theorem c_TM_128 : Cond.methodLink "TokenMesh" 128 m_TM_onRead.1 ∈ GT := gt_at 459 (by decide +kernel) (by decide +kernel)
theorem c_TM_166 : Cond.methodLink "TokenMesh" 166 m_TM_give.1 ∈ GT := gt_at 463 (by decide +kernel) (by decide +kernel)
theorem c_TM_234 : Cond.methodLink "TokenMesh" 234 m_Share_lose.1 ∈ GT := gt_at 467 (by decide +kernel) (by decide +kernel)
theorem c_TM_132 : Cond.methodLink "TokenMesh" 132 m_TM_onWrite.1 ∈ GT := gt_at 471 (by decide +kernel) (by decide +kernel)
theorem c_TM_135 : Cond.methodLink "TokenMesh" 135 m_TM_onTokens.1 ∈ GT := gt_at 475 (by decide +kernel) (by decide +kernel)
theorem c_TM_238 : Cond.methodLink "TokenMesh" 238 m_Share_gain.1 ∈ GT := gt_at 479 (by decide +kernel) (by decide +kernel)
theorem c_TM_241 : Cond.methodLink "TokenMesh" 241 m_TM_giveWay.1 ∈ GT := gt_at 483 (by decide +kernel) (by decide +kernel)
theorem c_TM_163 : Cond.methodLink "TokenMesh" 163 m_Core_isBusyWith.1 ∈ GT := gt_at 487 (by decide +kernel) (by decide +kernel)
theorem c_TM_145 : Cond.methodLink "TokenMesh" 145 m_TM_onPlease.1 ∈ GT := gt_at 491 (by decide +kernel) (by decide +kernel)
theorem c_TM_152 : Cond.methodLink "TokenMesh" 152 m_TM_lapse.1 ∈ GT := gt_at 495 (by decide +kernel) (by decide +kernel)
theorem c_TM_268 : Cond.methodLink "TokenMesh" 268 m_Desk_strike.1 ∈ GT := gt_at 499 (by decide +kernel) (by decide +kernel)
theorem c_Desk_16 : Cond.methodLink "TokenMesh$Desk" 16 m_AL_size.1 ∈ GT := gt_at 503 (by decide +kernel) (by decide +kernel)
theorem c_Desk_20 : Cond.methodLink "TokenMesh$Desk" 20 m_AL_get.1 ∈ GT := gt_at 504 (by decide +kernel) (by decide +kernel)
theorem l_Desk_24 : Cond.classLink "TokenMesh$Desk" 24 "TokenMesh$Request" ∈ GT := gt_at 505 (by decide +kernel) (by decide +kernel)
theorem c_Desk_26 : Cond.methodLink "TokenMesh$Desk" 26 m_Req_isOf.1 ∈ GT := gt_at 506 (by decide +kernel) (by decide +kernel)
theorem c_Desk_30 : Cond.methodLink "TokenMesh$Desk" 30 m_AL_remove.1 ∈ GT := gt_at 510 (by decide +kernel) (by decide +kernel)
theorem c_TM_271 : Cond.methodLink "TokenMesh" 271 m_Req_isOf.1 ∈ GT := gt_at 511 (by decide +kernel) (by decide +kernel)
theorem c_TM_275 : Cond.methodLink "TokenMesh" 275 m_TM_tellActive.1 ∈ GT := gt_at 512 (by decide +kernel) (by decide +kernel)
theorem c_TM_264 : Cond.methodLink "TokenMesh" 264 m_Share_learn.1 ∈ GT := gt_at 516 (by decide +kernel) (by decide +kernel)
theorem c_TM_257 : Cond.methodLink "TokenMesh" 257 m_TM_activateFirst.1 ∈ GT := gt_at 520 (by decide +kernel) (by decide +kernel)
theorem c_TM_278 : Cond.methodLink "TokenMesh" 278 m_AL_isEmpty.1 ∈ GT := gt_at 524 (by decide +kernel) (by decide +kernel)
theorem c_TM_282 : Cond.methodLink "TokenMesh" 282 m_AL_remove.1 ∈ GT := gt_at 525 (by decide +kernel) (by decide +kernel)
theorem l_TM_244 : Cond.classLink "TokenMesh" 244 "TokenMesh$Request" ∈ GT := gt_at 526 (by decide +kernel) (by decide +kernel)
theorem n_Req : Cond.instantiable "TokenMesh$Request" 3 ∈ GT := gt_at 527 (by decide +kernel) (by decide +kernel)
theorem c_TM_246 : Cond.methodLink "TokenMesh" 246 m_Req_init.1 ∈ GT := gt_at 528 (by decide +kernel) (by decide +kernel)
theorem c_Req_1 : Cond.methodLink "TokenMesh$Request" 1 ⟨"java/lang/Object", "<init>", "()V"⟩ ∈ GT := gt_at 531 (by decide +kernel) (by decide +kernel)
theorem f_Req_7 : FS "TokenMesh$Request" 7 5 0 := ⟨_, "TokenMesh$Request", rfl, by decide, gt_at 532 (by decide +kernel) (by decide +kernel), Or.inl rfl⟩
theorem f_TM_287 : FS "TokenMesh" 287 5 0 := ⟨_, "TokenMesh$Request", rfl, by decide, gt_at 533 (by decide +kernel) (by decide +kernel), Or.inl rfl⟩
theorem f_Req_13 : FS "TokenMesh$Request" 13 5 1 := ⟨_, "TokenMesh$Request", rfl, by decide, gt_at 534 (by decide +kernel) (by decide +kernel), Or.inl rfl⟩
theorem f_Req_16 : FS "TokenMesh$Request" 16 5 2 := ⟨_, "TokenMesh$Request", rfl, by decide, gt_at 535 (by decide +kernel) (by decide +kernel), Or.inl rfl⟩
theorem f_TM_290 : FS "TokenMesh" 290 5 2 := ⟨_, "TokenMesh$Request", rfl, by decide, gt_at 536 (by decide +kernel) (by decide +kernel), Or.inl rfl⟩
theorem c_TM_249 : Cond.methodLink "TokenMesh" 249 m_AL_add1.1 ∈ GT := gt_at 544 (by decide +kernel) (by decide +kernel)
theorem c_TM_149 : Cond.methodLink "TokenMesh" 149 m_TM_onKnow.1 ∈ GT := gt_at 545 (by decide +kernel) (by decide +kernel)
theorem c_TM_156 : Cond.methodLink "TokenMesh" 156 m_Mail_giveBack.1 ∈ GT := gt_at 549 (by decide +kernel) (by decide +kernel)
theorem c_Law_35 : Cond.methodLink "TokenMeshLaw" 35 m_TM_evict.1 ∈ GT := gt_at 553 (by decide +kernel) (by decide +kernel)
theorem c_Law_40 : Cond.methodLink "TokenMeshLaw" 40 m_TM_letters.1 ∈ GT := gt_at 557 (by decide +kernel) (by decide +kernel)
theorem c_TM_170 : Cond.methodLink "TokenMesh" 170 m_Mail_size.1 ∈ GT := gt_at 561 (by decide +kernel) (by decide +kernel)
theorem c_Law_45 : Cond.methodLink "TokenMeshLaw" 45 m_TM_letter.1 ∈ GT := gt_at 565 (by decide +kernel) (by decide +kernel)
theorem c_TM_174 : Cond.methodLink "TokenMesh" 174 m_Mail_at.1 ∈ GT := gt_at 569 (by decide +kernel) (by decide +kernel)
theorem c_TM_177 : Cond.methodLink "TokenMesh" 177 m_Letter_sum.1 ∈ GT := gt_at 573 (by decide +kernel) (by decide +kernel)
theorem c_Law_49 : Cond.methodLink "TokenMeshLaw" 49 m_TM_tokens.1 ∈ GT := gt_at 577 (by decide +kernel) (by decide +kernel)
theorem c_TM_180 : Cond.methodLink "TokenMesh" 180 m_TM_isNode.1 ∈ GT := gt_at 581 (by decide +kernel) (by decide +kernel)
theorem c_Law_54 : Cond.methodLink "TokenMeshLaw" 54 m_TM_data.1 ∈ GT := gt_at 585 (by decide +kernel) (by decide +kernel)
theorem c_Law_58 : Cond.methodLink "TokenMeshLaw" 58 m_TM_knows.1 ∈ GT := gt_at 589 (by decide +kernel) (by decide +kernel)
theorem c_Law_62 : Cond.methodLink "TokenMeshLaw" 62 m_TM_row.1 ∈ GT := gt_at 593 (by decide +kernel) (by decide +kernel)
theorem c_TM_196 : Cond.methodLink "TokenMesh" 196 m_AL_size.1 ∈ GT := gt_at 597 (by decide +kernel) (by decide +kernel)
theorem c_Law_66 : Cond.methodLink "TokenMeshLaw" 66 m_TM_state.1 ∈ GT := gt_at 598 (by decide +kernel) (by decide +kernel)
theorem c_Law_70 : Cond.methodLink "TokenMeshLaw" 70 m_TM_ended.1 ∈ GT := gt_at 602 (by decide +kernel) (by decide +kernel)
theorem c_Law_74 : Cond.methodLink "TokenMeshLaw" 74 m_TM_result.1 ∈ GT := gt_at 606 (by decide +kernel) (by decide +kernel)
theorem c_Law_78 : Cond.methodLink "TokenMeshLaw" 78 m_TM_memory.1 ∈ GT := gt_at 610 (by decide +kernel) (by decide +kernel)
theorem c_Law_9 : Cond.methodLink "TokenMeshLaw" 9 m_Law_cell.1 ∈ GT := gt_at 614 (by decide +kernel) (by decide +kernel)
theorem l_Law_18 : Cond.classLink "TokenMeshLaw" 18 "TokenMeshModel" ∈ GT := gt_at 617 (by decide +kernel) (by decide +kernel)
theorem n_MM : Cond.instantiable "TokenMeshModel" 40 ∈ GT := gt_at 618 (by decide +kernel) (by decide +kernel)
theorem c_Law_20 : Cond.methodLink "TokenMeshLaw" 20 m_MM_init.1 ∈ GT := gt_at 619 (by decide +kernel) (by decide +kernel)
theorem c_MM_1 : Cond.methodLink "TokenMeshModel" 1 ⟨"java/lang/Object", "<init>", "()V"⟩ ∈ GT := gt_at 622 (by decide +kernel) (by decide +kernel)
theorem f_MM_123 : FS "TokenMeshModel" 123 8 0 := ⟨_, "TokenMeshModel", rfl, by decide, gt_at 623 (by decide +kernel) (by decide +kernel), Or.inl rfl⟩
theorem f_MM_113 : FS "TokenMeshModel" 113 8 1 := ⟨_, "TokenMeshModel", rfl, by decide, gt_at 624 (by decide +kernel) (by decide +kernel), Or.inl rfl⟩
theorem f_MM_117 : FS "TokenMeshModel" 117 8 2 := ⟨_, "TokenMeshModel", rfl, by decide, gt_at 625 (by decide +kernel) (by decide +kernel), Or.inl rfl⟩
theorem f_MM_120 : FS "TokenMeshModel" 120 8 3 := ⟨_, "TokenMeshModel", rfl, by decide, gt_at 626 (by decide +kernel) (by decide +kernel), Or.inl rfl⟩
theorem f_MM_158 : FS "TokenMeshModel" 158 8 4 := ⟨_, "TokenMeshModel", rfl, by decide, gt_at 627 (by decide +kernel) (by decide +kernel), Or.inl rfl⟩
theorem f_MM_7 : FS "TokenMeshModel" 7 8 5 := ⟨_, "TokenMeshModel", rfl, by decide, gt_at 628 (by decide +kernel) (by decide +kernel), Or.inl rfl⟩
theorem f_MM_13 : FS "TokenMeshModel" 13 8 6 := ⟨_, "TokenMeshModel", rfl, by decide, gt_at 629 (by decide +kernel) (by decide +kernel), Or.inl rfl⟩
theorem f_MM_17 : FS "TokenMeshModel" 17 8 7 := ⟨_, "TokenMeshModel", rfl, by decide, gt_at 630 (by decide +kernel) (by decide +kernel), Or.inl rfl⟩
theorem f_MM_20 : FS "TokenMeshModel" 20 8 8 := ⟨_, "TokenMeshModel", rfl, by decide, gt_at 631 (by decide +kernel) (by decide +kernel), Or.inl rfl⟩
theorem f_MM_23 : FS "TokenMeshModel" 23 8 9 := ⟨_, "TokenMeshModel", rfl, by decide, gt_at 632 (by decide +kernel) (by decide +kernel), Or.inl rfl⟩
theorem f_MM_26 : FS "TokenMeshModel" 26 8 10 := ⟨_, "TokenMeshModel", rfl, by decide, gt_at 633 (by decide +kernel) (by decide +kernel), Or.inl rfl⟩
theorem f_MM_29 : FS "TokenMeshModel" 29 8 11 := ⟨_, "TokenMeshModel", rfl, by decide, gt_at 634 (by decide +kernel) (by decide +kernel), Or.inl rfl⟩
theorem f_MM_32 : FS "TokenMeshModel" 32 8 12 := ⟨_, "TokenMeshModel", rfl, by decide, gt_at 635 (by decide +kernel) (by decide +kernel), Or.inl rfl⟩
theorem f_MM_35 : FS "TokenMeshModel" 35 8 13 := ⟨_, "TokenMeshModel", rfl, by decide, gt_at 636 (by decide +kernel) (by decide +kernel), Or.inl rfl⟩
theorem f_MM_38 : FS "TokenMeshModel" 38 8 14 := ⟨_, "TokenMeshModel", rfl, by decide, gt_at 637 (by decide +kernel) (by decide +kernel), Or.inl rfl⟩
theorem f_MM_41 : FS "TokenMeshModel" 41 8 15 := ⟨_, "TokenMeshModel", rfl, by decide, gt_at 638 (by decide +kernel) (by decide +kernel), Or.inl rfl⟩
theorem f_MM_44 : FS "TokenMeshModel" 44 8 16 := ⟨_, "TokenMeshModel", rfl, by decide, gt_at 639 (by decide +kernel) (by decide +kernel), Or.inl rfl⟩
theorem f_MM_47 : FS "TokenMeshModel" 47 8 17 := ⟨_, "TokenMeshModel", rfl, by decide, gt_at 640 (by decide +kernel) (by decide +kernel), Or.inl rfl⟩
theorem f_MM_50 : FS "TokenMeshModel" 50 8 18 := ⟨_, "TokenMeshModel", rfl, by decide, gt_at 641 (by decide +kernel) (by decide +kernel), Or.inl rfl⟩
theorem f_MM_53 : FS "TokenMeshModel" 53 8 19 := ⟨_, "TokenMeshModel", rfl, by decide, gt_at 642 (by decide +kernel) (by decide +kernel), Or.inl rfl⟩
theorem f_MM_56 : FS "TokenMeshModel" 56 8 20 := ⟨_, "TokenMeshModel", rfl, by decide, gt_at 643 (by decide +kernel) (by decide +kernel), Or.inl rfl⟩
theorem f_MM_59 : FS "TokenMeshModel" 59 8 21 := ⟨_, "TokenMeshModel", rfl, by decide, gt_at 644 (by decide +kernel) (by decide +kernel), Or.inl rfl⟩
theorem f_MM_62 : FS "TokenMeshModel" 62 8 22 := ⟨_, "TokenMeshModel", rfl, by decide, gt_at 645 (by decide +kernel) (by decide +kernel), Or.inl rfl⟩
theorem f_MM_65 : FS "TokenMeshModel" 65 8 23 := ⟨_, "TokenMeshModel", rfl, by decide, gt_at 646 (by decide +kernel) (by decide +kernel), Or.inl rfl⟩
theorem f_MM_68 : FS "TokenMeshModel" 68 8 24 := ⟨_, "TokenMeshModel", rfl, by decide, gt_at 647 (by decide +kernel) (by decide +kernel), Or.inl rfl⟩
theorem f_MM_71 : FS "TokenMeshModel" 71 8 25 := ⟨_, "TokenMeshModel", rfl, by decide, gt_at 648 (by decide +kernel) (by decide +kernel), Or.inl rfl⟩
theorem f_MM_74 : FS "TokenMeshModel" 74 8 26 := ⟨_, "TokenMeshModel", rfl, by decide, gt_at 649 (by decide +kernel) (by decide +kernel), Or.inl rfl⟩
theorem f_MM_77 : FS "TokenMeshModel" 77 8 27 := ⟨_, "TokenMeshModel", rfl, by decide, gt_at 650 (by decide +kernel) (by decide +kernel), Or.inl rfl⟩
theorem f_MM_126 : FS "TokenMeshModel" 126 8 28 := ⟨_, "TokenMeshModel", rfl, by decide, gt_at 651 (by decide +kernel) (by decide +kernel), Or.inl rfl⟩
theorem f_MM_80 : FS "TokenMeshModel" 80 8 29 := ⟨_, "TokenMeshModel", rfl, by decide, gt_at 652 (by decide +kernel) (by decide +kernel), Or.inl rfl⟩
theorem f_MM_83 : FS "TokenMeshModel" 83 8 30 := ⟨_, "TokenMeshModel", rfl, by decide, gt_at 653 (by decide +kernel) (by decide +kernel), Or.inl rfl⟩
theorem f_MM_86 : FS "TokenMeshModel" 86 8 31 := ⟨_, "TokenMeshModel", rfl, by decide, gt_at 654 (by decide +kernel) (by decide +kernel), Or.inl rfl⟩
theorem f_MM_89 : FS "TokenMeshModel" 89 8 32 := ⟨_, "TokenMeshModel", rfl, by decide, gt_at 655 (by decide +kernel) (by decide +kernel), Or.inl rfl⟩
theorem f_MM_92 : FS "TokenMeshModel" 92 8 33 := ⟨_, "TokenMeshModel", rfl, by decide, gt_at 656 (by decide +kernel) (by decide +kernel), Or.inl rfl⟩
theorem f_MM_95 : FS "TokenMeshModel" 95 8 34 := ⟨_, "TokenMeshModel", rfl, by decide, gt_at 657 (by decide +kernel) (by decide +kernel), Or.inl rfl⟩
theorem f_MM_98 : FS "TokenMeshModel" 98 8 35 := ⟨_, "TokenMeshModel", rfl, by decide, gt_at 658 (by decide +kernel) (by decide +kernel), Or.inl rfl⟩
theorem f_MM_101 : FS "TokenMeshModel" 101 8 36 := ⟨_, "TokenMeshModel", rfl, by decide, gt_at 659 (by decide +kernel) (by decide +kernel), Or.inl rfl⟩
theorem f_MM_104 : FS "TokenMeshModel" 104 8 37 := ⟨_, "TokenMeshModel", rfl, by decide, gt_at 660 (by decide +kernel) (by decide +kernel), Or.inl rfl⟩
theorem f_MM_107 : FS "TokenMeshModel" 107 8 38 := ⟨_, "TokenMeshModel", rfl, by decide, gt_at 661 (by decide +kernel) (by decide +kernel), Or.inl rfl⟩
theorem f_MM_110 : FS "TokenMeshModel" 110 8 39 := ⟨_, "TokenMeshModel", rfl, by decide, gt_at 662 (by decide +kernel) (by decide +kernel), Or.inl rfl⟩
theorem a_boolean : Cond.arrayClass .boolean ∈ GT := gt_at 744 (by decide +kernel) (by decide +kernel)
theorem c_Law_25 : Cond.methodLink "TokenMeshLaw" 25 m_MM_issue.1 ∈ GT := gt_at 745 (by decide +kernel) (by decide +kernel)
theorem c_MM_145 : Cond.methodLink "TokenMeshModel" 145 m_MM_isCore.1 ∈ GT := gt_at 749 (by decide +kernel) (by decide +kernel)
theorem c_MM_149 : Cond.methodLink "TokenMeshModel" 149 m_MM_isBlock.1 ∈ GT := gt_at 753 (by decide +kernel) (by decide +kernel)
theorem c_MM_152 : Cond.methodLink "TokenMeshModel" 152 m_MM_canEnd.1 ∈ GT := gt_at 756 (by decide +kernel) (by decide +kernel)
theorem c_MM_155 : Cond.methodLink "TokenMeshModel" 155 m_MM_endd.1 ∈ GT := gt_at 760 (by decide +kernel) (by decide +kernel)
theorem c_MM_137 : Cond.methodLink "TokenMeshModel" 137 m_MM_send.1 ∈ GT := gt_at 764 (by decide +kernel) (by decide +kernel)
theorem c_MM_133 : Cond.methodLink "TokenMeshModel" 133 m_MM_remove.1 ∈ GT := gt_at 768 (by decide +kernel) (by decide +kernel)
theorem c_MM_129 : Cond.methodLink "TokenMeshModel" 129 m_MM_move.1 ∈ GT := gt_at 772 (by decide +kernel) (by decide +kernel)
theorem c_MM_161 : Cond.methodLink "TokenMeshModel" 161 m_MM_ask.1 ∈ GT := gt_at 776 (by decide +kernel) (by decide +kernel)
theorem c_Law_30 : Cond.methodLink "TokenMeshLaw" 30 m_MM_tick.1 ∈ GT := gt_at 780 (by decide +kernel) (by decide +kernel)
theorem c_MM_164 : Cond.methodLink "TokenMeshModel" 164 m_MM_repeat.1 ∈ GT := gt_at 784 (by decide +kernel) (by decide +kernel)
theorem c_Law_34 : Cond.methodLink "TokenMeshLaw" 34 m_MM_deliver.1 ∈ GT := gt_at 788 (by decide +kernel) (by decide +kernel)
theorem c_MM_141 : Cond.methodLink "TokenMeshModel" 141 m_MM_give.1 ∈ GT := gt_at 792 (by decide +kernel) (by decide +kernel)
theorem c_MM_182 : Cond.methodLink "TokenMeshModel" 182 m_MM_getTokens.1 ∈ GT := gt_at 796 (by decide +kernel) (by decide +kernel)
theorem c_MM_173 : Cond.methodLink "TokenMeshModel" 173 m_MM_giveWay.1 ∈ GT := gt_at 800 (by decide +kernel) (by decide +kernel)
theorem c_MM_186 : Cond.methodLink "TokenMeshModel" 186 m_MM_please.1 ∈ GT := gt_at 804 (by decide +kernel) (by decide +kernel)
theorem c_MM_179 : Cond.methodLink "TokenMeshModel" 179 m_MM_lapse.1 ∈ GT := gt_at 808 (by decide +kernel) (by decide +kernel)
theorem c_MM_167 : Cond.methodLink "TokenMeshModel" 167 m_MM_takeOut.1 ∈ GT := gt_at 812 (by decide +kernel) (by decide +kernel)
theorem c_MM_170 : Cond.methodLink "TokenMeshModel" 170 m_MM_tellAll.1 ∈ GT := gt_at 816 (by decide +kernel) (by decide +kernel)
theorem c_MM_176 : Cond.methodLink "TokenMeshModel" 176 m_MM_activate.1 ∈ GT := gt_at 820 (by decide +kernel) (by decide +kernel)
theorem c_Law_39 : Cond.methodLink "TokenMeshLaw" 39 m_MM_evict.1 ∈ GT := gt_at 824 (by decide +kernel) (by decide +kernel)
theorem c_Law_44 : Cond.methodLink "TokenMeshLaw" 44 m_MM_letters.1 ∈ GT := gt_at 828 (by decide +kernel) (by decide +kernel)
theorem c_Law_48 : Cond.methodLink "TokenMeshLaw" 48 m_MM_letter.1 ∈ GT := gt_at 832 (by decide +kernel) (by decide +kernel)
theorem c_Law_53 : Cond.methodLink "TokenMeshLaw" 53 m_MM_tokens.1 ∈ GT := gt_at 836 (by decide +kernel) (by decide +kernel)
theorem c_MM_190 : Cond.methodLink "TokenMeshModel" 190 m_MM_isNode.1 ∈ GT := gt_at 840 (by decide +kernel) (by decide +kernel)
theorem c_Law_57 : Cond.methodLink "TokenMeshLaw" 57 m_MM_data.1 ∈ GT := gt_at 844 (by decide +kernel) (by decide +kernel)
theorem c_Law_61 : Cond.methodLink "TokenMeshLaw" 61 m_MM_knows.1 ∈ GT := gt_at 848 (by decide +kernel) (by decide +kernel)
theorem c_Law_65 : Cond.methodLink "TokenMeshLaw" 65 m_MM_row.1 ∈ GT := gt_at 852 (by decide +kernel) (by decide +kernel)
theorem c_Law_69 : Cond.methodLink "TokenMeshLaw" 69 m_MM_state.1 ∈ GT := gt_at 856 (by decide +kernel) (by decide +kernel)
theorem c_Law_73 : Cond.methodLink "TokenMeshLaw" 73 m_MM_ended.1 ∈ GT := gt_at 860 (by decide +kernel) (by decide +kernel)
theorem c_Law_77 : Cond.methodLink "TokenMeshLaw" 77 m_MM_result.1 ∈ GT := gt_at 864 (by decide +kernel) (by decide +kernel)
theorem c_Law_81 : Cond.methodLink "TokenMeshLaw" 81 m_MM_memory.1 ∈ GT := gt_at 868 (by decide +kernel) (by decide +kernel)
theorem x_Letter_Letter : Cond.castable "TokenMesh$Letter" "TokenMesh$Letter" ∈ NT := nt_at 872 (by decide +kernel) (by decide +kernel)
theorem x_Req_Req : Cond.castable "TokenMesh$Request" "TokenMesh$Request" ∈ NT := nt_at 873 (by decide +kernel) (by decide +kernel)
theorem v_declares : Cond.declares gcN ∈ NT := nt_at 876 (by decide +kernel) (by decide +kernel)
theorem x_TM_Obj : Cond.castable "TokenMesh" "java/lang/Object" ∈ NT := nt_at 877 (by decide +kernel) (by decide +kernel)
theorem x_Share_Obj : Cond.castable "TokenMesh$Share" "java/lang/Object" ∈ NT := nt_at 878 (by decide +kernel) (by decide +kernel)
theorem x_Core_Obj : Cond.castable "TokenMesh$Core" "java/lang/Object" ∈ NT := nt_at 879 (by decide +kernel) (by decide +kernel)
theorem x_Desk_Obj : Cond.castable "TokenMesh$Desk" "java/lang/Object" ∈ NT := nt_at 880 (by decide +kernel) (by decide +kernel)
theorem x_Mail_Obj : Cond.castable "TokenMesh$Mail" "java/lang/Object" ∈ NT := nt_at 881 (by decide +kernel) (by decide +kernel)
theorem x_MM_Obj : Cond.castable "TokenMeshModel" "java/lang/Object" ∈ NT := nt_at 882 (by decide +kernel) (by decide +kernel)
theorem x_Letter_Obj : Cond.castable "TokenMesh$Letter" "java/lang/Object" ∈ NT := nt_at 883 (by decide +kernel) (by decide +kernel)
theorem x_Req_Obj : Cond.castable "TokenMesh$Request" "java/lang/Object" ∈ NT := nt_at 884 (by decide +kernel) (by decide +kernel)
theorem i_gc : Cond.instanceMethod gcN ∈ GT := gt_at 347 (by decide +kernel) (by decide +kernel)
theorem s_gc : Cond.selects "[Ljava/lang/Object;" gcN gcN ∈ GT := gt_at 875 (by decide +kernel) (by decide +kernel)
theorem i_oi : Cond.instanceMethod objectInit ∈ GT := gt_at 63 (by decide +kernel) (by decide +kernel)
theorem t_ac : Cond.static arraycopyName ∈ GT := gt_at 317 (by decide +kernel) (by decide +kernel)
theorem q_oi : Cond.code objectInit ⟨#[0xb1]⟩ 1 none ∈ GT := gt_at 64 (by decide +kernel) (by decide +kernel)
