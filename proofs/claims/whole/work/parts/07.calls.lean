/-! what the tables say of the calls, the constants, the classes that are made -/
def znst : List (String × Nat × MethodName × String) := [("YearsLent", 9, ⟨"YearsLent$Text", "<init>", "()V"⟩, "YearsLent"), ("YearsLent", 18, ⟨"YearsLent$Terms", "<init>", "()V"⟩, "YearsLent"), ("YearsLent", 59, ⟨"YearsLent$Told", "<init>", "()V"⟩, "YearsLent"), ("YearsLent", 66, ⟨"YearsLent$Rings", "<init>", "()V"⟩, "YearsLent"), ("YearsLent", 73, ⟨"YearsLent$Gifts", "<init>", "()V"⟩, "YearsLent"), ("YearsLent$Books", 61, ⟨"YearsLent", "within", "(III)Z"⟩, "YearsLent"), ("YearsLent$Books", 69, ⟨"YearsLent", "isLoanOf", "(II)Z"⟩, "YearsLent"), ("YearsLent$Rings", 57, ⟨"YearsLent", "within", "(III)Z"⟩, "YearsLent"), ("YearsLent$Shelf", 37, ⟨"YearsLent", "within", "(III)Z"⟩, "YearsLent"), ("YearsLent$Terms", 68, ⟨"YearsLent", "within", "(III)Z"⟩, "YearsLent"), ("YearsLent$Text", 19, ⟨"YearsLent", "within", "(III)Z"⟩, "YearsLent")]
theorem znst_ok : ∀ q ∈ znst, Cond.methodLinkNest q.1 q.2.1 q.2.2.1 q.2.2.2 ∈ lw_tbl := by decide +kernel
def zmta (c : Nat) : List (Nat × Nat × zM × Nat) := [zmt0, zmt1, zmt2, zmt3, zmt4, zmt5, zmt6, zmt7, zmt8, zmt9, zmt10].getD c []
set_option maxRecDepth 20000 in
theorem zwc_X0_addLoan : Cond.code yX0_addLoan cX0_addLoan 5 none ∈ lw_tbl := List.mem_of_getElem? (i := 438) (by decide +kernel)
set_option maxRecDepth 20000 in
theorem zwi_X0_addLoan : Cond.instanceMethod yX0_addLoan ∈ lw_tbl := List.mem_of_getElem? (i := 436) (by decide +kernel)
set_option maxRecDepth 20000 in
theorem zwe_X0_addLoan : Cond.selects yX0_addLoan.cls yX0_addLoan yX0_addLoan ∈ lw_tbl := List.mem_of_getElem? (i := 437) (by decide +kernel)
set_option maxRecDepth 20000 in
theorem zwc_X0_copyFrom : Cond.code yX0_copyFrom cX0_copyFrom 2 none ∈ lw_tbl := List.mem_of_getElem? (i := 433) (by decide +kernel)
set_option maxRecDepth 20000 in
theorem zwi_X0_copyFrom : Cond.instanceMethod yX0_copyFrom ∈ lw_tbl := List.mem_of_getElem? (i := 431) (by decide +kernel)
set_option maxRecDepth 20000 in
theorem zwe_X0_copyFrom : Cond.selects yX0_copyFrom.cls yX0_copyFrom yX0_copyFrom ∈ lw_tbl := List.mem_of_getElem? (i := 432) (by decide +kernel)
set_option maxRecDepth 20000 in
theorem zwc_X0_dropThoseDue : Cond.code yX0_dropThoseDue cX0_dropThoseDue 3 none ∈ lw_tbl := List.mem_of_getElem? (i := 478) (by decide +kernel)
set_option maxRecDepth 20000 in
theorem zwi_X0_dropThoseDue : Cond.instanceMethod yX0_dropThoseDue ∈ lw_tbl := List.mem_of_getElem? (i := 477) (by decide +kernel)
set_option maxRecDepth 20000 in
theorem zwe_X0_dropThoseDue : Cond.selects yX0_dropThoseDue.cls yX0_dropThoseDue yX0_dropThoseDue ∈ lw_tbl := List.mem_of_getElem? (i := 11) (by decide +kernel)
set_option maxRecDepth 20000 in
theorem zwc_X0_dueFrom : Cond.code yX0_dueFrom cX0_dueFrom 5 (some .int) ∈ lw_tbl := List.mem_of_getElem? (i := 403) (by decide +kernel)
set_option maxRecDepth 20000 in
theorem zwi_X0_dueFrom : Cond.instanceMethod yX0_dueFrom ∈ lw_tbl := List.mem_of_getElem? (i := 402) (by decide +kernel)
set_option maxRecDepth 20000 in
theorem zwe_X0_dueFrom : Cond.selects yX0_dueFrom.cls yX0_dueFrom yX0_dueFrom ∈ lw_tbl := List.mem_of_getElem? (i := 2) (by decide +kernel)
set_option maxRecDepth 20000 in
theorem zwc_X0_dueOn : Cond.code yX0_dueOn cX0_dueOn 2 (some .int) ∈ lw_tbl := List.mem_of_getElem? (i := 407) (by decide +kernel)
set_option maxRecDepth 20000 in
theorem zwi_X0_dueOn : Cond.instanceMethod yX0_dueOn ∈ lw_tbl := List.mem_of_getElem? (i := 406) (by decide +kernel)
set_option maxRecDepth 20000 in
theorem zwe_X0_dueOn : Cond.selects yX0_dueOn.cls yX0_dueOn yX0_dueOn ∈ lw_tbl := List.mem_of_getElem? (i := 3) (by decide +kernel)
set_option maxRecDepth 20000 in
theorem zwc_X0_give : Cond.code yX0_give cX0_give 5 (some .int) ∈ lw_tbl := List.mem_of_getElem? (i := 467) (by decide +kernel)
set_option maxRecDepth 20000 in
theorem zwi_X0_give : Cond.instanceMethod yX0_give ∈ lw_tbl := List.mem_of_getElem? (i := 466) (by decide +kernel)
set_option maxRecDepth 20000 in
theorem zwe_X0_give : Cond.selects yX0_give.cls yX0_give yX0_give ∈ lw_tbl := List.mem_of_getElem? (i := 9) (by decide +kernel)
set_option maxRecDepth 20000 in
theorem zwc_X0_greatestDue : Cond.code yX0_greatestDue cX0_greatestDue 3 (some .int) ∈ lw_tbl := List.mem_of_getElem? (i := 455) (by decide +kernel)
set_option maxRecDepth 20000 in
theorem zwi_X0_greatestDue : Cond.instanceMethod yX0_greatestDue ∈ lw_tbl := List.mem_of_getElem? (i := 454) (by decide +kernel)
set_option maxRecDepth 20000 in
theorem zwe_X0_greatestDue : Cond.selects yX0_greatestDue.cls yX0_greatestDue yX0_greatestDue ∈ lw_tbl := List.mem_of_getElem? (i := 6) (by decide +kernel)
set_option maxRecDepth 20000 in
theorem zwc_X0_hindrance : Cond.code yX0_hindrance cX0_hindrance 5 (some .int) ∈ lw_tbl := List.mem_of_getElem? (i := 419) (by decide +kernel)
set_option maxRecDepth 20000 in
theorem zwi_X0_hindrance : Cond.instanceMethod yX0_hindrance ∈ lw_tbl := List.mem_of_getElem? (i := 417) (by decide +kernel)
set_option maxRecDepth 20000 in
theorem zwe_X0_hindrance : Cond.selects yX0_hindrance.cls yX0_hindrance yX0_hindrance ∈ lw_tbl := List.mem_of_getElem? (i := 418) (by decide +kernel)
set_option maxRecDepth 20000 in
theorem zwc_X0_init : Cond.code yX0_init cX0_init 2 none ∈ lw_tbl := List.mem_of_getElem? (i := 125) (by decide +kernel)
set_option maxRecDepth 20000 in
theorem zwi_X0_init : Cond.instanceMethod yX0_init ∈ lw_tbl := List.mem_of_getElem? (i := 124) (by decide +kernel)
set_option maxRecDepth 20000 in
theorem zwc_X0_isAlive : Cond.code yX0_isAlive cX0_isAlive 2 (some .boolean) ∈ lw_tbl := List.mem_of_getElem? (i := 391) (by decide +kernel)
set_option maxRecDepth 20000 in
theorem zwi_X0_isAlive : Cond.instanceMethod yX0_isAlive ∈ lw_tbl := List.mem_of_getElem? (i := 389) (by decide +kernel)
set_option maxRecDepth 20000 in
theorem zwe_X0_isAlive : Cond.selects yX0_isAlive.cls yX0_isAlive yX0_isAlive ∈ lw_tbl := List.mem_of_getElem? (i := 390) (by decide +kernel)
set_option maxRecDepth 20000 in
theorem zwc_X0_isDue : Cond.code yX0_isDue cX0_isDue 2 (some .boolean) ∈ lw_tbl := List.mem_of_getElem? (i := 459) (by decide +kernel)
set_option maxRecDepth 20000 in
theorem zwi_X0_isDue : Cond.instanceMethod yX0_isDue ∈ lw_tbl := List.mem_of_getElem? (i := 458) (by decide +kernel)
set_option maxRecDepth 20000 in
theorem zwe_X0_isDue : Cond.selects yX0_isDue.cls yX0_isDue yX0_isDue ∈ lw_tbl := List.mem_of_getElem? (i := 7) (by decide +kernel)
set_option maxRecDepth 20000 in
theorem zwc_X0_isFit : Cond.code yX0_isFit cX0_isFit 5 (some .boolean) ∈ lw_tbl := List.mem_of_getElem? (i := 387) (by decide +kernel)
set_option maxRecDepth 20000 in
theorem zwi_X0_isFit : Cond.instanceMethod yX0_isFit ∈ lw_tbl := List.mem_of_getElem? (i := 385) (by decide +kernel)
set_option maxRecDepth 20000 in
theorem zwe_X0_isFit : Cond.selects yX0_isFit.cls yX0_isFit yX0_isFit ∈ lw_tbl := List.mem_of_getElem? (i := 386) (by decide +kernel)
set_option maxRecDepth 20000 in
theorem zwc_X0_isGranted : Cond.code yX0_isGranted cX0_isGranted 5 (some .boolean) ∈ lw_tbl := List.mem_of_getElem? (i := 399) (by decide +kernel)
set_option maxRecDepth 20000 in
theorem zwi_X0_isGranted : Cond.instanceMethod yX0_isGranted ∈ lw_tbl := List.mem_of_getElem? (i := 397) (by decide +kernel)
set_option maxRecDepth 20000 in
theorem zwe_X0_isGranted : Cond.selects yX0_isGranted.cls yX0_isGranted yX0_isGranted ∈ lw_tbl := List.mem_of_getElem? (i := 398) (by decide +kernel)
set_option maxRecDepth 20000 in
theorem zwc_X0_living : Cond.code yX0_living cX0_living 3 (some .int) ∈ lw_tbl := List.mem_of_getElem? (i := 482) (by decide +kernel)
set_option maxRecDepth 20000 in
theorem zwi_X0_living : Cond.instanceMethod yX0_living ∈ lw_tbl := List.mem_of_getElem? (i := 480) (by decide +kernel)
set_option maxRecDepth 20000 in
theorem zwe_X0_living : Cond.selects yX0_living.cls yX0_living yX0_living ∈ lw_tbl := List.mem_of_getElem? (i := 481) (by decide +kernel)
set_option maxRecDepth 20000 in
theorem zwc_X0_lostByAll : Cond.code yX0_lostByAll cX0_lostByAll 3 (some .int) ∈ lw_tbl := List.mem_of_getElem? (i := 667) (by decide +kernel)
set_option maxRecDepth 20000 in
theorem zwi_X0_lostByAll : Cond.instanceMethod yX0_lostByAll ∈ lw_tbl := List.mem_of_getElem? (i := 665) (by decide +kernel)
set_option maxRecDepth 20000 in
theorem zwe_X0_lostByAll : Cond.selects yX0_lostByAll.cls yX0_lostByAll yX0_lostByAll ∈ lw_tbl := List.mem_of_getElem? (i := 666) (by decide +kernel)
set_option maxRecDepth 20000 in
theorem zwc_X0_lowestOther : Cond.code yX0_lowestOther cX0_lowestOther 4 (some .int) ∈ lw_tbl := List.mem_of_getElem? (i := 474) (by decide +kernel)
set_option maxRecDepth 20000 in
theorem zwi_X0_lowestOther : Cond.instanceMethod yX0_lowestOther ∈ lw_tbl := List.mem_of_getElem? (i := 473) (by decide +kernel)
set_option maxRecDepth 20000 in
theorem zwe_X0_lowestOther : Cond.selects yX0_lowestOther.cls yX0_lowestOther yX0_lowestOther ∈ lw_tbl := List.mem_of_getElem? (i := 10) (by decide +kernel)
set_option maxRecDepth 20000 in
theorem zwc_X0_markLoans : Cond.code yX0_markLoans cX0_markLoans 2 none ∈ lw_tbl := List.mem_of_getElem? (i := 504) (by decide +kernel)
set_option maxRecDepth 20000 in
theorem zwi_X0_markLoans : Cond.instanceMethod yX0_markLoans ∈ lw_tbl := List.mem_of_getElem? (i := 502) (by decide +kernel)
set_option maxRecDepth 20000 in
theorem zwe_X0_markLoans : Cond.selects yX0_markLoans.cls yX0_markLoans yX0_markLoans ∈ lw_tbl := List.mem_of_getElem? (i := 503) (by decide +kernel)
set_option maxRecDepth 20000 in
theorem zwc_X0_open : Cond.code yX0_open cX0_open 2 none ∈ lw_tbl := List.mem_of_getElem? (i := 285) (by decide +kernel)
set_option maxRecDepth 20000 in
theorem zwi_X0_open : Cond.instanceMethod yX0_open ∈ lw_tbl := List.mem_of_getElem? (i := 283) (by decide +kernel)
set_option maxRecDepth 20000 in
theorem zwe_X0_open : Cond.selects yX0_open.cls yX0_open yX0_open ∈ lw_tbl := List.mem_of_getElem? (i := 284) (by decide +kernel)
set_option maxRecDepth 20000 in
theorem zwc_X0_owedToAll : Cond.code yX0_owedToAll cX0_owedToAll 4 (some .int) ∈ lw_tbl := List.mem_of_getElem? (i := 375) (by decide +kernel)
set_option maxRecDepth 20000 in
theorem zwi_X0_owedToAll : Cond.instanceMethod yX0_owedToAll ∈ lw_tbl := List.mem_of_getElem? (i := 373) (by decide +kernel)
set_option maxRecDepth 20000 in
theorem zwe_X0_owedToAll : Cond.selects yX0_owedToAll.cls yX0_owedToAll yX0_owedToAll ∈ lw_tbl := List.mem_of_getElem? (i := 374) (by decide +kernel)
set_option maxRecDepth 20000 in
theorem zwc_X0_pass : Cond.code yX0_pass cX0_pass 3 none ∈ lw_tbl := List.mem_of_getElem? (i := 446) (by decide +kernel)
set_option maxRecDepth 20000 in
theorem zwi_X0_pass : Cond.instanceMethod yX0_pass ∈ lw_tbl := List.mem_of_getElem? (i := 444) (by decide +kernel)
set_option maxRecDepth 20000 in
theorem zwe_X0_pass : Cond.selects yX0_pass.cls yX0_pass yX0_pass ∈ lw_tbl := List.mem_of_getElem? (i := 445) (by decide +kernel)
set_option maxRecDepth 20000 in
theorem zwc_X0_pay : Cond.code yX0_pay cX0_pay 6 none ∈ lw_tbl := List.mem_of_getElem? (i := 463) (by decide +kernel)
set_option maxRecDepth 20000 in
theorem zwi_X0_pay : Cond.instanceMethod yX0_pay ∈ lw_tbl := List.mem_of_getElem? (i := 462) (by decide +kernel)
set_option maxRecDepth 20000 in
theorem zwe_X0_pay : Cond.selects yX0_pay.cls yX0_pay yX0_pay ∈ lw_tbl := List.mem_of_getElem? (i := 8) (by decide +kernel)
set_option maxRecDepth 20000 in
theorem zwc_X0_payThoseDue : Cond.code yX0_payThoseDue cX0_payThoseDue 3 none ∈ lw_tbl := List.mem_of_getElem? (i := 451) (by decide +kernel)
set_option maxRecDepth 20000 in
theorem zwi_X0_payThoseDue : Cond.instanceMethod yX0_payThoseDue ∈ lw_tbl := List.mem_of_getElem? (i := 450) (by decide +kernel)
set_option maxRecDepth 20000 in
theorem zwe_X0_payThoseDue : Cond.selects yX0_payThoseDue.cls yX0_payThoseDue yX0_payThoseDue ∈ lw_tbl := List.mem_of_getElem? (i := 5) (by decide +kernel)
set_option maxRecDepth 20000 in
theorem zwc_X0_weeksToNextDue : Cond.code yX0_weeksToNextDue cX0_weeksToNextDue 4 (some .int) ∈ lw_tbl := List.mem_of_getElem? (i := 514) (by decide +kernel)
set_option maxRecDepth 20000 in
theorem zwi_X0_weeksToNextDue : Cond.instanceMethod yX0_weeksToNextDue ∈ lw_tbl := List.mem_of_getElem? (i := 512) (by decide +kernel)
set_option maxRecDepth 20000 in
theorem zwe_X0_weeksToNextDue : Cond.selects yX0_weeksToNextDue.cls yX0_weeksToNextDue yX0_weeksToNextDue ∈ lw_tbl := List.mem_of_getElem? (i := 513) (by decide +kernel)
set_option maxRecDepth 20000 in
theorem zwc_X1_addToGreatestRest : Cond.code yX1_addToGreatestRest cX1_addToGreatestRest 3 none ∈ lw_tbl := List.mem_of_getElem? (i := 617) (by decide +kernel)
set_option maxRecDepth 20000 in
theorem zwi_X1_addToGreatestRest : Cond.instanceMethod yX1_addToGreatestRest ∈ lw_tbl := List.mem_of_getElem? (i := 616) (by decide +kernel)
set_option maxRecDepth 20000 in
theorem zwe_X1_addToGreatestRest : Cond.selects yX1_addToGreatestRest.cls yX1_addToGreatestRest yX1_addToGreatestRest ∈ lw_tbl := List.mem_of_getElem? (i := 17) (by decide +kernel)
set_option maxRecDepth 20000 in
theorem zwc_X1_init : Cond.code yX1_init cX1_init 1 none ∈ lw_tbl := List.mem_of_getElem? (i := 261) (by decide +kernel)
set_option maxRecDepth 20000 in
theorem zwi_X1_init : Cond.instanceMethod yX1_init ∈ lw_tbl := List.mem_of_getElem? (i := 260) (by decide +kernel)
set_option maxRecDepth 20000 in
theorem zwc_X1_share : Cond.code yX1_share cX1_share 6 none ∈ lw_tbl := List.mem_of_getElem? (i := 612) (by decide +kernel)
set_option maxRecDepth 20000 in
theorem zwi_X1_share : Cond.instanceMethod yX1_share ∈ lw_tbl := List.mem_of_getElem? (i := 610) (by decide +kernel)
set_option maxRecDepth 20000 in
theorem zwe_X1_share : Cond.selects yX1_share.cls yX1_share yX1_share ∈ lw_tbl := List.mem_of_getElem? (i := 611) (by decide +kernel)
set_option maxRecDepth 20000 in
theorem zwc_X1_takeAllOfOne : Cond.code yX1_takeAllOfOne cX1_takeAllOfOne 3 (some .boolean) ∈ lw_tbl := List.mem_of_getElem? (i := 621) (by decide +kernel)
set_option maxRecDepth 20000 in
theorem zwi_X1_takeAllOfOne : Cond.instanceMethod yX1_takeAllOfOne ∈ lw_tbl := List.mem_of_getElem? (i := 619) (by decide +kernel)
set_option maxRecDepth 20000 in
theorem zwe_X1_takeAllOfOne : Cond.selects yX1_takeAllOfOne.cls yX1_takeAllOfOne yX1_takeAllOfOne ∈ lw_tbl := List.mem_of_getElem? (i := 620) (by decide +kernel)
set_option maxRecDepth 20000 in
theorem zwc_X2_clear : Cond.code yX2_clear cX2_clear 4 (some .int) ∈ lw_tbl := List.mem_of_getElem? (i := 601) (by decide +kernel)
set_option maxRecDepth 20000 in
theorem zwi_X2_clear : Cond.instanceMethod yX2_clear ∈ lw_tbl := List.mem_of_getElem? (i := 600) (by decide +kernel)
set_option maxRecDepth 20000 in
theorem zwe_X2_clear : Cond.selects yX2_clear.cls yX2_clear yX2_clear ∈ lw_tbl := List.mem_of_getElem? (i := 16) (by decide +kernel)
set_option maxRecDepth 20000 in
theorem zwc_X2_clearAll : Cond.code yX2_clearAll cX2_clearAll 4 (some .int) ∈ lw_tbl := List.mem_of_getElem? (i := 584) (by decide +kernel)
set_option maxRecDepth 20000 in
theorem zwi_X2_clearAll : Cond.instanceMethod yX2_clearAll ∈ lw_tbl := List.mem_of_getElem? (i := 582) (by decide +kernel)
set_option maxRecDepth 20000 in
theorem zwe_X2_clearAll : Cond.selects yX2_clearAll.cls yX2_clearAll yX2_clearAll ∈ lw_tbl := List.mem_of_getElem? (i := 583) (by decide +kernel)
set_option maxRecDepth 20000 in
theorem zwc_X2_closes : Cond.code yX2_closes cX2_closes 5 (some .boolean) ∈ lw_tbl := List.mem_of_getElem? (i := 592) (by decide +kernel)
set_option maxRecDepth 20000 in
theorem zwi_X2_closes : Cond.instanceMethod yX2_closes ∈ lw_tbl := List.mem_of_getElem? (i := 591) (by decide +kernel)
set_option maxRecDepth 20000 in
theorem zwe_X2_closes : Cond.selects yX2_closes.cls yX2_closes yX2_closes ∈ lw_tbl := List.mem_of_getElem? (i := 14) (by decide +kernel)
set_option maxRecDepth 20000 in
theorem zwc_X2_findShortest : Cond.code yX2_findShortest cX2_findShortest 3 (some .int) ∈ lw_tbl := List.mem_of_getElem? (i := 588) (by decide +kernel)
set_option maxRecDepth 20000 in
theorem zwi_X2_findShortest : Cond.instanceMethod yX2_findShortest ∈ lw_tbl := List.mem_of_getElem? (i := 587) (by decide +kernel)
set_option maxRecDepth 20000 in
theorem zwe_X2_findShortest : Cond.selects yX2_findShortest.cls yX2_findShortest yX2_findShortest ∈ lw_tbl := List.mem_of_getElem? (i := 13) (by decide +kernel)
set_option maxRecDepth 20000 in
theorem zwc_X2_init : Cond.code yX2_init cX2_init 1 none ∈ lw_tbl := List.mem_of_getElem? (i := 242) (by decide +kernel)
set_option maxRecDepth 20000 in
theorem zwi_X2_init : Cond.instanceMethod yX2_init ∈ lw_tbl := List.mem_of_getElem? (i := 241) (by decide +kernel)
set_option maxRecDepth 20000 in
theorem zwc_X2_isPlaced : Cond.code yX2_isPlaced cX2_isPlaced 4 (some .boolean) ∈ lw_tbl := List.mem_of_getElem? (i := 597) (by decide +kernel)
set_option maxRecDepth 20000 in
theorem zwi_X2_isPlaced : Cond.instanceMethod yX2_isPlaced ∈ lw_tbl := List.mem_of_getElem? (i := 596) (by decide +kernel)
set_option maxRecDepth 20000 in
theorem zwe_X2_isPlaced : Cond.selects yX2_isPlaced.cls yX2_isPlaced yX2_isPlaced ∈ lw_tbl := List.mem_of_getElem? (i := 15) (by decide +kernel)
set_option maxRecDepth 20000 in
theorem zwc_X2_readFrom : Cond.code yX2_readFrom cX2_readFrom 4 none ∈ lw_tbl := List.mem_of_getElem? (i := 580) (by decide +kernel)
set_option maxRecDepth 20000 in
theorem zwi_X2_readFrom : Cond.instanceMethod yX2_readFrom ∈ lw_tbl := List.mem_of_getElem? (i := 578) (by decide +kernel)
set_option maxRecDepth 20000 in
theorem zwe_X2_readFrom : Cond.selects yX2_readFrom.cls yX2_readFrom yX2_readFrom ∈ lw_tbl := List.mem_of_getElem? (i := 579) (by decide +kernel)
set_option maxRecDepth 20000 in
theorem zwc_X3_init : Cond.code yX3_init cX3_init 4 none ∈ lw_tbl := List.mem_of_getElem? (i := 201) (by decide +kernel)
set_option maxRecDepth 20000 in
theorem zwi_X3_init : Cond.instanceMethod yX3_init ∈ lw_tbl := List.mem_of_getElem? (i := 200) (by decide +kernel)
set_option maxRecDepth 20000 in
theorem zwc_X3_moveLowestUp : Cond.code yX3_moveLowestUp cX3_moveLowestUp 3 none ∈ lw_tbl := List.mem_of_getElem? (i := 429) (by decide +kernel)
set_option maxRecDepth 20000 in
theorem zwi_X3_moveLowestUp : Cond.instanceMethod yX3_moveLowestUp ∈ lw_tbl := List.mem_of_getElem? (i := 428) (by decide +kernel)
set_option maxRecDepth 20000 in
theorem zwe_X3_moveLowestUp : Cond.selects yX3_moveLowestUp.cls yX3_moveLowestUp yX3_moveLowestUp ∈ lw_tbl := List.mem_of_getElem? (i := 4) (by decide +kernel)
set_option maxRecDepth 20000 in
theorem zwc_X3_put : Cond.code yX3_put cX3_put 2 none ∈ lw_tbl := List.mem_of_getElem? (i := 425) (by decide +kernel)
set_option maxRecDepth 20000 in
theorem zwi_X3_put : Cond.instanceMethod yX3_put ∈ lw_tbl := List.mem_of_getElem? (i := 423) (by decide +kernel)
set_option maxRecDepth 20000 in
theorem zwe_X3_put : Cond.selects yX3_put.cls yX3_put yX3_put ∈ lw_tbl := List.mem_of_getElem? (i := 424) (by decide +kernel)
set_option maxRecDepth 20000 in
theorem zwc_X3_takeInto : Cond.code yX3_takeInto cX3_takeInto 2 (some .int) ∈ lw_tbl := List.mem_of_getElem? (i := 490) (by decide +kernel)
set_option maxRecDepth 20000 in
theorem zwi_X3_takeInto : Cond.instanceMethod yX3_takeInto ∈ lw_tbl := List.mem_of_getElem? (i := 488) (by decide +kernel)
set_option maxRecDepth 20000 in
theorem zwe_X3_takeInto : Cond.selects yX3_takeInto.cls yX3_takeInto yX3_takeInto ∈ lw_tbl := List.mem_of_getElem? (i := 489) (by decide +kernel)
set_option maxRecDepth 20000 in
theorem zwc_X4_accept : Cond.code yX4_accept cX4_accept 3 (some .boolean) ∈ lw_tbl := List.mem_of_getElem? (i := 350) (by decide +kernel)
set_option maxRecDepth 20000 in
theorem zwi_X4_accept : Cond.instanceMethod yX4_accept ∈ lw_tbl := List.mem_of_getElem? (i := 349) (by decide +kernel)
set_option maxRecDepth 20000 in
theorem zwe_X4_accept : Cond.selects yX4_accept.cls yX4_accept yX4_accept ∈ lw_tbl := List.mem_of_getElem? (i := 0) (by decide +kernel)
set_option maxRecDepth 20000 in
theorem zwc_X4_addPerson : Cond.code yX4_addPerson cX4_addPerson 2 (some .boolean) ∈ lw_tbl := List.mem_of_getElem? (i := 278) (by decide +kernel)
set_option maxRecDepth 20000 in
theorem zwi_X4_addPerson : Cond.instanceMethod yX4_addPerson ∈ lw_tbl := List.mem_of_getElem? (i := 276) (by decide +kernel)
set_option maxRecDepth 20000 in
theorem zwe_X4_addPerson : Cond.selects yX4_addPerson.cls yX4_addPerson yX4_addPerson ∈ lw_tbl := List.mem_of_getElem? (i := 277) (by decide +kernel)
set_option maxRecDepth 20000 in
theorem zwc_X4_clear : Cond.code yX4_clear cX4_clear 1 none ∈ lw_tbl := List.mem_of_getElem? (i := 274) (by decide +kernel)
set_option maxRecDepth 20000 in
theorem zwi_X4_clear : Cond.instanceMethod yX4_clear ∈ lw_tbl := List.mem_of_getElem? (i := 272) (by decide +kernel)
set_option maxRecDepth 20000 in
theorem zwe_X4_clear : Cond.selects yX4_clear.cls yX4_clear yX4_clear ∈ lw_tbl := List.mem_of_getElem? (i := 273) (by decide +kernel)
set_option maxRecDepth 20000 in
theorem zwc_X4_copyFrom : Cond.code yX4_copyFrom cX4_copyFrom 2 none ∈ lw_tbl := List.mem_of_getElem? (i := 360) (by decide +kernel)
set_option maxRecDepth 20000 in
theorem zwi_X4_copyFrom : Cond.instanceMethod yX4_copyFrom ∈ lw_tbl := List.mem_of_getElem? (i := 358) (by decide +kernel)
set_option maxRecDepth 20000 in
theorem zwe_X4_copyFrom : Cond.selects yX4_copyFrom.cls yX4_copyFrom yX4_copyFrom ∈ lw_tbl := List.mem_of_getElem? (i := 359) (by decide +kernel)
set_option maxRecDepth 20000 in
theorem zwc_X4_init : Cond.code yX4_init cX4_init 1 none ∈ lw_tbl := List.mem_of_getElem? (i := 96) (by decide +kernel)
set_option maxRecDepth 20000 in
theorem zwi_X4_init : Cond.instanceMethod yX4_init ∈ lw_tbl := List.mem_of_getElem? (i := 95) (by decide +kernel)
set_option maxRecDepth 20000 in
theorem zwc_X4_interestOn : Cond.code yX4_interestOn cX4_interestOn 2 (some .int) ∈ lw_tbl := List.mem_of_getElem? (i := 411) (by decide +kernel)
set_option maxRecDepth 20000 in
theorem zwi_X4_interestOn : Cond.instanceMethod yX4_interestOn ∈ lw_tbl := List.mem_of_getElem? (i := 409) (by decide +kernel)
set_option maxRecDepth 20000 in
theorem zwe_X4_interestOn : Cond.selects yX4_interestOn.cls yX4_interestOn yX4_interestOn ∈ lw_tbl := List.mem_of_getElem? (i := 410) (by decide +kernel)
set_option maxRecDepth 20000 in
theorem zwc_X4_readFrom : Cond.code yX4_readFrom cX4_readFrom 3 (some .int) ∈ lw_tbl := List.mem_of_getElem? (i := 340) (by decide +kernel)
set_option maxRecDepth 20000 in
theorem zwi_X4_readFrom : Cond.instanceMethod yX4_readFrom ∈ lw_tbl := List.mem_of_getElem? (i := 338) (by decide +kernel)
set_option maxRecDepth 20000 in
theorem zwe_X4_readFrom : Cond.selects yX4_readFrom.cls yX4_readFrom yX4_readFrom ∈ lw_tbl := List.mem_of_getElem? (i := 339) (by decide +kernel)
set_option maxRecDepth 20000 in
theorem zwc_X5_append : Cond.code yX5_append cX5_append 5 none ∈ lw_tbl := List.mem_of_getElem? (i := 328) (by decide +kernel)
set_option maxRecDepth 20000 in
theorem zwi_X5_append : Cond.instanceMethod yX5_append ∈ lw_tbl := List.mem_of_getElem? (i := 326) (by decide +kernel)
set_option maxRecDepth 20000 in
theorem zwe_X5_append : Cond.selects yX5_append.cls yX5_append yX5_append ∈ lw_tbl := List.mem_of_getElem? (i := 327) (by decide +kernel)
set_option maxRecDepth 20000 in
theorem zwc_X5_init : Cond.code yX5_init cX5_init 1 none ∈ lw_tbl := List.mem_of_getElem? (i := 68) (by decide +kernel)
set_option maxRecDepth 20000 in
theorem zwi_X5_init : Cond.instanceMethod yX5_init ∈ lw_tbl := List.mem_of_getElem? (i := 67) (by decide +kernel)
set_option maxRecDepth 20000 in
theorem zwc_X5_readItem : Cond.code yX5_readItem cX5_readItem 3 (some .boolean) ∈ lw_tbl := List.mem_of_getElem? (i := 345) (by decide +kernel)
set_option maxRecDepth 20000 in
theorem zwi_X5_readItem : Cond.instanceMethod yX5_readItem ∈ lw_tbl := List.mem_of_getElem? (i := 343) (by decide +kernel)
set_option maxRecDepth 20000 in
theorem zwe_X5_readItem : Cond.selects yX5_readItem.cls yX5_readItem yX5_readItem ∈ lw_tbl := List.mem_of_getElem? (i := 344) (by decide +kernel)
set_option maxRecDepth 20000 in
theorem zwc_X6_add : Cond.code yX6_add cX6_add 4 none ∈ lw_tbl := List.mem_of_getElem? (i := 535) (by decide +kernel)
set_option maxRecDepth 20000 in
theorem zwi_X6_add : Cond.instanceMethod yX6_add ∈ lw_tbl := List.mem_of_getElem? (i := 533) (by decide +kernel)
set_option maxRecDepth 20000 in
theorem zwe_X6_add : Cond.selects yX6_add.cls yX6_add yX6_add ∈ lw_tbl := List.mem_of_getElem? (i := 534) (by decide +kernel)
set_option maxRecDepth 20000 in
theorem zwc_X6_bestDue : Cond.code yX6_bestDue cX6_bestDue 11 (some .int) ∈ lw_tbl := List.mem_of_getElem? (i := 561) (by decide +kernel)
set_option maxRecDepth 20000 in
theorem zwi_X6_bestDue : Cond.instanceMethod yX6_bestDue ∈ lw_tbl := List.mem_of_getElem? (i := 559) (by decide +kernel)
set_option maxRecDepth 20000 in
theorem zwe_X6_bestDue : Cond.selects yX6_bestDue.cls yX6_bestDue yX6_bestDue ∈ lw_tbl := List.mem_of_getElem? (i := 560) (by decide +kernel)
set_option maxRecDepth 20000 in
theorem zwc_X6_greatest : Cond.code yX6_greatest cX6_greatest 4 (some .int) ∈ lw_tbl := List.mem_of_getElem? (i := 552) (by decide +kernel)
set_option maxRecDepth 20000 in
theorem zwi_X6_greatest : Cond.instanceMethod yX6_greatest ∈ lw_tbl := List.mem_of_getElem? (i := 550) (by decide +kernel)
set_option maxRecDepth 20000 in
theorem zwe_X6_greatest : Cond.selects yX6_greatest.cls yX6_greatest yX6_greatest ∈ lw_tbl := List.mem_of_getElem? (i := 551) (by decide +kernel)
set_option maxRecDepth 20000 in
theorem zwc_X6_init : Cond.code yX6_init cX6_init 1 none ∈ lw_tbl := List.mem_of_getElem? (i := 221) (by decide +kernel)
set_option maxRecDepth 20000 in
theorem zwi_X6_init : Cond.instanceMethod yX6_init ∈ lw_tbl := List.mem_of_getElem? (i := 220) (by decide +kernel)
set_option maxRecDepth 20000 in
theorem zwc_X6_least : Cond.code yX6_least cX6_least 4 (some .int) ∈ lw_tbl := List.mem_of_getElem? (i := 547) (by decide +kernel)
set_option maxRecDepth 20000 in
theorem zwi_X6_least : Cond.instanceMethod yX6_least ∈ lw_tbl := List.mem_of_getElem? (i := 545) (by decide +kernel)
set_option maxRecDepth 20000 in
theorem zwe_X6_least : Cond.selects yX6_least.cls yX6_least yX6_least ∈ lw_tbl := List.mem_of_getElem? (i := 546) (by decide +kernel)
set_option maxRecDepth 20000 in
theorem zwc_X6_untrueOf : Cond.code yX6_untrueOf cX6_untrueOf 5 (some .int) ∈ lw_tbl := List.mem_of_getElem? (i := 572) (by decide +kernel)
set_option maxRecDepth 20000 in
theorem zwi_X6_untrueOf : Cond.instanceMethod yX6_untrueOf ∈ lw_tbl := List.mem_of_getElem? (i := 570) (by decide +kernel)
set_option maxRecDepth 20000 in
theorem zwe_X6_untrueOf : Cond.selects yX6_untrueOf.cls yX6_untrueOf yX6_untrueOf ∈ lw_tbl := List.mem_of_getElem? (i := 571) (by decide +kernel)
set_option maxRecDepth 20000 in
theorem zwc_X7_advance : Cond.code yX7_advance cX7_advance 4 none ∈ lw_tbl := List.mem_of_getElem? (i := 510) (by decide +kernel)
set_option maxRecDepth 20000 in
theorem zwi_X7_advance : Cond.instanceMethod yX7_advance ∈ lw_tbl := List.mem_of_getElem? (i := 508) (by decide +kernel)
set_option maxRecDepth 20000 in
theorem zwe_X7_advance : Cond.selects yX7_advance.cls yX7_advance yX7_advance ∈ lw_tbl := List.mem_of_getElem? (i := 509) (by decide +kernel)
set_option maxRecDepth 20000 in
theorem zwc_X7_firstDeadEarlierThan : Cond.code yX7_firstDeadEarlierThan cX7_firstDeadEarlierThan 6 (some .int) ∈ lw_tbl := List.mem_of_getElem? (i := 638) (by decide +kernel)
set_option maxRecDepth 20000 in
theorem zwi_X7_firstDeadEarlierThan : Cond.instanceMethod yX7_firstDeadEarlierThan ∈ lw_tbl := List.mem_of_getElem? (i := 636) (by decide +kernel)
set_option maxRecDepth 20000 in
theorem zwe_X7_firstDeadEarlierThan : Cond.selects yX7_firstDeadEarlierThan.cls yX7_firstDeadEarlierThan yX7_firstDeadEarlierThan ∈ lw_tbl := List.mem_of_getElem? (i := 637) (by decide +kernel)
set_option maxRecDepth 20000 in
theorem zwc_X7_init : Cond.code yX7_init cX7_init 2 none ∈ lw_tbl := List.mem_of_getElem? (i := 181) (by decide +kernel)
set_option maxRecDepth 20000 in
theorem zwi_X7_init : Cond.instanceMethod yX7_init ∈ lw_tbl := List.mem_of_getElem? (i := 180) (by decide +kernel)
set_option maxRecDepth 20000 in
theorem zwc_X7_loansPaidLessThan : Cond.code yX7_loansPaidLessThan cX7_loansPaidLessThan 4 (some .int) ∈ lw_tbl := List.mem_of_getElem? (i := 634) (by decide +kernel)
set_option maxRecDepth 20000 in
theorem zwi_X7_loansPaidLessThan : Cond.instanceMethod yX7_loansPaidLessThan ∈ lw_tbl := List.mem_of_getElem? (i := 632) (by decide +kernel)
set_option maxRecDepth 20000 in
theorem zwe_X7_loansPaidLessThan : Cond.selects yX7_loansPaidLessThan.cls yX7_loansPaidLessThan yX7_loansPaidLessThan ∈ lw_tbl := List.mem_of_getElem? (i := 633) (by decide +kernel)
set_option maxRecDepth 20000 in
theorem zwc_X7_noteDeaths : Cond.code yX7_noteDeaths cX7_noteDeaths 3 none ∈ lw_tbl := List.mem_of_getElem? (i := 519) (by decide +kernel)
set_option maxRecDepth 20000 in
theorem zwi_X7_noteDeaths : Cond.instanceMethod yX7_noteDeaths ∈ lw_tbl := List.mem_of_getElem? (i := 518) (by decide +kernel)
set_option maxRecDepth 20000 in
theorem zwe_X7_noteDeaths : Cond.selects yX7_noteDeaths.cls yX7_noteDeaths yX7_noteDeaths ∈ lw_tbl := List.mem_of_getElem? (i := 12) (by decide +kernel)
set_option maxRecDepth 20000 in
theorem zwc_X7_start : Cond.code yX7_start cX7_start 3 none ∈ lw_tbl := List.mem_of_getElem? (i := 499) (by decide +kernel)
set_option maxRecDepth 20000 in
theorem zwi_X7_start : Cond.instanceMethod yX7_start ∈ lw_tbl := List.mem_of_getElem? (i := 497) (by decide +kernel)
set_option maxRecDepth 20000 in
theorem zwe_X7_start : Cond.selects yX7_start.cls yX7_start yX7_start ∈ lw_tbl := List.mem_of_getElem? (i := 498) (by decide +kernel)
set_option maxRecDepth 20000 in
theorem zwc_X7_startWithout : Cond.code yX7_startWithout cX7_startWithout 3 none ∈ lw_tbl := List.mem_of_getElem? (i := 629) (by decide +kernel)
set_option maxRecDepth 20000 in
theorem zwi_X7_startWithout : Cond.instanceMethod yX7_startWithout ∈ lw_tbl := List.mem_of_getElem? (i := 627) (by decide +kernel)
set_option maxRecDepth 20000 in
theorem zwe_X7_startWithout : Cond.selects yX7_startWithout.cls yX7_startWithout yX7_startWithout ∈ lw_tbl := List.mem_of_getElem? (i := 628) (by decide +kernel)
set_option maxRecDepth 20000 in
theorem zwc_X8_ask : Cond.code yX8_ask cX8_ask 3 (some .int) ∈ lw_tbl := List.mem_of_getElem? (i := 557) (by decide +kernel)
set_option maxRecDepth 20000 in
theorem zwi_X8_ask : Cond.instanceMethod yX8_ask ∈ lw_tbl := List.mem_of_getElem? (i := 555) (by decide +kernel)
set_option maxRecDepth 20000 in
theorem zwe_X8_ask : Cond.selects yX8_ask.cls yX8_ask yX8_ask ∈ lw_tbl := List.mem_of_getElem? (i := 556) (by decide +kernel)
set_option maxRecDepth 20000 in
theorem zwc_X8_back : Cond.code yX8_back cX8_back 2 (some .int) ∈ lw_tbl := List.mem_of_getElem? (i := 675) (by decide +kernel)
set_option maxRecDepth 20000 in
theorem zwi_X8_back : Cond.instanceMethod yX8_back ∈ lw_tbl := List.mem_of_getElem? (i := 673) (by decide +kernel)
set_option maxRecDepth 20000 in
theorem zwe_X8_back : Cond.selects yX8_back.cls yX8_back yX8_back ∈ lw_tbl := List.mem_of_getElem? (i := 674) (by decide +kernel)
set_option maxRecDepth 20000 in
theorem zwc_X8_bribed : Cond.code yX8_bribed cX8_bribed 1 (some .int) ∈ lw_tbl := List.mem_of_getElem? (i := 568) (by decide +kernel)
set_option maxRecDepth 20000 in
theorem zwi_X8_bribed : Cond.instanceMethod yX8_bribed ∈ lw_tbl := List.mem_of_getElem? (i := 566) (by decide +kernel)
set_option maxRecDepth 20000 in
theorem zwe_X8_bribed : Cond.selects yX8_bribed.cls yX8_bribed yX8_bribed ∈ lw_tbl := List.mem_of_getElem? (i := 567) (by decide +kernel)
set_option maxRecDepth 20000 in
theorem zwc_X8_burned : Cond.code yX8_burned cX8_burned 6 (some .int) ∈ lw_tbl := List.mem_of_getElem? (i := 642) (by decide +kernel)
set_option maxRecDepth 20000 in
theorem zwi_X8_burned : Cond.instanceMethod yX8_burned ∈ lw_tbl := List.mem_of_getElem? (i := 640) (by decide +kernel)
set_option maxRecDepth 20000 in
theorem zwe_X8_burned : Cond.selects yX8_burned.cls yX8_burned yX8_burned ∈ lw_tbl := List.mem_of_getElem? (i := 641) (by decide +kernel)
set_option maxRecDepth 20000 in
theorem zwc_X8_child : Cond.code yX8_child cX8_child 3 (some .int) ∈ lw_tbl := List.mem_of_getElem? (i := 607) (by decide +kernel)
set_option maxRecDepth 20000 in
theorem zwi_X8_child : Cond.instanceMethod yX8_child ∈ lw_tbl := List.mem_of_getElem? (i := 605) (by decide +kernel)
set_option maxRecDepth 20000 in
theorem zwe_X8_child : Cond.selects yX8_child.cls yX8_child yX8_child ∈ lw_tbl := List.mem_of_getElem? (i := 606) (by decide +kernel)
set_option maxRecDepth 20000 in
theorem zwc_X8_cleared : Cond.code yX8_cleared cX8_cleared 5 (some .int) ∈ lw_tbl := List.mem_of_getElem? (i := 576) (by decide +kernel)
set_option maxRecDepth 20000 in
theorem zwi_X8_cleared : Cond.instanceMethod yX8_cleared ∈ lw_tbl := List.mem_of_getElem? (i := 574) (by decide +kernel)
set_option maxRecDepth 20000 in
theorem zwe_X8_cleared : Cond.selects yX8_cleared.cls yX8_cleared yX8_cleared ∈ lw_tbl := List.mem_of_getElem? (i := 575) (by decide +kernel)
set_option maxRecDepth 20000 in
theorem zwc_X8_count : Cond.code yX8_count cX8_count 2 (some .int) ∈ lw_tbl := List.mem_of_getElem? (i := 679) (by decide +kernel)
set_option maxRecDepth 20000 in
theorem zwi_X8_count : Cond.instanceMethod yX8_count ∈ lw_tbl := List.mem_of_getElem? (i := 677) (by decide +kernel)
set_option maxRecDepth 20000 in
theorem zwe_X8_count : Cond.selects yX8_count.cls yX8_count yX8_count ∈ lw_tbl := List.mem_of_getElem? (i := 678) (by decide +kernel)
set_option maxRecDepth 20000 in
theorem zwc_X8_dies : Cond.code yX8_dies cX8_dies 2 (some .int) ∈ lw_tbl := List.mem_of_getElem? (i := 495) (by decide +kernel)
set_option maxRecDepth 20000 in
theorem zwi_X8_dies : Cond.instanceMethod yX8_dies ∈ lw_tbl := List.mem_of_getElem? (i := 493) (by decide +kernel)
set_option maxRecDepth 20000 in
theorem zwe_X8_dies : Cond.selects yX8_dies.cls yX8_dies yX8_dies ∈ lw_tbl := List.mem_of_getElem? (i := 494) (by decide +kernel)
set_option maxRecDepth 20000 in
theorem zwc_X8_draw : Cond.code yX8_draw cX8_draw 5 (some .int) ∈ lw_tbl := List.mem_of_getElem? (i := 659) (by decide +kernel)
set_option maxRecDepth 20000 in
theorem zws_X8_draw : Cond.static yX8_draw ∈ lw_tbl := List.mem_of_getElem? (i := 658) (by decide +kernel)
set_option maxRecDepth 20000 in
theorem zwc_X8_drawn : Cond.code yX8_drawn cX8_drawn 5 (some .int) ∈ lw_tbl := List.mem_of_getElem? (i := 652) (by decide +kernel)
set_option maxRecDepth 20000 in
theorem zwi_X8_drawn : Cond.instanceMethod yX8_drawn ∈ lw_tbl := List.mem_of_getElem? (i := 650) (by decide +kernel)
set_option maxRecDepth 20000 in
theorem zwe_X8_drawn : Cond.selects yX8_drawn.cls yX8_drawn yX8_drawn ∈ lw_tbl := List.mem_of_getElem? (i := 651) (by decide +kernel)
set_option maxRecDepth 20000 in
theorem zwc_X8_falls : Cond.code yX8_falls cX8_falls 3 (some .int) ∈ lw_tbl := List.mem_of_getElem? (i := 625) (by decide +kernel)
set_option maxRecDepth 20000 in
theorem zwi_X8_falls : Cond.instanceMethod yX8_falls ∈ lw_tbl := List.mem_of_getElem? (i := 623) (by decide +kernel)
set_option maxRecDepth 20000 in
theorem zwe_X8_falls : Cond.selects yX8_falls.cls yX8_falls yX8_falls ∈ lw_tbl := List.mem_of_getElem? (i := 624) (by decide +kernel)
set_option maxRecDepth 20000 in
theorem zwc_X8_fault : Cond.code yX8_fault cX8_fault 1 (some .int) ∈ lw_tbl := List.mem_of_getElem? (i := 336) (by decide +kernel)
set_option maxRecDepth 20000 in
theorem zwi_X8_fault : Cond.instanceMethod yX8_fault ∈ lw_tbl := List.mem_of_getElem? (i := 334) (by decide +kernel)
set_option maxRecDepth 20000 in
theorem zwe_X8_fault : Cond.selects yX8_fault.cls yX8_fault yX8_fault ∈ lw_tbl := List.mem_of_getElem? (i := 335) (by decide +kernel)
set_option maxRecDepth 20000 in
theorem zwc_X8_forget : Cond.code yX8_forget cX8_forget 2 (some .int) ∈ lw_tbl := List.mem_of_getElem? (i := 539) (by decide +kernel)
set_option maxRecDepth 20000 in
theorem zwi_X8_forget : Cond.instanceMethod yX8_forget ∈ lw_tbl := List.mem_of_getElem? (i := 537) (by decide +kernel)
set_option maxRecDepth 20000 in
theorem zwe_X8_forget : Cond.selects yX8_forget.cls yX8_forget yX8_forget ∈ lw_tbl := List.mem_of_getElem? (i := 538) (by decide +kernel)
set_option maxRecDepth 20000 in
theorem zwc_X8_init : Cond.code yX8_init cX8_init 1 none ∈ lw_tbl := List.mem_of_getElem? (i := 60) (by decide +kernel)
set_option maxRecDepth 20000 in
theorem zwi_X8_init : Cond.instanceMethod yX8_init ∈ lw_tbl := List.mem_of_getElem? (i := 59) (by decide +kernel)
set_option maxRecDepth 20000 in
theorem zwc_X8_isLoanOf : Cond.code yX8_isLoanOf cX8_isLoanOf 2 (some .boolean) ∈ lw_tbl := List.mem_of_getElem? (i := 395) (by decide +kernel)
set_option maxRecDepth 20000 in
theorem zws_X8_isLoanOf : Cond.static yX8_isLoanOf ∈ lw_tbl := List.mem_of_getElem? (i := 394) (by decide +kernel)
set_option maxRecDepth 20000 in
theorem zwc_X8_isPerson : Cond.code yX8_isPerson cX8_isPerson 2 (some .boolean) ∈ lw_tbl := List.mem_of_getElem? (i := 371) (by decide +kernel)
set_option maxRecDepth 20000 in
theorem zwi_X8_isPerson : Cond.instanceMethod yX8_isPerson ∈ lw_tbl := List.mem_of_getElem? (i := 370) (by decide +kernel)
set_option maxRecDepth 20000 in
theorem zwe_X8_isPerson : Cond.selects yX8_isPerson.cls yX8_isPerson yX8_isPerson ∈ lw_tbl := List.mem_of_getElem? (i := 1) (by decide +kernel)
set_option maxRecDepth 20000 in
theorem zwc_X8_keep : Cond.code yX8_keep cX8_keep 1 (some .int) ∈ lw_tbl := List.mem_of_getElem? (i := 671) (by decide +kernel)
set_option maxRecDepth 20000 in
theorem zwi_X8_keep : Cond.instanceMethod yX8_keep ∈ lw_tbl := List.mem_of_getElem? (i := 669) (by decide +kernel)
set_option maxRecDepth 20000 in
theorem zwe_X8_keep : Cond.selects yX8_keep.cls yX8_keep yX8_keep ∈ lw_tbl := List.mem_of_getElem? (i := 670) (by decide +kernel)
set_option maxRecDepth 20000 in
theorem zwc_X8_lay : Cond.code yX8_lay cX8_lay 1 (some .int) ∈ lw_tbl := List.mem_of_getElem? (i := 356) (by decide +kernel)
set_option maxRecDepth 20000 in
theorem zwi_X8_lay : Cond.instanceMethod yX8_lay ∈ lw_tbl := List.mem_of_getElem? (i := 354) (by decide +kernel)
set_option maxRecDepth 20000 in
theorem zwe_X8_lay : Cond.selects yX8_lay.cls yX8_lay yX8_lay ∈ lw_tbl := List.mem_of_getElem? (i := 355) (by decide +kernel)
set_option maxRecDepth 20000 in
theorem zwc_X8_lend : Cond.code yX8_lend cX8_lend 6 (some .int) ∈ lw_tbl := List.mem_of_getElem? (i := 415) (by decide +kernel)
set_option maxRecDepth 20000 in
theorem zwi_X8_lend : Cond.instanceMethod yX8_lend ∈ lw_tbl := List.mem_of_getElem? (i := 413) (by decide +kernel)
set_option maxRecDepth 20000 in
theorem zwe_X8_lend : Cond.selects yX8_lend.cls yX8_lend yX8_lend ∈ lw_tbl := List.mem_of_getElem? (i := 414) (by decide +kernel)
set_option maxRecDepth 20000 in
theorem zwc_X8_lendByDraw : Cond.code yX8_lendByDraw cX8_lendByDraw 9 none ∈ lw_tbl := List.mem_of_getElem? (i := 656) (by decide +kernel)
set_option maxRecDepth 20000 in
theorem zwi_X8_lendByDraw : Cond.instanceMethod yX8_lendByDraw ∈ lw_tbl := List.mem_of_getElem? (i := 655) (by decide +kernel)
set_option maxRecDepth 20000 in
theorem zwe_X8_lendByDraw : Cond.selects yX8_lendByDraw.cls yX8_lendByDraw yX8_lendByDraw ∈ lw_tbl := List.mem_of_getElem? (i := 18) (by decide +kernel)
set_option maxRecDepth 20000 in
theorem zwc_X8_loan : Cond.code yX8_loan cX8_loan 3 (some .int) ∈ lw_tbl := List.mem_of_getElem? (i := 379) (by decide +kernel)
set_option maxRecDepth 20000 in
theorem zwi_X8_loan : Cond.instanceMethod yX8_loan ∈ lw_tbl := List.mem_of_getElem? (i := 377) (by decide +kernel)
set_option maxRecDepth 20000 in
theorem zwe_X8_loan : Cond.selects yX8_loan.cls yX8_loan yX8_loan ∈ lw_tbl := List.mem_of_getElem? (i := 378) (by decide +kernel)
set_option maxRecDepth 20000 in
theorem zwc_X8_notary : Cond.code yX8_notary cX8_notary 5 (some .int) ∈ lw_tbl := List.mem_of_getElem? (i := 383) (by decide +kernel)
set_option maxRecDepth 20000 in
theorem zwi_X8_notary : Cond.instanceMethod yX8_notary ∈ lw_tbl := List.mem_of_getElem? (i := 381) (by decide +kernel)
set_option maxRecDepth 20000 in
theorem zwe_X8_notary : Cond.selects yX8_notary.cls yX8_notary yX8_notary ∈ lw_tbl := List.mem_of_getElem? (i := 382) (by decide +kernel)
set_option maxRecDepth 20000 in
theorem zwc_X8_numberOfFirstRow : Cond.code yX8_numberOfFirstRow cX8_numberOfFirstRow 7 (some .int) ∈ lw_tbl := List.mem_of_getElem? (i := 648) (by decide +kernel)
set_option maxRecDepth 20000 in
theorem zws_X8_numberOfFirstRow : Cond.static yX8_numberOfFirstRow ∈ lw_tbl := List.mem_of_getElem? (i := 647) (by decide +kernel)
set_option maxRecDepth 20000 in
theorem zwc_X8_person : Cond.code yX8_person cX8_person 3 (some .int) ∈ lw_tbl := List.mem_of_getElem? (i := 367) (by decide +kernel)
set_option maxRecDepth 20000 in
theorem zwi_X8_person : Cond.instanceMethod yX8_person ∈ lw_tbl := List.mem_of_getElem? (i := 365) (by decide +kernel)
set_option maxRecDepth 20000 in
theorem zwe_X8_person : Cond.selects yX8_person.cls yX8_person yX8_person ∈ lw_tbl := List.mem_of_getElem? (i := 366) (by decide +kernel)
set_option maxRecDepth 20000 in
theorem zwc_X8_rowsOf : Cond.code yX8_rowsOf cX8_rowsOf 6 (some .int) ∈ lw_tbl := List.mem_of_getElem? (i := 645) (by decide +kernel)
set_option maxRecDepth 20000 in
theorem zws_X8_rowsOf : Cond.static yX8_rowsOf ∈ lw_tbl := List.mem_of_getElem? (i := 644) (by decide +kernel)
set_option maxRecDepth 20000 in
theorem zwc_X8_run : Cond.code yX8_run cX8_run 4 (some .int) ∈ lw_tbl := List.mem_of_getElem? (i := 525) (by decide +kernel)
set_option maxRecDepth 20000 in
theorem zwi_X8_run : Cond.instanceMethod yX8_run ∈ lw_tbl := List.mem_of_getElem? (i := 523) (by decide +kernel)
set_option maxRecDepth 20000 in
theorem zwe_X8_run : Cond.selects yX8_run.cls yX8_run yX8_run ∈ lw_tbl := List.mem_of_getElem? (i := 524) (by decide +kernel)
set_option maxRecDepth 20000 in
theorem zwc_X8_span : Cond.code yX8_span cX8_span 5 (some .int) ∈ lw_tbl := List.mem_of_getElem? (i := 543) (by decide +kernel)
set_option maxRecDepth 20000 in
theorem zwi_X8_span : Cond.instanceMethod yX8_span ∈ lw_tbl := List.mem_of_getElem? (i := 541) (by decide +kernel)
set_option maxRecDepth 20000 in
theorem zwe_X8_span : Cond.selects yX8_span.cls yX8_span yX8_span ∈ lw_tbl := List.mem_of_getElem? (i := 542) (by decide +kernel)
set_option maxRecDepth 20000 in
theorem zwc_X8_tell : Cond.code yX8_tell cX8_tell 5 (some .int) ∈ lw_tbl := List.mem_of_getElem? (i := 529) (by decide +kernel)
set_option maxRecDepth 20000 in
theorem zwi_X8_tell : Cond.instanceMethod yX8_tell ∈ lw_tbl := List.mem_of_getElem? (i := 527) (by decide +kernel)
set_option maxRecDepth 20000 in
theorem zwe_X8_tell : Cond.selects yX8_tell.cls yX8_tell yX8_tell ∈ lw_tbl := List.mem_of_getElem? (i := 528) (by decide +kernel)
set_option maxRecDepth 20000 in
theorem zwc_X8_undo : Cond.code yX8_undo cX8_undo 1 (some .int) ∈ lw_tbl := List.mem_of_getElem? (i := 486) (by decide +kernel)
set_option maxRecDepth 20000 in
theorem zwi_X8_undo : Cond.instanceMethod yX8_undo ∈ lw_tbl := List.mem_of_getElem? (i := 484) (by decide +kernel)
set_option maxRecDepth 20000 in
theorem zwe_X8_undo : Cond.selects yX8_undo.cls yX8_undo yX8_undo ∈ lw_tbl := List.mem_of_getElem? (i := 485) (by decide +kernel)
set_option maxRecDepth 20000 in
theorem zwc_X8_week : Cond.code yX8_week cX8_week 1 (some .int) ∈ lw_tbl := List.mem_of_getElem? (i := 442) (by decide +kernel)
set_option maxRecDepth 20000 in
theorem zwi_X8_week : Cond.instanceMethod yX8_week ∈ lw_tbl := List.mem_of_getElem? (i := 440) (by decide +kernel)
set_option maxRecDepth 20000 in
theorem zwe_X8_week : Cond.selects yX8_week.cls yX8_week yX8_week ∈ lw_tbl := List.mem_of_getElem? (i := 441) (by decide +kernel)
set_option maxRecDepth 20000 in
theorem zwc_X8_wipe : Cond.code yX8_wipe cX8_wipe 2 (some .int) ∈ lw_tbl := List.mem_of_getElem? (i := 332) (by decide +kernel)
set_option maxRecDepth 20000 in
theorem zwi_X8_wipe : Cond.instanceMethod yX8_wipe ∈ lw_tbl := List.mem_of_getElem? (i := 330) (by decide +kernel)
set_option maxRecDepth 20000 in
theorem zwe_X8_wipe : Cond.selects yX8_wipe.cls yX8_wipe yX8_wipe ∈ lw_tbl := List.mem_of_getElem? (i := 331) (by decide +kernel)
set_option maxRecDepth 20000 in
theorem zwc_X8_within : Cond.code yX8_within cX8_within 3 (some .boolean) ∈ lw_tbl := List.mem_of_getElem? (i := 281) (by decide +kernel)
set_option maxRecDepth 20000 in
theorem zws_X8_within : Cond.static yX8_within ∈ lw_tbl := List.mem_of_getElem? (i := 280) (by decide +kernel)
set_option maxRecDepth 20000 in
theorem zwc_X8_write : Cond.code yX8_write cX8_write 4 (some .int) ∈ lw_tbl := List.mem_of_getElem? (i := 323) (by decide +kernel)
set_option maxRecDepth 20000 in
theorem zwi_X8_write : Cond.instanceMethod yX8_write ∈ lw_tbl := List.mem_of_getElem? (i := 321) (by decide +kernel)
set_option maxRecDepth 20000 in
theorem zwe_X8_write : Cond.selects yX8_write.cls yX8_write yX8_write ∈ lw_tbl := List.mem_of_getElem? (i := 322) (by decide +kernel)
set_option maxRecDepth 20000 in
theorem zwc_X9_aside : Cond.code yX9_aside cX9_aside 3 none ∈ lw_tbl := List.mem_of_getElem? (i := 893) (by decide +kernel)
set_option maxRecDepth 20000 in
theorem zwi_X9_aside : Cond.instanceMethod yX9_aside ∈ lw_tbl := List.mem_of_getElem? (i := 892) (by decide +kernel)
set_option maxRecDepth 20000 in
theorem zwe_X9_aside : Cond.selects yX9_aside.cls yX9_aside yX9_aside ∈ lw_tbl := List.mem_of_getElem? (i := 36) (by decide +kernel)
set_option maxRecDepth 20000 in
theorem zwc_X9_ask : Cond.code yX9_ask cX9_ask 10 (some .int) ∈ lw_tbl := List.mem_of_getElem? (i := 921) (by decide +kernel)
set_option maxRecDepth 20000 in
theorem zwi_X9_ask : Cond.instanceMethod yX9_ask ∈ lw_tbl := List.mem_of_getElem? (i := 919) (by decide +kernel)
set_option maxRecDepth 20000 in
theorem zwe_X9_ask : Cond.selects yX9_ask.cls yX9_ask yX9_ask ∈ lw_tbl := List.mem_of_getElem? (i := 920) (by decide +kernel)
set_option maxRecDepth 20000 in
theorem zwc_X9_back : Cond.code yX9_back cX9_back 2 (some .int) ∈ lw_tbl := List.mem_of_getElem? (i := 976) (by decide +kernel)
set_option maxRecDepth 20000 in
theorem zwi_X9_back : Cond.instanceMethod yX9_back ∈ lw_tbl := List.mem_of_getElem? (i := 974) (by decide +kernel)
set_option maxRecDepth 20000 in
theorem zwe_X9_back : Cond.selects yX9_back.cls yX9_back yX9_back ∈ lw_tbl := List.mem_of_getElem? (i := 975) (by decide +kernel)
set_option maxRecDepth 20000 in
theorem zwc_X9_begins : Cond.code yX9_begins cX9_begins 2 none ∈ lw_tbl := List.mem_of_getElem? (i := 689) (by decide +kernel)
set_option maxRecDepth 20000 in
theorem zwi_X9_begins : Cond.instanceMethod yX9_begins ∈ lw_tbl := List.mem_of_getElem? (i := 688) (by decide +kernel)
set_option maxRecDepth 20000 in
theorem zwe_X9_begins : Cond.selects yX9_begins.cls yX9_begins yX9_begins ∈ lw_tbl := List.mem_of_getElem? (i := 19) (by decide +kernel)
set_option maxRecDepth 20000 in
theorem zwc_X9_bribed : Cond.code yX9_bribed cX9_bribed 3 (some .int) ∈ lw_tbl := List.mem_of_getElem? (i := 925) (by decide +kernel)
set_option maxRecDepth 20000 in
theorem zwi_X9_bribed : Cond.instanceMethod yX9_bribed ∈ lw_tbl := List.mem_of_getElem? (i := 923) (by decide +kernel)
set_option maxRecDepth 20000 in
theorem zwe_X9_bribed : Cond.selects yX9_bribed.cls yX9_bribed yX9_bribed ∈ lw_tbl := List.mem_of_getElem? (i := 924) (by decide +kernel)
set_option maxRecDepth 20000 in
theorem zwc_X9_burned : Cond.code yX9_burned cX9_burned 12 (some .int) ∈ lw_tbl := List.mem_of_getElem? (i := 957) (by decide +kernel)
set_option maxRecDepth 20000 in
theorem zwi_X9_burned : Cond.instanceMethod yX9_burned ∈ lw_tbl := List.mem_of_getElem? (i := 955) (by decide +kernel)
set_option maxRecDepth 20000 in
theorem zwe_X9_burned : Cond.selects yX9_burned.cls yX9_burned yX9_burned ∈ lw_tbl := List.mem_of_getElem? (i := 956) (by decide +kernel)
set_option maxRecDepth 20000 in
theorem zwc_X9_byteAt : Cond.code yX9_byteAt cX9_byteAt 2 (some .int) ∈ lw_tbl := List.mem_of_getElem? (i := 795) (by decide +kernel)
set_option maxRecDepth 20000 in
theorem zwi_X9_byteAt : Cond.instanceMethod yX9_byteAt ∈ lw_tbl := List.mem_of_getElem? (i := 794) (by decide +kernel)
set_option maxRecDepth 20000 in
theorem zwe_X9_byteAt : Cond.selects yX9_byteAt.cls yX9_byteAt yX9_byteAt ∈ lw_tbl := List.mem_of_getElem? (i := 21) (by decide +kernel)
set_option maxRecDepth 20000 in
theorem zwc_X9_child : Cond.code yX9_child cX9_child 3 (some .int) ∈ lw_tbl := List.mem_of_getElem? (i := 941) (by decide +kernel)
set_option maxRecDepth 20000 in
theorem zwi_X9_child : Cond.instanceMethod yX9_child ∈ lw_tbl := List.mem_of_getElem? (i := 939) (by decide +kernel)
set_option maxRecDepth 20000 in
theorem zwe_X9_child : Cond.selects yX9_child.cls yX9_child yX9_child ∈ lw_tbl := List.mem_of_getElem? (i := 940) (by decide +kernel)
set_option maxRecDepth 20000 in
theorem zwc_X9_cleared : Cond.code yX9_cleared cX9_cleared 5 (some .int) ∈ lw_tbl := List.mem_of_getElem? (i := 929) (by decide +kernel)
set_option maxRecDepth 20000 in
theorem zwi_X9_cleared : Cond.instanceMethod yX9_cleared ∈ lw_tbl := List.mem_of_getElem? (i := 927) (by decide +kernel)
set_option maxRecDepth 20000 in
theorem zwe_X9_cleared : Cond.selects yX9_cleared.cls yX9_cleared yX9_cleared ∈ lw_tbl := List.mem_of_getElem? (i := 928) (by decide +kernel)
set_option maxRecDepth 20000 in
theorem zwc_X9_clears : Cond.code yX9_clears cX9_clears 6 (some .int) ∈ lw_tbl := List.mem_of_getElem? (i := 933) (by decide +kernel)
set_option maxRecDepth 20000 in
theorem zwi_X9_clears : Cond.instanceMethod yX9_clears ∈ lw_tbl := List.mem_of_getElem? (i := 932) (by decide +kernel)
set_option maxRecDepth 20000 in
theorem zwe_X9_clears : Cond.selects yX9_clears.cls yX9_clears yX9_clears ∈ lw_tbl := List.mem_of_getElem? (i := 39) (by decide +kernel)
set_option maxRecDepth 20000 in
theorem zwc_X9_count : Cond.code yX9_count cX9_count 2 (some .int) ∈ lw_tbl := List.mem_of_getElem? (i := 980) (by decide +kernel)
set_option maxRecDepth 20000 in
theorem zwi_X9_count : Cond.instanceMethod yX9_count ∈ lw_tbl := List.mem_of_getElem? (i := 978) (by decide +kernel)
set_option maxRecDepth 20000 in
theorem zwe_X9_count : Cond.selects yX9_count.cls yX9_count yX9_count ∈ lw_tbl := List.mem_of_getElem? (i := 979) (by decide +kernel)
set_option maxRecDepth 20000 in
theorem zwc_X9_dies : Cond.code yX9_dies cX9_dies 3 (some .int) ∈ lw_tbl := List.mem_of_getElem? (i := 889) (by decide +kernel)
set_option maxRecDepth 20000 in
theorem zwi_X9_dies : Cond.instanceMethod yX9_dies ∈ lw_tbl := List.mem_of_getElem? (i := 887) (by decide +kernel)
set_option maxRecDepth 20000 in
theorem zwe_X9_dies : Cond.selects yX9_dies.cls yX9_dies yX9_dies ∈ lw_tbl := List.mem_of_getElem? (i := 888) (by decide +kernel)
set_option maxRecDepth 20000 in
theorem zwc_X9_draw : Cond.code yX9_draw cX9_draw 5 (some .int) ∈ lw_tbl := List.mem_of_getElem? (i := 964) (by decide +kernel)
set_option maxRecDepth 20000 in
theorem zws_X9_draw : Cond.static yX9_draw ∈ lw_tbl := List.mem_of_getElem? (i := 963) (by decide +kernel)
set_option maxRecDepth 20000 in
theorem zwc_X9_drawn : Cond.code yX9_drawn cX9_drawn 9 (some .int) ∈ lw_tbl := List.mem_of_getElem? (i := 961) (by decide +kernel)
set_option maxRecDepth 20000 in
theorem zwi_X9_drawn : Cond.instanceMethod yX9_drawn ∈ lw_tbl := List.mem_of_getElem? (i := 959) (by decide +kernel)
set_option maxRecDepth 20000 in
theorem zwe_X9_drawn : Cond.selects yX9_drawn.cls yX9_drawn yX9_drawn ∈ lw_tbl := List.mem_of_getElem? (i := 960) (by decide +kernel)
set_option maxRecDepth 20000 in
theorem zwc_X9_drops : Cond.code yX9_drops cX9_drops 4 none ∈ lw_tbl := List.mem_of_getElem? (i := 877) (by decide +kernel)
set_option maxRecDepth 20000 in
theorem zwi_X9_drops : Cond.instanceMethod yX9_drops ∈ lw_tbl := List.mem_of_getElem? (i := 876) (by decide +kernel)
set_option maxRecDepth 20000 in
theorem zwe_X9_drops : Cond.selects yX9_drops.cls yX9_drops yX9_drops ∈ lw_tbl := List.mem_of_getElem? (i := 34) (by decide +kernel)
set_option maxRecDepth 20000 in
theorem zwc_X9_dueNow : Cond.code yX9_dueNow cX9_dueNow 6 (some .int) ∈ lw_tbl := List.mem_of_getElem? (i := 862) (by decide +kernel)
set_option maxRecDepth 20000 in
theorem zwi_X9_dueNow : Cond.instanceMethod yX9_dueNow ∈ lw_tbl := List.mem_of_getElem? (i := 861) (by decide +kernel)
set_option maxRecDepth 20000 in
theorem zwe_X9_dueNow : Cond.selects yX9_dueNow.cls yX9_dueNow yX9_dueNow ∈ lw_tbl := List.mem_of_getElem? (i := 31) (by decide +kernel)
set_option maxRecDepth 20000 in
theorem zwc_X9_dueOf : Cond.code yX9_dueOf cX9_dueOf 2 (some .int) ∈ lw_tbl := List.mem_of_getElem? (i := 838) (by decide +kernel)
set_option maxRecDepth 20000 in
theorem zwi_X9_dueOf : Cond.instanceMethod yX9_dueOf ∈ lw_tbl := List.mem_of_getElem? (i := 837) (by decide +kernel)
set_option maxRecDepth 20000 in
theorem zwe_X9_dueOf : Cond.selects yX9_dueOf.cls yX9_dueOf yX9_dueOf ∈ lw_tbl := List.mem_of_getElem? (i := 27) (by decide +kernel)
set_option maxRecDepth 20000 in
theorem zwc_X9_falls : Cond.code yX9_falls cX9_falls 8 (some .int) ∈ lw_tbl := List.mem_of_getElem? (i := 949) (by decide +kernel)
set_option maxRecDepth 20000 in
theorem zwi_X9_falls : Cond.instanceMethod yX9_falls ∈ lw_tbl := List.mem_of_getElem? (i := 947) (by decide +kernel)
set_option maxRecDepth 20000 in
theorem zwe_X9_falls : Cond.selects yX9_falls.cls yX9_falls yX9_falls ∈ lw_tbl := List.mem_of_getElem? (i := 948) (by decide +kernel)
set_option maxRecDepth 20000 in
theorem zwc_X9_fault : Cond.code yX9_fault cX9_fault 1 (some .int) ∈ lw_tbl := List.mem_of_getElem? (i := 787) (by decide +kernel)
set_option maxRecDepth 20000 in
theorem zwi_X9_fault : Cond.instanceMethod yX9_fault ∈ lw_tbl := List.mem_of_getElem? (i := 785) (by decide +kernel)
set_option maxRecDepth 20000 in
theorem zwe_X9_fault : Cond.selects yX9_fault.cls yX9_fault yX9_fault ∈ lw_tbl := List.mem_of_getElem? (i := 786) (by decide +kernel)
set_option maxRecDepth 20000 in
theorem zwc_X9_faultOf : Cond.code yX9_faultOf cX9_faultOf 5 (some .int) ∈ lw_tbl := List.mem_of_getElem? (i := 791) (by decide +kernel)
set_option maxRecDepth 20000 in
theorem zwi_X9_faultOf : Cond.instanceMethod yX9_faultOf ∈ lw_tbl := List.mem_of_getElem? (i := 790) (by decide +kernel)
set_option maxRecDepth 20000 in
theorem zwe_X9_faultOf : Cond.selects yX9_faultOf.cls yX9_faultOf yX9_faultOf ∈ lw_tbl := List.mem_of_getElem? (i := 20) (by decide +kernel)
set_option maxRecDepth 20000 in
theorem zwc_X9_findsRing : Cond.code yX9_findsRing cX9_findsRing 8 (some .boolean) ∈ lw_tbl := List.mem_of_getElem? (i := 937) (by decide +kernel)
set_option maxRecDepth 20000 in
theorem zwi_X9_findsRing : Cond.instanceMethod yX9_findsRing ∈ lw_tbl := List.mem_of_getElem? (i := 936) (by decide +kernel)
set_option maxRecDepth 20000 in
theorem zwe_X9_findsRing : Cond.selects yX9_findsRing.cls yX9_findsRing yX9_findsRing ∈ lw_tbl := List.mem_of_getElem? (i := 40) (by decide +kernel)
set_option maxRecDepth 20000 in
theorem zwc_X9_forget : Cond.code yX9_forget cX9_forget 2 (some .int) ∈ lw_tbl := List.mem_of_getElem? (i := 905) (by decide +kernel)
set_option maxRecDepth 20000 in
theorem zwi_X9_forget : Cond.instanceMethod yX9_forget ∈ lw_tbl := List.mem_of_getElem? (i := 903) (by decide +kernel)
set_option maxRecDepth 20000 in
theorem zwe_X9_forget : Cond.selects yX9_forget.cls yX9_forget yX9_forget ∈ lw_tbl := List.mem_of_getElem? (i := 904) (by decide +kernel)
set_option maxRecDepth 20000 in
theorem zwc_X9_gives : Cond.code yX9_gives cX9_gives 5 (some .int) ∈ lw_tbl := List.mem_of_getElem? (i := 870) (by decide +kernel)
set_option maxRecDepth 20000 in
theorem zwi_X9_gives : Cond.instanceMethod yX9_gives ∈ lw_tbl := List.mem_of_getElem? (i := 869) (by decide +kernel)
set_option maxRecDepth 20000 in
theorem zwe_X9_gives : Cond.selects yX9_gives.cls yX9_gives yX9_gives ∈ lw_tbl := List.mem_of_getElem? (i := 33) (by decide +kernel)
set_option maxRecDepth 20000 in
theorem zwc_X9_goes : Cond.code yX9_goes cX9_goes 2 none ∈ lw_tbl := List.mem_of_getElem? (i := 858) (by decide +kernel)
set_option maxRecDepth 20000 in
theorem zwi_X9_goes : Cond.instanceMethod yX9_goes ∈ lw_tbl := List.mem_of_getElem? (i := 857) (by decide +kernel)
set_option maxRecDepth 20000 in
theorem zwe_X9_goes : Cond.selects yX9_goes.cls yX9_goes yX9_goes ∈ lw_tbl := List.mem_of_getElem? (i := 30) (by decide +kernel)
set_option maxRecDepth 20000 in
theorem zwc_X9_in : Cond.code yX9_in cX9_in 3 (some .boolean) ∈ lw_tbl := List.mem_of_getElem? (i := 778) (by decide +kernel)
set_option maxRecDepth 20000 in
theorem zws_X9_in : Cond.static yX9_in ∈ lw_tbl := List.mem_of_getElem? (i := 777) (by decide +kernel)
set_option maxRecDepth 20000 in
theorem zwc_X9_init : Cond.code yX9_init cX9_init 1 none ∈ lw_tbl := List.mem_of_getElem? (i := 684) (by decide +kernel)
set_option maxRecDepth 20000 in
theorem zwi_X9_init : Cond.instanceMethod yX9_init ∈ lw_tbl := List.mem_of_getElem? (i := 683) (by decide +kernel)
set_option maxRecDepth 20000 in
theorem zwc_X9_isPerson : Cond.code yX9_isPerson cX9_isPerson 2 (some .boolean) ∈ lw_tbl := List.mem_of_getElem? (i := 811) (by decide +kernel)
set_option maxRecDepth 20000 in
theorem zwi_X9_isPerson : Cond.instanceMethod yX9_isPerson ∈ lw_tbl := List.mem_of_getElem? (i := 810) (by decide +kernel)
set_option maxRecDepth 20000 in
theorem zwe_X9_isPerson : Cond.selects yX9_isPerson.cls yX9_isPerson yX9_isPerson ∈ lw_tbl := List.mem_of_getElem? (i := 23) (by decide +kernel)
set_option maxRecDepth 20000 in
theorem zwc_X9_isSo : Cond.code yX9_isSo cX9_isSo 4 (some .boolean) ∈ lw_tbl := List.mem_of_getElem? (i := 917) (by decide +kernel)
set_option maxRecDepth 20000 in
theorem zwi_X9_isSo : Cond.instanceMethod yX9_isSo ∈ lw_tbl := List.mem_of_getElem? (i := 916) (by decide +kernel)
set_option maxRecDepth 20000 in
theorem zwe_X9_isSo : Cond.selects yX9_isSo.cls yX9_isSo yX9_isSo ∈ lw_tbl := List.mem_of_getElem? (i := 38) (by decide +kernel)
set_option maxRecDepth 20000 in
theorem zwc_X9_isSpan : Cond.code yX9_isSpan cX9_isSpan 1 (some .boolean) ∈ lw_tbl := List.mem_of_getElem? (i := 830) (by decide +kernel)
set_option maxRecDepth 20000 in
theorem zws_X9_isSpan : Cond.static yX9_isSpan ∈ lw_tbl := List.mem_of_getElem? (i := 829) (by decide +kernel)
set_option maxRecDepth 20000 in
theorem zwc_X9_isWell : Cond.code yX9_isWell cX9_isWell 3 (some .boolean) ∈ lw_tbl := List.mem_of_getElem? (i := 799) (by decide +kernel)
set_option maxRecDepth 20000 in
theorem zwi_X9_isWell : Cond.instanceMethod yX9_isWell ∈ lw_tbl := List.mem_of_getElem? (i := 798) (by decide +kernel)
set_option maxRecDepth 20000 in
theorem zwe_X9_isWell : Cond.selects yX9_isWell.cls yX9_isWell yX9_isWell ∈ lw_tbl := List.mem_of_getElem? (i := 22) (by decide +kernel)
set_option maxRecDepth 20000 in
theorem zwc_X9_keep : Cond.code yX9_keep cX9_keep 2 (some .int) ∈ lw_tbl := List.mem_of_getElem? (i := 972) (by decide +kernel)
set_option maxRecDepth 20000 in
theorem zwi_X9_keep : Cond.instanceMethod yX9_keep ∈ lw_tbl := List.mem_of_getElem? (i := 970) (by decide +kernel)
set_option maxRecDepth 20000 in
theorem zwe_X9_keep : Cond.selects yX9_keep.cls yX9_keep yX9_keep ∈ lw_tbl := List.mem_of_getElem? (i := 971) (by decide +kernel)
set_option maxRecDepth 20000 in
theorem zwc_X9_lay : Cond.code yX9_lay cX9_lay 2 (some .int) ∈ lw_tbl := List.mem_of_getElem? (i := 803) (by decide +kernel)
set_option maxRecDepth 20000 in
theorem zwi_X9_lay : Cond.instanceMethod yX9_lay ∈ lw_tbl := List.mem_of_getElem? (i := 801) (by decide +kernel)
set_option maxRecDepth 20000 in
theorem zwe_X9_lay : Cond.selects yX9_lay.cls yX9_lay yX9_lay ∈ lw_tbl := List.mem_of_getElem? (i := 802) (by decide +kernel)
set_option maxRecDepth 20000 in
theorem zwc_X9_lend : Cond.code yX9_lend cX9_lend 5 (some .int) ∈ lw_tbl := List.mem_of_getElem? (i := 842) (by decide +kernel)
set_option maxRecDepth 20000 in
theorem zwi_X9_lend : Cond.instanceMethod yX9_lend ∈ lw_tbl := List.mem_of_getElem? (i := 840) (by decide +kernel)
set_option maxRecDepth 20000 in
theorem zwe_X9_lend : Cond.selects yX9_lend.cls yX9_lend yX9_lend ∈ lw_tbl := List.mem_of_getElem? (i := 841) (by decide +kernel)
set_option maxRecDepth 20000 in
theorem zwc_X9_lends : Cond.code yX9_lends cX9_lends 6 none ∈ lw_tbl := List.mem_of_getElem? (i := 850) (by decide +kernel)
set_option maxRecDepth 20000 in
theorem zwi_X9_lends : Cond.instanceMethod yX9_lends ∈ lw_tbl := List.mem_of_getElem? (i := 849) (by decide +kernel)
set_option maxRecDepth 20000 in
theorem zwe_X9_lends : Cond.selects yX9_lends.cls yX9_lends yX9_lends ∈ lw_tbl := List.mem_of_getElem? (i := 29) (by decide +kernel)
set_option maxRecDepth 20000 in
theorem zwc_X9_lesser : Cond.code yX9_lesser cX9_lesser 2 (some .int) ∈ lw_tbl := List.mem_of_getElem? (i := 873) (by decide +kernel)
set_option maxRecDepth 20000 in
theorem zws_X9_lesser : Cond.static yX9_lesser ∈ lw_tbl := List.mem_of_getElem? (i := 872) (by decide +kernel)
set_option maxRecDepth 20000 in
theorem zwc_X9_living : Cond.code yX9_living cX9_living 3 (some .int) ∈ lw_tbl := List.mem_of_getElem? (i := 881) (by decide +kernel)
set_option maxRecDepth 20000 in
theorem zwi_X9_living : Cond.instanceMethod yX9_living ∈ lw_tbl := List.mem_of_getElem? (i := 880) (by decide +kernel)
set_option maxRecDepth 20000 in
theorem zwe_X9_living : Cond.selects yX9_living.cls yX9_living yX9_living ∈ lw_tbl := List.mem_of_getElem? (i := 35) (by decide +kernel)
set_option maxRecDepth 20000 in
theorem zwc_X9_loan : Cond.code yX9_loan cX9_loan 3 (some .int) ∈ lw_tbl := List.mem_of_getElem? (i := 819) (by decide +kernel)
set_option maxRecDepth 20000 in
theorem zwi_X9_loan : Cond.instanceMethod yX9_loan ∈ lw_tbl := List.mem_of_getElem? (i := 817) (by decide +kernel)
set_option maxRecDepth 20000 in
theorem zwe_X9_loan : Cond.selects yX9_loan.cls yX9_loan yX9_loan ∈ lw_tbl := List.mem_of_getElem? (i := 818) (by decide +kernel)
set_option maxRecDepth 20000 in
theorem zwc_X9_mayAsk : Cond.code yX9_mayAsk cX9_mayAsk 5 (some .boolean) ∈ lw_tbl := List.mem_of_getElem? (i := 827) (by decide +kernel)
set_option maxRecDepth 20000 in
theorem zwi_X9_mayAsk : Cond.instanceMethod yX9_mayAsk ∈ lw_tbl := List.mem_of_getElem? (i := 826) (by decide +kernel)
set_option maxRecDepth 20000 in
theorem zwe_X9_mayAsk : Cond.selects yX9_mayAsk.cls yX9_mayAsk yX9_mayAsk ∈ lw_tbl := List.mem_of_getElem? (i := 25) (by decide +kernel)
set_option maxRecDepth 20000 in
theorem zwc_X9_notary : Cond.code yX9_notary cX9_notary 5 (some .int) ∈ lw_tbl := List.mem_of_getElem? (i := 823) (by decide +kernel)
set_option maxRecDepth 20000 in
theorem zwi_X9_notary : Cond.instanceMethod yX9_notary ∈ lw_tbl := List.mem_of_getElem? (i := 821) (by decide +kernel)
set_option maxRecDepth 20000 in
theorem zwe_X9_notary : Cond.selects yX9_notary.cls yX9_notary yX9_notary ∈ lw_tbl := List.mem_of_getElem? (i := 822) (by decide +kernel)
set_option maxRecDepth 20000 in
theorem zwc_X9_notes : Cond.code yX9_notes cX9_notes 2 none ∈ lw_tbl := List.mem_of_getElem? (i := 846) (by decide +kernel)
set_option maxRecDepth 20000 in
theorem zwi_X9_notes : Cond.instanceMethod yX9_notes ∈ lw_tbl := List.mem_of_getElem? (i := 845) (by decide +kernel)
set_option maxRecDepth 20000 in
theorem zwe_X9_notes : Cond.selects yX9_notes.cls yX9_notes yX9_notes ∈ lw_tbl := List.mem_of_getElem? (i := 28) (by decide +kernel)
set_option maxRecDepth 20000 in
theorem zwc_X9_owesAll : Cond.code yX9_owesAll cX9_owesAll 4 (some .int) ∈ lw_tbl := List.mem_of_getElem? (i := 815) (by decide +kernel)
set_option maxRecDepth 20000 in
theorem zwi_X9_owesAll : Cond.instanceMethod yX9_owesAll ∈ lw_tbl := List.mem_of_getElem? (i := 814) (by decide +kernel)
set_option maxRecDepth 20000 in
theorem zwe_X9_owesAll : Cond.selects yX9_owesAll.cls yX9_owesAll yX9_owesAll ∈ lw_tbl := List.mem_of_getElem? (i := 24) (by decide +kernel)
set_option maxRecDepth 20000 in
theorem zwc_X9_pays : Cond.code yX9_pays cX9_pays 8 none ∈ lw_tbl := List.mem_of_getElem? (i := 866) (by decide +kernel)
set_option maxRecDepth 20000 in
theorem zwi_X9_pays : Cond.instanceMethod yX9_pays ∈ lw_tbl := List.mem_of_getElem? (i := 865) (by decide +kernel)
set_option maxRecDepth 20000 in
theorem zwe_X9_pays : Cond.selects yX9_pays.cls yX9_pays yX9_pays ∈ lw_tbl := List.mem_of_getElem? (i := 32) (by decide +kernel)
set_option maxRecDepth 20000 in
theorem zwc_X9_person : Cond.code yX9_person cX9_person 3 (some .int) ∈ lw_tbl := List.mem_of_getElem? (i := 807) (by decide +kernel)
set_option maxRecDepth 20000 in
theorem zwi_X9_person : Cond.instanceMethod yX9_person ∈ lw_tbl := List.mem_of_getElem? (i := 805) (by decide +kernel)
set_option maxRecDepth 20000 in
theorem zwe_X9_person : Cond.selects yX9_person.cls yX9_person yX9_person ∈ lw_tbl := List.mem_of_getElem? (i := 806) (by decide +kernel)
set_option maxRecDepth 20000 in
theorem zwc_X9_run : Cond.code yX9_run cX9_run 5 (some .int) ∈ lw_tbl := List.mem_of_getElem? (i := 897) (by decide +kernel)
set_option maxRecDepth 20000 in
theorem zwi_X9_run : Cond.instanceMethod yX9_run ∈ lw_tbl := List.mem_of_getElem? (i := 895) (by decide +kernel)
set_option maxRecDepth 20000 in
theorem zwe_X9_run : Cond.selects yX9_run.cls yX9_run yX9_run ∈ lw_tbl := List.mem_of_getElem? (i := 896) (by decide +kernel)
set_option maxRecDepth 20000 in
theorem zwc_X9_runs : Cond.code yX9_runs cX9_runs 3 none ∈ lw_tbl := List.mem_of_getElem? (i := 953) (by decide +kernel)
set_option maxRecDepth 20000 in
theorem zwi_X9_runs : Cond.instanceMethod yX9_runs ∈ lw_tbl := List.mem_of_getElem? (i := 952) (by decide +kernel)
set_option maxRecDepth 20000 in
theorem zwe_X9_runs : Cond.selects yX9_runs.cls yX9_runs yX9_runs ∈ lw_tbl := List.mem_of_getElem? (i := 42) (by decide +kernel)
set_option maxRecDepth 20000 in
theorem zwc_X9_says : Cond.code yX9_says cX9_says 7 (some .boolean) ∈ lw_tbl := List.mem_of_getElem? (i := 834) (by decide +kernel)
set_option maxRecDepth 20000 in
theorem zwi_X9_says : Cond.instanceMethod yX9_says ∈ lw_tbl := List.mem_of_getElem? (i := 833) (by decide +kernel)
set_option maxRecDepth 20000 in
theorem zwe_X9_says : Cond.selects yX9_says.cls yX9_says yX9_says ∈ lw_tbl := List.mem_of_getElem? (i := 26) (by decide +kernel)
set_option maxRecDepth 20000 in
theorem zwc_X9_shares : Cond.code yX9_shares cX9_shares 6 (some .boolean) ∈ lw_tbl := List.mem_of_getElem? (i := 945) (by decide +kernel)
set_option maxRecDepth 20000 in
theorem zwi_X9_shares : Cond.instanceMethod yX9_shares ∈ lw_tbl := List.mem_of_getElem? (i := 944) (by decide +kernel)
set_option maxRecDepth 20000 in
theorem zwe_X9_shares : Cond.selects yX9_shares.cls yX9_shares yX9_shares ∈ lw_tbl := List.mem_of_getElem? (i := 41) (by decide +kernel)
set_option maxRecDepth 20000 in
theorem zwc_X9_span : Cond.code yX9_span cX9_span 3 (some .int) ∈ lw_tbl := List.mem_of_getElem? (i := 909) (by decide +kernel)
set_option maxRecDepth 20000 in
theorem zwi_X9_span : Cond.instanceMethod yX9_span ∈ lw_tbl := List.mem_of_getElem? (i := 907) (by decide +kernel)
set_option maxRecDepth 20000 in
theorem zwe_X9_span : Cond.selects yX9_span.cls yX9_span yX9_span ∈ lw_tbl := List.mem_of_getElem? (i := 908) (by decide +kernel)
set_option maxRecDepth 20000 in
theorem zwc_X9_spans : Cond.code yX9_spans cX9_spans 5 none ∈ lw_tbl := List.mem_of_getElem? (i := 913) (by decide +kernel)
set_option maxRecDepth 20000 in
theorem zwi_X9_spans : Cond.instanceMethod yX9_spans ∈ lw_tbl := List.mem_of_getElem? (i := 912) (by decide +kernel)
set_option maxRecDepth 20000 in
theorem zwe_X9_spans : Cond.selects yX9_spans.cls yX9_spans yX9_spans ∈ lw_tbl := List.mem_of_getElem? (i := 37) (by decide +kernel)
set_option maxRecDepth 20000 in
theorem zwc_X9_tell : Cond.code yX9_tell cX9_tell 5 (some .int) ∈ lw_tbl := List.mem_of_getElem? (i := 901) (by decide +kernel)
set_option maxRecDepth 20000 in
theorem zwi_X9_tell : Cond.instanceMethod yX9_tell ∈ lw_tbl := List.mem_of_getElem? (i := 899) (by decide +kernel)
set_option maxRecDepth 20000 in
theorem zwe_X9_tell : Cond.selects yX9_tell.cls yX9_tell yX9_tell ∈ lw_tbl := List.mem_of_getElem? (i := 900) (by decide +kernel)
set_option maxRecDepth 20000 in
theorem zwc_X9_undo : Cond.code yX9_undo cX9_undo 2 (some .int) ∈ lw_tbl := List.mem_of_getElem? (i := 885) (by decide +kernel)
set_option maxRecDepth 20000 in
theorem zwi_X9_undo : Cond.instanceMethod yX9_undo ∈ lw_tbl := List.mem_of_getElem? (i := 883) (by decide +kernel)
set_option maxRecDepth 20000 in
theorem zwe_X9_undo : Cond.selects yX9_undo.cls yX9_undo yX9_undo ∈ lw_tbl := List.mem_of_getElem? (i := 884) (by decide +kernel)
set_option maxRecDepth 20000 in
theorem zwc_X9_week : Cond.code yX9_week cX9_week 1 (some .int) ∈ lw_tbl := List.mem_of_getElem? (i := 854) (by decide +kernel)
set_option maxRecDepth 20000 in
theorem zwi_X9_week : Cond.instanceMethod yX9_week ∈ lw_tbl := List.mem_of_getElem? (i := 852) (by decide +kernel)
set_option maxRecDepth 20000 in
theorem zwe_X9_week : Cond.selects yX9_week.cls yX9_week yX9_week ∈ lw_tbl := List.mem_of_getElem? (i := 853) (by decide +kernel)
set_option maxRecDepth 20000 in
theorem zwc_X9_wipe : Cond.code yX9_wipe cX9_wipe 2 (some .int) ∈ lw_tbl := List.mem_of_getElem? (i := 783) (by decide +kernel)
set_option maxRecDepth 20000 in
theorem zwi_X9_wipe : Cond.instanceMethod yX9_wipe ∈ lw_tbl := List.mem_of_getElem? (i := 781) (by decide +kernel)
set_option maxRecDepth 20000 in
theorem zwe_X9_wipe : Cond.selects yX9_wipe.cls yX9_wipe yX9_wipe ∈ lw_tbl := List.mem_of_getElem? (i := 782) (by decide +kernel)
set_option maxRecDepth 20000 in
theorem zwc_X9_write : Cond.code yX9_write cX9_write 5 (some .int) ∈ lw_tbl := List.mem_of_getElem? (i := 775) (by decide +kernel)
set_option maxRecDepth 20000 in
theorem zwi_X9_write : Cond.instanceMethod yX9_write ∈ lw_tbl := List.mem_of_getElem? (i := 773) (by decide +kernel)
set_option maxRecDepth 20000 in
theorem zwe_X9_write : Cond.selects yX9_write.cls yX9_write yX9_write ∈ lw_tbl := List.mem_of_getElem? (i := 774) (by decide +kernel)
set_option maxRecDepth 20000 in
theorem zwl_8_28 : Cond.methodLink (zcn 8) 28 yX0_init ∈ lw_tbl := List.mem_of_getElem? (i := 123) (by decide +kernel)
set_option maxRecDepth 20000 in
theorem zwl_8_37 : Cond.methodLink (zcn 8) 37 yX7_init ∈ lw_tbl := List.mem_of_getElem? (i := 179) (by decide +kernel)
set_option maxRecDepth 20000 in
theorem zwl_8_47 : Cond.methodLink (zcn 8) 47 yX3_init ∈ lw_tbl := List.mem_of_getElem? (i := 199) (by decide +kernel)
set_option maxRecDepth 20000 in
theorem zwl_8_78 : Cond.methodLink (zcn 8) 78 yX4_clear ∈ lw_tbl := List.mem_of_getElem? (i := 271) (by decide +kernel)
set_option maxRecDepth 20000 in
theorem zwl_8_81 : Cond.methodLink (zcn 8) 81 yX4_addPerson ∈ lw_tbl := List.mem_of_getElem? (i := 275) (by decide +kernel)
set_option maxRecDepth 20000 in
theorem zwl_8_85 : Cond.methodLink (zcn 8) 85 yX0_open ∈ lw_tbl := List.mem_of_getElem? (i := 282) (by decide +kernel)
set_option maxRecDepth 20000 in
theorem zwl_8_88 : Cond.methodLink (zcn 8) 88 yX8_within ∈ lw_tbl := List.mem_of_getElem? (i := 324) (by decide +kernel)
set_option maxRecDepth 20000 in
theorem zwl_8_96 : Cond.methodLink (zcn 8) 96 yX5_append ∈ lw_tbl := List.mem_of_getElem? (i := 325) (by decide +kernel)
set_option maxRecDepth 20000 in
theorem zwl_8_100 : Cond.methodLink (zcn 8) 100 yX4_readFrom ∈ lw_tbl := List.mem_of_getElem? (i := 337) (by decide +kernel)
set_option maxRecDepth 20000 in
theorem zwl_8_107 : Cond.methodLink (zcn 8) 107 yX4_copyFrom ∈ lw_tbl := List.mem_of_getElem? (i := 357) (by decide +kernel)
set_option maxRecDepth 20000 in
theorem zwl_8_114 : Cond.methodLink (zcn 8) 114 yX8_isPerson ∈ lw_tbl := List.mem_of_getElem? (i := 368) (by decide +kernel)
set_option maxRecDepth 20000 in
theorem zwl_8_124 : Cond.methodLink (zcn 8) 124 yX0_owedToAll ∈ lw_tbl := List.mem_of_getElem? (i := 372) (by decide +kernel)
set_option maxRecDepth 20000 in
theorem zwl_8_143 : Cond.methodLink (zcn 8) 143 yX0_isFit ∈ lw_tbl := List.mem_of_getElem? (i := 384) (by decide +kernel)
set_option maxRecDepth 20000 in
theorem zwl_8_147 : Cond.methodLink (zcn 8) 147 yX0_isGranted ∈ lw_tbl := List.mem_of_getElem? (i := 396) (by decide +kernel)
set_option maxRecDepth 20000 in
theorem zwl_8_150 : Cond.methodLink (zcn 8) 150 yX0_hindrance ∈ lw_tbl := List.mem_of_getElem? (i := 416) (by decide +kernel)
set_option maxRecDepth 20000 in
theorem zwl_8_154 : Cond.methodLink (zcn 8) 154 yX3_put ∈ lw_tbl := List.mem_of_getElem? (i := 422) (by decide +kernel)
set_option maxRecDepth 20000 in
theorem zwl_8_158 : Cond.methodLink (zcn 8) 158 yX0_addLoan ∈ lw_tbl := List.mem_of_getElem? (i := 435) (by decide +kernel)
set_option maxRecDepth 20000 in
theorem zwl_8_162 : Cond.methodLink (zcn 8) 162 yX0_pass ∈ lw_tbl := List.mem_of_getElem? (i := 443) (by decide +kernel)
set_option maxRecDepth 20000 in
theorem zwl_8_166 : Cond.methodLink (zcn 8) 166 yX0_living ∈ lw_tbl := List.mem_of_getElem? (i := 479) (by decide +kernel)
set_option maxRecDepth 20000 in
theorem zwl_8_170 : Cond.methodLink (zcn 8) 170 yX3_takeInto ∈ lw_tbl := List.mem_of_getElem? (i := 487) (by decide +kernel)
set_option maxRecDepth 20000 in
theorem zwl_8_174 : Cond.methodLink (zcn 8) 174 yX7_start ∈ lw_tbl := List.mem_of_getElem? (i := 496) (by decide +kernel)
set_option maxRecDepth 20000 in
theorem zwl_8_177 : Cond.methodLink (zcn 8) 177 yX7_advance ∈ lw_tbl := List.mem_of_getElem? (i := 507) (by decide +kernel)
set_option maxRecDepth 20000 in
theorem zwl_8_185 : Cond.methodLink (zcn 8) 185 yX8_isLoanOf ∈ lw_tbl := List.mem_of_getElem? (i := 530) (by decide +kernel)
set_option maxRecDepth 20000 in
theorem zwl_8_189 : Cond.methodLink (zcn 8) 189 yX4_interestOn ∈ lw_tbl := List.mem_of_getElem? (i := 531) (by decide +kernel)
set_option maxRecDepth 20000 in
theorem zwl_8_192 : Cond.methodLink (zcn 8) 192 yX6_add ∈ lw_tbl := List.mem_of_getElem? (i := 532) (by decide +kernel)
set_option maxRecDepth 20000 in
theorem zwl_8_196 : Cond.methodLink (zcn 8) 196 yX6_least ∈ lw_tbl := List.mem_of_getElem? (i := 544) (by decide +kernel)
set_option maxRecDepth 20000 in
theorem zwl_8_199 : Cond.methodLink (zcn 8) 199 yX6_greatest ∈ lw_tbl := List.mem_of_getElem? (i := 549) (by decide +kernel)
set_option maxRecDepth 20000 in
theorem zwl_8_202 : Cond.methodLink (zcn 8) 202 yX6_bestDue ∈ lw_tbl := List.mem_of_getElem? (i := 558) (by decide +kernel)
set_option maxRecDepth 20000 in
theorem zwl_8_206 : Cond.methodLink (zcn 8) 206 yX6_untrueOf ∈ lw_tbl := List.mem_of_getElem? (i := 569) (by decide +kernel)
set_option maxRecDepth 20000 in
theorem zwl_8_210 : Cond.methodLink (zcn 8) 210 yX2_readFrom ∈ lw_tbl := List.mem_of_getElem? (i := 577) (by decide +kernel)
set_option maxRecDepth 20000 in
theorem zwl_8_212 : Cond.methodLink (zcn 8) 212 yX2_clearAll ∈ lw_tbl := List.mem_of_getElem? (i := 581) (by decide +kernel)
set_option maxRecDepth 20000 in
theorem zwl_8_219 : Cond.methodLink (zcn 8) 219 yX0_isAlive ∈ lw_tbl := List.mem_of_getElem? (i := 608) (by decide +kernel)
set_option maxRecDepth 20000 in
theorem zwl_8_222 : Cond.methodLink (zcn 8) 222 yX1_share ∈ lw_tbl := List.mem_of_getElem? (i := 609) (by decide +kernel)
set_option maxRecDepth 20000 in
theorem zwl_8_226 : Cond.methodLink (zcn 8) 226 yX1_takeAllOfOne ∈ lw_tbl := List.mem_of_getElem? (i := 618) (by decide +kernel)
set_option maxRecDepth 20000 in
theorem zwl_8_233 : Cond.methodLink (zcn 8) 233 yX7_startWithout ∈ lw_tbl := List.mem_of_getElem? (i := 626) (by decide +kernel)
set_option maxRecDepth 20000 in
theorem zwl_8_236 : Cond.methodLink (zcn 8) 236 yX7_loansPaidLessThan ∈ lw_tbl := List.mem_of_getElem? (i := 631) (by decide +kernel)
set_option maxRecDepth 20000 in
theorem zwl_8_240 : Cond.methodLink (zcn 8) 240 yX7_firstDeadEarlierThan ∈ lw_tbl := List.mem_of_getElem? (i := 635) (by decide +kernel)
set_option maxRecDepth 20000 in
theorem zwl_8_244 : Cond.methodLink (zcn 8) 244 yX8_rowsOf ∈ lw_tbl := List.mem_of_getElem? (i := 643) (by decide +kernel)
set_option maxRecDepth 20000 in
theorem zwl_8_247 : Cond.methodLink (zcn 8) 247 yX8_numberOfFirstRow ∈ lw_tbl := List.mem_of_getElem? (i := 646) (by decide +kernel)
set_option maxRecDepth 20000 in
theorem zwl_8_250 : Cond.methodLink (zcn 8) 250 yX8_lendByDraw ∈ lw_tbl := List.mem_of_getElem? (i := 653) (by decide +kernel)
set_option maxRecDepth 20000 in
theorem zwl_8_254 : Cond.methodLink (zcn 8) 254 yX0_lostByAll ∈ lw_tbl := List.mem_of_getElem? (i := 664) (by decide +kernel)
set_option maxRecDepth 20000 in
theorem zwl_8_260 : Cond.methodLink (zcn 8) 260 yX8_draw ∈ lw_tbl := List.mem_of_getElem? (i := 657) (by decide +kernel)
set_option maxRecDepth 20000 in
theorem zwl_10_9 : Cond.methodLink (zcn 10) 9 yX8_init ∈ lw_tbl := List.mem_of_getElem? (i := 58) (by decide +kernel)
set_option maxRecDepth 20000 in
theorem zwl_10_12 : Cond.methodLink (zcn 10) 12 yX9_init ∈ lw_tbl := List.mem_of_getElem? (i := 682) (by decide +kernel)
set_option maxRecDepth 20000 in
theorem zwl_10_15 : Cond.methodLink (zcn 10) 15 yX8_write ∈ lw_tbl := List.mem_of_getElem? (i := 320) (by decide +kernel)
set_option maxRecDepth 20000 in
theorem zwl_10_19 : Cond.methodLink (zcn 10) 19 yX9_write ∈ lw_tbl := List.mem_of_getElem? (i := 772) (by decide +kernel)
set_option maxRecDepth 20000 in
theorem zwl_10_20 : Cond.methodLink (zcn 10) 20 yX8_wipe ∈ lw_tbl := List.mem_of_getElem? (i := 329) (by decide +kernel)
set_option maxRecDepth 20000 in
theorem zwl_10_24 : Cond.methodLink (zcn 10) 24 yX9_wipe ∈ lw_tbl := List.mem_of_getElem? (i := 780) (by decide +kernel)
set_option maxRecDepth 20000 in
theorem zwl_10_25 : Cond.methodLink (zcn 10) 25 yX8_fault ∈ lw_tbl := List.mem_of_getElem? (i := 333) (by decide +kernel)
set_option maxRecDepth 20000 in
theorem zwl_10_28 : Cond.methodLink (zcn 10) 28 yX9_fault ∈ lw_tbl := List.mem_of_getElem? (i := 784) (by decide +kernel)
set_option maxRecDepth 20000 in
theorem zwl_10_29 : Cond.methodLink (zcn 10) 29 yX8_lay ∈ lw_tbl := List.mem_of_getElem? (i := 353) (by decide +kernel)
set_option maxRecDepth 20000 in
theorem zwl_10_32 : Cond.methodLink (zcn 10) 32 yX9_lay ∈ lw_tbl := List.mem_of_getElem? (i := 800) (by decide +kernel)
set_option maxRecDepth 20000 in
theorem zwl_10_33 : Cond.methodLink (zcn 10) 33 yX8_person ∈ lw_tbl := List.mem_of_getElem? (i := 364) (by decide +kernel)
set_option maxRecDepth 20000 in
theorem zwl_10_37 : Cond.methodLink (zcn 10) 37 yX9_person ∈ lw_tbl := List.mem_of_getElem? (i := 804) (by decide +kernel)
set_option maxRecDepth 20000 in
theorem zwl_10_38 : Cond.methodLink (zcn 10) 38 yX8_loan ∈ lw_tbl := List.mem_of_getElem? (i := 376) (by decide +kernel)
set_option maxRecDepth 20000 in
theorem zwl_10_41 : Cond.methodLink (zcn 10) 41 yX9_loan ∈ lw_tbl := List.mem_of_getElem? (i := 816) (by decide +kernel)
set_option maxRecDepth 20000 in
theorem zwl_10_42 : Cond.methodLink (zcn 10) 42 yX8_notary ∈ lw_tbl := List.mem_of_getElem? (i := 380) (by decide +kernel)
set_option maxRecDepth 20000 in
theorem zwl_10_46 : Cond.methodLink (zcn 10) 46 yX9_notary ∈ lw_tbl := List.mem_of_getElem? (i := 820) (by decide +kernel)
set_option maxRecDepth 20000 in
theorem zwl_10_47 : Cond.methodLink (zcn 10) 47 yX8_lend ∈ lw_tbl := List.mem_of_getElem? (i := 412) (by decide +kernel)
set_option maxRecDepth 20000 in
theorem zwl_10_50 : Cond.methodLink (zcn 10) 50 yX9_lend ∈ lw_tbl := List.mem_of_getElem? (i := 839) (by decide +kernel)
set_option maxRecDepth 20000 in
theorem zwl_10_51 : Cond.methodLink (zcn 10) 51 yX8_week ∈ lw_tbl := List.mem_of_getElem? (i := 439) (by decide +kernel)
set_option maxRecDepth 20000 in
theorem zwl_10_54 : Cond.methodLink (zcn 10) 54 yX9_week ∈ lw_tbl := List.mem_of_getElem? (i := 851) (by decide +kernel)
set_option maxRecDepth 20000 in
theorem zwl_10_55 : Cond.methodLink (zcn 10) 55 yX8_undo ∈ lw_tbl := List.mem_of_getElem? (i := 483) (by decide +kernel)
set_option maxRecDepth 20000 in
theorem zwl_10_58 : Cond.methodLink (zcn 10) 58 yX9_undo ∈ lw_tbl := List.mem_of_getElem? (i := 882) (by decide +kernel)
set_option maxRecDepth 20000 in
theorem zwl_10_59 : Cond.methodLink (zcn 10) 59 yX8_dies ∈ lw_tbl := List.mem_of_getElem? (i := 492) (by decide +kernel)
set_option maxRecDepth 20000 in
theorem zwl_10_63 : Cond.methodLink (zcn 10) 63 yX9_dies ∈ lw_tbl := List.mem_of_getElem? (i := 886) (by decide +kernel)
set_option maxRecDepth 20000 in
theorem zwl_10_64 : Cond.methodLink (zcn 10) 64 yX8_run ∈ lw_tbl := List.mem_of_getElem? (i := 522) (by decide +kernel)
set_option maxRecDepth 20000 in
theorem zwl_10_68 : Cond.methodLink (zcn 10) 68 yX9_run ∈ lw_tbl := List.mem_of_getElem? (i := 894) (by decide +kernel)
set_option maxRecDepth 20000 in
theorem zwl_10_69 : Cond.methodLink (zcn 10) 69 yX8_tell ∈ lw_tbl := List.mem_of_getElem? (i := 526) (by decide +kernel)
set_option maxRecDepth 20000 in
theorem zwl_10_73 : Cond.methodLink (zcn 10) 73 yX9_tell ∈ lw_tbl := List.mem_of_getElem? (i := 898) (by decide +kernel)
set_option maxRecDepth 20000 in
theorem zwl_10_74 : Cond.methodLink (zcn 10) 74 yX8_forget ∈ lw_tbl := List.mem_of_getElem? (i := 536) (by decide +kernel)
set_option maxRecDepth 20000 in
theorem zwl_10_77 : Cond.methodLink (zcn 10) 77 yX9_forget ∈ lw_tbl := List.mem_of_getElem? (i := 902) (by decide +kernel)
set_option maxRecDepth 20000 in
theorem zwl_10_78 : Cond.methodLink (zcn 10) 78 yX8_span ∈ lw_tbl := List.mem_of_getElem? (i := 540) (by decide +kernel)
set_option maxRecDepth 20000 in
theorem zwl_10_81 : Cond.methodLink (zcn 10) 81 yX9_span ∈ lw_tbl := List.mem_of_getElem? (i := 906) (by decide +kernel)
set_option maxRecDepth 20000 in
theorem zwl_10_82 : Cond.methodLink (zcn 10) 82 yX8_ask ∈ lw_tbl := List.mem_of_getElem? (i := 554) (by decide +kernel)
set_option maxRecDepth 20000 in
theorem zwl_10_85 : Cond.methodLink (zcn 10) 85 yX9_ask ∈ lw_tbl := List.mem_of_getElem? (i := 918) (by decide +kernel)
set_option maxRecDepth 20000 in
theorem zwl_10_86 : Cond.methodLink (zcn 10) 86 yX8_bribed ∈ lw_tbl := List.mem_of_getElem? (i := 565) (by decide +kernel)
set_option maxRecDepth 20000 in
theorem zwl_10_89 : Cond.methodLink (zcn 10) 89 yX9_bribed ∈ lw_tbl := List.mem_of_getElem? (i := 922) (by decide +kernel)
set_option maxRecDepth 20000 in
theorem zwl_10_90 : Cond.methodLink (zcn 10) 90 yX8_cleared ∈ lw_tbl := List.mem_of_getElem? (i := 573) (by decide +kernel)
set_option maxRecDepth 20000 in
theorem zwl_10_93 : Cond.methodLink (zcn 10) 93 yX9_cleared ∈ lw_tbl := List.mem_of_getElem? (i := 926) (by decide +kernel)
set_option maxRecDepth 20000 in
theorem zwl_10_94 : Cond.methodLink (zcn 10) 94 yX8_child ∈ lw_tbl := List.mem_of_getElem? (i := 604) (by decide +kernel)
set_option maxRecDepth 20000 in
theorem zwl_10_97 : Cond.methodLink (zcn 10) 97 yX9_child ∈ lw_tbl := List.mem_of_getElem? (i := 938) (by decide +kernel)
set_option maxRecDepth 20000 in
theorem zwl_10_98 : Cond.methodLink (zcn 10) 98 yX8_falls ∈ lw_tbl := List.mem_of_getElem? (i := 622) (by decide +kernel)
set_option maxRecDepth 20000 in
theorem zwl_10_101 : Cond.methodLink (zcn 10) 101 yX9_falls ∈ lw_tbl := List.mem_of_getElem? (i := 946) (by decide +kernel)
set_option maxRecDepth 20000 in
theorem zwl_10_102 : Cond.methodLink (zcn 10) 102 yX8_burned ∈ lw_tbl := List.mem_of_getElem? (i := 639) (by decide +kernel)
set_option maxRecDepth 20000 in
theorem zwl_10_105 : Cond.methodLink (zcn 10) 105 yX9_burned ∈ lw_tbl := List.mem_of_getElem? (i := 954) (by decide +kernel)
set_option maxRecDepth 20000 in
theorem zwl_10_106 : Cond.methodLink (zcn 10) 106 yX8_drawn ∈ lw_tbl := List.mem_of_getElem? (i := 649) (by decide +kernel)
set_option maxRecDepth 20000 in
theorem zwl_10_109 : Cond.methodLink (zcn 10) 109 yX9_drawn ∈ lw_tbl := List.mem_of_getElem? (i := 958) (by decide +kernel)
set_option maxRecDepth 20000 in
theorem zwl_10_110 : Cond.methodLink (zcn 10) 110 yX8_keep ∈ lw_tbl := List.mem_of_getElem? (i := 668) (by decide +kernel)
set_option maxRecDepth 20000 in
theorem zwl_10_113 : Cond.methodLink (zcn 10) 113 yX9_keep ∈ lw_tbl := List.mem_of_getElem? (i := 969) (by decide +kernel)
set_option maxRecDepth 20000 in
theorem zwl_10_114 : Cond.methodLink (zcn 10) 114 yX8_back ∈ lw_tbl := List.mem_of_getElem? (i := 672) (by decide +kernel)
set_option maxRecDepth 20000 in
theorem zwl_10_117 : Cond.methodLink (zcn 10) 117 yX9_back ∈ lw_tbl := List.mem_of_getElem? (i := 973) (by decide +kernel)
set_option maxRecDepth 20000 in
theorem zwl_10_118 : Cond.methodLink (zcn 10) 118 yX8_count ∈ lw_tbl := List.mem_of_getElem? (i := 676) (by decide +kernel)
set_option maxRecDepth 20000 in
theorem zwl_10_121 : Cond.methodLink (zcn 10) 121 yX9_count ∈ lw_tbl := List.mem_of_getElem? (i := 977) (by decide +kernel)
set_option maxRecDepth 20000 in
theorem zwl_3_23 : Cond.methodLink (zcn 3) 23 yX0_init ∈ lw_tbl := List.mem_of_getElem? (i := 208) (by decide +kernel)
set_option maxRecDepth 20000 in
theorem zwl_3_30 : Cond.methodLink (zcn 3) 30 yX3_moveLowestUp ∈ lw_tbl := List.mem_of_getElem? (i := 426) (by decide +kernel)
set_option maxRecDepth 20000 in
theorem zwl_3_33 : Cond.methodLink (zcn 3) 33 yX0_copyFrom ∈ lw_tbl := List.mem_of_getElem? (i := 430) (by decide +kernel)
set_option maxRecDepth 20000 in
theorem zwl_2_45 : Cond.methodLink (zcn 2) 45 yX2_findShortest ∈ lw_tbl := List.mem_of_getElem? (i := 585) (by decide +kernel)
set_option maxRecDepth 20000 in
theorem zwl_2_49 : Cond.methodLink (zcn 2) 49 yX2_clear ∈ lw_tbl := List.mem_of_getElem? (i := 598) (by decide +kernel)
set_option maxRecDepth 20000 in
theorem zwl_2_53 : Cond.methodLink (zcn 2) 53 yX2_closes ∈ lw_tbl := List.mem_of_getElem? (i := 589) (by decide +kernel)
set_option maxRecDepth 20000 in
theorem zwl_2_61 : Cond.methodLink (zcn 2) 61 yX2_isPlaced ∈ lw_tbl := List.mem_of_getElem? (i := 594) (by decide +kernel)
set_option maxRecDepth 20000 in
theorem zwl_0_65 : Cond.methodLink (zcn 0) 65 yX0_isAlive ∈ lw_tbl := List.mem_of_getElem? (i := 388) (by decide +kernel)
set_option maxRecDepth 20000 in
theorem zwl_0_76 : Cond.methodLink (zcn 0) 76 yX0_dueFrom ∈ lw_tbl := List.mem_of_getElem? (i := 400) (by decide +kernel)
set_option maxRecDepth 20000 in
theorem zwl_0_80 : Cond.methodLink (zcn 0) 80 yX0_dueOn ∈ lw_tbl := List.mem_of_getElem? (i := 404) (by decide +kernel)
set_option maxRecDepth 20000 in
theorem zwl_0_84 : Cond.methodLink (zcn 0) 84 yX0_isFit ∈ lw_tbl := List.mem_of_getElem? (i := 420) (by decide +kernel)
set_option maxRecDepth 20000 in
theorem zwl_0_88 : Cond.methodLink (zcn 0) 88 yX0_isGranted ∈ lw_tbl := List.mem_of_getElem? (i := 421) (by decide +kernel)
set_option maxRecDepth 20000 in
theorem zwl_0_91 : Cond.methodLink (zcn 0) 91 yX4_interestOn ∈ lw_tbl := List.mem_of_getElem? (i := 408) (by decide +kernel)
set_option maxRecDepth 20000 in
theorem zwl_0_102 : Cond.methodLink (zcn 0) 102 yX0_payThoseDue ∈ lw_tbl := List.mem_of_getElem? (i := 448) (by decide +kernel)
set_option maxRecDepth 20000 in
theorem zwl_0_105 : Cond.methodLink (zcn 0) 105 yX0_dropThoseDue ∈ lw_tbl := List.mem_of_getElem? (i := 475) (by decide +kernel)
set_option maxRecDepth 20000 in
theorem zwl_0_111 : Cond.methodLink (zcn 0) 111 yX0_greatestDue ∈ lw_tbl := List.mem_of_getElem? (i := 452) (by decide +kernel)
set_option maxRecDepth 20000 in
theorem zwl_0_115 : Cond.methodLink (zcn 0) 115 yX0_pay ∈ lw_tbl := List.mem_of_getElem? (i := 460) (by decide +kernel)
set_option maxRecDepth 20000 in
theorem zwl_0_119 : Cond.methodLink (zcn 0) 119 yX0_isDue ∈ lw_tbl := List.mem_of_getElem? (i := 456) (by decide +kernel)
set_option maxRecDepth 20000 in
theorem zwl_0_122 : Cond.methodLink (zcn 0) 122 yX0_give ∈ lw_tbl := List.mem_of_getElem? (i := 464) (by decide +kernel)
set_option maxRecDepth 20000 in
theorem zwl_0_126 : Cond.methodLink (zcn 0) 126 yX0_lowestOther ∈ lw_tbl := List.mem_of_getElem? (i := 471) (by decide +kernel)
set_option maxRecDepth 20000 in
theorem zwl_9_65 : Cond.methodLink (zcn 9) 65 yX9_begins ∈ lw_tbl := List.mem_of_getElem? (i := 686) (by decide +kernel)
set_option maxRecDepth 20000 in
theorem zwl_9_71 : Cond.methodLink (zcn 9) 71 yX9_in ∈ lw_tbl := List.mem_of_getElem? (i := 776) (by decide +kernel)
set_option maxRecDepth 20000 in
theorem zwl_9_80 : Cond.methodLink (zcn 9) 80 yX9_byteAt ∈ lw_tbl := List.mem_of_getElem? (i := 792) (by decide +kernel)
set_option maxRecDepth 20000 in
theorem zwl_9_84 : Cond.methodLink (zcn 9) 84 yX9_isWell ∈ lw_tbl := List.mem_of_getElem? (i := 796) (by decide +kernel)
set_option maxRecDepth 20000 in
theorem zwl_9_88 : Cond.methodLink (zcn 9) 88 yX9_faultOf ∈ lw_tbl := List.mem_of_getElem? (i := 788) (by decide +kernel)
set_option maxRecDepth 20000 in
theorem zwl_9_107 : Cond.methodLink (zcn 9) 107 yX9_isPerson ∈ lw_tbl := List.mem_of_getElem? (i := 808) (by decide +kernel)
set_option maxRecDepth 20000 in
theorem zwl_9_111 : Cond.methodLink (zcn 9) 111 yX9_owesAll ∈ lw_tbl := List.mem_of_getElem? (i := 812) (by decide +kernel)
set_option maxRecDepth 20000 in
theorem zwl_9_114 : Cond.methodLink (zcn 9) 114 yX9_isSpan ∈ lw_tbl := List.mem_of_getElem? (i := 828) (by decide +kernel)
set_option maxRecDepth 20000 in
theorem zwl_9_117 : Cond.methodLink (zcn 9) 117 yX9_dueOf ∈ lw_tbl := List.mem_of_getElem? (i := 835) (by decide +kernel)
set_option maxRecDepth 20000 in
theorem zwl_9_120 : Cond.methodLink (zcn 9) 120 yX9_mayAsk ∈ lw_tbl := List.mem_of_getElem? (i := 824) (by decide +kernel)
set_option maxRecDepth 20000 in
theorem zwl_9_124 : Cond.methodLink (zcn 9) 124 yX9_says ∈ lw_tbl := List.mem_of_getElem? (i := 831) (by decide +kernel)
set_option maxRecDepth 20000 in
theorem zwl_9_127 : Cond.methodLink (zcn 9) 127 yX9_notes ∈ lw_tbl := List.mem_of_getElem? (i := 843) (by decide +kernel)
set_option maxRecDepth 20000 in
theorem zwl_9_130 : Cond.methodLink (zcn 9) 130 yX9_lends ∈ lw_tbl := List.mem_of_getElem? (i := 847) (by decide +kernel)
set_option maxRecDepth 20000 in
theorem zwl_9_134 : Cond.methodLink (zcn 9) 134 yX9_lesser ∈ lw_tbl := List.mem_of_getElem? (i := 871) (by decide +kernel)
set_option maxRecDepth 20000 in
theorem zwl_9_138 : Cond.methodLink (zcn 9) 138 yX9_gives ∈ lw_tbl := List.mem_of_getElem? (i := 867) (by decide +kernel)
set_option maxRecDepth 20000 in
theorem zwl_9_142 : Cond.methodLink (zcn 9) 142 yX9_dueNow ∈ lw_tbl := List.mem_of_getElem? (i := 859) (by decide +kernel)
set_option maxRecDepth 20000 in
theorem zwl_9_146 : Cond.methodLink (zcn 9) 146 yX9_pays ∈ lw_tbl := List.mem_of_getElem? (i := 863) (by decide +kernel)
set_option maxRecDepth 20000 in
theorem zwl_9_150 : Cond.methodLink (zcn 9) 150 yX9_drops ∈ lw_tbl := List.mem_of_getElem? (i := 874) (by decide +kernel)
set_option maxRecDepth 20000 in
theorem zwl_9_153 : Cond.methodLink (zcn 9) 153 yX9_goes ∈ lw_tbl := List.mem_of_getElem? (i := 855) (by decide +kernel)
set_option maxRecDepth 20000 in
theorem zwl_9_156 : Cond.methodLink (zcn 9) 156 yX9_living ∈ lw_tbl := List.mem_of_getElem? (i := 878) (by decide +kernel)
set_option maxRecDepth 20000 in
theorem zwl_9_159 : Cond.methodLink (zcn 9) 159 yX9_aside ∈ lw_tbl := List.mem_of_getElem? (i := 890) (by decide +kernel)
set_option maxRecDepth 20000 in
theorem zwl_9_169 : Cond.methodLink (zcn 9) 169 yX9_isSo ∈ lw_tbl := List.mem_of_getElem? (i := 914) (by decide +kernel)
set_option maxRecDepth 20000 in
theorem zwl_9_172 : Cond.methodLink (zcn 9) 172 yX9_spans ∈ lw_tbl := List.mem_of_getElem? (i := 910) (by decide +kernel)
set_option maxRecDepth 20000 in
theorem zwl_9_175 : Cond.methodLink (zcn 9) 175 yX9_findsRing ∈ lw_tbl := List.mem_of_getElem? (i := 934) (by decide +kernel)
set_option maxRecDepth 20000 in
theorem zwl_9_178 : Cond.methodLink (zcn 9) 178 yX9_clears ∈ lw_tbl := List.mem_of_getElem? (i := 930) (by decide +kernel)
set_option maxRecDepth 20000 in
theorem zwl_9_181 : Cond.methodLink (zcn 9) 181 yX9_shares ∈ lw_tbl := List.mem_of_getElem? (i := 942) (by decide +kernel)
set_option maxRecDepth 20000 in
theorem zwl_9_184 : Cond.methodLink (zcn 9) 184 yX9_runs ∈ lw_tbl := List.mem_of_getElem? (i := 950) (by decide +kernel)
set_option maxRecDepth 20000 in
theorem zwl_9_195 : Cond.methodLink (zcn 9) 195 yX9_draw ∈ lw_tbl := List.mem_of_getElem? (i := 962) (by decide +kernel)
set_option maxRecDepth 20000 in
theorem zwl_6_35 : Cond.methodLink (zcn 6) 35 yX6_least ∈ lw_tbl := List.mem_of_getElem? (i := 562) (by decide +kernel)
set_option maxRecDepth 20000 in
theorem zwl_6_39 : Cond.methodLink (zcn 6) 39 yX6_greatest ∈ lw_tbl := List.mem_of_getElem? (i := 563) (by decide +kernel)
set_option maxRecDepth 20000 in
theorem zwl_7_17 : Cond.methodLink (zcn 7) 17 yX0_init ∈ lw_tbl := List.mem_of_getElem? (i := 184) (by decide +kernel)
set_option maxRecDepth 20000 in
theorem zwl_7_24 : Cond.methodLink (zcn 7) 24 yX0_copyFrom ∈ lw_tbl := List.mem_of_getElem? (i := 500) (by decide +kernel)
set_option maxRecDepth 20000 in
theorem zwl_7_28 : Cond.methodLink (zcn 7) 28 yX0_markLoans ∈ lw_tbl := List.mem_of_getElem? (i := 501) (by decide +kernel)
set_option maxRecDepth 20000 in
theorem zwl_7_35 : Cond.methodLink (zcn 7) 35 yX0_isAlive ∈ lw_tbl := List.mem_of_getElem? (i := 505) (by decide +kernel)
set_option maxRecDepth 20000 in
theorem zwl_7_40 : Cond.methodLink (zcn 7) 40 yX7_start ∈ lw_tbl := List.mem_of_getElem? (i := 630) (by decide +kernel)
set_option maxRecDepth 20000 in
theorem zwl_7_46 : Cond.methodLink (zcn 7) 46 yX0_weeksToNextDue ∈ lw_tbl := List.mem_of_getElem? (i := 511) (by decide +kernel)
set_option maxRecDepth 20000 in
theorem zwl_7_56 : Cond.methodLink (zcn 7) 56 yX7_noteDeaths ∈ lw_tbl := List.mem_of_getElem? (i := 516) (by decide +kernel)
set_option maxRecDepth 20000 in
theorem zwl_7_60 : Cond.methodLink (zcn 7) 60 yX0_pass ∈ lw_tbl := List.mem_of_getElem? (i := 520) (by decide +kernel)
set_option maxRecDepth 20000 in
theorem zwl_4_34 : Cond.methodLink (zcn 4) 34 yX4_clear ∈ lw_tbl := List.mem_of_getElem? (i := 341) (by decide +kernel)
set_option maxRecDepth 20000 in
theorem zwl_4_42 : Cond.methodLink (zcn 4) 42 yX5_readItem ∈ lw_tbl := List.mem_of_getElem? (i := 342) (by decide +kernel)
set_option maxRecDepth 20000 in
theorem zwl_4_52 : Cond.methodLink (zcn 4) 52 yX4_accept ∈ lw_tbl := List.mem_of_getElem? (i := 347) (by decide +kernel)
set_option maxRecDepth 20000 in
theorem zwl_4_65 : Cond.methodLink (zcn 4) 65 yX4_addPerson ∈ lw_tbl := List.mem_of_getElem? (i := 351) (by decide +kernel)
set_option maxRecDepth 20000 in
theorem zwl_1_18 : Cond.methodLink (zcn 1) 18 yX0_isAlive ∈ lw_tbl := List.mem_of_getElem? (i := 613) (by decide +kernel)
set_option maxRecDepth 20000 in
theorem zwl_1_27 : Cond.methodLink (zcn 1) 27 yX1_addToGreatestRest ∈ lw_tbl := List.mem_of_getElem? (i := 614) (by decide +kernel)
set_option maxRecDepth 20000 in
theorem zm_A : ∀ c ∈ List.range 11, ∀ e ∈ zmta c, (e.2.2.1.1 < 10 ∧ e.2.2.1.2.1.cls = zcn e.2.2.1.1) ∧ (e.2.2.1.2.2.2.1 ≤ 40 ∧ 1 ≤ e.2.2.1.2.2.2.2.2) := by decide +kernel
set_option maxRecDepth 20000 in
theorem zm_C : ∀ c ∈ List.range 11, ∀ e ∈ zmta c, plainName e.2.2.1.2.1.cls = true ∧ e.2.2.1.2.1.cls ≠ "java/lang/invoke/MethodHandle" ∧ e.2.2.1.2.1.cls ≠ "java/lang/invoke/VarHandle" := by decide +kernel
set_option maxRecDepth 20000 in
theorem zm_D : ∀ c ∈ List.range 11, ∀ e ∈ zmta c, (parseMethodDescriptor e.2.2.1.2.1.desc).map (fun d => d.parameters.length) = some (if e.2.1 = 1 ∨ e.2.1 = 2 then e.2.2.2 else e.2.2.2 - 1) ∧ (e.2.1 = 0 ∨ e.2.1 = 3 ∨ e.2.1 = 4 → 1 ≤ e.2.2.2) := by decide +kernel
set_option maxRecDepth 20000 in
theorem zm_G : ∀ c ∈ List.range 11, ∀ e ∈ zmta c, e.2.1 = 2 → (zcn c, e.1, e.2.2.1.2.1, "YearsLent") ∈ znst := by decide +kernel
set_option maxRecDepth 20000 in
theorem zm_I : ∀ c ∈ List.range 11, ∀ e ∈ zmta c, e.2.1 = 4 → (zcn c, e.1, e.2.2.1.2.1, "YearsLent") ∈ znst := by decide +kernel
set_option maxRecDepth 20000 in
theorem zm_J : ∀ c ∈ List.range 11, ∀ e ∈ zmta c, e.2.1 = 3 ∨ e.2.1 = 4 → e.2.2.1.2.1.name = "<init>" ∧ e.2.2.1.2.2.2.2.1 = none := by decide +kernel
set_option maxRecDepth 20000 in
theorem zm_K : ∀ c ∈ List.range 11, ∀ e ∈ zmta c, e.2.1 = 1 → e.2.2.1.2.1.cls = zcn c := by decide +kernel
/-- the words of a call -/
def zmw (c : Nat) (e : Nat × Nat × zM × Nat) : Prop := Cond.code e.2.2.1.2.1 e.2.2.1.2.2.1 e.2.2.1.2.2.2.1 e.2.2.1.2.2.2.2.1 ∈ lw_tbl ∧ (e.2.1 = 0 ∨ e.2.1 = 1 ∨ e.2.1 = 3 → Cond.methodLink (zcn c) e.1 e.2.2.1.2.1 ∈ lw_tbl) ∧ (e.2.1 = 0 ∨ e.2.1 = 3 ∨ e.2.1 = 4 → Cond.instanceMethod e.2.2.1.2.1 ∈ lw_tbl) ∧ (e.2.1 = 0 → Cond.selects e.2.2.1.2.1.cls e.2.2.1.2.1 e.2.2.1.2.1 ∈ lw_tbl) ∧ (e.2.1 = 1 ∨ e.2.1 = 2 → Cond.static e.2.2.1.2.1 ∈ lw_tbl)
theorem zmw0 {c i na : Nat} {m : zM} (h1 : Cond.code m.2.1 m.2.2.1 m.2.2.2.1 m.2.2.2.2.1 ∈ lw_tbl) (h2 : Cond.methodLink (zcn c) i m.2.1 ∈ lw_tbl) (h3 : Cond.instanceMethod m.2.1 ∈ lw_tbl) (h4 : Cond.selects m.2.1.cls m.2.1 m.2.1 ∈ lw_tbl) : zmw c (i, 0, m, na) := ⟨h1, fun _ => h2, fun _ => h3, fun _ => h4, fun h => by simp at h⟩
theorem zmw1 {c i na : Nat} {m : zM} (h1 : Cond.code m.2.1 m.2.2.1 m.2.2.2.1 m.2.2.2.2.1 ∈ lw_tbl) (h2 : Cond.methodLink (zcn c) i m.2.1 ∈ lw_tbl) (h3 : Cond.static m.2.1 ∈ lw_tbl) : zmw c (i, 1, m, na) := ⟨h1, fun _ => h2, fun h => by simp at h, fun h => by simp at h, fun _ => h3⟩
theorem zmw2 {c i na : Nat} {m : zM} (h1 : Cond.code m.2.1 m.2.2.1 m.2.2.2.1 m.2.2.2.2.1 ∈ lw_tbl) (h3 : Cond.static m.2.1 ∈ lw_tbl) : zmw c (i, 2, m, na) := ⟨h1, fun h => by simp at h, fun h => by simp at h, fun h => by simp at h, fun _ => h3⟩
theorem zmw3 {c i na : Nat} {m : zM} (h1 : Cond.code m.2.1 m.2.2.1 m.2.2.2.1 m.2.2.2.2.1 ∈ lw_tbl) (h2 : Cond.methodLink (zcn c) i m.2.1 ∈ lw_tbl) (h3 : Cond.instanceMethod m.2.1 ∈ lw_tbl) : zmw c (i, 3, m, na) := ⟨h1, fun _ => h2, fun _ => h3, fun h => by simp at h, fun h => by simp at h⟩
theorem zmw4 {c i na : Nat} {m : zM} (h1 : Cond.code m.2.1 m.2.2.1 m.2.2.2.1 m.2.2.2.2.1 ∈ lw_tbl) (h3 : Cond.instanceMethod m.2.1 ∈ lw_tbl) : zmw c (i, 4, m, na) := ⟨h1, fun h => by simp at h, fun _ => h3, fun h => by simp at h, fun h => by simp at h⟩
theorem zme_0_61 : zmw 0 (61, 2, qX8_within, 3) := zmw2 zwc_X8_within zws_X8_within
theorem zme_0_65 : zmw 0 (65, 0, qX0_isAlive, 2) := zmw0 zwc_X0_isAlive zwl_0_65 zwi_X0_isAlive zwe_X0_isAlive
theorem zme_0_69 : zmw 0 (69, 2, qX8_isLoanOf, 2) := zmw2 zwc_X8_isLoanOf zws_X8_isLoanOf
theorem zme_0_76 : zmw 0 (76, 0, qX0_dueFrom, 3) := zmw0 zwc_X0_dueFrom zwl_0_76 zwi_X0_dueFrom zwe_X0_dueFrom
theorem zme_0_80 : zmw 0 (80, 0, qX0_dueOn, 2) := zmw0 zwc_X0_dueOn zwl_0_80 zwi_X0_dueOn zwe_X0_dueOn
theorem zme_0_84 : zmw 0 (84, 0, qX0_isFit, 5) := zmw0 zwc_X0_isFit zwl_0_84 zwi_X0_isFit zwe_X0_isFit
theorem zme_0_88 : zmw 0 (88, 0, qX0_isGranted, 5) := zmw0 zwc_X0_isGranted zwl_0_88 zwi_X0_isGranted zwe_X0_isGranted
theorem zme_0_91 : zmw 0 (91, 0, qX4_interestOn, 2) := zmw0 zwc_X4_interestOn zwl_0_91 zwi_X4_interestOn zwe_X4_interestOn
theorem zme_0_102 : zmw 0 (102, 0, qX0_payThoseDue, 1) := zmw0 zwc_X0_payThoseDue zwl_0_102 zwi_X0_payThoseDue zwe_X0_payThoseDue
theorem zme_0_105 : zmw 0 (105, 0, qX0_dropThoseDue, 1) := zmw0 zwc_X0_dropThoseDue zwl_0_105 zwi_X0_dropThoseDue zwe_X0_dropThoseDue
theorem zme_0_111 : zmw 0 (111, 0, qX0_greatestDue, 1) := zmw0 zwc_X0_greatestDue zwl_0_111 zwi_X0_greatestDue zwe_X0_greatestDue
theorem zme_0_115 : zmw 0 (115, 0, qX0_pay, 2) := zmw0 zwc_X0_pay zwl_0_115 zwi_X0_pay zwe_X0_pay
theorem zme_0_119 : zmw 0 (119, 0, qX0_isDue, 2) := zmw0 zwc_X0_isDue zwl_0_119 zwi_X0_isDue zwe_X0_isDue
theorem zme_0_122 : zmw 0 (122, 0, qX0_give, 4) := zmw0 zwc_X0_give zwl_0_122 zwi_X0_give zwe_X0_give
theorem zme_0_126 : zmw 0 (126, 0, qX0_lowestOther, 3) := zmw0 zwc_X0_lowestOther zwl_0_126 zwi_X0_lowestOther zwe_X0_lowestOther
theorem zmz_0 : ∀ e ∈ zmt0, zmw 0 e := List.forall_mem_cons.mpr ⟨zme_0_61, List.forall_mem_cons.mpr ⟨zme_0_65, List.forall_mem_cons.mpr ⟨zme_0_69, List.forall_mem_cons.mpr ⟨zme_0_76, List.forall_mem_cons.mpr ⟨zme_0_80, List.forall_mem_cons.mpr ⟨zme_0_84, List.forall_mem_cons.mpr ⟨zme_0_88, List.forall_mem_cons.mpr ⟨zme_0_91, List.forall_mem_cons.mpr ⟨zme_0_102, List.forall_mem_cons.mpr ⟨zme_0_105, List.forall_mem_cons.mpr ⟨zme_0_111, List.forall_mem_cons.mpr ⟨zme_0_115, List.forall_mem_cons.mpr ⟨zme_0_119, List.forall_mem_cons.mpr ⟨zme_0_122, List.forall_mem_cons.mpr ⟨zme_0_126, fun _ h => absurd h List.not_mem_nil⟩⟩⟩⟩⟩⟩⟩⟩⟩⟩⟩⟩⟩⟩⟩
theorem zme_1_18 : zmw 1 (18, 0, qX0_isAlive, 2) := zmw0 zwc_X0_isAlive zwl_1_18 zwi_X0_isAlive zwe_X0_isAlive
theorem zme_1_27 : zmw 1 (27, 0, qX1_addToGreatestRest, 1) := zmw0 zwc_X1_addToGreatestRest zwl_1_27 zwi_X1_addToGreatestRest zwe_X1_addToGreatestRest
theorem zmz_1 : ∀ e ∈ zmt1, zmw 1 e := List.forall_mem_cons.mpr ⟨zme_1_18, List.forall_mem_cons.mpr ⟨zme_1_27, fun _ h => absurd h List.not_mem_nil⟩⟩
theorem zme_2_45 : zmw 2 (45, 0, qX2_findShortest, 1) := zmw0 zwc_X2_findShortest zwl_2_45 zwi_X2_findShortest zwe_X2_findShortest
theorem zme_2_49 : zmw 2 (49, 0, qX2_clear, 2) := zmw0 zwc_X2_clear zwl_2_49 zwi_X2_clear zwe_X2_clear
theorem zme_2_53 : zmw 2 (53, 0, qX2_closes, 3) := zmw0 zwc_X2_closes zwl_2_53 zwi_X2_closes zwe_X2_closes
theorem zme_2_57 : zmw 2 (57, 2, qX8_within, 3) := zmw2 zwc_X8_within zws_X8_within
theorem zme_2_61 : zmw 2 (61, 0, qX2_isPlaced, 3) := zmw0 zwc_X2_isPlaced zwl_2_61 zwi_X2_isPlaced zwe_X2_isPlaced
theorem zmz_2 : ∀ e ∈ zmt2, zmw 2 e := List.forall_mem_cons.mpr ⟨zme_2_45, List.forall_mem_cons.mpr ⟨zme_2_49, List.forall_mem_cons.mpr ⟨zme_2_53, List.forall_mem_cons.mpr ⟨zme_2_57, List.forall_mem_cons.mpr ⟨zme_2_61, fun _ h => absurd h List.not_mem_nil⟩⟩⟩⟩⟩
theorem zme_3_23 : zmw 3 (23, 3, qX0_init, 2) := zmw3 zwc_X0_init zwl_3_23 zwi_X0_init
theorem zme_3_30 : zmw 3 (30, 0, qX3_moveLowestUp, 1) := zmw0 zwc_X3_moveLowestUp zwl_3_30 zwi_X3_moveLowestUp zwe_X3_moveLowestUp
theorem zme_3_33 : zmw 3 (33, 0, qX0_copyFrom, 2) := zmw0 zwc_X0_copyFrom zwl_3_33 zwi_X0_copyFrom zwe_X0_copyFrom
theorem zme_3_37 : zmw 3 (37, 2, qX8_within, 3) := zmw2 zwc_X8_within zws_X8_within
theorem zmz_3 : ∀ e ∈ zmt3, zmw 3 e := List.forall_mem_cons.mpr ⟨zme_3_23, List.forall_mem_cons.mpr ⟨zme_3_30, List.forall_mem_cons.mpr ⟨zme_3_33, List.forall_mem_cons.mpr ⟨zme_3_37, fun _ h => absurd h List.not_mem_nil⟩⟩⟩⟩
theorem zme_4_34 : zmw 4 (34, 0, qX4_clear, 1) := zmw0 zwc_X4_clear zwl_4_34 zwi_X4_clear zwe_X4_clear
theorem zme_4_42 : zmw 4 (42, 0, qX5_readItem, 2) := zmw0 zwc_X5_readItem zwl_4_42 zwi_X5_readItem zwe_X5_readItem
theorem zme_4_52 : zmw 4 (52, 0, qX4_accept, 3) := zmw0 zwc_X4_accept zwl_4_52 zwi_X4_accept zwe_X4_accept
theorem zme_4_65 : zmw 4 (65, 0, qX4_addPerson, 2) := zmw0 zwc_X4_addPerson zwl_4_65 zwi_X4_addPerson zwe_X4_addPerson
theorem zme_4_68 : zmw 4 (68, 2, qX8_within, 3) := zmw2 zwc_X8_within zws_X8_within
theorem zmz_4 : ∀ e ∈ zmt4, zmw 4 e := List.forall_mem_cons.mpr ⟨zme_4_34, List.forall_mem_cons.mpr ⟨zme_4_42, List.forall_mem_cons.mpr ⟨zme_4_52, List.forall_mem_cons.mpr ⟨zme_4_65, List.forall_mem_cons.mpr ⟨zme_4_68, fun _ h => absurd h List.not_mem_nil⟩⟩⟩⟩⟩
theorem zme_5_19 : zmw 5 (19, 2, qX8_within, 3) := zmw2 zwc_X8_within zws_X8_within
theorem zmz_5 : ∀ e ∈ zmt5, zmw 5 e := List.forall_mem_cons.mpr ⟨zme_5_19, fun _ h => absurd h List.not_mem_nil⟩
theorem zme_6_35 : zmw 6 (35, 0, qX6_least, 2) := zmw0 zwc_X6_least zwl_6_35 zwi_X6_least zwe_X6_least
theorem zme_6_39 : zmw 6 (39, 0, qX6_greatest, 2) := zmw0 zwc_X6_greatest zwl_6_39 zwi_X6_greatest zwe_X6_greatest
theorem zmz_6 : ∀ e ∈ zmt6, zmw 6 e := List.forall_mem_cons.mpr ⟨zme_6_35, List.forall_mem_cons.mpr ⟨zme_6_39, fun _ h => absurd h List.not_mem_nil⟩⟩
theorem zme_7_17 : zmw 7 (17, 3, qX0_init, 2) := zmw3 zwc_X0_init zwl_7_17 zwi_X0_init
theorem zme_7_24 : zmw 7 (24, 0, qX0_copyFrom, 2) := zmw0 zwc_X0_copyFrom zwl_7_24 zwi_X0_copyFrom zwe_X0_copyFrom
theorem zme_7_28 : zmw 7 (28, 0, qX0_markLoans, 1) := zmw0 zwc_X0_markLoans zwl_7_28 zwi_X0_markLoans zwe_X0_markLoans
theorem zme_7_35 : zmw 7 (35, 0, qX0_isAlive, 2) := zmw0 zwc_X0_isAlive zwl_7_35 zwi_X0_isAlive zwe_X0_isAlive
theorem zme_7_40 : zmw 7 (40, 0, qX7_start, 2) := zmw0 zwc_X7_start zwl_7_40 zwi_X7_start zwe_X7_start
theorem zme_7_46 : zmw 7 (46, 0, qX0_weeksToNextDue, 2) := zmw0 zwc_X0_weeksToNextDue zwl_7_46 zwi_X0_weeksToNextDue zwe_X0_weeksToNextDue
theorem zme_7_56 : zmw 7 (56, 0, qX7_noteDeaths, 2) := zmw0 zwc_X7_noteDeaths zwl_7_56 zwi_X7_noteDeaths zwe_X7_noteDeaths
theorem zme_7_60 : zmw 7 (60, 0, qX0_pass, 2) := zmw0 zwc_X0_pass zwl_7_60 zwi_X0_pass zwe_X0_pass
theorem zmz_7 : ∀ e ∈ zmt7, zmw 7 e := List.forall_mem_cons.mpr ⟨zme_7_17, List.forall_mem_cons.mpr ⟨zme_7_24, List.forall_mem_cons.mpr ⟨zme_7_28, List.forall_mem_cons.mpr ⟨zme_7_35, List.forall_mem_cons.mpr ⟨zme_7_40, List.forall_mem_cons.mpr ⟨zme_7_46, List.forall_mem_cons.mpr ⟨zme_7_56, List.forall_mem_cons.mpr ⟨zme_7_60, fun _ h => absurd h List.not_mem_nil⟩⟩⟩⟩⟩⟩⟩⟩
theorem zme_8_9 : zmw 8 (9, 4, qX5_init, 1) := zmw4 zwc_X5_init zwi_X5_init
theorem zme_8_18 : zmw 8 (18, 4, qX4_init, 1) := zmw4 zwc_X4_init zwi_X4_init
theorem zme_8_28 : zmw 8 (28, 3, qX0_init, 2) := zmw3 zwc_X0_init zwl_8_28 zwi_X0_init
theorem zme_8_37 : zmw 8 (37, 3, qX7_init, 2) := zmw3 zwc_X7_init zwl_8_37 zwi_X7_init
theorem zme_8_47 : zmw 8 (47, 3, qX3_init, 3) := zmw3 zwc_X3_init zwl_8_47 zwi_X3_init
theorem zme_8_59 : zmw 8 (59, 4, qX6_init, 1) := zmw4 zwc_X6_init zwi_X6_init
theorem zme_8_66 : zmw 8 (66, 4, qX2_init, 1) := zmw4 zwc_X2_init zwi_X2_init
theorem zme_8_73 : zmw 8 (73, 4, qX1_init, 1) := zmw4 zwc_X1_init zwi_X1_init
theorem zme_8_78 : zmw 8 (78, 0, qX4_clear, 1) := zmw0 zwc_X4_clear zwl_8_78 zwi_X4_clear zwe_X4_clear
theorem zme_8_81 : zmw 8 (81, 0, qX4_addPerson, 2) := zmw0 zwc_X4_addPerson zwl_8_81 zwi_X4_addPerson zwe_X4_addPerson
theorem zme_8_85 : zmw 8 (85, 0, qX0_open, 1) := zmw0 zwc_X0_open zwl_8_85 zwi_X0_open zwe_X0_open
theorem zme_8_88 : zmw 8 (88, 1, qX8_within, 3) := zmw1 zwc_X8_within zwl_8_88 zws_X8_within
theorem zme_8_96 : zmw 8 (96, 0, qX5_append, 3) := zmw0 zwc_X5_append zwl_8_96 zwi_X5_append zwe_X5_append
theorem zme_8_100 : zmw 8 (100, 0, qX4_readFrom, 2) := zmw0 zwc_X4_readFrom zwl_8_100 zwi_X4_readFrom zwe_X4_readFrom
theorem zme_8_107 : zmw 8 (107, 0, qX4_copyFrom, 2) := zmw0 zwc_X4_copyFrom zwl_8_107 zwi_X4_copyFrom zwe_X4_copyFrom
theorem zme_8_114 : zmw 8 (114, 0, qX8_isPerson, 2) := zmw0 zwc_X8_isPerson zwl_8_114 zwi_X8_isPerson zwe_X8_isPerson
theorem zme_8_124 : zmw 8 (124, 0, qX0_owedToAll, 2) := zmw0 zwc_X0_owedToAll zwl_8_124 zwi_X0_owedToAll zwe_X0_owedToAll
theorem zme_8_143 : zmw 8 (143, 0, qX0_isFit, 5) := zmw0 zwc_X0_isFit zwl_8_143 zwi_X0_isFit zwe_X0_isFit
theorem zme_8_147 : zmw 8 (147, 0, qX0_isGranted, 5) := zmw0 zwc_X0_isGranted zwl_8_147 zwi_X0_isGranted zwe_X0_isGranted
theorem zme_8_150 : zmw 8 (150, 0, qX0_hindrance, 5) := zmw0 zwc_X0_hindrance zwl_8_150 zwi_X0_hindrance zwe_X0_hindrance
theorem zme_8_154 : zmw 8 (154, 0, qX3_put, 2) := zmw0 zwc_X3_put zwl_8_154 zwi_X3_put zwe_X3_put
theorem zme_8_158 : zmw 8 (158, 0, qX0_addLoan, 5) := zmw0 zwc_X0_addLoan zwl_8_158 zwi_X0_addLoan zwe_X0_addLoan
theorem zme_8_162 : zmw 8 (162, 0, qX0_pass, 2) := zmw0 zwc_X0_pass zwl_8_162 zwi_X0_pass zwe_X0_pass
theorem zme_8_166 : zmw 8 (166, 0, qX0_living, 1) := zmw0 zwc_X0_living zwl_8_166 zwi_X0_living zwe_X0_living
theorem zme_8_170 : zmw 8 (170, 0, qX3_takeInto, 2) := zmw0 zwc_X3_takeInto zwl_8_170 zwi_X3_takeInto zwe_X3_takeInto
theorem zme_8_174 : zmw 8 (174, 0, qX7_start, 2) := zmw0 zwc_X7_start zwl_8_174 zwi_X7_start zwe_X7_start
theorem zme_8_177 : zmw 8 (177, 0, qX7_advance, 2) := zmw0 zwc_X7_advance zwl_8_177 zwi_X7_advance zwe_X7_advance
theorem zme_8_185 : zmw 8 (185, 1, qX8_isLoanOf, 2) := zmw1 zwc_X8_isLoanOf zwl_8_185 zws_X8_isLoanOf
theorem zme_8_189 : zmw 8 (189, 0, qX4_interestOn, 2) := zmw0 zwc_X4_interestOn zwl_8_189 zwi_X4_interestOn zwe_X4_interestOn
theorem zme_8_192 : zmw 8 (192, 0, qX6_add, 4) := zmw0 zwc_X6_add zwl_8_192 zwi_X6_add zwe_X6_add
theorem zme_8_196 : zmw 8 (196, 0, qX6_least, 2) := zmw0 zwc_X6_least zwl_8_196 zwi_X6_least zwe_X6_least
theorem zme_8_199 : zmw 8 (199, 0, qX6_greatest, 2) := zmw0 zwc_X6_greatest zwl_8_199 zwi_X6_greatest zwe_X6_greatest
theorem zme_8_202 : zmw 8 (202, 0, qX6_bestDue, 3) := zmw0 zwc_X6_bestDue zwl_8_202 zwi_X6_bestDue zwe_X6_bestDue
theorem zme_8_206 : zmw 8 (206, 0, qX6_untrueOf, 2) := zmw0 zwc_X6_untrueOf zwl_8_206 zwi_X6_untrueOf zwe_X6_untrueOf
theorem zme_8_210 : zmw 8 (210, 0, qX2_readFrom, 2) := zmw0 zwc_X2_readFrom zwl_8_210 zwi_X2_readFrom zwe_X2_readFrom
theorem zme_8_212 : zmw 8 (212, 0, qX2_clearAll, 1) := zmw0 zwc_X2_clearAll zwl_8_212 zwi_X2_clearAll zwe_X2_clearAll
theorem zme_8_219 : zmw 8 (219, 0, qX0_isAlive, 2) := zmw0 zwc_X0_isAlive zwl_8_219 zwi_X0_isAlive zwe_X0_isAlive
theorem zme_8_222 : zmw 8 (222, 0, qX1_share, 3) := zmw0 zwc_X1_share zwl_8_222 zwi_X1_share zwe_X1_share
theorem zme_8_226 : zmw 8 (226, 0, qX1_takeAllOfOne, 2) := zmw0 zwc_X1_takeAllOfOne zwl_8_226 zwi_X1_takeAllOfOne zwe_X1_takeAllOfOne
theorem zme_8_233 : zmw 8 (233, 0, qX7_startWithout, 3) := zmw0 zwc_X7_startWithout zwl_8_233 zwi_X7_startWithout zwe_X7_startWithout
theorem zme_8_236 : zmw 8 (236, 0, qX7_loansPaidLessThan, 2) := zmw0 zwc_X7_loansPaidLessThan zwl_8_236 zwi_X7_loansPaidLessThan zwe_X7_loansPaidLessThan
theorem zme_8_240 : zmw 8 (240, 0, qX7_firstDeadEarlierThan, 3) := zmw0 zwc_X7_firstDeadEarlierThan zwl_8_240 zwi_X7_firstDeadEarlierThan zwe_X7_firstDeadEarlierThan
theorem zme_8_244 : zmw 8 (244, 1, qX8_rowsOf, 4) := zmw1 zwc_X8_rowsOf zwl_8_244 zws_X8_rowsOf
theorem zme_8_247 : zmw 8 (247, 1, qX8_numberOfFirstRow, 4) := zmw1 zwc_X8_numberOfFirstRow zwl_8_247 zws_X8_numberOfFirstRow
theorem zme_8_250 : zmw 8 (250, 0, qX8_lendByDraw, 4) := zmw0 zwc_X8_lendByDraw zwl_8_250 zwi_X8_lendByDraw zwe_X8_lendByDraw
theorem zme_8_254 : zmw 8 (254, 0, qX0_lostByAll, 1) := zmw0 zwc_X0_lostByAll zwl_8_254 zwi_X0_lostByAll zwe_X0_lostByAll
theorem zme_8_260 : zmw 8 (260, 1, qX8_draw, 3) := zmw1 zwc_X8_draw zwl_8_260 zws_X8_draw
theorem zmz_8 : ∀ e ∈ zmt8, zmw 8 e := List.forall_mem_cons.mpr ⟨zme_8_9, List.forall_mem_cons.mpr ⟨zme_8_18, List.forall_mem_cons.mpr ⟨zme_8_28, List.forall_mem_cons.mpr ⟨zme_8_37, List.forall_mem_cons.mpr ⟨zme_8_47, List.forall_mem_cons.mpr ⟨zme_8_59, List.forall_mem_cons.mpr ⟨zme_8_66, List.forall_mem_cons.mpr ⟨zme_8_73, List.forall_mem_cons.mpr ⟨zme_8_78, List.forall_mem_cons.mpr ⟨zme_8_81, List.forall_mem_cons.mpr ⟨zme_8_85, List.forall_mem_cons.mpr ⟨zme_8_88, List.forall_mem_cons.mpr ⟨zme_8_96, List.forall_mem_cons.mpr ⟨zme_8_100, List.forall_mem_cons.mpr ⟨zme_8_107, List.forall_mem_cons.mpr ⟨zme_8_114, List.forall_mem_cons.mpr ⟨zme_8_124, List.forall_mem_cons.mpr ⟨zme_8_143, List.forall_mem_cons.mpr ⟨zme_8_147, List.forall_mem_cons.mpr ⟨zme_8_150, List.forall_mem_cons.mpr ⟨zme_8_154, List.forall_mem_cons.mpr ⟨zme_8_158, List.forall_mem_cons.mpr ⟨zme_8_162, List.forall_mem_cons.mpr ⟨zme_8_166, List.forall_mem_cons.mpr ⟨zme_8_170, List.forall_mem_cons.mpr ⟨zme_8_174, List.forall_mem_cons.mpr ⟨zme_8_177, List.forall_mem_cons.mpr ⟨zme_8_185, List.forall_mem_cons.mpr ⟨zme_8_189, List.forall_mem_cons.mpr ⟨zme_8_192, List.forall_mem_cons.mpr ⟨zme_8_196, List.forall_mem_cons.mpr ⟨zme_8_199, List.forall_mem_cons.mpr ⟨zme_8_202, List.forall_mem_cons.mpr ⟨zme_8_206, List.forall_mem_cons.mpr ⟨zme_8_210, List.forall_mem_cons.mpr ⟨zme_8_212, List.forall_mem_cons.mpr ⟨zme_8_219, List.forall_mem_cons.mpr ⟨zme_8_222, List.forall_mem_cons.mpr ⟨zme_8_226, List.forall_mem_cons.mpr ⟨zme_8_233, List.forall_mem_cons.mpr ⟨zme_8_236, List.forall_mem_cons.mpr ⟨zme_8_240, List.forall_mem_cons.mpr ⟨zme_8_244, List.forall_mem_cons.mpr ⟨zme_8_247, List.forall_mem_cons.mpr ⟨zme_8_250, List.forall_mem_cons.mpr ⟨zme_8_254, List.forall_mem_cons.mpr ⟨zme_8_260, fun _ h => absurd h List.not_mem_nil⟩⟩⟩⟩⟩⟩⟩⟩⟩⟩⟩⟩⟩⟩⟩⟩⟩⟩⟩⟩⟩⟩⟩⟩⟩⟩⟩⟩⟩⟩⟩⟩⟩⟩⟩⟩⟩⟩⟩⟩⟩⟩⟩⟩⟩⟩⟩
theorem zme_9_65 : zmw 9 (65, 0, qX9_begins, 1) := zmw0 zwc_X9_begins zwl_9_65 zwi_X9_begins zwe_X9_begins
theorem zme_9_71 : zmw 9 (71, 1, qX9_in, 3) := zmw1 zwc_X9_in zwl_9_71 zws_X9_in
theorem zme_9_80 : zmw 9 (80, 0, qX9_byteAt, 2) := zmw0 zwc_X9_byteAt zwl_9_80 zwi_X9_byteAt zwe_X9_byteAt
theorem zme_9_84 : zmw 9 (84, 0, qX9_isWell, 3) := zmw0 zwc_X9_isWell zwl_9_84 zwi_X9_isWell zwe_X9_isWell
theorem zme_9_88 : zmw 9 (88, 0, qX9_faultOf, 1) := zmw0 zwc_X9_faultOf zwl_9_88 zwi_X9_faultOf zwe_X9_faultOf
theorem zme_9_107 : zmw 9 (107, 0, qX9_isPerson, 2) := zmw0 zwc_X9_isPerson zwl_9_107 zwi_X9_isPerson zwe_X9_isPerson
theorem zme_9_111 : zmw 9 (111, 0, qX9_owesAll, 2) := zmw0 zwc_X9_owesAll zwl_9_111 zwi_X9_owesAll zwe_X9_owesAll
theorem zme_9_114 : zmw 9 (114, 1, qX9_isSpan, 1) := zmw1 zwc_X9_isSpan zwl_9_114 zws_X9_isSpan
theorem zme_9_117 : zmw 9 (117, 0, qX9_dueOf, 2) := zmw0 zwc_X9_dueOf zwl_9_117 zwi_X9_dueOf zwe_X9_dueOf
theorem zme_9_120 : zmw 9 (120, 0, qX9_mayAsk, 5) := zmw0 zwc_X9_mayAsk zwl_9_120 zwi_X9_mayAsk zwe_X9_mayAsk
theorem zme_9_124 : zmw 9 (124, 0, qX9_says, 5) := zmw0 zwc_X9_says zwl_9_124 zwi_X9_says zwe_X9_says
theorem zme_9_127 : zmw 9 (127, 0, qX9_notes, 1) := zmw0 zwc_X9_notes zwl_9_127 zwi_X9_notes zwe_X9_notes
theorem zme_9_130 : zmw 9 (130, 0, qX9_lends, 5) := zmw0 zwc_X9_lends zwl_9_130 zwi_X9_lends zwe_X9_lends
theorem zme_9_134 : zmw 9 (134, 1, qX9_lesser, 2) := zmw1 zwc_X9_lesser zwl_9_134 zws_X9_lesser
theorem zme_9_138 : zmw 9 (138, 0, qX9_gives, 4) := zmw0 zwc_X9_gives zwl_9_138 zwi_X9_gives zwe_X9_gives
theorem zme_9_142 : zmw 9 (142, 0, qX9_dueNow, 2) := zmw0 zwc_X9_dueNow zwl_9_142 zwi_X9_dueNow zwe_X9_dueNow
theorem zme_9_146 : zmw 9 (146, 0, qX9_pays, 2) := zmw0 zwc_X9_pays zwl_9_146 zwi_X9_pays zwe_X9_pays
theorem zme_9_150 : zmw 9 (150, 0, qX9_drops, 2) := zmw0 zwc_X9_drops zwl_9_150 zwi_X9_drops zwe_X9_drops
theorem zme_9_153 : zmw 9 (153, 0, qX9_goes, 1) := zmw0 zwc_X9_goes zwl_9_153 zwi_X9_goes zwe_X9_goes
theorem zme_9_156 : zmw 9 (156, 0, qX9_living, 1) := zmw0 zwc_X9_living zwl_9_156 zwi_X9_living zwe_X9_living
theorem zme_9_159 : zmw 9 (159, 0, qX9_aside, 2) := zmw0 zwc_X9_aside zwl_9_159 zwi_X9_aside zwe_X9_aside
theorem zme_9_169 : zmw 9 (169, 0, qX9_isSo, 3) := zmw0 zwc_X9_isSo zwl_9_169 zwi_X9_isSo zwe_X9_isSo
theorem zme_9_172 : zmw 9 (172, 0, qX9_spans, 2) := zmw0 zwc_X9_spans zwl_9_172 zwi_X9_spans zwe_X9_spans
theorem zme_9_175 : zmw 9 (175, 0, qX9_findsRing, 2) := zmw0 zwc_X9_findsRing zwl_9_175 zwi_X9_findsRing zwe_X9_findsRing
theorem zme_9_178 : zmw 9 (178, 0, qX9_clears, 1) := zmw0 zwc_X9_clears zwl_9_178 zwi_X9_clears zwe_X9_clears
theorem zme_9_181 : zmw 9 (181, 0, qX9_shares, 2) := zmw0 zwc_X9_shares zwl_9_181 zwi_X9_shares zwe_X9_shares
theorem zme_9_184 : zmw 9 (184, 0, qX9_runs, 1) := zmw0 zwc_X9_runs zwl_9_184 zwi_X9_runs zwe_X9_runs
theorem zme_9_195 : zmw 9 (195, 1, qX9_draw, 3) := zmw1 zwc_X9_draw zwl_9_195 zws_X9_draw
theorem zmz_9 : ∀ e ∈ zmt9, zmw 9 e := List.forall_mem_cons.mpr ⟨zme_9_65, List.forall_mem_cons.mpr ⟨zme_9_71, List.forall_mem_cons.mpr ⟨zme_9_80, List.forall_mem_cons.mpr ⟨zme_9_84, List.forall_mem_cons.mpr ⟨zme_9_88, List.forall_mem_cons.mpr ⟨zme_9_107, List.forall_mem_cons.mpr ⟨zme_9_111, List.forall_mem_cons.mpr ⟨zme_9_114, List.forall_mem_cons.mpr ⟨zme_9_117, List.forall_mem_cons.mpr ⟨zme_9_120, List.forall_mem_cons.mpr ⟨zme_9_124, List.forall_mem_cons.mpr ⟨zme_9_127, List.forall_mem_cons.mpr ⟨zme_9_130, List.forall_mem_cons.mpr ⟨zme_9_134, List.forall_mem_cons.mpr ⟨zme_9_138, List.forall_mem_cons.mpr ⟨zme_9_142, List.forall_mem_cons.mpr ⟨zme_9_146, List.forall_mem_cons.mpr ⟨zme_9_150, List.forall_mem_cons.mpr ⟨zme_9_153, List.forall_mem_cons.mpr ⟨zme_9_156, List.forall_mem_cons.mpr ⟨zme_9_159, List.forall_mem_cons.mpr ⟨zme_9_169, List.forall_mem_cons.mpr ⟨zme_9_172, List.forall_mem_cons.mpr ⟨zme_9_175, List.forall_mem_cons.mpr ⟨zme_9_178, List.forall_mem_cons.mpr ⟨zme_9_181, List.forall_mem_cons.mpr ⟨zme_9_184, List.forall_mem_cons.mpr ⟨zme_9_195, fun _ h => absurd h List.not_mem_nil⟩⟩⟩⟩⟩⟩⟩⟩⟩⟩⟩⟩⟩⟩⟩⟩⟩⟩⟩⟩⟩⟩⟩⟩⟩⟩⟩⟩
theorem zme_10_9 : zmw 10 (9, 3, qX8_init, 1) := zmw3 zwc_X8_init zwl_10_9 zwi_X8_init
theorem zme_10_12 : zmw 10 (12, 3, qX9_init, 1) := zmw3 zwc_X9_init zwl_10_12 zwi_X9_init
theorem zme_10_15 : zmw 10 (15, 0, qX8_write, 3) := zmw0 zwc_X8_write zwl_10_15 zwi_X8_write zwe_X8_write
theorem zme_10_19 : zmw 10 (19, 0, qX9_write, 3) := zmw0 zwc_X9_write zwl_10_19 zwi_X9_write zwe_X9_write
theorem zme_10_20 : zmw 10 (20, 0, qX8_wipe, 1) := zmw0 zwc_X8_wipe zwl_10_20 zwi_X8_wipe zwe_X8_wipe
theorem zme_10_24 : zmw 10 (24, 0, qX9_wipe, 1) := zmw0 zwc_X9_wipe zwl_10_24 zwi_X9_wipe zwe_X9_wipe
theorem zme_10_25 : zmw 10 (25, 0, qX8_fault, 1) := zmw0 zwc_X8_fault zwl_10_25 zwi_X8_fault zwe_X8_fault
theorem zme_10_28 : zmw 10 (28, 0, qX9_fault, 1) := zmw0 zwc_X9_fault zwl_10_28 zwi_X9_fault zwe_X9_fault
theorem zme_10_29 : zmw 10 (29, 0, qX8_lay, 1) := zmw0 zwc_X8_lay zwl_10_29 zwi_X8_lay zwe_X8_lay
theorem zme_10_32 : zmw 10 (32, 0, qX9_lay, 1) := zmw0 zwc_X9_lay zwl_10_32 zwi_X9_lay zwe_X9_lay
theorem zme_10_33 : zmw 10 (33, 0, qX8_person, 3) := zmw0 zwc_X8_person zwl_10_33 zwi_X8_person zwe_X8_person
theorem zme_10_37 : zmw 10 (37, 0, qX9_person, 3) := zmw0 zwc_X9_person zwl_10_37 zwi_X9_person zwe_X9_person
theorem zme_10_38 : zmw 10 (38, 0, qX8_loan, 3) := zmw0 zwc_X8_loan zwl_10_38 zwi_X8_loan zwe_X8_loan
theorem zme_10_41 : zmw 10 (41, 0, qX9_loan, 3) := zmw0 zwc_X9_loan zwl_10_41 zwi_X9_loan zwe_X9_loan
theorem zme_10_42 : zmw 10 (42, 0, qX8_notary, 5) := zmw0 zwc_X8_notary zwl_10_42 zwi_X8_notary zwe_X8_notary
theorem zme_10_46 : zmw 10 (46, 0, qX9_notary, 5) := zmw0 zwc_X9_notary zwl_10_46 zwi_X9_notary zwe_X9_notary
theorem zme_10_47 : zmw 10 (47, 0, qX8_lend, 5) := zmw0 zwc_X8_lend zwl_10_47 zwi_X8_lend zwe_X8_lend
theorem zme_10_50 : zmw 10 (50, 0, qX9_lend, 5) := zmw0 zwc_X9_lend zwl_10_50 zwi_X9_lend zwe_X9_lend
theorem zme_10_51 : zmw 10 (51, 0, qX8_week, 1) := zmw0 zwc_X8_week zwl_10_51 zwi_X8_week zwe_X8_week
theorem zme_10_54 : zmw 10 (54, 0, qX9_week, 1) := zmw0 zwc_X9_week zwl_10_54 zwi_X9_week zwe_X9_week
theorem zme_10_55 : zmw 10 (55, 0, qX8_undo, 1) := zmw0 zwc_X8_undo zwl_10_55 zwi_X8_undo zwe_X8_undo
theorem zme_10_58 : zmw 10 (58, 0, qX9_undo, 1) := zmw0 zwc_X9_undo zwl_10_58 zwi_X9_undo zwe_X9_undo
theorem zme_10_59 : zmw 10 (59, 0, qX8_dies, 2) := zmw0 zwc_X8_dies zwl_10_59 zwi_X8_dies zwe_X8_dies
theorem zme_10_63 : zmw 10 (63, 0, qX9_dies, 2) := zmw0 zwc_X9_dies zwl_10_63 zwi_X9_dies zwe_X9_dies
theorem zme_10_64 : zmw 10 (64, 0, qX8_run, 4) := zmw0 zwc_X8_run zwl_10_64 zwi_X8_run zwe_X8_run
theorem zme_10_68 : zmw 10 (68, 0, qX9_run, 4) := zmw0 zwc_X9_run zwl_10_68 zwi_X9_run zwe_X9_run
theorem zme_10_69 : zmw 10 (69, 0, qX8_tell, 5) := zmw0 zwc_X8_tell zwl_10_69 zwi_X8_tell zwe_X8_tell
theorem zme_10_73 : zmw 10 (73, 0, qX9_tell, 5) := zmw0 zwc_X9_tell zwl_10_73 zwi_X9_tell zwe_X9_tell
theorem zme_10_74 : zmw 10 (74, 0, qX8_forget, 1) := zmw0 zwc_X8_forget zwl_10_74 zwi_X8_forget zwe_X8_forget
theorem zme_10_77 : zmw 10 (77, 0, qX9_forget, 1) := zmw0 zwc_X9_forget zwl_10_77 zwi_X9_forget zwe_X9_forget
theorem zme_10_78 : zmw 10 (78, 0, qX8_span, 3) := zmw0 zwc_X8_span zwl_10_78 zwi_X8_span zwe_X8_span
theorem zme_10_81 : zmw 10 (81, 0, qX9_span, 3) := zmw0 zwc_X9_span zwl_10_81 zwi_X9_span zwe_X9_span
theorem zme_10_82 : zmw 10 (82, 0, qX8_ask, 3) := zmw0 zwc_X8_ask zwl_10_82 zwi_X8_ask zwe_X8_ask
theorem zme_10_85 : zmw 10 (85, 0, qX9_ask, 3) := zmw0 zwc_X9_ask zwl_10_85 zwi_X9_ask zwe_X9_ask
theorem zme_10_86 : zmw 10 (86, 0, qX8_bribed, 1) := zmw0 zwc_X8_bribed zwl_10_86 zwi_X8_bribed zwe_X8_bribed
theorem zme_10_89 : zmw 10 (89, 0, qX9_bribed, 1) := zmw0 zwc_X9_bribed zwl_10_89 zwi_X9_bribed zwe_X9_bribed
theorem zme_10_90 : zmw 10 (90, 0, qX8_cleared, 3) := zmw0 zwc_X8_cleared zwl_10_90 zwi_X8_cleared zwe_X8_cleared
theorem zme_10_93 : zmw 10 (93, 0, qX9_cleared, 3) := zmw0 zwc_X9_cleared zwl_10_93 zwi_X9_cleared zwe_X9_cleared
theorem zme_10_94 : zmw 10 (94, 0, qX8_child, 3) := zmw0 zwc_X8_child zwl_10_94 zwi_X8_child zwe_X8_child
theorem zme_10_97 : zmw 10 (97, 0, qX9_child, 3) := zmw0 zwc_X9_child zwl_10_97 zwi_X9_child zwe_X9_child
theorem zme_10_98 : zmw 10 (98, 0, qX8_falls, 3) := zmw0 zwc_X8_falls zwl_10_98 zwi_X8_falls zwe_X8_falls
theorem zme_10_101 : zmw 10 (101, 0, qX9_falls, 3) := zmw0 zwc_X9_falls zwl_10_101 zwi_X9_falls zwe_X9_falls
theorem zme_10_102 : zmw 10 (102, 0, qX8_burned, 5) := zmw0 zwc_X8_burned zwl_10_102 zwi_X8_burned zwe_X8_burned
theorem zme_10_105 : zmw 10 (105, 0, qX9_burned, 5) := zmw0 zwc_X9_burned zwl_10_105 zwi_X9_burned zwe_X9_burned
theorem zme_10_106 : zmw 10 (106, 0, qX8_drawn, 4) := zmw0 zwc_X8_drawn zwl_10_106 zwi_X8_drawn zwe_X8_drawn
theorem zme_10_109 : zmw 10 (109, 0, qX9_drawn, 4) := zmw0 zwc_X9_drawn zwl_10_109 zwi_X9_drawn zwe_X9_drawn
theorem zme_10_110 : zmw 10 (110, 0, qX8_keep, 1) := zmw0 zwc_X8_keep zwl_10_110 zwi_X8_keep zwe_X8_keep
theorem zme_10_113 : zmw 10 (113, 0, qX9_keep, 1) := zmw0 zwc_X9_keep zwl_10_113 zwi_X9_keep zwe_X9_keep
theorem zme_10_114 : zmw 10 (114, 0, qX8_back, 1) := zmw0 zwc_X8_back zwl_10_114 zwi_X8_back zwe_X8_back
theorem zme_10_117 : zmw 10 (117, 0, qX9_back, 1) := zmw0 zwc_X9_back zwl_10_117 zwi_X9_back zwe_X9_back
theorem zme_10_118 : zmw 10 (118, 0, qX8_count, 2) := zmw0 zwc_X8_count zwl_10_118 zwi_X8_count zwe_X8_count
theorem zme_10_121 : zmw 10 (121, 0, qX9_count, 2) := zmw0 zwc_X9_count zwl_10_121 zwi_X9_count zwe_X9_count
theorem zmz_10 : ∀ e ∈ zmt10, zmw 10 e := List.forall_mem_cons.mpr ⟨zme_10_9, List.forall_mem_cons.mpr ⟨zme_10_12, List.forall_mem_cons.mpr ⟨zme_10_15, List.forall_mem_cons.mpr ⟨zme_10_19, List.forall_mem_cons.mpr ⟨zme_10_20, List.forall_mem_cons.mpr ⟨zme_10_24, List.forall_mem_cons.mpr ⟨zme_10_25, List.forall_mem_cons.mpr ⟨zme_10_28, List.forall_mem_cons.mpr ⟨zme_10_29, List.forall_mem_cons.mpr ⟨zme_10_32, List.forall_mem_cons.mpr ⟨zme_10_33, List.forall_mem_cons.mpr ⟨zme_10_37, List.forall_mem_cons.mpr ⟨zme_10_38, List.forall_mem_cons.mpr ⟨zme_10_41, List.forall_mem_cons.mpr ⟨zme_10_42, List.forall_mem_cons.mpr ⟨zme_10_46, List.forall_mem_cons.mpr ⟨zme_10_47, List.forall_mem_cons.mpr ⟨zme_10_50, List.forall_mem_cons.mpr ⟨zme_10_51, List.forall_mem_cons.mpr ⟨zme_10_54, List.forall_mem_cons.mpr ⟨zme_10_55, List.forall_mem_cons.mpr ⟨zme_10_58, List.forall_mem_cons.mpr ⟨zme_10_59, List.forall_mem_cons.mpr ⟨zme_10_63, List.forall_mem_cons.mpr ⟨zme_10_64, List.forall_mem_cons.mpr ⟨zme_10_68, List.forall_mem_cons.mpr ⟨zme_10_69, List.forall_mem_cons.mpr ⟨zme_10_73, List.forall_mem_cons.mpr ⟨zme_10_74, List.forall_mem_cons.mpr ⟨zme_10_77, List.forall_mem_cons.mpr ⟨zme_10_78, List.forall_mem_cons.mpr ⟨zme_10_81, List.forall_mem_cons.mpr ⟨zme_10_82, List.forall_mem_cons.mpr ⟨zme_10_85, List.forall_mem_cons.mpr ⟨zme_10_86, List.forall_mem_cons.mpr ⟨zme_10_89, List.forall_mem_cons.mpr ⟨zme_10_90, List.forall_mem_cons.mpr ⟨zme_10_93, List.forall_mem_cons.mpr ⟨zme_10_94, List.forall_mem_cons.mpr ⟨zme_10_97, List.forall_mem_cons.mpr ⟨zme_10_98, List.forall_mem_cons.mpr ⟨zme_10_101, List.forall_mem_cons.mpr ⟨zme_10_102, List.forall_mem_cons.mpr ⟨zme_10_105, List.forall_mem_cons.mpr ⟨zme_10_106, List.forall_mem_cons.mpr ⟨zme_10_109, List.forall_mem_cons.mpr ⟨zme_10_110, List.forall_mem_cons.mpr ⟨zme_10_113, List.forall_mem_cons.mpr ⟨zme_10_114, List.forall_mem_cons.mpr ⟨zme_10_117, List.forall_mem_cons.mpr ⟨zme_10_118, List.forall_mem_cons.mpr ⟨zme_10_121, fun _ h => absurd h List.not_mem_nil⟩⟩⟩⟩⟩⟩⟩⟩⟩⟩⟩⟩⟩⟩⟩⟩⟩⟩⟩⟩⟩⟩⟩⟩⟩⟩⟩⟩⟩⟩⟩⟩⟩⟩⟩⟩⟩⟩⟩⟩⟩⟩⟩⟩⟩⟩⟩⟩⟩⟩⟩⟩
theorem zm_in {c i : Nat} {x : Nat × zM × Nat} (h : zmt c i = some x) : c ∈ List.range 11 ∧ (i, x) ∈ zmta c := by
  obtain ⟨hc, hm⟩ := zgd_mem _ h
  exact ⟨List.mem_range.mpr hc, hm⟩
theorem zm_w {c i : Nat} {x : Nat × zM × Nat} (h : zmt c i = some x) : zmw c (i, x) := by
  obtain ⟨hc, hm⟩ := zgd_mem _ h
  exact zc11 (P := fun c => ∀ e ∈ zmta c, zmw c e) (c := c) hc zmz_0 zmz_1 zmz_2 zmz_3 zmz_4 zmz_5 zmz_6 zmz_7 zmz_8 zmz_9 zmz_10 (i, x) hm
theorem zki_ok0 : ∀ e ∈ zki0, ((-2147483648 ≤ e.2 ∧ e.2 ≤ 2147483647) ∧ Cond.constant (zcn 0) e.1 (Int32.ofInt e.2) ∈ lw_tbl) := by decide +kernel
theorem zki_ok1 : ∀ e ∈ zki1, ((-2147483648 ≤ e.2 ∧ e.2 ≤ 2147483647) ∧ Cond.constant (zcn 1) e.1 (Int32.ofInt e.2) ∈ lw_tbl) := by decide +kernel
theorem zki_ok2 : ∀ e ∈ zki2, ((-2147483648 ≤ e.2 ∧ e.2 ≤ 2147483647) ∧ Cond.constant (zcn 2) e.1 (Int32.ofInt e.2) ∈ lw_tbl) := by decide +kernel
theorem zki_ok3 : ∀ e ∈ zki3, ((-2147483648 ≤ e.2 ∧ e.2 ≤ 2147483647) ∧ Cond.constant (zcn 3) e.1 (Int32.ofInt e.2) ∈ lw_tbl) := by decide +kernel
theorem zki_ok4 : ∀ e ∈ zki4, ((-2147483648 ≤ e.2 ∧ e.2 ≤ 2147483647) ∧ Cond.constant (zcn 4) e.1 (Int32.ofInt e.2) ∈ lw_tbl) := by decide +kernel
theorem zki_ok5 : ∀ e ∈ zki5, ((-2147483648 ≤ e.2 ∧ e.2 ≤ 2147483647) ∧ Cond.constant (zcn 5) e.1 (Int32.ofInt e.2) ∈ lw_tbl) := by decide +kernel
theorem zki_ok6 : ∀ e ∈ zki6, ((-2147483648 ≤ e.2 ∧ e.2 ≤ 2147483647) ∧ Cond.constant (zcn 6) e.1 (Int32.ofInt e.2) ∈ lw_tbl) := by decide +kernel
theorem zki_ok7 : ∀ e ∈ zki7, ((-2147483648 ≤ e.2 ∧ e.2 ≤ 2147483647) ∧ Cond.constant (zcn 7) e.1 (Int32.ofInt e.2) ∈ lw_tbl) := by decide +kernel
theorem zki_ok8 : ∀ e ∈ zki8, ((-2147483648 ≤ e.2 ∧ e.2 ≤ 2147483647) ∧ Cond.constant (zcn 8) e.1 (Int32.ofInt e.2) ∈ lw_tbl) := by decide +kernel
theorem zki_ok9 : ∀ e ∈ zki9, ((-2147483648 ≤ e.2 ∧ e.2 ≤ 2147483647) ∧ Cond.constant (zcn 9) e.1 (Int32.ofInt e.2) ∈ lw_tbl) := by decide +kernel
theorem zki_ok10 : ∀ e ∈ zki10, ((-2147483648 ≤ e.2 ∧ e.2 ≤ 2147483647) ∧ Cond.constant (zcn 10) e.1 (Int32.ofInt e.2) ∈ lw_tbl) := by decide +kernel
theorem zki_ok {c i : Nat} {x : Int} (h : zki c i = some x) : (fun e : Nat × Int => ((-2147483648 ≤ e.2 ∧ e.2 ≤ 2147483647) ∧ Cond.constant (zcn c) e.1 (Int32.ofInt e.2) ∈ lw_tbl)) (i, x) := by
  obtain ⟨hc, hm⟩ := zgd_mem _ h
  exact zc11 (P := fun c => ∀ e ∈ [zki0, zki1, zki2, zki3, zki4, zki5, zki6, zki7, zki8, zki9, zki10].getD c [], ((-2147483648 ≤ e.2 ∧ e.2 ≤ 2147483647) ∧ Cond.constant (zcn c) e.1 (Int32.ofInt e.2) ∈ lw_tbl)) (c := c) hc zki_ok0 zki_ok1 zki_ok2 zki_ok3 zki_ok4 zki_ok5 zki_ok6 zki_ok7 zki_ok8 zki_ok9 zki_ok10 (i, x) hm
theorem zkl_ok0 : ∀ e ∈ zkl0, ((-9223372036854775808 ≤ e.2 ∧ e.2 ≤ 9223372036854775807) ∧ Cond.constantLong (zcn 0) e.1 (Int64.ofInt e.2) ∈ lw_tbl) := by decide +kernel
theorem zkl_ok1 : ∀ e ∈ zkl1, ((-9223372036854775808 ≤ e.2 ∧ e.2 ≤ 9223372036854775807) ∧ Cond.constantLong (zcn 1) e.1 (Int64.ofInt e.2) ∈ lw_tbl) := by decide +kernel
theorem zkl_ok2 : ∀ e ∈ zkl2, ((-9223372036854775808 ≤ e.2 ∧ e.2 ≤ 9223372036854775807) ∧ Cond.constantLong (zcn 2) e.1 (Int64.ofInt e.2) ∈ lw_tbl) := by decide +kernel
theorem zkl_ok3 : ∀ e ∈ zkl3, ((-9223372036854775808 ≤ e.2 ∧ e.2 ≤ 9223372036854775807) ∧ Cond.constantLong (zcn 3) e.1 (Int64.ofInt e.2) ∈ lw_tbl) := by decide +kernel
theorem zkl_ok4 : ∀ e ∈ zkl4, ((-9223372036854775808 ≤ e.2 ∧ e.2 ≤ 9223372036854775807) ∧ Cond.constantLong (zcn 4) e.1 (Int64.ofInt e.2) ∈ lw_tbl) := by decide +kernel
theorem zkl_ok5 : ∀ e ∈ zkl5, ((-9223372036854775808 ≤ e.2 ∧ e.2 ≤ 9223372036854775807) ∧ Cond.constantLong (zcn 5) e.1 (Int64.ofInt e.2) ∈ lw_tbl) := by decide +kernel
theorem zkl_ok6 : ∀ e ∈ zkl6, ((-9223372036854775808 ≤ e.2 ∧ e.2 ≤ 9223372036854775807) ∧ Cond.constantLong (zcn 6) e.1 (Int64.ofInt e.2) ∈ lw_tbl) := by decide +kernel
theorem zkl_ok7 : ∀ e ∈ zkl7, ((-9223372036854775808 ≤ e.2 ∧ e.2 ≤ 9223372036854775807) ∧ Cond.constantLong (zcn 7) e.1 (Int64.ofInt e.2) ∈ lw_tbl) := by decide +kernel
theorem zkl_ok8 : ∀ e ∈ zkl8, ((-9223372036854775808 ≤ e.2 ∧ e.2 ≤ 9223372036854775807) ∧ Cond.constantLong (zcn 8) e.1 (Int64.ofInt e.2) ∈ lw_tbl) := by decide +kernel
theorem zkl_ok9 : ∀ e ∈ zkl9, ((-9223372036854775808 ≤ e.2 ∧ e.2 ≤ 9223372036854775807) ∧ Cond.constantLong (zcn 9) e.1 (Int64.ofInt e.2) ∈ lw_tbl) := by decide +kernel
theorem zkl_ok10 : ∀ e ∈ zkl10, ((-9223372036854775808 ≤ e.2 ∧ e.2 ≤ 9223372036854775807) ∧ Cond.constantLong (zcn 10) e.1 (Int64.ofInt e.2) ∈ lw_tbl) := by decide +kernel
theorem zkl_ok {c i : Nat} {x : Int} (h : zkl c i = some x) : (fun e : Nat × Int => ((-9223372036854775808 ≤ e.2 ∧ e.2 ≤ 9223372036854775807) ∧ Cond.constantLong (zcn c) e.1 (Int64.ofInt e.2) ∈ lw_tbl)) (i, x) := by
  obtain ⟨hc, hm⟩ := zgd_mem _ h
  exact zc11 (P := fun c => ∀ e ∈ [zkl0, zkl1, zkl2, zkl3, zkl4, zkl5, zkl6, zkl7, zkl8, zkl9, zkl10].getD c [], ((-9223372036854775808 ≤ e.2 ∧ e.2 ≤ 9223372036854775807) ∧ Cond.constantLong (zcn c) e.1 (Int64.ofInt e.2) ∈ lw_tbl)) (c := c) hc zkl_ok0 zkl_ok1 zkl_ok2 zkl_ok3 zkl_ok4 zkl_ok5 zkl_ok6 zkl_ok7 zkl_ok8 zkl_ok9 zkl_ok10 (i, x) hm
theorem zct_ok0 : ∀ e ∈ zct0, ((e.2 < 10 → Cond.classLink (zcn 0) e.1 (zcn e.2) ∈ lw_tbl) ∧ (e.2 = 200 → Cond.classLink (zcn 0) e.1 ("[" ++ (FieldType.array .int).toString) ∈ lw_tbl)) := by decide +kernel
theorem zct_ok1 : ∀ e ∈ zct1, ((e.2 < 10 → Cond.classLink (zcn 1) e.1 (zcn e.2) ∈ lw_tbl) ∧ (e.2 = 200 → Cond.classLink (zcn 1) e.1 ("[" ++ (FieldType.array .int).toString) ∈ lw_tbl)) := by decide +kernel
theorem zct_ok2 : ∀ e ∈ zct2, ((e.2 < 10 → Cond.classLink (zcn 2) e.1 (zcn e.2) ∈ lw_tbl) ∧ (e.2 = 200 → Cond.classLink (zcn 2) e.1 ("[" ++ (FieldType.array .int).toString) ∈ lw_tbl)) := by decide +kernel
theorem zct_ok3 : ∀ e ∈ zct3, ((e.2 < 10 → Cond.classLink (zcn 3) e.1 (zcn e.2) ∈ lw_tbl) ∧ (e.2 = 200 → Cond.classLink (zcn 3) e.1 ("[" ++ (FieldType.array .int).toString) ∈ lw_tbl)) := by decide +kernel
theorem zct_ok4 : ∀ e ∈ zct4, ((e.2 < 10 → Cond.classLink (zcn 4) e.1 (zcn e.2) ∈ lw_tbl) ∧ (e.2 = 200 → Cond.classLink (zcn 4) e.1 ("[" ++ (FieldType.array .int).toString) ∈ lw_tbl)) := by decide +kernel
theorem zct_ok5 : ∀ e ∈ zct5, ((e.2 < 10 → Cond.classLink (zcn 5) e.1 (zcn e.2) ∈ lw_tbl) ∧ (e.2 = 200 → Cond.classLink (zcn 5) e.1 ("[" ++ (FieldType.array .int).toString) ∈ lw_tbl)) := by decide +kernel
theorem zct_ok6 : ∀ e ∈ zct6, ((e.2 < 10 → Cond.classLink (zcn 6) e.1 (zcn e.2) ∈ lw_tbl) ∧ (e.2 = 200 → Cond.classLink (zcn 6) e.1 ("[" ++ (FieldType.array .int).toString) ∈ lw_tbl)) := by decide +kernel
theorem zct_ok7 : ∀ e ∈ zct7, ((e.2 < 10 → Cond.classLink (zcn 7) e.1 (zcn e.2) ∈ lw_tbl) ∧ (e.2 = 200 → Cond.classLink (zcn 7) e.1 ("[" ++ (FieldType.array .int).toString) ∈ lw_tbl)) := by decide +kernel
theorem zct_ok8 : ∀ e ∈ zct8, ((e.2 < 10 → Cond.classLink (zcn 8) e.1 (zcn e.2) ∈ lw_tbl) ∧ (e.2 = 200 → Cond.classLink (zcn 8) e.1 ("[" ++ (FieldType.array .int).toString) ∈ lw_tbl)) := by decide +kernel
theorem zct_ok9 : ∀ e ∈ zct9, ((e.2 < 10 → Cond.classLink (zcn 9) e.1 (zcn e.2) ∈ lw_tbl) ∧ (e.2 = 200 → Cond.classLink (zcn 9) e.1 ("[" ++ (FieldType.array .int).toString) ∈ lw_tbl)) := by decide +kernel
theorem zct_ok10 : ∀ e ∈ zct10, ((e.2 < 10 → Cond.classLink (zcn 10) e.1 (zcn e.2) ∈ lw_tbl) ∧ (e.2 = 200 → Cond.classLink (zcn 10) e.1 ("[" ++ (FieldType.array .int).toString) ∈ lw_tbl)) := by decide +kernel
theorem zct_ok {c i : Nat} {x : Nat} (h : zct c i = some x) : (fun e : Nat × Nat => ((e.2 < 10 → Cond.classLink (zcn c) e.1 (zcn e.2) ∈ lw_tbl) ∧ (e.2 = 200 → Cond.classLink (zcn c) e.1 ("[" ++ (FieldType.array .int).toString) ∈ lw_tbl))) (i, x) := by
  obtain ⟨hc, hm⟩ := zgd_mem _ h
  exact zc11 (P := fun c => ∀ e ∈ [zct0, zct1, zct2, zct3, zct4, zct5, zct6, zct7, zct8, zct9, zct10].getD c [], ((e.2 < 10 → Cond.classLink (zcn c) e.1 (zcn e.2) ∈ lw_tbl) ∧ (e.2 = 200 → Cond.classLink (zcn c) e.1 ("[" ++ (FieldType.array .int).toString) ∈ lw_tbl))) (c := c) hc zct_ok0 zct_ok1 zct_ok2 zct_ok3 zct_ok4 zct_ok5 zct_ok6 zct_ok7 zct_ok8 zct_ok9 zct_ok10 (i, x) hm
theorem zbt_ok0 : ∀ e ∈ zbt0, ((e.2 = 0 → Cond.methodLink (zcn 0) e.1 Lib.Math.max.name ∈ lw_tbl) ∧ (e.2 = 1 → Cond.methodLink (zcn 0) e.1 Lib.Math.min.name ∈ lw_tbl) ∧ (e.2 = 2 → Cond.methodLink (zcn 0) e.1 arraycopyName ∈ lw_tbl) ∧ (e.2 = 3 → Cond.methodLink (zcn 0) e.1 Lib.objectInit ∈ lw_tbl)) := by decide +kernel
theorem zbt_ok1 : ∀ e ∈ zbt1, ((e.2 = 0 → Cond.methodLink (zcn 1) e.1 Lib.Math.max.name ∈ lw_tbl) ∧ (e.2 = 1 → Cond.methodLink (zcn 1) e.1 Lib.Math.min.name ∈ lw_tbl) ∧ (e.2 = 2 → Cond.methodLink (zcn 1) e.1 arraycopyName ∈ lw_tbl) ∧ (e.2 = 3 → Cond.methodLink (zcn 1) e.1 Lib.objectInit ∈ lw_tbl)) := by decide +kernel
theorem zbt_ok2 : ∀ e ∈ zbt2, ((e.2 = 0 → Cond.methodLink (zcn 2) e.1 Lib.Math.max.name ∈ lw_tbl) ∧ (e.2 = 1 → Cond.methodLink (zcn 2) e.1 Lib.Math.min.name ∈ lw_tbl) ∧ (e.2 = 2 → Cond.methodLink (zcn 2) e.1 arraycopyName ∈ lw_tbl) ∧ (e.2 = 3 → Cond.methodLink (zcn 2) e.1 Lib.objectInit ∈ lw_tbl)) := by decide +kernel
theorem zbt_ok3 : ∀ e ∈ zbt3, ((e.2 = 0 → Cond.methodLink (zcn 3) e.1 Lib.Math.max.name ∈ lw_tbl) ∧ (e.2 = 1 → Cond.methodLink (zcn 3) e.1 Lib.Math.min.name ∈ lw_tbl) ∧ (e.2 = 2 → Cond.methodLink (zcn 3) e.1 arraycopyName ∈ lw_tbl) ∧ (e.2 = 3 → Cond.methodLink (zcn 3) e.1 Lib.objectInit ∈ lw_tbl)) := by decide +kernel
theorem zbt_ok4 : ∀ e ∈ zbt4, ((e.2 = 0 → Cond.methodLink (zcn 4) e.1 Lib.Math.max.name ∈ lw_tbl) ∧ (e.2 = 1 → Cond.methodLink (zcn 4) e.1 Lib.Math.min.name ∈ lw_tbl) ∧ (e.2 = 2 → Cond.methodLink (zcn 4) e.1 arraycopyName ∈ lw_tbl) ∧ (e.2 = 3 → Cond.methodLink (zcn 4) e.1 Lib.objectInit ∈ lw_tbl)) := by decide +kernel
theorem zbt_ok5 : ∀ e ∈ zbt5, ((e.2 = 0 → Cond.methodLink (zcn 5) e.1 Lib.Math.max.name ∈ lw_tbl) ∧ (e.2 = 1 → Cond.methodLink (zcn 5) e.1 Lib.Math.min.name ∈ lw_tbl) ∧ (e.2 = 2 → Cond.methodLink (zcn 5) e.1 arraycopyName ∈ lw_tbl) ∧ (e.2 = 3 → Cond.methodLink (zcn 5) e.1 Lib.objectInit ∈ lw_tbl)) := by decide +kernel
theorem zbt_ok6 : ∀ e ∈ zbt6, ((e.2 = 0 → Cond.methodLink (zcn 6) e.1 Lib.Math.max.name ∈ lw_tbl) ∧ (e.2 = 1 → Cond.methodLink (zcn 6) e.1 Lib.Math.min.name ∈ lw_tbl) ∧ (e.2 = 2 → Cond.methodLink (zcn 6) e.1 arraycopyName ∈ lw_tbl) ∧ (e.2 = 3 → Cond.methodLink (zcn 6) e.1 Lib.objectInit ∈ lw_tbl)) := by decide +kernel
theorem zbt_ok7 : ∀ e ∈ zbt7, ((e.2 = 0 → Cond.methodLink (zcn 7) e.1 Lib.Math.max.name ∈ lw_tbl) ∧ (e.2 = 1 → Cond.methodLink (zcn 7) e.1 Lib.Math.min.name ∈ lw_tbl) ∧ (e.2 = 2 → Cond.methodLink (zcn 7) e.1 arraycopyName ∈ lw_tbl) ∧ (e.2 = 3 → Cond.methodLink (zcn 7) e.1 Lib.objectInit ∈ lw_tbl)) := by decide +kernel
theorem zbt_ok8 : ∀ e ∈ zbt8, ((e.2 = 0 → Cond.methodLink (zcn 8) e.1 Lib.Math.max.name ∈ lw_tbl) ∧ (e.2 = 1 → Cond.methodLink (zcn 8) e.1 Lib.Math.min.name ∈ lw_tbl) ∧ (e.2 = 2 → Cond.methodLink (zcn 8) e.1 arraycopyName ∈ lw_tbl) ∧ (e.2 = 3 → Cond.methodLink (zcn 8) e.1 Lib.objectInit ∈ lw_tbl)) := by decide +kernel
theorem zbt_ok9 : ∀ e ∈ zbt9, ((e.2 = 0 → Cond.methodLink (zcn 9) e.1 Lib.Math.max.name ∈ lw_tbl) ∧ (e.2 = 1 → Cond.methodLink (zcn 9) e.1 Lib.Math.min.name ∈ lw_tbl) ∧ (e.2 = 2 → Cond.methodLink (zcn 9) e.1 arraycopyName ∈ lw_tbl) ∧ (e.2 = 3 → Cond.methodLink (zcn 9) e.1 Lib.objectInit ∈ lw_tbl)) := by decide +kernel
theorem zbt_ok10 : ∀ e ∈ zbt10, ((e.2 = 0 → Cond.methodLink (zcn 10) e.1 Lib.Math.max.name ∈ lw_tbl) ∧ (e.2 = 1 → Cond.methodLink (zcn 10) e.1 Lib.Math.min.name ∈ lw_tbl) ∧ (e.2 = 2 → Cond.methodLink (zcn 10) e.1 arraycopyName ∈ lw_tbl) ∧ (e.2 = 3 → Cond.methodLink (zcn 10) e.1 Lib.objectInit ∈ lw_tbl)) := by decide +kernel
theorem zbt_ok {c i : Nat} {x : Nat} (h : zbt c i = some x) : (fun e : Nat × Nat => ((e.2 = 0 → Cond.methodLink (zcn c) e.1 Lib.Math.max.name ∈ lw_tbl) ∧ (e.2 = 1 → Cond.methodLink (zcn c) e.1 Lib.Math.min.name ∈ lw_tbl) ∧ (e.2 = 2 → Cond.methodLink (zcn c) e.1 arraycopyName ∈ lw_tbl) ∧ (e.2 = 3 → Cond.methodLink (zcn c) e.1 Lib.objectInit ∈ lw_tbl))) (i, x) := by
  obtain ⟨hc, hm⟩ := zgd_mem _ h
  exact zc11 (P := fun c => ∀ e ∈ [zbt0, zbt1, zbt2, zbt3, zbt4, zbt5, zbt6, zbt7, zbt8, zbt9, zbt10].getD c [], ((e.2 = 0 → Cond.methodLink (zcn c) e.1 Lib.Math.max.name ∈ lw_tbl) ∧ (e.2 = 1 → Cond.methodLink (zcn c) e.1 Lib.Math.min.name ∈ lw_tbl) ∧ (e.2 = 2 → Cond.methodLink (zcn c) e.1 arraycopyName ∈ lw_tbl) ∧ (e.2 = 3 → Cond.methodLink (zcn c) e.1 Lib.objectInit ∈ lw_tbl))) (c := c) hc zbt_ok0 zbt_ok1 zbt_ok2 zbt_ok3 zbt_ok4 zbt_ok5 zbt_ok6 zbt_ok7 zbt_ok8 zbt_ok9 zbt_ok10 (i, x) hm
theorem zb_max : Cond.static Lib.Math.max.name ∈ zTB ∧ Cond.initialized "java/lang/Math" ∈ zTB ∧ Cond.code Lib.Math.max.name Lib.Math.max.code 2 (some .int) ∈ zTB := by
  refine ⟨zTB_of ?_ rfl, zTB_of ?_ rfl, zTB_of ?_ rfl⟩ <;> decide +kernel
theorem zb_min : Cond.static Lib.Math.min.name ∈ zTB ∧ Cond.code Lib.Math.min.name Lib.Math.min.code 2 (some .int) ∈ zTB := by
  refine ⟨zTB_of ?_ rfl, zTB_of ?_ rfl⟩ <;> decide +kernel
theorem zb_cpy : Cond.native arraycopyName ∈ zTB ∧ Cond.static arraycopyName ∈ zTB ∧ Cond.initialized "java/lang/System" ∈ zTB := by
  refine ⟨zTB_of ?_ rfl, zTB_of ?_ rfl, zTB_of ?_ rfl⟩ <;> decide +kernel
theorem zb_obj : Cond.instanceMethod Lib.objectInit ∈ zTB ∧ Cond.code Lib.objectInit ⟨#[0xb1]⟩ 1 none ∈ zTB := by
  refine ⟨zTB_of ?_ rfl, zTB_of ?_ rfl⟩ <;> decide +kernel
theorem zb_arr : Cond.arrayClass .int ∈ zTB ∧ Cond.arrayClass .boolean ∈ zTB := by
  refine ⟨zTB_of ?_ rfl, zTB_of ?_ rfl⟩ <;> decide +kernel
theorem zb_ovr : Cond.arrayOver (.object RX0) ∈ lw_tbl ∧ Cond.arrayOver (.array .int) ∈ lw_tbl := by
  refine ⟨?_, ?_⟩ <;> decide +kernel
