theorem wX9_pass : q_cw yX9_pass cX9_pass mX9_pass 1 := ⟨q_W0_mem (List.mem_of_getElem? (i := 461) (by decide +kernel)) (by decide +kernel), q_W0_mem (List.mem_of_getElem? (i := 43) (by decide +kernel)) (by decide +kernel), by decide +kernel, by decide +kernel, by decide +kernel⟩
theorem iX9_pass : Cond.instanceMethod yX9_pass ∈ q_W0 := q_W0_mem (List.mem_of_getElem? (i := 459) (by decide +kernel)) (by decide +kernel)
theorem eX9_pass : Cond.selects yX9_pass.cls yX9_pass yX9_pass ∈ q_W0 := q_W0_mem (List.mem_of_getElem? (i := 460) (by decide +kernel)) (by decide +kernel)
theorem kL_7 : Cond.methodLink RL 7 yX9_pass ∈ q_W0 := q_W0_mem (List.mem_of_getElem? (i := 458) (by decide +kernel)) (by decide +kernel)
theorem wX9_addTest : q_cw yX9_addTest cX9_addTest mX9_addTest 2 := ⟨q_W0_mem (List.mem_of_getElem? (i := 558) (by decide +kernel)) (by decide +kernel), q_W0_mem (List.mem_of_getElem? (i := 43) (by decide +kernel)) (by decide +kernel), by decide +kernel, by decide +kernel, by decide +kernel⟩
theorem iX9_addTest : Cond.instanceMethod yX9_addTest ∈ q_W0 := q_W0_mem (List.mem_of_getElem? (i := 556) (by decide +kernel)) (by decide +kernel)
theorem eX9_addTest : Cond.selects yX9_addTest.cls yX9_addTest yX9_addTest ∈ q_W0 := q_W0_mem (List.mem_of_getElem? (i := 557) (by decide +kernel)) (by decide +kernel)
theorem kL_17 : Cond.methodLink RL 17 yX9_addTest ∈ q_W0 := q_W0_mem (List.mem_of_getElem? (i := 555) (by decide +kernel)) (by decide +kernel)
theorem wX9_removeTest : q_cw yX9_removeTest cX9_removeTest mX9_removeTest 1 := ⟨q_W0_mem (List.mem_of_getElem? (i := 592) (by decide +kernel)) (by decide +kernel), q_W0_mem (List.mem_of_getElem? (i := 43) (by decide +kernel)) (by decide +kernel), by decide +kernel, by decide +kernel, by decide +kernel⟩
theorem iX9_removeTest : Cond.instanceMethod yX9_removeTest ∈ q_W0 := q_W0_mem (List.mem_of_getElem? (i := 590) (by decide +kernel)) (by decide +kernel)
theorem eX9_removeTest : Cond.selects yX9_removeTest.cls yX9_removeTest yX9_removeTest ∈ q_W0 := q_W0_mem (List.mem_of_getElem? (i := 591) (by decide +kernel)) (by decide +kernel)
theorem kL_21 : Cond.methodLink RL 21 yX9_removeTest ∈ q_W0 := q_W0_mem (List.mem_of_getElem? (i := 589) (by decide +kernel)) (by decide +kernel)
theorem wX9_thresholdOn : q_cw yX9_thresholdOn cX9_thresholdOn mX9_thresholdOn 1 := ⟨q_W0_mem (List.mem_of_getElem? (i := 619) (by decide +kernel)) (by decide +kernel), q_W0_mem (List.mem_of_getElem? (i := 43) (by decide +kernel)) (by decide +kernel), by decide +kernel, by decide +kernel, by decide +kernel⟩
theorem iX9_thresholdOn : Cond.instanceMethod yX9_thresholdOn ∈ q_W0 := q_W0_mem (List.mem_of_getElem? (i := 617) (by decide +kernel)) (by decide +kernel)
theorem eX9_thresholdOn : Cond.selects yX9_thresholdOn.cls yX9_thresholdOn yX9_thresholdOn ∈ q_W0 := q_W0_mem (List.mem_of_getElem? (i := 618) (by decide +kernel)) (by decide +kernel)
theorem kL_26 : Cond.methodLink RL 26 yX9_thresholdOn ∈ q_W0 := q_W0_mem (List.mem_of_getElem? (i := 616) (by decide +kernel)) (by decide +kernel)
theorem wX9_setBound : q_cw yX9_setBound cX9_setBound mX9_setBound 2 := ⟨q_W0_mem (List.mem_of_getElem? (i := 627) (by decide +kernel)) (by decide +kernel), q_W0_mem (List.mem_of_getElem? (i := 43) (by decide +kernel)) (by decide +kernel), by decide +kernel, by decide +kernel, by decide +kernel⟩
theorem iX9_setBound : Cond.instanceMethod yX9_setBound ∈ q_W0 := q_W0_mem (List.mem_of_getElem? (i := 625) (by decide +kernel)) (by decide +kernel)
theorem eX9_setBound : Cond.selects yX9_setBound.cls yX9_setBound yX9_setBound ∈ q_W0 := q_W0_mem (List.mem_of_getElem? (i := 626) (by decide +kernel)) (by decide +kernel)
theorem kL_29 : Cond.methodLink RL 29 yX9_setBound ∈ q_W0 := q_W0_mem (List.mem_of_getElem? (i := 624) (by decide +kernel)) (by decide +kernel)
theorem wX9_boundOf : q_cw yX9_boundOf cX9_boundOf mX9_boundOf 1 := ⟨q_W0_mem (List.mem_of_getElem? (i := 639) (by decide +kernel)) (by decide +kernel), q_W0_mem (List.mem_of_getElem? (i := 43) (by decide +kernel)) (by decide +kernel), by decide +kernel, by decide +kernel, by decide +kernel⟩
theorem iX9_boundOf : Cond.instanceMethod yX9_boundOf ∈ q_W0 := q_W0_mem (List.mem_of_getElem? (i := 637) (by decide +kernel)) (by decide +kernel)
theorem eX9_boundOf : Cond.selects yX9_boundOf.cls yX9_boundOf yX9_boundOf ∈ q_W0 := q_W0_mem (List.mem_of_getElem? (i := 638) (by decide +kernel)) (by decide +kernel)
theorem kL_32 : Cond.methodLink RL 32 yX9_boundOf ∈ q_W0 := q_W0_mem (List.mem_of_getElem? (i := 636) (by decide +kernel)) (by decide +kernel)
theorem wX9_setWeight : q_cw yX9_setWeight cX9_setWeight mX9_setWeight 2 := ⟨q_W0_mem (List.mem_of_getElem? (i := 646) (by decide +kernel)) (by decide +kernel), q_W0_mem (List.mem_of_getElem? (i := 43) (by decide +kernel)) (by decide +kernel), by decide +kernel, by decide +kernel, by decide +kernel⟩
theorem iX9_setWeight : Cond.instanceMethod yX9_setWeight ∈ q_W0 := q_W0_mem (List.mem_of_getElem? (i := 644) (by decide +kernel)) (by decide +kernel)
theorem eX9_setWeight : Cond.selects yX9_setWeight.cls yX9_setWeight yX9_setWeight ∈ q_W0 := q_W0_mem (List.mem_of_getElem? (i := 645) (by decide +kernel)) (by decide +kernel)
theorem kL_35 : Cond.methodLink RL 35 yX9_setWeight ∈ q_W0 := q_W0_mem (List.mem_of_getElem? (i := 643) (by decide +kernel)) (by decide +kernel)
theorem wX9_weightOf : q_cw yX9_weightOf cX9_weightOf mX9_weightOf 1 := ⟨q_W0_mem (List.mem_of_getElem? (i := 656) (by decide +kernel)) (by decide +kernel), q_W0_mem (List.mem_of_getElem? (i := 43) (by decide +kernel)) (by decide +kernel), by decide +kernel, by decide +kernel, by decide +kernel⟩
theorem iX9_weightOf : Cond.instanceMethod yX9_weightOf ∈ q_W0 := q_W0_mem (List.mem_of_getElem? (i := 654) (by decide +kernel)) (by decide +kernel)
theorem eX9_weightOf : Cond.selects yX9_weightOf.cls yX9_weightOf yX9_weightOf ∈ q_W0 := q_W0_mem (List.mem_of_getElem? (i := 655) (by decide +kernel)) (by decide +kernel)
theorem kL_38 : Cond.methodLink RL 38 yX9_weightOf ∈ q_W0 := q_W0_mem (List.mem_of_getElem? (i := 653) (by decide +kernel)) (by decide +kernel)
theorem wX9_zoneOf : q_cw yX9_zoneOf cX9_zoneOf mX9_zoneOf 2 := ⟨q_W0_mem (List.mem_of_getElem? (i := 663) (by decide +kernel)) (by decide +kernel), q_W0_mem (List.mem_of_getElem? (i := 43) (by decide +kernel)) (by decide +kernel), by decide +kernel, by decide +kernel, by decide +kernel⟩
theorem iX9_zoneOf : Cond.instanceMethod yX9_zoneOf ∈ q_W0 := q_W0_mem (List.mem_of_getElem? (i := 661) (by decide +kernel)) (by decide +kernel)
theorem eX9_zoneOf : Cond.selects yX9_zoneOf.cls yX9_zoneOf yX9_zoneOf ∈ q_W0 := q_W0_mem (List.mem_of_getElem? (i := 662) (by decide +kernel)) (by decide +kernel)
theorem kL_41 : Cond.methodLink RL 41 yX9_zoneOf ∈ q_W0 := q_W0_mem (List.mem_of_getElem? (i := 660) (by decide +kernel)) (by decide +kernel)
theorem wX9_addSession : q_cw yX9_addSession cX9_addSession mX9_addSession 1 := ⟨q_W0_mem (List.mem_of_getElem? (i := 671) (by decide +kernel)) (by decide +kernel), q_W0_mem (List.mem_of_getElem? (i := 43) (by decide +kernel)) (by decide +kernel), by decide +kernel, by decide +kernel, by decide +kernel⟩
theorem iX9_addSession : Cond.instanceMethod yX9_addSession ∈ q_W0 := q_W0_mem (List.mem_of_getElem? (i := 669) (by decide +kernel)) (by decide +kernel)
theorem eX9_addSession : Cond.selects yX9_addSession.cls yX9_addSession yX9_addSession ∈ q_W0 := q_W0_mem (List.mem_of_getElem? (i := 670) (by decide +kernel)) (by decide +kernel)
theorem kL_44 : Cond.methodLink RL 44 yX9_addSession ∈ q_W0 := q_W0_mem (List.mem_of_getElem? (i := 668) (by decide +kernel)) (by decide +kernel)
theorem wX9_addPart : q_cw yX9_addPart cX9_addPart mX9_addPart 3 := ⟨q_W0_mem (List.mem_of_getElem? (i := 691) (by decide +kernel)) (by decide +kernel), q_W0_mem (List.mem_of_getElem? (i := 43) (by decide +kernel)) (by decide +kernel), by decide +kernel, by decide +kernel, by decide +kernel⟩
theorem iX9_addPart : Cond.instanceMethod yX9_addPart ∈ q_W0 := q_W0_mem (List.mem_of_getElem? (i := 689) (by decide +kernel)) (by decide +kernel)
theorem eX9_addPart : Cond.selects yX9_addPart.cls yX9_addPart yX9_addPart ∈ q_W0 := q_W0_mem (List.mem_of_getElem? (i := 690) (by decide +kernel)) (by decide +kernel)
theorem kL_47 : Cond.methodLink RL 47 yX9_addPart ∈ q_W0 := q_W0_mem (List.mem_of_getElem? (i := 688) (by decide +kernel)) (by decide +kernel)
theorem wX9_clearParts : q_cw yX9_clearParts cX9_clearParts mX9_clearParts 1 := ⟨q_W0_mem (List.mem_of_getElem? (i := 720) (by decide +kernel)) (by decide +kernel), q_W0_mem (List.mem_of_getElem? (i := 43) (by decide +kernel)) (by decide +kernel), by decide +kernel, by decide +kernel, by decide +kernel⟩
theorem iX9_clearParts : Cond.instanceMethod yX9_clearParts ∈ q_W0 := q_W0_mem (List.mem_of_getElem? (i := 718) (by decide +kernel)) (by decide +kernel)
theorem eX9_clearParts : Cond.selects yX9_clearParts.cls yX9_clearParts yX9_clearParts ∈ q_W0 := q_W0_mem (List.mem_of_getElem? (i := 719) (by decide +kernel)) (by decide +kernel)
theorem kL_51 : Cond.methodLink RL 51 yX9_clearParts ∈ q_W0 := q_W0_mem (List.mem_of_getElem? (i := 717) (by decide +kernel)) (by decide +kernel)
theorem wX9_moveSession : q_cw yX9_moveSession cX9_moveSession mX9_moveSession 2 := ⟨q_W0_mem (List.mem_of_getElem? (i := 727) (by decide +kernel)) (by decide +kernel), q_W0_mem (List.mem_of_getElem? (i := 43) (by decide +kernel)) (by decide +kernel), by decide +kernel, by decide +kernel, by decide +kernel⟩
theorem iX9_moveSession : Cond.instanceMethod yX9_moveSession ∈ q_W0 := q_W0_mem (List.mem_of_getElem? (i := 725) (by decide +kernel)) (by decide +kernel)
theorem eX9_moveSession : Cond.selects yX9_moveSession.cls yX9_moveSession yX9_moveSession ∈ q_W0 := q_W0_mem (List.mem_of_getElem? (i := 726) (by decide +kernel)) (by decide +kernel)
theorem kL_54 : Cond.methodLink RL 54 yX9_moveSession ∈ q_W0 := q_W0_mem (List.mem_of_getElem? (i := 724) (by decide +kernel)) (by decide +kernel)
theorem wX9_removeSession : q_cw yX9_removeSession cX9_removeSession mX9_removeSession 1 := ⟨q_W0_mem (List.mem_of_getElem? (i := 739) (by decide +kernel)) (by decide +kernel), q_W0_mem (List.mem_of_getElem? (i := 43) (by decide +kernel)) (by decide +kernel), by decide +kernel, by decide +kernel, by decide +kernel⟩
theorem iX9_removeSession : Cond.instanceMethod yX9_removeSession ∈ q_W0 := q_W0_mem (List.mem_of_getElem? (i := 737) (by decide +kernel)) (by decide +kernel)
theorem eX9_removeSession : Cond.selects yX9_removeSession.cls yX9_removeSession yX9_removeSession ∈ q_W0 := q_W0_mem (List.mem_of_getElem? (i := 738) (by decide +kernel)) (by decide +kernel)
theorem kL_57 : Cond.methodLink RL 57 yX9_removeSession ∈ q_W0 := q_W0_mem (List.mem_of_getElem? (i := 736) (by decide +kernel)) (by decide +kernel)
theorem wX9_sessionAt : q_cw yX9_sessionAt cX9_sessionAt mX9_sessionAt 1 := ⟨q_W0_mem (List.mem_of_getElem? (i := 774) (by decide +kernel)) (by decide +kernel), q_W0_mem (List.mem_of_getElem? (i := 43) (by decide +kernel)) (by decide +kernel), by decide +kernel, by decide +kernel, by decide +kernel⟩
theorem iX9_sessionAt : Cond.instanceMethod yX9_sessionAt ∈ q_W0 := q_W0_mem (List.mem_of_getElem? (i := 772) (by decide +kernel)) (by decide +kernel)
theorem eX9_sessionAt : Cond.selects yX9_sessionAt.cls yX9_sessionAt yX9_sessionAt ∈ q_W0 := q_W0_mem (List.mem_of_getElem? (i := 773) (by decide +kernel)) (by decide +kernel)
theorem kL_60 : Cond.methodLink RL 60 yX9_sessionAt ∈ q_W0 := q_W0_mem (List.mem_of_getElem? (i := 771) (by decide +kernel)) (by decide +kernel)
theorem wX9_dayOf : q_cw yX9_dayOf cX9_dayOf mX9_dayOf 1 := ⟨q_W0_mem (List.mem_of_getElem? (i := 794) (by decide +kernel)) (by decide +kernel), q_W0_mem (List.mem_of_getElem? (i := 43) (by decide +kernel)) (by decide +kernel), by decide +kernel, by decide +kernel, by decide +kernel⟩
theorem iX9_dayOf : Cond.instanceMethod yX9_dayOf ∈ q_W0 := q_W0_mem (List.mem_of_getElem? (i := 792) (by decide +kernel)) (by decide +kernel)
theorem eX9_dayOf : Cond.selects yX9_dayOf.cls yX9_dayOf yX9_dayOf ∈ q_W0 := q_W0_mem (List.mem_of_getElem? (i := 793) (by decide +kernel)) (by decide +kernel)
theorem kL_65 : Cond.methodLink RL 65 yX9_dayOf ∈ q_W0 := q_W0_mem (List.mem_of_getElem? (i := 791) (by decide +kernel)) (by decide +kernel)
theorem wX9_minutesOf : q_cw yX9_minutesOf cX9_minutesOf mX9_minutesOf 1 := ⟨q_W0_mem (List.mem_of_getElem? (i := 801) (by decide +kernel)) (by decide +kernel), q_W0_mem (List.mem_of_getElem? (i := 43) (by decide +kernel)) (by decide +kernel), by decide +kernel, by decide +kernel, by decide +kernel⟩
theorem iX9_minutesOf : Cond.instanceMethod yX9_minutesOf ∈ q_W0 := q_W0_mem (List.mem_of_getElem? (i := 799) (by decide +kernel)) (by decide +kernel)
theorem eX9_minutesOf : Cond.selects yX9_minutesOf.cls yX9_minutesOf yX9_minutesOf ∈ q_W0 := q_W0_mem (List.mem_of_getElem? (i := 800) (by decide +kernel)) (by decide +kernel)
theorem kL_68 : Cond.methodLink RL 68 yX9_minutesOf ∈ q_W0 := q_W0_mem (List.mem_of_getElem? (i := 798) (by decide +kernel)) (by decide +kernel)
theorem wX9_minutesInZone : q_cw yX9_minutesInZone cX9_minutesInZone mX9_minutesInZone 2 := ⟨q_W0_mem (List.mem_of_getElem? (i := 808) (by decide +kernel)) (by decide +kernel), q_W0_mem (List.mem_of_getElem? (i := 43) (by decide +kernel)) (by decide +kernel), by decide +kernel, by decide +kernel, by decide +kernel⟩
theorem iX9_minutesInZone : Cond.instanceMethod yX9_minutesInZone ∈ q_W0 := q_W0_mem (List.mem_of_getElem? (i := 806) (by decide +kernel)) (by decide +kernel)
theorem eX9_minutesInZone : Cond.selects yX9_minutesInZone.cls yX9_minutesInZone yX9_minutesInZone ∈ q_W0 := q_W0_mem (List.mem_of_getElem? (i := 807) (by decide +kernel)) (by decide +kernel)
theorem kL_71 : Cond.methodLink RL 71 yX9_minutesInZone ∈ q_W0 := q_W0_mem (List.mem_of_getElem? (i := 805) (by decide +kernel)) (by decide +kernel)
theorem wX9_loadOf : q_cw yX9_loadOf cX9_loadOf mX9_loadOf 1 := ⟨q_W0_mem (List.mem_of_getElem? (i := 820) (by decide +kernel)) (by decide +kernel), q_W0_mem (List.mem_of_getElem? (i := 43) (by decide +kernel)) (by decide +kernel), by decide +kernel, by decide +kernel, by decide +kernel⟩
theorem iX9_loadOf : Cond.instanceMethod yX9_loadOf ∈ q_W0 := q_W0_mem (List.mem_of_getElem? (i := 818) (by decide +kernel)) (by decide +kernel)
theorem eX9_loadOf : Cond.selects yX9_loadOf.cls yX9_loadOf yX9_loadOf ∈ q_W0 := q_W0_mem (List.mem_of_getElem? (i := 819) (by decide +kernel)) (by decide +kernel)
theorem kL_74 : Cond.methodLink RL 74 yX9_loadOf ∈ q_W0 := q_W0_mem (List.mem_of_getElem? (i := 817) (by decide +kernel)) (by decide +kernel)
theorem wX9_loadOn : q_cw yX9_loadOn cX9_loadOn mX9_loadOn 1 := ⟨q_W0_mem (List.mem_of_getElem? (i := 828) (by decide +kernel)) (by decide +kernel), q_W0_mem (List.mem_of_getElem? (i := 43) (by decide +kernel)) (by decide +kernel), by decide +kernel, by decide +kernel, by decide +kernel⟩
theorem iX9_loadOn : Cond.instanceMethod yX9_loadOn ∈ q_W0 := q_W0_mem (List.mem_of_getElem? (i := 826) (by decide +kernel)) (by decide +kernel)
theorem eX9_loadOn : Cond.selects yX9_loadOn.cls yX9_loadOn yX9_loadOn ∈ q_W0 := q_W0_mem (List.mem_of_getElem? (i := 827) (by decide +kernel)) (by decide +kernel)
theorem kL_77 : Cond.methodLink RL 77 yX9_loadOn ∈ q_W0 := q_W0_mem (List.mem_of_getElem? (i := 825) (by decide +kernel)) (by decide +kernel)
theorem wX9_zoneShare : q_cw yX9_zoneShare cX9_zoneShare mX9_zoneShare 1 := ⟨q_W0_mem (List.mem_of_getElem? (i := 849) (by decide +kernel)) (by decide +kernel), q_W0_mem (List.mem_of_getElem? (i := 43) (by decide +kernel)) (by decide +kernel), by decide +kernel, by decide +kernel, by decide +kernel⟩
theorem iX9_zoneShare : Cond.instanceMethod yX9_zoneShare ∈ q_W0 := q_W0_mem (List.mem_of_getElem? (i := 847) (by decide +kernel)) (by decide +kernel)
theorem eX9_zoneShare : Cond.selects yX9_zoneShare.cls yX9_zoneShare yX9_zoneShare ∈ q_W0 := q_W0_mem (List.mem_of_getElem? (i := 848) (by decide +kernel)) (by decide +kernel)
theorem kL_80 : Cond.methodLink RL 80 yX9_zoneShare ∈ q_W0 := q_W0_mem (List.mem_of_getElem? (i := 846) (by decide +kernel)) (by decide +kernel)
theorem wX9_fitnessOn : q_cw yX9_fitnessOn cX9_fitnessOn mX9_fitnessOn 1 := ⟨q_W0_mem (List.mem_of_getElem? (i := 859) (by decide +kernel)) (by decide +kernel), q_W0_mem (List.mem_of_getElem? (i := 43) (by decide +kernel)) (by decide +kernel), by decide +kernel, by decide +kernel, by decide +kernel⟩
theorem iX9_fitnessOn : Cond.instanceMethod yX9_fitnessOn ∈ q_W0 := q_W0_mem (List.mem_of_getElem? (i := 857) (by decide +kernel)) (by decide +kernel)
theorem eX9_fitnessOn : Cond.selects yX9_fitnessOn.cls yX9_fitnessOn yX9_fitnessOn ∈ q_W0 := q_W0_mem (List.mem_of_getElem? (i := 858) (by decide +kernel)) (by decide +kernel)
theorem kL_86 : Cond.methodLink RL 86 yX9_fitnessOn ∈ q_W0 := q_W0_mem (List.mem_of_getElem? (i := 856) (by decide +kernel)) (by decide +kernel)
theorem wX9_fitnessFromStart : q_cw yX9_fitnessFromStart cX9_fitnessFromStart mX9_fitnessFromStart 1 := ⟨q_W0_mem (List.mem_of_getElem? (i := 866) (by decide +kernel)) (by decide +kernel), q_W0_mem (List.mem_of_getElem? (i := 43) (by decide +kernel)) (by decide +kernel), by decide +kernel, by decide +kernel, by decide +kernel⟩
theorem iX9_fitnessFromStart : Cond.instanceMethod yX9_fitnessFromStart ∈ q_W0 := q_W0_mem (List.mem_of_getElem? (i := 864) (by decide +kernel)) (by decide +kernel)
theorem eX9_fitnessFromStart : Cond.selects yX9_fitnessFromStart.cls yX9_fitnessFromStart yX9_fitnessFromStart ∈ q_W0 := q_W0_mem (List.mem_of_getElem? (i := 865) (by decide +kernel)) (by decide +kernel)
theorem kL_89 : Cond.methodLink RL 89 yX9_fitnessFromStart ∈ q_W0 := q_W0_mem (List.mem_of_getElem? (i := 863) (by decide +kernel)) (by decide +kernel)
theorem wX9_fatigueOn : q_cw yX9_fatigueOn cX9_fatigueOn mX9_fatigueOn 1 := ⟨q_W0_mem (List.mem_of_getElem? (i := 873) (by decide +kernel)) (by decide +kernel), q_W0_mem (List.mem_of_getElem? (i := 43) (by decide +kernel)) (by decide +kernel), by decide +kernel, by decide +kernel, by decide +kernel⟩
theorem iX9_fatigueOn : Cond.instanceMethod yX9_fatigueOn ∈ q_W0 := q_W0_mem (List.mem_of_getElem? (i := 871) (by decide +kernel)) (by decide +kernel)
theorem eX9_fatigueOn : Cond.selects yX9_fatigueOn.cls yX9_fatigueOn yX9_fatigueOn ∈ q_W0 := q_W0_mem (List.mem_of_getElem? (i := 872) (by decide +kernel)) (by decide +kernel)
theorem kL_92 : Cond.methodLink RL 92 yX9_fatigueOn ∈ q_W0 := q_W0_mem (List.mem_of_getElem? (i := 870) (by decide +kernel)) (by decide +kernel)
theorem wX9_fatigueFromStart : q_cw yX9_fatigueFromStart cX9_fatigueFromStart mX9_fatigueFromStart 1 := ⟨q_W0_mem (List.mem_of_getElem? (i := 880) (by decide +kernel)) (by decide +kernel), q_W0_mem (List.mem_of_getElem? (i := 43) (by decide +kernel)) (by decide +kernel), by decide +kernel, by decide +kernel, by decide +kernel⟩
theorem iX9_fatigueFromStart : Cond.instanceMethod yX9_fatigueFromStart ∈ q_W0 := q_W0_mem (List.mem_of_getElem? (i := 878) (by decide +kernel)) (by decide +kernel)
theorem eX9_fatigueFromStart : Cond.selects yX9_fatigueFromStart.cls yX9_fatigueFromStart yX9_fatigueFromStart ∈ q_W0 := q_W0_mem (List.mem_of_getElem? (i := 879) (by decide +kernel)) (by decide +kernel)
theorem kL_95 : Cond.methodLink RL 95 yX9_fatigueFromStart ∈ q_W0 := q_W0_mem (List.mem_of_getElem? (i := 877) (by decide +kernel)) (by decide +kernel)
theorem wX9_formOn : q_cw yX9_formOn cX9_formOn mX9_formOn 1 := ⟨q_W0_mem (List.mem_of_getElem? (i := 887) (by decide +kernel)) (by decide +kernel), q_W0_mem (List.mem_of_getElem? (i := 43) (by decide +kernel)) (by decide +kernel), by decide +kernel, by decide +kernel, by decide +kernel⟩
theorem iX9_formOn : Cond.instanceMethod yX9_formOn ∈ q_W0 := q_W0_mem (List.mem_of_getElem? (i := 885) (by decide +kernel)) (by decide +kernel)
theorem eX9_formOn : Cond.selects yX9_formOn.cls yX9_formOn yX9_formOn ∈ q_W0 := q_W0_mem (List.mem_of_getElem? (i := 886) (by decide +kernel)) (by decide +kernel)
theorem kL_98 : Cond.methodLink RL 98 yX9_formOn ∈ q_W0 := q_W0_mem (List.mem_of_getElem? (i := 884) (by decide +kernel)) (by decide +kernel)
theorem wX9_daysToForm : q_cw yX9_daysToForm cX9_daysToForm mX9_daysToForm 1 := ⟨q_W0_mem (List.mem_of_getElem? (i := 894) (by decide +kernel)) (by decide +kernel), q_W0_mem (List.mem_of_getElem? (i := 43) (by decide +kernel)) (by decide +kernel), by decide +kernel, by decide +kernel, by decide +kernel⟩
theorem iX9_daysToForm : Cond.instanceMethod yX9_daysToForm ∈ q_W0 := q_W0_mem (List.mem_of_getElem? (i := 892) (by decide +kernel)) (by decide +kernel)
theorem eX9_daysToForm : Cond.selects yX9_daysToForm.cls yX9_daysToForm yX9_daysToForm ∈ q_W0 := q_W0_mem (List.mem_of_getElem? (i := 893) (by decide +kernel)) (by decide +kernel)
theorem kL_101 : Cond.methodLink RL 101 yX9_daysToForm ∈ q_W0 := q_W0_mem (List.mem_of_getElem? (i := 891) (by decide +kernel)) (by decide +kernel)
theorem wX9_bestDays : q_cw yX9_bestDays cX9_bestDays mX9_bestDays 1 := ⟨q_W0_mem (List.mem_of_getElem? (i := 904) (by decide +kernel)) (by decide +kernel), q_W0_mem (List.mem_of_getElem? (i := 43) (by decide +kernel)) (by decide +kernel), by decide +kernel, by decide +kernel, by decide +kernel⟩
theorem iX9_bestDays : Cond.instanceMethod yX9_bestDays ∈ q_W0 := q_W0_mem (List.mem_of_getElem? (i := 902) (by decide +kernel)) (by decide +kernel)
theorem eX9_bestDays : Cond.selects yX9_bestDays.cls yX9_bestDays yX9_bestDays ∈ q_W0 := q_W0_mem (List.mem_of_getElem? (i := 903) (by decide +kernel)) (by decide +kernel)
theorem kL_104 : Cond.methodLink RL 104 yX9_bestDays ∈ q_W0 := q_W0_mem (List.mem_of_getElem? (i := 901) (by decide +kernel)) (by decide +kernel)
theorem wX9_bestDaysByTrying : q_cw yX9_bestDaysByTrying cX9_bestDaysByTrying mX9_bestDaysByTrying 1 := ⟨q_W0_mem (List.mem_of_getElem? (i := 920) (by decide +kernel)) (by decide +kernel), q_W0_mem (List.mem_of_getElem? (i := 43) (by decide +kernel)) (by decide +kernel), by decide +kernel, by decide +kernel, by decide +kernel⟩
theorem iX9_bestDaysByTrying : Cond.instanceMethod yX9_bestDaysByTrying ∈ q_W0 := q_W0_mem (List.mem_of_getElem? (i := 918) (by decide +kernel)) (by decide +kernel)
theorem eX9_bestDaysByTrying : Cond.selects yX9_bestDaysByTrying.cls yX9_bestDaysByTrying yX9_bestDaysByTrying ∈ q_W0 := q_W0_mem (List.mem_of_getElem? (i := 919) (by decide +kernel)) (by decide +kernel)
theorem kL_107 : Cond.methodLink RL 107 yX9_bestDaysByTrying ∈ q_W0 := q_W0_mem (List.mem_of_getElem? (i := 917) (by decide +kernel)) (by decide +kernel)
theorem wX9_bestDaysStart : q_cw yX9_bestDaysStart cX9_bestDaysStart mX9_bestDaysStart 1 := ⟨q_W0_mem (List.mem_of_getElem? (i := 930) (by decide +kernel)) (by decide +kernel), q_W0_mem (List.mem_of_getElem? (i := 43) (by decide +kernel)) (by decide +kernel), by decide +kernel, by decide +kernel, by decide +kernel⟩
theorem iX9_bestDaysStart : Cond.instanceMethod yX9_bestDaysStart ∈ q_W0 := q_W0_mem (List.mem_of_getElem? (i := 928) (by decide +kernel)) (by decide +kernel)
theorem eX9_bestDaysStart : Cond.selects yX9_bestDaysStart.cls yX9_bestDaysStart yX9_bestDaysStart ∈ q_W0 := q_W0_mem (List.mem_of_getElem? (i := 929) (by decide +kernel)) (by decide +kernel)
theorem kL_110 : Cond.methodLink RL 110 yX9_bestDaysStart ∈ q_W0 := q_W0_mem (List.mem_of_getElem? (i := 927) (by decide +kernel)) (by decide +kernel)
theorem wX9_bestEffort : q_cw yX9_bestEffort cX9_bestEffort mX9_bestEffort 1 := ⟨q_W0_mem (List.mem_of_getElem? (i := 937) (by decide +kernel)) (by decide +kernel), q_W0_mem (List.mem_of_getElem? (i := 43) (by decide +kernel)) (by decide +kernel), by decide +kernel, by decide +kernel, by decide +kernel⟩
theorem iX9_bestEffort : Cond.instanceMethod yX9_bestEffort ∈ q_W0 := q_W0_mem (List.mem_of_getElem? (i := 935) (by decide +kernel)) (by decide +kernel)
theorem eX9_bestEffort : Cond.selects yX9_bestEffort.cls yX9_bestEffort yX9_bestEffort ∈ q_W0 := q_W0_mem (List.mem_of_getElem? (i := 936) (by decide +kernel)) (by decide +kernel)
theorem kL_113 : Cond.methodLink RL 113 yX9_bestEffort ∈ q_W0 := q_W0_mem (List.mem_of_getElem? (i := 934) (by decide +kernel)) (by decide +kernel)
theorem wX9_bestEffortByTrying : q_cw yX9_bestEffortByTrying cX9_bestEffortByTrying mX9_bestEffortByTrying 1 := ⟨q_W0_mem (List.mem_of_getElem? (i := 966) (by decide +kernel)) (by decide +kernel), q_W0_mem (List.mem_of_getElem? (i := 43) (by decide +kernel)) (by decide +kernel), by decide +kernel, by decide +kernel, by decide +kernel⟩
theorem iX9_bestEffortByTrying : Cond.instanceMethod yX9_bestEffortByTrying ∈ q_W0 := q_W0_mem (List.mem_of_getElem? (i := 964) (by decide +kernel)) (by decide +kernel)
theorem eX9_bestEffortByTrying : Cond.selects yX9_bestEffortByTrying.cls yX9_bestEffortByTrying yX9_bestEffortByTrying ∈ q_W0 := q_W0_mem (List.mem_of_getElem? (i := 965) (by decide +kernel)) (by decide +kernel)
theorem kL_116 : Cond.methodLink RL 116 yX9_bestEffortByTrying ∈ q_W0 := q_W0_mem (List.mem_of_getElem? (i := 963) (by decide +kernel)) (by decide +kernel)
theorem wX9_bestEffortSession : q_cw yX9_bestEffortSession cX9_bestEffortSession mX9_bestEffortSession 1 := ⟨q_W0_mem (List.mem_of_getElem? (i := 977) (by decide +kernel)) (by decide +kernel), q_W0_mem (List.mem_of_getElem? (i := 43) (by decide +kernel)) (by decide +kernel), by decide +kernel, by decide +kernel, by decide +kernel⟩
theorem iX9_bestEffortSession : Cond.instanceMethod yX9_bestEffortSession ∈ q_W0 := q_W0_mem (List.mem_of_getElem? (i := 975) (by decide +kernel)) (by decide +kernel)
theorem eX9_bestEffortSession : Cond.selects yX9_bestEffortSession.cls yX9_bestEffortSession yX9_bestEffortSession ∈ q_W0 := q_W0_mem (List.mem_of_getElem? (i := 976) (by decide +kernel)) (by decide +kernel)
theorem kL_119 : Cond.methodLink RL 119 yX9_bestEffortSession ∈ q_W0 := q_W0_mem (List.mem_of_getElem? (i := 974) (by decide +kernel)) (by decide +kernel)
theorem wX9_addTarget : q_cw yX9_addTarget cX9_addTarget mX9_addTarget 1 := ⟨q_W0_mem (List.mem_of_getElem? (i := 984) (by decide +kernel)) (by decide +kernel), q_W0_mem (List.mem_of_getElem? (i := 43) (by decide +kernel)) (by decide +kernel), by decide +kernel, by decide +kernel, by decide +kernel⟩
theorem iX9_addTarget : Cond.instanceMethod yX9_addTarget ∈ q_W0 := q_W0_mem (List.mem_of_getElem? (i := 982) (by decide +kernel)) (by decide +kernel)
theorem eX9_addTarget : Cond.selects yX9_addTarget.cls yX9_addTarget yX9_addTarget ∈ q_W0 := q_W0_mem (List.mem_of_getElem? (i := 983) (by decide +kernel)) (by decide +kernel)
theorem kL_122 : Cond.methodLink RL 122 yX9_addTarget ∈ q_W0 := q_W0_mem (List.mem_of_getElem? (i := 981) (by decide +kernel)) (by decide +kernel)
theorem wX9_targetAt : q_cw yX9_targetAt cX9_targetAt mX9_targetAt 1 := ⟨q_W0_mem (List.mem_of_getElem? (i := 996) (by decide +kernel)) (by decide +kernel), q_W0_mem (List.mem_of_getElem? (i := 43) (by decide +kernel)) (by decide +kernel), by decide +kernel, by decide +kernel, by decide +kernel⟩
theorem iX9_targetAt : Cond.instanceMethod yX9_targetAt ∈ q_W0 := q_W0_mem (List.mem_of_getElem? (i := 994) (by decide +kernel)) (by decide +kernel)
theorem eX9_targetAt : Cond.selects yX9_targetAt.cls yX9_targetAt yX9_targetAt ∈ q_W0 := q_W0_mem (List.mem_of_getElem? (i := 995) (by decide +kernel)) (by decide +kernel)
theorem kL_125 : Cond.methodLink RL 125 yX9_targetAt ∈ q_W0 := q_W0_mem (List.mem_of_getElem? (i := 993) (by decide +kernel)) (by decide +kernel)
theorem wX9_dueEntry : q_cw yX9_dueEntry cX9_dueEntry mX9_dueEntry 0 := ⟨q_W0_mem (List.mem_of_getElem? (i := 1004) (by decide +kernel)) (by decide +kernel), q_W0_mem (List.mem_of_getElem? (i := 43) (by decide +kernel)) (by decide +kernel), by decide +kernel, by decide +kernel, by decide +kernel⟩
theorem iX9_dueEntry : Cond.instanceMethod yX9_dueEntry ∈ q_W0 := q_W0_mem (List.mem_of_getElem? (i := 1002) (by decide +kernel)) (by decide +kernel)
theorem eX9_dueEntry : Cond.selects yX9_dueEntry.cls yX9_dueEntry yX9_dueEntry ∈ q_W0 := q_W0_mem (List.mem_of_getElem? (i := 1003) (by decide +kernel)) (by decide +kernel)
theorem kL_128 : Cond.methodLink RL 128 yX9_dueEntry ∈ q_W0 := q_W0_mem (List.mem_of_getElem? (i := 1001) (by decide +kernel)) (by decide +kernel)
theorem wX9_planEnd : q_cw yX9_planEnd cX9_planEnd mX9_planEnd 0 := ⟨q_W0_mem (List.mem_of_getElem? (i := 1016) (by decide +kernel)) (by decide +kernel), q_W0_mem (List.mem_of_getElem? (i := 43) (by decide +kernel)) (by decide +kernel), by decide +kernel, by decide +kernel, by decide +kernel⟩
theorem iX9_planEnd : Cond.instanceMethod yX9_planEnd ∈ q_W0 := q_W0_mem (List.mem_of_getElem? (i := 1014) (by decide +kernel)) (by decide +kernel)
theorem eX9_planEnd : Cond.selects yX9_planEnd.cls yX9_planEnd yX9_planEnd ∈ q_W0 := q_W0_mem (List.mem_of_getElem? (i := 1015) (by decide +kernel)) (by decide +kernel)
theorem kL_132 : Cond.methodLink RL 132 yX9_planEnd ∈ q_W0 := q_W0_mem (List.mem_of_getElem? (i := 1013) (by decide +kernel)) (by decide +kernel)
theorem wX9_writeWeek : q_cw yX9_writeWeek cX9_writeWeek mX9_writeWeek 1 := ⟨q_W0_mem (List.mem_of_getElem? (i := 1023) (by decide +kernel)) (by decide +kernel), q_W0_mem (List.mem_of_getElem? (i := 43) (by decide +kernel)) (by decide +kernel), by decide +kernel, by decide +kernel, by decide +kernel⟩
theorem iX9_writeWeek : Cond.instanceMethod yX9_writeWeek ∈ q_W0 := q_W0_mem (List.mem_of_getElem? (i := 1021) (by decide +kernel)) (by decide +kernel)
theorem eX9_writeWeek : Cond.selects yX9_writeWeek.cls yX9_writeWeek yX9_writeWeek ∈ q_W0 := q_W0_mem (List.mem_of_getElem? (i := 1022) (by decide +kernel)) (by decide +kernel)
theorem kL_135 : Cond.methodLink RL 135 yX9_writeWeek ∈ q_W0 := q_W0_mem (List.mem_of_getElem? (i := 1020) (by decide +kernel)) (by decide +kernel)
theorem wX9_lineAt : q_cw yX9_lineAt cX9_lineAt mX9_lineAt 1 := ⟨q_W0_mem (List.mem_of_getElem? (i := 1038) (by decide +kernel)) (by decide +kernel), q_W0_mem (List.mem_of_getElem? (i := 43) (by decide +kernel)) (by decide +kernel), by decide +kernel, by decide +kernel, by decide +kernel⟩
theorem iX9_lineAt : Cond.instanceMethod yX9_lineAt ∈ q_W0 := q_W0_mem (List.mem_of_getElem? (i := 1036) (by decide +kernel)) (by decide +kernel)
theorem eX9_lineAt : Cond.selects yX9_lineAt.cls yX9_lineAt yX9_lineAt ∈ q_W0 := q_W0_mem (List.mem_of_getElem? (i := 1037) (by decide +kernel)) (by decide +kernel)
theorem kL_138 : Cond.methodLink RL 138 yX9_lineAt ∈ q_W0 := q_W0_mem (List.mem_of_getElem? (i := 1035) (by decide +kernel)) (by decide +kernel)
theorem wX9_undo : q_cw yX9_undo cX9_undo mX9_undo 0 := ⟨q_W0_mem (List.mem_of_getElem? (i := 1046) (by decide +kernel)) (by decide +kernel), q_W0_mem (List.mem_of_getElem? (i := 43) (by decide +kernel)) (by decide +kernel), by decide +kernel, by decide +kernel, by decide +kernel⟩
theorem iX9_undo : Cond.instanceMethod yX9_undo ∈ q_W0 := q_W0_mem (List.mem_of_getElem? (i := 1044) (by decide +kernel)) (by decide +kernel)
theorem eX9_undo : Cond.selects yX9_undo.cls yX9_undo yX9_undo ∈ q_W0 := q_W0_mem (List.mem_of_getElem? (i := 1045) (by decide +kernel)) (by decide +kernel)
theorem kL_142 : Cond.methodLink RL 142 yX9_undo ∈ q_W0 := q_W0_mem (List.mem_of_getElem? (i := 1043) (by decide +kernel)) (by decide +kernel)
theorem wX9_restore : q_cw yX9_restore cX9_restore mX9_restore 0 := ⟨q_W0_mem (List.mem_of_getElem? (i := 1058) (by decide +kernel)) (by decide +kernel), q_W0_mem (List.mem_of_getElem? (i := 43) (by decide +kernel)) (by decide +kernel), by decide +kernel, by decide +kernel, by decide +kernel⟩
theorem iX9_restore : Cond.instanceMethod yX9_restore ∈ q_W0 := q_W0_mem (List.mem_of_getElem? (i := 1056) (by decide +kernel)) (by decide +kernel)
theorem eX9_restore : Cond.selects yX9_restore.cls yX9_restore yX9_restore ∈ q_W0 := q_W0_mem (List.mem_of_getElem? (i := 1057) (by decide +kernel)) (by decide +kernel)
theorem kL_145 : Cond.methodLink RL 145 yX9_restore ∈ q_W0 := q_W0_mem (List.mem_of_getElem? (i := 1055) (by decide +kernel)) (by decide +kernel)
theorem wX9_init : q_cw yX9_init cX9_init mX9_init 0 := ⟨q_W0_mem (List.mem_of_getElem? (i := 70) (by decide +kernel)) (by decide +kernel), q_W0_mem (List.mem_of_getElem? (i := 43) (by decide +kernel)) (by decide +kernel), by decide +kernel, by decide +kernel, by decide +kernel⟩
theorem iX9_init : Cond.instanceMethod yX9_init ∈ q_W0 := q_W0_mem (List.mem_of_getElem? (i := 69) (by decide +kernel)) (by decide +kernel)
theorem kL_148 : Cond.methodLink RL 148 yX9_init ∈ q_W0 := q_W0_mem (List.mem_of_getElem? (i := 68) (by decide +kernel)) (by decide +kernel)
theorem wX10_init : q_cw yX10_init cX10_init mX10_init 0 := ⟨q_W0_mem (List.mem_of_getElem? (i := 1068) (by decide +kernel)) (by decide +kernel), q_W0_mem (List.mem_of_getElem? (i := 53) (by decide +kernel)) (by decide +kernel), by decide +kernel, by decide +kernel, by decide +kernel⟩
theorem iX10_init : Cond.instanceMethod yX10_init ∈ q_W0 := q_W0_mem (List.mem_of_getElem? (i := 1067) (by decide +kernel)) (by decide +kernel)
theorem kL_151 : Cond.methodLink RL 151 yX10_init ∈ q_W0 := q_W0_mem (List.mem_of_getElem? (i := 1066) (by decide +kernel)) (by decide +kernel)
theorem kL_152 : Cond.methodLink RL 152 yL_pass ∈ q_W0 := q_W0_mem (List.mem_of_getElem? (i := 453) (by decide +kernel)) (by decide +kernel)
theorem wX10_pass : q_cw yX10_pass cX10_pass mX10_pass 1 := ⟨q_W0_mem (List.mem_of_getElem? (i := 1122) (by decide +kernel)) (by decide +kernel), q_W0_mem (List.mem_of_getElem? (i := 53) (by decide +kernel)) (by decide +kernel), by decide +kernel, by decide +kernel, by decide +kernel⟩
theorem iX10_pass : Cond.instanceMethod yX10_pass ∈ q_W0 := q_W0_mem (List.mem_of_getElem? (i := 1120) (by decide +kernel)) (by decide +kernel)
theorem eX10_pass : Cond.selects yX10_pass.cls yX10_pass yX10_pass ∈ q_W0 := q_W0_mem (List.mem_of_getElem? (i := 1121) (by decide +kernel)) (by decide +kernel)
theorem kL_157 : Cond.methodLink RL 157 yX10_pass ∈ q_W0 := q_W0_mem (List.mem_of_getElem? (i := 1119) (by decide +kernel)) (by decide +kernel)
theorem wX10_thrown : q_cw yX10_thrown cX10_thrown mX10_thrown 0 := ⟨q_W0_mem (List.mem_of_getElem? (i := 1118) (by decide +kernel)) (by decide +kernel), q_W0_mem (List.mem_of_getElem? (i := 53) (by decide +kernel)) (by decide +kernel), by decide +kernel, by decide +kernel, by decide +kernel⟩
theorem iX10_thrown : Cond.instanceMethod yX10_thrown ∈ q_W0 := q_W0_mem (List.mem_of_getElem? (i := 1116) (by decide +kernel)) (by decide +kernel)
theorem eX10_thrown : Cond.selects yX10_thrown.cls yX10_thrown yX10_thrown ∈ q_W0 := q_W0_mem (List.mem_of_getElem? (i := 1117) (by decide +kernel)) (by decide +kernel)
theorem kL_158 : Cond.methodLink RL 158 yX10_thrown ∈ q_W0 := q_W0_mem (List.mem_of_getElem? (i := 1115) (by decide +kernel)) (by decide +kernel)
theorem wX9_today : q_cw yX9_today cX9_today mX9_today 0 := ⟨q_W0_mem (List.mem_of_getElem? (i := 325) (by decide +kernel)) (by decide +kernel), q_W0_mem (List.mem_of_getElem? (i := 43) (by decide +kernel)) (by decide +kernel), by decide +kernel, by decide +kernel, by decide +kernel⟩
theorem iX9_today : Cond.instanceMethod yX9_today ∈ q_W0 := q_W0_mem (List.mem_of_getElem? (i := 323) (by decide +kernel)) (by decide +kernel)
theorem eX9_today : Cond.selects yX9_today.cls yX9_today yX9_today ∈ q_W0 := q_W0_mem (List.mem_of_getElem? (i := 324) (by decide +kernel)) (by decide +kernel)
theorem kL_161 : Cond.methodLink RL 161 yX9_today ∈ q_W0 := q_W0_mem (List.mem_of_getElem? (i := 322) (by decide +kernel)) (by decide +kernel)
theorem wX10_today : q_cw yX10_today cX10_today mX10_today 0 := ⟨q_W0_mem (List.mem_of_getElem? (i := 1138) (by decide +kernel)) (by decide +kernel), q_W0_mem (List.mem_of_getElem? (i := 53) (by decide +kernel)) (by decide +kernel), by decide +kernel, by decide +kernel, by decide +kernel⟩
theorem iX10_today : Cond.instanceMethod yX10_today ∈ q_W0 := q_W0_mem (List.mem_of_getElem? (i := 1136) (by decide +kernel)) (by decide +kernel)
theorem eX10_today : Cond.selects yX10_today.cls yX10_today yX10_today ∈ q_W0 := q_W0_mem (List.mem_of_getElem? (i := 1137) (by decide +kernel)) (by decide +kernel)
theorem kL_164 : Cond.methodLink RL 164 yX10_today ∈ q_W0 := q_W0_mem (List.mem_of_getElem? (i := 1135) (by decide +kernel)) (by decide +kernel)
theorem kL_165 : Cond.methodLink RL 165 yL_addTest ∈ q_W0 := q_W0_mem (List.mem_of_getElem? (i := 552) (by decide +kernel)) (by decide +kernel)
theorem wX10_addTest : q_cw yX10_addTest cX10_addTest mX10_addTest 2 := ⟨q_W0_mem (List.mem_of_getElem? (i := 1142) (by decide +kernel)) (by decide +kernel), q_W0_mem (List.mem_of_getElem? (i := 53) (by decide +kernel)) (by decide +kernel), by decide +kernel, by decide +kernel, by decide +kernel⟩
theorem iX10_addTest : Cond.instanceMethod yX10_addTest ∈ q_W0 := q_W0_mem (List.mem_of_getElem? (i := 1140) (by decide +kernel)) (by decide +kernel)
theorem eX10_addTest : Cond.selects yX10_addTest.cls yX10_addTest yX10_addTest ∈ q_W0 := q_W0_mem (List.mem_of_getElem? (i := 1141) (by decide +kernel)) (by decide +kernel)
theorem kL_168 : Cond.methodLink RL 168 yX10_addTest ∈ q_W0 := q_W0_mem (List.mem_of_getElem? (i := 1139) (by decide +kernel)) (by decide +kernel)
theorem kL_169 : Cond.methodLink RL 169 yL_removeTest ∈ q_W0 := q_W0_mem (List.mem_of_getElem? (i := 585) (by decide +kernel)) (by decide +kernel)
theorem wX10_removeTest : q_cw yX10_removeTest cX10_removeTest mX10_removeTest 1 := ⟨q_W0_mem (List.mem_of_getElem? (i := 1178) (by decide +kernel)) (by decide +kernel), q_W0_mem (List.mem_of_getElem? (i := 53) (by decide +kernel)) (by decide +kernel), by decide +kernel, by decide +kernel, by decide +kernel⟩
theorem iX10_removeTest : Cond.instanceMethod yX10_removeTest ∈ q_W0 := q_W0_mem (List.mem_of_getElem? (i := 1176) (by decide +kernel)) (by decide +kernel)
theorem eX10_removeTest : Cond.selects yX10_removeTest.cls yX10_removeTest yX10_removeTest ∈ q_W0 := q_W0_mem (List.mem_of_getElem? (i := 1177) (by decide +kernel)) (by decide +kernel)
theorem kL_171 : Cond.methodLink RL 171 yX10_removeTest ∈ q_W0 := q_W0_mem (List.mem_of_getElem? (i := 1175) (by decide +kernel)) (by decide +kernel)
theorem wX9_testCount : q_cw yX9_testCount cX9_testCount mX9_testCount 0 := ⟨q_W0_mem (List.mem_of_getElem? (i := 329) (by decide +kernel)) (by decide +kernel), q_W0_mem (List.mem_of_getElem? (i := 43) (by decide +kernel)) (by decide +kernel), by decide +kernel, by decide +kernel, by decide +kernel⟩
theorem iX9_testCount : Cond.instanceMethod yX9_testCount ∈ q_W0 := q_W0_mem (List.mem_of_getElem? (i := 327) (by decide +kernel)) (by decide +kernel)
theorem eX9_testCount : Cond.selects yX9_testCount.cls yX9_testCount yX9_testCount ∈ q_W0 := q_W0_mem (List.mem_of_getElem? (i := 328) (by decide +kernel)) (by decide +kernel)
theorem kL_172 : Cond.methodLink RL 172 yX9_testCount ∈ q_W0 := q_W0_mem (List.mem_of_getElem? (i := 326) (by decide +kernel)) (by decide +kernel)
theorem wX10_testCount : q_cw yX10_testCount cX10_testCount mX10_testCount 0 := ⟨q_W0_mem (List.mem_of_getElem? (i := 1182) (by decide +kernel)) (by decide +kernel), q_W0_mem (List.mem_of_getElem? (i := 53) (by decide +kernel)) (by decide +kernel), by decide +kernel, by decide +kernel, by decide +kernel⟩
theorem iX10_testCount : Cond.instanceMethod yX10_testCount ∈ q_W0 := q_W0_mem (List.mem_of_getElem? (i := 1180) (by decide +kernel)) (by decide +kernel)
theorem eX10_testCount : Cond.selects yX10_testCount.cls yX10_testCount yX10_testCount ∈ q_W0 := q_W0_mem (List.mem_of_getElem? (i := 1181) (by decide +kernel)) (by decide +kernel)
theorem kL_175 : Cond.methodLink RL 175 yX10_testCount ∈ q_W0 := q_W0_mem (List.mem_of_getElem? (i := 1179) (by decide +kernel)) (by decide +kernel)
theorem kL_176 : Cond.methodLink RL 176 yL_thresholdOn ∈ q_W0 := q_W0_mem (List.mem_of_getElem? (i := 613) (by decide +kernel)) (by decide +kernel)
theorem wX10_thresholdOn : q_cw yX10_thresholdOn cX10_thresholdOn mX10_thresholdOn 1 := ⟨q_W0_mem (List.mem_of_getElem? (i := 1186) (by decide +kernel)) (by decide +kernel), q_W0_mem (List.mem_of_getElem? (i := 53) (by decide +kernel)) (by decide +kernel), by decide +kernel, by decide +kernel, by decide +kernel⟩
theorem iX10_thresholdOn : Cond.instanceMethod yX10_thresholdOn ∈ q_W0 := q_W0_mem (List.mem_of_getElem? (i := 1184) (by decide +kernel)) (by decide +kernel)
theorem eX10_thresholdOn : Cond.selects yX10_thresholdOn.cls yX10_thresholdOn yX10_thresholdOn ∈ q_W0 := q_W0_mem (List.mem_of_getElem? (i := 1185) (by decide +kernel)) (by decide +kernel)
theorem kL_178 : Cond.methodLink RL 178 yX10_thresholdOn ∈ q_W0 := q_W0_mem (List.mem_of_getElem? (i := 1183) (by decide +kernel)) (by decide +kernel)
theorem kL_179 : Cond.methodLink RL 179 yL_setBound ∈ q_W0 := q_W0_mem (List.mem_of_getElem? (i := 621) (by decide +kernel)) (by decide +kernel)
theorem wX10_setBound : q_cw yX10_setBound cX10_setBound mX10_setBound 2 := ⟨q_W0_mem (List.mem_of_getElem? (i := 1190) (by decide +kernel)) (by decide +kernel), q_W0_mem (List.mem_of_getElem? (i := 53) (by decide +kernel)) (by decide +kernel), by decide +kernel, by decide +kernel, by decide +kernel⟩
theorem iX10_setBound : Cond.instanceMethod yX10_setBound ∈ q_W0 := q_W0_mem (List.mem_of_getElem? (i := 1188) (by decide +kernel)) (by decide +kernel)
theorem eX10_setBound : Cond.selects yX10_setBound.cls yX10_setBound yX10_setBound ∈ q_W0 := q_W0_mem (List.mem_of_getElem? (i := 1189) (by decide +kernel)) (by decide +kernel)
theorem kL_181 : Cond.methodLink RL 181 yX10_setBound ∈ q_W0 := q_W0_mem (List.mem_of_getElem? (i := 1187) (by decide +kernel)) (by decide +kernel)
theorem kL_182 : Cond.methodLink RL 182 yL_boundOf ∈ q_W0 := q_W0_mem (List.mem_of_getElem? (i := 633) (by decide +kernel)) (by decide +kernel)
theorem wX10_boundOf : q_cw yX10_boundOf cX10_boundOf mX10_boundOf 1 := ⟨q_W0_mem (List.mem_of_getElem? (i := 1194) (by decide +kernel)) (by decide +kernel), q_W0_mem (List.mem_of_getElem? (i := 53) (by decide +kernel)) (by decide +kernel), by decide +kernel, by decide +kernel, by decide +kernel⟩
theorem iX10_boundOf : Cond.instanceMethod yX10_boundOf ∈ q_W0 := q_W0_mem (List.mem_of_getElem? (i := 1192) (by decide +kernel)) (by decide +kernel)
theorem eX10_boundOf : Cond.selects yX10_boundOf.cls yX10_boundOf yX10_boundOf ∈ q_W0 := q_W0_mem (List.mem_of_getElem? (i := 1193) (by decide +kernel)) (by decide +kernel)
theorem kL_184 : Cond.methodLink RL 184 yX10_boundOf ∈ q_W0 := q_W0_mem (List.mem_of_getElem? (i := 1191) (by decide +kernel)) (by decide +kernel)
theorem kL_185 : Cond.methodLink RL 185 yL_setWeight ∈ q_W0 := q_W0_mem (List.mem_of_getElem? (i := 640) (by decide +kernel)) (by decide +kernel)
theorem wX10_setWeight : q_cw yX10_setWeight cX10_setWeight mX10_setWeight 2 := ⟨q_W0_mem (List.mem_of_getElem? (i := 1198) (by decide +kernel)) (by decide +kernel), q_W0_mem (List.mem_of_getElem? (i := 53) (by decide +kernel)) (by decide +kernel), by decide +kernel, by decide +kernel, by decide +kernel⟩
theorem iX10_setWeight : Cond.instanceMethod yX10_setWeight ∈ q_W0 := q_W0_mem (List.mem_of_getElem? (i := 1196) (by decide +kernel)) (by decide +kernel)
theorem eX10_setWeight : Cond.selects yX10_setWeight.cls yX10_setWeight yX10_setWeight ∈ q_W0 := q_W0_mem (List.mem_of_getElem? (i := 1197) (by decide +kernel)) (by decide +kernel)
theorem kL_187 : Cond.methodLink RL 187 yX10_setWeight ∈ q_W0 := q_W0_mem (List.mem_of_getElem? (i := 1195) (by decide +kernel)) (by decide +kernel)
theorem kL_188 : Cond.methodLink RL 188 yL_weightOf ∈ q_W0 := q_W0_mem (List.mem_of_getElem? (i := 650) (by decide +kernel)) (by decide +kernel)
theorem wX10_weightOf : q_cw yX10_weightOf cX10_weightOf mX10_weightOf 1 := ⟨q_W0_mem (List.mem_of_getElem? (i := 1202) (by decide +kernel)) (by decide +kernel), q_W0_mem (List.mem_of_getElem? (i := 53) (by decide +kernel)) (by decide +kernel), by decide +kernel, by decide +kernel, by decide +kernel⟩
theorem iX10_weightOf : Cond.instanceMethod yX10_weightOf ∈ q_W0 := q_W0_mem (List.mem_of_getElem? (i := 1200) (by decide +kernel)) (by decide +kernel)
theorem eX10_weightOf : Cond.selects yX10_weightOf.cls yX10_weightOf yX10_weightOf ∈ q_W0 := q_W0_mem (List.mem_of_getElem? (i := 1201) (by decide +kernel)) (by decide +kernel)
theorem kL_190 : Cond.methodLink RL 190 yX10_weightOf ∈ q_W0 := q_W0_mem (List.mem_of_getElem? (i := 1199) (by decide +kernel)) (by decide +kernel)
theorem kL_191 : Cond.methodLink RL 191 yL_zoneOf ∈ q_W0 := q_W0_mem (List.mem_of_getElem? (i := 657) (by decide +kernel)) (by decide +kernel)
theorem wX10_zoneOf : q_cw yX10_zoneOf cX10_zoneOf mX10_zoneOf 2 := ⟨q_W0_mem (List.mem_of_getElem? (i := 1206) (by decide +kernel)) (by decide +kernel), q_W0_mem (List.mem_of_getElem? (i := 53) (by decide +kernel)) (by decide +kernel), by decide +kernel, by decide +kernel, by decide +kernel⟩
theorem iX10_zoneOf : Cond.instanceMethod yX10_zoneOf ∈ q_W0 := q_W0_mem (List.mem_of_getElem? (i := 1204) (by decide +kernel)) (by decide +kernel)
theorem eX10_zoneOf : Cond.selects yX10_zoneOf.cls yX10_zoneOf yX10_zoneOf ∈ q_W0 := q_W0_mem (List.mem_of_getElem? (i := 1205) (by decide +kernel)) (by decide +kernel)
theorem kL_193 : Cond.methodLink RL 193 yX10_zoneOf ∈ q_W0 := q_W0_mem (List.mem_of_getElem? (i := 1203) (by decide +kernel)) (by decide +kernel)
theorem kL_194 : Cond.methodLink RL 194 yL_addSession ∈ q_W0 := q_W0_mem (List.mem_of_getElem? (i := 665) (by decide +kernel)) (by decide +kernel)
theorem wX10_addSession : q_cw yX10_addSession cX10_addSession mX10_addSession 1 := ⟨q_W0_mem (List.mem_of_getElem? (i := 1210) (by decide +kernel)) (by decide +kernel), q_W0_mem (List.mem_of_getElem? (i := 53) (by decide +kernel)) (by decide +kernel), by decide +kernel, by decide +kernel, by decide +kernel⟩
theorem iX10_addSession : Cond.instanceMethod yX10_addSession ∈ q_W0 := q_W0_mem (List.mem_of_getElem? (i := 1208) (by decide +kernel)) (by decide +kernel)
theorem eX10_addSession : Cond.selects yX10_addSession.cls yX10_addSession yX10_addSession ∈ q_W0 := q_W0_mem (List.mem_of_getElem? (i := 1209) (by decide +kernel)) (by decide +kernel)
theorem kL_196 : Cond.methodLink RL 196 yX10_addSession ∈ q_W0 := q_W0_mem (List.mem_of_getElem? (i := 1207) (by decide +kernel)) (by decide +kernel)
theorem kL_197 : Cond.methodLink RL 197 yL_addPart ∈ q_W0 := q_W0_mem (List.mem_of_getElem? (i := 685) (by decide +kernel)) (by decide +kernel)
theorem wX10_addPart : q_cw yX10_addPart cX10_addPart mX10_addPart 3 := ⟨q_W0_mem (List.mem_of_getElem? (i := 1214) (by decide +kernel)) (by decide +kernel), q_W0_mem (List.mem_of_getElem? (i := 53) (by decide +kernel)) (by decide +kernel), by decide +kernel, by decide +kernel, by decide +kernel⟩
theorem iX10_addPart : Cond.instanceMethod yX10_addPart ∈ q_W0 := q_W0_mem (List.mem_of_getElem? (i := 1212) (by decide +kernel)) (by decide +kernel)
theorem eX10_addPart : Cond.selects yX10_addPart.cls yX10_addPart yX10_addPart ∈ q_W0 := q_W0_mem (List.mem_of_getElem? (i := 1213) (by decide +kernel)) (by decide +kernel)
theorem kL_200 : Cond.methodLink RL 200 yX10_addPart ∈ q_W0 := q_W0_mem (List.mem_of_getElem? (i := 1211) (by decide +kernel)) (by decide +kernel)
theorem kL_201 : Cond.methodLink RL 201 yL_clearParts ∈ q_W0 := q_W0_mem (List.mem_of_getElem? (i := 714) (by decide +kernel)) (by decide +kernel)
theorem wX10_clearParts : q_cw yX10_clearParts cX10_clearParts mX10_clearParts 1 := ⟨q_W0_mem (List.mem_of_getElem? (i := 1226) (by decide +kernel)) (by decide +kernel), q_W0_mem (List.mem_of_getElem? (i := 53) (by decide +kernel)) (by decide +kernel), by decide +kernel, by decide +kernel, by decide +kernel⟩
theorem iX10_clearParts : Cond.instanceMethod yX10_clearParts ∈ q_W0 := q_W0_mem (List.mem_of_getElem? (i := 1224) (by decide +kernel)) (by decide +kernel)
theorem eX10_clearParts : Cond.selects yX10_clearParts.cls yX10_clearParts yX10_clearParts ∈ q_W0 := q_W0_mem (List.mem_of_getElem? (i := 1225) (by decide +kernel)) (by decide +kernel)
theorem kL_203 : Cond.methodLink RL 203 yX10_clearParts ∈ q_W0 := q_W0_mem (List.mem_of_getElem? (i := 1223) (by decide +kernel)) (by decide +kernel)
theorem kL_204 : Cond.methodLink RL 204 yL_moveSession ∈ q_W0 := q_W0_mem (List.mem_of_getElem? (i := 721) (by decide +kernel)) (by decide +kernel)
theorem wX10_moveSession : q_cw yX10_moveSession cX10_moveSession mX10_moveSession 2 := ⟨q_W0_mem (List.mem_of_getElem? (i := 1234) (by decide +kernel)) (by decide +kernel), q_W0_mem (List.mem_of_getElem? (i := 53) (by decide +kernel)) (by decide +kernel), by decide +kernel, by decide +kernel, by decide +kernel⟩
theorem iX10_moveSession : Cond.instanceMethod yX10_moveSession ∈ q_W0 := q_W0_mem (List.mem_of_getElem? (i := 1232) (by decide +kernel)) (by decide +kernel)
theorem eX10_moveSession : Cond.selects yX10_moveSession.cls yX10_moveSession yX10_moveSession ∈ q_W0 := q_W0_mem (List.mem_of_getElem? (i := 1233) (by decide +kernel)) (by decide +kernel)
theorem kL_206 : Cond.methodLink RL 206 yX10_moveSession ∈ q_W0 := q_W0_mem (List.mem_of_getElem? (i := 1231) (by decide +kernel)) (by decide +kernel)
theorem kL_207 : Cond.methodLink RL 207 yL_removeSession ∈ q_W0 := q_W0_mem (List.mem_of_getElem? (i := 733) (by decide +kernel)) (by decide +kernel)
theorem wX10_removeSession : q_cw yX10_removeSession cX10_removeSession mX10_removeSession 1 := ⟨q_W0_mem (List.mem_of_getElem? (i := 1238) (by decide +kernel)) (by decide +kernel), q_W0_mem (List.mem_of_getElem? (i := 53) (by decide +kernel)) (by decide +kernel), by decide +kernel, by decide +kernel, by decide +kernel⟩
theorem iX10_removeSession : Cond.instanceMethod yX10_removeSession ∈ q_W0 := q_W0_mem (List.mem_of_getElem? (i := 1236) (by decide +kernel)) (by decide +kernel)
theorem eX10_removeSession : Cond.selects yX10_removeSession.cls yX10_removeSession yX10_removeSession ∈ q_W0 := q_W0_mem (List.mem_of_getElem? (i := 1237) (by decide +kernel)) (by decide +kernel)
theorem kL_209 : Cond.methodLink RL 209 yX10_removeSession ∈ q_W0 := q_W0_mem (List.mem_of_getElem? (i := 1235) (by decide +kernel)) (by decide +kernel)
theorem wX9_sessionCount : q_cw yX9_sessionCount cX9_sessionCount mX9_sessionCount 0 := ⟨q_W0_mem (List.mem_of_getElem? (i := 333) (by decide +kernel)) (by decide +kernel), q_W0_mem (List.mem_of_getElem? (i := 43) (by decide +kernel)) (by decide +kernel), by decide +kernel, by decide +kernel, by decide +kernel⟩
theorem iX9_sessionCount : Cond.instanceMethod yX9_sessionCount ∈ q_W0 := q_W0_mem (List.mem_of_getElem? (i := 331) (by decide +kernel)) (by decide +kernel)
theorem eX9_sessionCount : Cond.selects yX9_sessionCount.cls yX9_sessionCount yX9_sessionCount ∈ q_W0 := q_W0_mem (List.mem_of_getElem? (i := 332) (by decide +kernel)) (by decide +kernel)
theorem kL_210 : Cond.methodLink RL 210 yX9_sessionCount ∈ q_W0 := q_W0_mem (List.mem_of_getElem? (i := 330) (by decide +kernel)) (by decide +kernel)
theorem wX10_sessionCount : q_cw yX10_sessionCount cX10_sessionCount mX10_sessionCount 0 := ⟨q_W0_mem (List.mem_of_getElem? (i := 1242) (by decide +kernel)) (by decide +kernel), q_W0_mem (List.mem_of_getElem? (i := 53) (by decide +kernel)) (by decide +kernel), by decide +kernel, by decide +kernel, by decide +kernel⟩
theorem iX10_sessionCount : Cond.instanceMethod yX10_sessionCount ∈ q_W0 := q_W0_mem (List.mem_of_getElem? (i := 1240) (by decide +kernel)) (by decide +kernel)
theorem eX10_sessionCount : Cond.selects yX10_sessionCount.cls yX10_sessionCount yX10_sessionCount ∈ q_W0 := q_W0_mem (List.mem_of_getElem? (i := 1241) (by decide +kernel)) (by decide +kernel)
theorem kL_213 : Cond.methodLink RL 213 yX10_sessionCount ∈ q_W0 := q_W0_mem (List.mem_of_getElem? (i := 1239) (by decide +kernel)) (by decide +kernel)
theorem kL_214 : Cond.methodLink RL 214 yL_sessionAt ∈ q_W0 := q_W0_mem (List.mem_of_getElem? (i := 744) (by decide +kernel)) (by decide +kernel)
theorem wX10_sessionAt : q_cw yX10_sessionAt cX10_sessionAt mX10_sessionAt 1 := ⟨q_W0_mem (List.mem_of_getElem? (i := 1246) (by decide +kernel)) (by decide +kernel), q_W0_mem (List.mem_of_getElem? (i := 53) (by decide +kernel)) (by decide +kernel), by decide +kernel, by decide +kernel, by decide +kernel⟩
theorem iX10_sessionAt : Cond.instanceMethod yX10_sessionAt ∈ q_W0 := q_W0_mem (List.mem_of_getElem? (i := 1244) (by decide +kernel)) (by decide +kernel)
theorem eX10_sessionAt : Cond.selects yX10_sessionAt.cls yX10_sessionAt yX10_sessionAt ∈ q_W0 := q_W0_mem (List.mem_of_getElem? (i := 1245) (by decide +kernel)) (by decide +kernel)
theorem kL_216 : Cond.methodLink RL 216 yX10_sessionAt ∈ q_W0 := q_W0_mem (List.mem_of_getElem? (i := 1243) (by decide +kernel)) (by decide +kernel)
theorem kL_217 : Cond.methodLink RL 217 yL_dayOf ∈ q_W0 := q_W0_mem (List.mem_of_getElem? (i := 788) (by decide +kernel)) (by decide +kernel)
theorem wX10_dayOf : q_cw yX10_dayOf cX10_dayOf mX10_dayOf 1 := ⟨q_W0_mem (List.mem_of_getElem? (i := 1254) (by decide +kernel)) (by decide +kernel), q_W0_mem (List.mem_of_getElem? (i := 53) (by decide +kernel)) (by decide +kernel), by decide +kernel, by decide +kernel, by decide +kernel⟩
theorem iX10_dayOf : Cond.instanceMethod yX10_dayOf ∈ q_W0 := q_W0_mem (List.mem_of_getElem? (i := 1252) (by decide +kernel)) (by decide +kernel)
theorem eX10_dayOf : Cond.selects yX10_dayOf.cls yX10_dayOf yX10_dayOf ∈ q_W0 := q_W0_mem (List.mem_of_getElem? (i := 1253) (by decide +kernel)) (by decide +kernel)
theorem kL_219 : Cond.methodLink RL 219 yX10_dayOf ∈ q_W0 := q_W0_mem (List.mem_of_getElem? (i := 1251) (by decide +kernel)) (by decide +kernel)
theorem kL_220 : Cond.methodLink RL 220 yL_minutesOf ∈ q_W0 := q_W0_mem (List.mem_of_getElem? (i := 795) (by decide +kernel)) (by decide +kernel)
theorem wX10_minutesOf : q_cw yX10_minutesOf cX10_minutesOf mX10_minutesOf 1 := ⟨q_W0_mem (List.mem_of_getElem? (i := 1258) (by decide +kernel)) (by decide +kernel), q_W0_mem (List.mem_of_getElem? (i := 53) (by decide +kernel)) (by decide +kernel), by decide +kernel, by decide +kernel, by decide +kernel⟩
theorem iX10_minutesOf : Cond.instanceMethod yX10_minutesOf ∈ q_W0 := q_W0_mem (List.mem_of_getElem? (i := 1256) (by decide +kernel)) (by decide +kernel)
theorem eX10_minutesOf : Cond.selects yX10_minutesOf.cls yX10_minutesOf yX10_minutesOf ∈ q_W0 := q_W0_mem (List.mem_of_getElem? (i := 1257) (by decide +kernel)) (by decide +kernel)
theorem kL_222 : Cond.methodLink RL 222 yX10_minutesOf ∈ q_W0 := q_W0_mem (List.mem_of_getElem? (i := 1255) (by decide +kernel)) (by decide +kernel)
theorem kL_223 : Cond.methodLink RL 223 yL_minutesInZone ∈ q_W0 := q_W0_mem (List.mem_of_getElem? (i := 802) (by decide +kernel)) (by decide +kernel)
theorem wX10_minutesInZone : q_cw yX10_minutesInZone cX10_minutesInZone mX10_minutesInZone 2 := ⟨q_W0_mem (List.mem_of_getElem? (i := 1262) (by decide +kernel)) (by decide +kernel), q_W0_mem (List.mem_of_getElem? (i := 53) (by decide +kernel)) (by decide +kernel), by decide +kernel, by decide +kernel, by decide +kernel⟩
theorem iX10_minutesInZone : Cond.instanceMethod yX10_minutesInZone ∈ q_W0 := q_W0_mem (List.mem_of_getElem? (i := 1260) (by decide +kernel)) (by decide +kernel)
theorem eX10_minutesInZone : Cond.selects yX10_minutesInZone.cls yX10_minutesInZone yX10_minutesInZone ∈ q_W0 := q_W0_mem (List.mem_of_getElem? (i := 1261) (by decide +kernel)) (by decide +kernel)
theorem kL_225 : Cond.methodLink RL 225 yX10_minutesInZone ∈ q_W0 := q_W0_mem (List.mem_of_getElem? (i := 1259) (by decide +kernel)) (by decide +kernel)
theorem kL_226 : Cond.methodLink RL 226 yL_loadOf ∈ q_W0 := q_W0_mem (List.mem_of_getElem? (i := 814) (by decide +kernel)) (by decide +kernel)
theorem wX10_loadOf : q_cw yX10_loadOf cX10_loadOf mX10_loadOf 1 := ⟨q_W0_mem (List.mem_of_getElem? (i := 1266) (by decide +kernel)) (by decide +kernel), q_W0_mem (List.mem_of_getElem? (i := 53) (by decide +kernel)) (by decide +kernel), by decide +kernel, by decide +kernel, by decide +kernel⟩
theorem iX10_loadOf : Cond.instanceMethod yX10_loadOf ∈ q_W0 := q_W0_mem (List.mem_of_getElem? (i := 1264) (by decide +kernel)) (by decide +kernel)
theorem eX10_loadOf : Cond.selects yX10_loadOf.cls yX10_loadOf yX10_loadOf ∈ q_W0 := q_W0_mem (List.mem_of_getElem? (i := 1265) (by decide +kernel)) (by decide +kernel)
theorem kL_228 : Cond.methodLink RL 228 yX10_loadOf ∈ q_W0 := q_W0_mem (List.mem_of_getElem? (i := 1263) (by decide +kernel)) (by decide +kernel)
theorem kL_229 : Cond.methodLink RL 229 yL_loadOn ∈ q_W0 := q_W0_mem (List.mem_of_getElem? (i := 822) (by decide +kernel)) (by decide +kernel)
theorem wX10_loadOn : q_cw yX10_loadOn cX10_loadOn mX10_loadOn 1 := ⟨q_W0_mem (List.mem_of_getElem? (i := 1270) (by decide +kernel)) (by decide +kernel), q_W0_mem (List.mem_of_getElem? (i := 53) (by decide +kernel)) (by decide +kernel), by decide +kernel, by decide +kernel, by decide +kernel⟩
theorem iX10_loadOn : Cond.instanceMethod yX10_loadOn ∈ q_W0 := q_W0_mem (List.mem_of_getElem? (i := 1268) (by decide +kernel)) (by decide +kernel)
theorem eX10_loadOn : Cond.selects yX10_loadOn.cls yX10_loadOn yX10_loadOn ∈ q_W0 := q_W0_mem (List.mem_of_getElem? (i := 1269) (by decide +kernel)) (by decide +kernel)
theorem kL_231 : Cond.methodLink RL 231 yX10_loadOn ∈ q_W0 := q_W0_mem (List.mem_of_getElem? (i := 1267) (by decide +kernel)) (by decide +kernel)
theorem kL_232 : Cond.methodLink RL 232 yL_zoneShare ∈ q_W0 := q_W0_mem (List.mem_of_getElem? (i := 829) (by decide +kernel)) (by decide +kernel)
theorem wX10_zoneShare : q_cw yX10_zoneShare cX10_zoneShare mX10_zoneShare 1 := ⟨q_W0_mem (List.mem_of_getElem? (i := 1278) (by decide +kernel)) (by decide +kernel), q_W0_mem (List.mem_of_getElem? (i := 53) (by decide +kernel)) (by decide +kernel), by decide +kernel, by decide +kernel, by decide +kernel⟩
theorem iX10_zoneShare : Cond.instanceMethod yX10_zoneShare ∈ q_W0 := q_W0_mem (List.mem_of_getElem? (i := 1276) (by decide +kernel)) (by decide +kernel)
theorem eX10_zoneShare : Cond.selects yX10_zoneShare.cls yX10_zoneShare yX10_zoneShare ∈ q_W0 := q_W0_mem (List.mem_of_getElem? (i := 1277) (by decide +kernel)) (by decide +kernel)
theorem kL_235 : Cond.methodLink RL 235 yX10_zoneShare ∈ q_W0 := q_W0_mem (List.mem_of_getElem? (i := 1275) (by decide +kernel)) (by decide +kernel)
theorem wX9_meanLoad : q_cw yX9_meanLoad cX9_meanLoad mX9_meanLoad 0 := ⟨q_W0_mem (List.mem_of_getElem? (i := 337) (by decide +kernel)) (by decide +kernel), q_W0_mem (List.mem_of_getElem? (i := 43) (by decide +kernel)) (by decide +kernel), by decide +kernel, by decide +kernel, by decide +kernel⟩
theorem iX9_meanLoad : Cond.instanceMethod yX9_meanLoad ∈ q_W0 := q_W0_mem (List.mem_of_getElem? (i := 335) (by decide +kernel)) (by decide +kernel)
theorem eX9_meanLoad : Cond.selects yX9_meanLoad.cls yX9_meanLoad yX9_meanLoad ∈ q_W0 := q_W0_mem (List.mem_of_getElem? (i := 336) (by decide +kernel)) (by decide +kernel)
theorem kL_236 : Cond.methodLink RL 236 yX9_meanLoad ∈ q_W0 := q_W0_mem (List.mem_of_getElem? (i := 334) (by decide +kernel)) (by decide +kernel)
theorem wX10_meanLoad : q_cw yX10_meanLoad cX10_meanLoad mX10_meanLoad 0 := ⟨q_W0_mem (List.mem_of_getElem? (i := 1282) (by decide +kernel)) (by decide +kernel), q_W0_mem (List.mem_of_getElem? (i := 53) (by decide +kernel)) (by decide +kernel), by decide +kernel, by decide +kernel, by decide +kernel⟩
theorem iX10_meanLoad : Cond.instanceMethod yX10_meanLoad ∈ q_W0 := q_W0_mem (List.mem_of_getElem? (i := 1280) (by decide +kernel)) (by decide +kernel)
theorem eX10_meanLoad : Cond.selects yX10_meanLoad.cls yX10_meanLoad yX10_meanLoad ∈ q_W0 := q_W0_mem (List.mem_of_getElem? (i := 1281) (by decide +kernel)) (by decide +kernel)
theorem kL_240 : Cond.methodLink RL 240 yX10_meanLoad ∈ q_W0 := q_W0_mem (List.mem_of_getElem? (i := 1279) (by decide +kernel)) (by decide +kernel)
theorem kL_241 : Cond.methodLink RL 241 yL_fitnessOn ∈ q_W0 := q_W0_mem (List.mem_of_getElem? (i := 853) (by decide +kernel)) (by decide +kernel)
theorem wX10_fitnessOn : q_cw yX10_fitnessOn cX10_fitnessOn mX10_fitnessOn 1 := ⟨q_W0_mem (List.mem_of_getElem? (i := 1286) (by decide +kernel)) (by decide +kernel), q_W0_mem (List.mem_of_getElem? (i := 53) (by decide +kernel)) (by decide +kernel), by decide +kernel, by decide +kernel, by decide +kernel⟩
theorem iX10_fitnessOn : Cond.instanceMethod yX10_fitnessOn ∈ q_W0 := q_W0_mem (List.mem_of_getElem? (i := 1284) (by decide +kernel)) (by decide +kernel)
theorem eX10_fitnessOn : Cond.selects yX10_fitnessOn.cls yX10_fitnessOn yX10_fitnessOn ∈ q_W0 := q_W0_mem (List.mem_of_getElem? (i := 1285) (by decide +kernel)) (by decide +kernel)
theorem kL_243 : Cond.methodLink RL 243 yX10_fitnessOn ∈ q_W0 := q_W0_mem (List.mem_of_getElem? (i := 1283) (by decide +kernel)) (by decide +kernel)
theorem kL_244 : Cond.methodLink RL 244 yL_fitnessFromStart ∈ q_W0 := q_W0_mem (List.mem_of_getElem? (i := 860) (by decide +kernel)) (by decide +kernel)
theorem wX10_fitnessFromStart : q_cw yX10_fitnessFromStart cX10_fitnessFromStart mX10_fitnessFromStart 1 := ⟨q_W0_mem (List.mem_of_getElem? (i := 1294) (by decide +kernel)) (by decide +kernel), q_W0_mem (List.mem_of_getElem? (i := 53) (by decide +kernel)) (by decide +kernel), by decide +kernel, by decide +kernel, by decide +kernel⟩
theorem iX10_fitnessFromStart : Cond.instanceMethod yX10_fitnessFromStart ∈ q_W0 := q_W0_mem (List.mem_of_getElem? (i := 1292) (by decide +kernel)) (by decide +kernel)
theorem eX10_fitnessFromStart : Cond.selects yX10_fitnessFromStart.cls yX10_fitnessFromStart yX10_fitnessFromStart ∈ q_W0 := q_W0_mem (List.mem_of_getElem? (i := 1293) (by decide +kernel)) (by decide +kernel)
theorem kL_246 : Cond.methodLink RL 246 yX10_fitnessFromStart ∈ q_W0 := q_W0_mem (List.mem_of_getElem? (i := 1291) (by decide +kernel)) (by decide +kernel)
theorem kL_247 : Cond.methodLink RL 247 yL_fatigueOn ∈ q_W0 := q_W0_mem (List.mem_of_getElem? (i := 867) (by decide +kernel)) (by decide +kernel)
theorem wX10_fatigueOn : q_cw yX10_fatigueOn cX10_fatigueOn mX10_fatigueOn 1 := ⟨q_W0_mem (List.mem_of_getElem? (i := 1299) (by decide +kernel)) (by decide +kernel), q_W0_mem (List.mem_of_getElem? (i := 53) (by decide +kernel)) (by decide +kernel), by decide +kernel, by decide +kernel, by decide +kernel⟩
theorem iX10_fatigueOn : Cond.instanceMethod yX10_fatigueOn ∈ q_W0 := q_W0_mem (List.mem_of_getElem? (i := 1297) (by decide +kernel)) (by decide +kernel)
theorem eX10_fatigueOn : Cond.selects yX10_fatigueOn.cls yX10_fatigueOn yX10_fatigueOn ∈ q_W0 := q_W0_mem (List.mem_of_getElem? (i := 1298) (by decide +kernel)) (by decide +kernel)
theorem kL_249 : Cond.methodLink RL 249 yX10_fatigueOn ∈ q_W0 := q_W0_mem (List.mem_of_getElem? (i := 1296) (by decide +kernel)) (by decide +kernel)
theorem kL_250 : Cond.methodLink RL 250 yL_fatigueFromStart ∈ q_W0 := q_W0_mem (List.mem_of_getElem? (i := 874) (by decide +kernel)) (by decide +kernel)
theorem wX10_fatigueFromStart : q_cw yX10_fatigueFromStart cX10_fatigueFromStart mX10_fatigueFromStart 1 := ⟨q_W0_mem (List.mem_of_getElem? (i := 1303) (by decide +kernel)) (by decide +kernel), q_W0_mem (List.mem_of_getElem? (i := 53) (by decide +kernel)) (by decide +kernel), by decide +kernel, by decide +kernel, by decide +kernel⟩
theorem iX10_fatigueFromStart : Cond.instanceMethod yX10_fatigueFromStart ∈ q_W0 := q_W0_mem (List.mem_of_getElem? (i := 1301) (by decide +kernel)) (by decide +kernel)
theorem eX10_fatigueFromStart : Cond.selects yX10_fatigueFromStart.cls yX10_fatigueFromStart yX10_fatigueFromStart ∈ q_W0 := q_W0_mem (List.mem_of_getElem? (i := 1302) (by decide +kernel)) (by decide +kernel)
theorem kL_252 : Cond.methodLink RL 252 yX10_fatigueFromStart ∈ q_W0 := q_W0_mem (List.mem_of_getElem? (i := 1300) (by decide +kernel)) (by decide +kernel)
theorem kL_253 : Cond.methodLink RL 253 yL_formOn ∈ q_W0 := q_W0_mem (List.mem_of_getElem? (i := 881) (by decide +kernel)) (by decide +kernel)
theorem wX10_formOn : q_cw yX10_formOn cX10_formOn mX10_formOn 1 := ⟨q_W0_mem (List.mem_of_getElem? (i := 1308) (by decide +kernel)) (by decide +kernel), q_W0_mem (List.mem_of_getElem? (i := 53) (by decide +kernel)) (by decide +kernel), by decide +kernel, by decide +kernel, by decide +kernel⟩
theorem iX10_formOn : Cond.instanceMethod yX10_formOn ∈ q_W0 := q_W0_mem (List.mem_of_getElem? (i := 1306) (by decide +kernel)) (by decide +kernel)
theorem eX10_formOn : Cond.selects yX10_formOn.cls yX10_formOn yX10_formOn ∈ q_W0 := q_W0_mem (List.mem_of_getElem? (i := 1307) (by decide +kernel)) (by decide +kernel)
theorem kL_255 : Cond.methodLink RL 255 yX10_formOn ∈ q_W0 := q_W0_mem (List.mem_of_getElem? (i := 1305) (by decide +kernel)) (by decide +kernel)
theorem wX9_bestFormDay : q_cw yX9_bestFormDay cX9_bestFormDay mX9_bestFormDay 0 := ⟨q_W0_mem (List.mem_of_getElem? (i := 364) (by decide +kernel)) (by decide +kernel), q_W0_mem (List.mem_of_getElem? (i := 43) (by decide +kernel)) (by decide +kernel), by decide +kernel, by decide +kernel, by decide +kernel⟩
theorem iX9_bestFormDay : Cond.instanceMethod yX9_bestFormDay ∈ q_W0 := q_W0_mem (List.mem_of_getElem? (i := 362) (by decide +kernel)) (by decide +kernel)
theorem eX9_bestFormDay : Cond.selects yX9_bestFormDay.cls yX9_bestFormDay yX9_bestFormDay ∈ q_W0 := q_W0_mem (List.mem_of_getElem? (i := 363) (by decide +kernel)) (by decide +kernel)
theorem kL_256 : Cond.methodLink RL 256 yX9_bestFormDay ∈ q_W0 := q_W0_mem (List.mem_of_getElem? (i := 361) (by decide +kernel)) (by decide +kernel)
theorem wX10_bestFormDay : q_cw yX10_bestFormDay cX10_bestFormDay mX10_bestFormDay 0 := ⟨q_W0_mem (List.mem_of_getElem? (i := 1316) (by decide +kernel)) (by decide +kernel), q_W0_mem (List.mem_of_getElem? (i := 53) (by decide +kernel)) (by decide +kernel), by decide +kernel, by decide +kernel, by decide +kernel⟩
theorem iX10_bestFormDay : Cond.instanceMethod yX10_bestFormDay ∈ q_W0 := q_W0_mem (List.mem_of_getElem? (i := 1314) (by decide +kernel)) (by decide +kernel)
theorem eX10_bestFormDay : Cond.selects yX10_bestFormDay.cls yX10_bestFormDay yX10_bestFormDay ∈ q_W0 := q_W0_mem (List.mem_of_getElem? (i := 1315) (by decide +kernel)) (by decide +kernel)
theorem kL_259 : Cond.methodLink RL 259 yX10_bestFormDay ∈ q_W0 := q_W0_mem (List.mem_of_getElem? (i := 1313) (by decide +kernel)) (by decide +kernel)
theorem kL_260 : Cond.methodLink RL 260 yL_daysToForm ∈ q_W0 := q_W0_mem (List.mem_of_getElem? (i := 888) (by decide +kernel)) (by decide +kernel)
theorem wX10_daysToForm : q_cw yX10_daysToForm cX10_daysToForm mX10_daysToForm 1 := ⟨q_W0_mem (List.mem_of_getElem? (i := 1320) (by decide +kernel)) (by decide +kernel), q_W0_mem (List.mem_of_getElem? (i := 53) (by decide +kernel)) (by decide +kernel), by decide +kernel, by decide +kernel, by decide +kernel⟩
theorem iX10_daysToForm : Cond.instanceMethod yX10_daysToForm ∈ q_W0 := q_W0_mem (List.mem_of_getElem? (i := 1318) (by decide +kernel)) (by decide +kernel)
theorem eX10_daysToForm : Cond.selects yX10_daysToForm.cls yX10_daysToForm yX10_daysToForm ∈ q_W0 := q_W0_mem (List.mem_of_getElem? (i := 1319) (by decide +kernel)) (by decide +kernel)
theorem kL_262 : Cond.methodLink RL 262 yX10_daysToForm ∈ q_W0 := q_W0_mem (List.mem_of_getElem? (i := 1317) (by decide +kernel)) (by decide +kernel)
theorem kL_263 : Cond.methodLink RL 263 yL_bestDays ∈ q_W0 := q_W0_mem (List.mem_of_getElem? (i := 898) (by decide +kernel)) (by decide +kernel)
theorem wX10_bestDays : q_cw yX10_bestDays cX10_bestDays mX10_bestDays 1 := ⟨q_W0_mem (List.mem_of_getElem? (i := 1326) (by decide +kernel)) (by decide +kernel), q_W0_mem (List.mem_of_getElem? (i := 53) (by decide +kernel)) (by decide +kernel), by decide +kernel, by decide +kernel, by decide +kernel⟩
theorem iX10_bestDays : Cond.instanceMethod yX10_bestDays ∈ q_W0 := q_W0_mem (List.mem_of_getElem? (i := 1324) (by decide +kernel)) (by decide +kernel)
theorem eX10_bestDays : Cond.selects yX10_bestDays.cls yX10_bestDays yX10_bestDays ∈ q_W0 := q_W0_mem (List.mem_of_getElem? (i := 1325) (by decide +kernel)) (by decide +kernel)
theorem kL_265 : Cond.methodLink RL 265 yX10_bestDays ∈ q_W0 := q_W0_mem (List.mem_of_getElem? (i := 1323) (by decide +kernel)) (by decide +kernel)
theorem kL_266 : Cond.methodLink RL 266 yL_bestDaysByTrying ∈ q_W0 := q_W0_mem (List.mem_of_getElem? (i := 914) (by decide +kernel)) (by decide +kernel)
theorem wX10_bestDaysByTrying : q_cw yX10_bestDaysByTrying cX10_bestDaysByTrying mX10_bestDaysByTrying 1 := ⟨q_W0_mem (List.mem_of_getElem? (i := 1342) (by decide +kernel)) (by decide +kernel), q_W0_mem (List.mem_of_getElem? (i := 53) (by decide +kernel)) (by decide +kernel), by decide +kernel, by decide +kernel, by decide +kernel⟩
theorem iX10_bestDaysByTrying : Cond.instanceMethod yX10_bestDaysByTrying ∈ q_W0 := q_W0_mem (List.mem_of_getElem? (i := 1340) (by decide +kernel)) (by decide +kernel)
theorem eX10_bestDaysByTrying : Cond.selects yX10_bestDaysByTrying.cls yX10_bestDaysByTrying yX10_bestDaysByTrying ∈ q_W0 := q_W0_mem (List.mem_of_getElem? (i := 1341) (by decide +kernel)) (by decide +kernel)
theorem kL_268 : Cond.methodLink RL 268 yX10_bestDaysByTrying ∈ q_W0 := q_W0_mem (List.mem_of_getElem? (i := 1339) (by decide +kernel)) (by decide +kernel)
theorem kL_269 : Cond.methodLink RL 269 yL_bestDaysStart ∈ q_W0 := q_W0_mem (List.mem_of_getElem? (i := 924) (by decide +kernel)) (by decide +kernel)
theorem wX10_bestDaysStart : q_cw yX10_bestDaysStart cX10_bestDaysStart mX10_bestDaysStart 1 := ⟨q_W0_mem (List.mem_of_getElem? (i := 1347) (by decide +kernel)) (by decide +kernel), q_W0_mem (List.mem_of_getElem? (i := 53) (by decide +kernel)) (by decide +kernel), by decide +kernel, by decide +kernel, by decide +kernel⟩
theorem iX10_bestDaysStart : Cond.instanceMethod yX10_bestDaysStart ∈ q_W0 := q_W0_mem (List.mem_of_getElem? (i := 1345) (by decide +kernel)) (by decide +kernel)
theorem eX10_bestDaysStart : Cond.selects yX10_bestDaysStart.cls yX10_bestDaysStart yX10_bestDaysStart ∈ q_W0 := q_W0_mem (List.mem_of_getElem? (i := 1346) (by decide +kernel)) (by decide +kernel)
theorem kL_271 : Cond.methodLink RL 271 yX10_bestDaysStart ∈ q_W0 := q_W0_mem (List.mem_of_getElem? (i := 1344) (by decide +kernel)) (by decide +kernel)
theorem kL_272 : Cond.methodLink RL 272 yL_bestEffort ∈ q_W0 := q_W0_mem (List.mem_of_getElem? (i := 931) (by decide +kernel)) (by decide +kernel)
theorem wX10_bestEffort : q_cw yX10_bestEffort cX10_bestEffort mX10_bestEffort 1 := ⟨q_W0_mem (List.mem_of_getElem? (i := 1351) (by decide +kernel)) (by decide +kernel), q_W0_mem (List.mem_of_getElem? (i := 53) (by decide +kernel)) (by decide +kernel), by decide +kernel, by decide +kernel, by decide +kernel⟩
theorem iX10_bestEffort : Cond.instanceMethod yX10_bestEffort ∈ q_W0 := q_W0_mem (List.mem_of_getElem? (i := 1349) (by decide +kernel)) (by decide +kernel)
theorem eX10_bestEffort : Cond.selects yX10_bestEffort.cls yX10_bestEffort yX10_bestEffort ∈ q_W0 := q_W0_mem (List.mem_of_getElem? (i := 1350) (by decide +kernel)) (by decide +kernel)
theorem kL_274 : Cond.methodLink RL 274 yX10_bestEffort ∈ q_W0 := q_W0_mem (List.mem_of_getElem? (i := 1348) (by decide +kernel)) (by decide +kernel)
theorem kL_275 : Cond.methodLink RL 275 yL_bestEffortByTrying ∈ q_W0 := q_W0_mem (List.mem_of_getElem? (i := 960) (by decide +kernel)) (by decide +kernel)
theorem wX10_bestEffortByTrying : q_cw yX10_bestEffortByTrying cX10_bestEffortByTrying mX10_bestEffortByTrying 1 := ⟨q_W0_mem (List.mem_of_getElem? (i := 1372) (by decide +kernel)) (by decide +kernel), q_W0_mem (List.mem_of_getElem? (i := 53) (by decide +kernel)) (by decide +kernel), by decide +kernel, by decide +kernel, by decide +kernel⟩
theorem iX10_bestEffortByTrying : Cond.instanceMethod yX10_bestEffortByTrying ∈ q_W0 := q_W0_mem (List.mem_of_getElem? (i := 1370) (by decide +kernel)) (by decide +kernel)
theorem eX10_bestEffortByTrying : Cond.selects yX10_bestEffortByTrying.cls yX10_bestEffortByTrying yX10_bestEffortByTrying ∈ q_W0 := q_W0_mem (List.mem_of_getElem? (i := 1371) (by decide +kernel)) (by decide +kernel)
theorem kL_277 : Cond.methodLink RL 277 yX10_bestEffortByTrying ∈ q_W0 := q_W0_mem (List.mem_of_getElem? (i := 1369) (by decide +kernel)) (by decide +kernel)
theorem kL_278 : Cond.methodLink RL 278 yL_bestEffortSession ∈ q_W0 := q_W0_mem (List.mem_of_getElem? (i := 971) (by decide +kernel)) (by decide +kernel)
theorem wX10_bestEffortSession : q_cw yX10_bestEffortSession cX10_bestEffortSession mX10_bestEffortSession 1 := ⟨q_W0_mem (List.mem_of_getElem? (i := 1377) (by decide +kernel)) (by decide +kernel), q_W0_mem (List.mem_of_getElem? (i := 53) (by decide +kernel)) (by decide +kernel), by decide +kernel, by decide +kernel, by decide +kernel⟩
theorem iX10_bestEffortSession : Cond.instanceMethod yX10_bestEffortSession ∈ q_W0 := q_W0_mem (List.mem_of_getElem? (i := 1375) (by decide +kernel)) (by decide +kernel)
theorem eX10_bestEffortSession : Cond.selects yX10_bestEffortSession.cls yX10_bestEffortSession yX10_bestEffortSession ∈ q_W0 := q_W0_mem (List.mem_of_getElem? (i := 1376) (by decide +kernel)) (by decide +kernel)
theorem kL_280 : Cond.methodLink RL 280 yX10_bestEffortSession ∈ q_W0 := q_W0_mem (List.mem_of_getElem? (i := 1374) (by decide +kernel)) (by decide +kernel)
theorem wX9_startPlan : q_cw yX9_startPlan cX9_startPlan mX9_startPlan 0 := ⟨q_W0_mem (List.mem_of_getElem? (i := 386) (by decide +kernel)) (by decide +kernel), q_W0_mem (List.mem_of_getElem? (i := 43) (by decide +kernel)) (by decide +kernel), by decide +kernel, by decide +kernel, by decide +kernel⟩
theorem iX9_startPlan : Cond.instanceMethod yX9_startPlan ∈ q_W0 := q_W0_mem (List.mem_of_getElem? (i := 384) (by decide +kernel)) (by decide +kernel)
theorem eX9_startPlan : Cond.selects yX9_startPlan.cls yX9_startPlan yX9_startPlan ∈ q_W0 := q_W0_mem (List.mem_of_getElem? (i := 385) (by decide +kernel)) (by decide +kernel)
theorem kL_281 : Cond.methodLink RL 281 yX9_startPlan ∈ q_W0 := q_W0_mem (List.mem_of_getElem? (i := 383) (by decide +kernel)) (by decide +kernel)
theorem wX10_startPlan : q_cw yX10_startPlan cX10_startPlan mX10_startPlan 0 := ⟨q_W0_mem (List.mem_of_getElem? (i := 1381) (by decide +kernel)) (by decide +kernel), q_W0_mem (List.mem_of_getElem? (i := 53) (by decide +kernel)) (by decide +kernel), by decide +kernel, by decide +kernel, by decide +kernel⟩
theorem iX10_startPlan : Cond.instanceMethod yX10_startPlan ∈ q_W0 := q_W0_mem (List.mem_of_getElem? (i := 1379) (by decide +kernel)) (by decide +kernel)
theorem eX10_startPlan : Cond.selects yX10_startPlan.cls yX10_startPlan yX10_startPlan ∈ q_W0 := q_W0_mem (List.mem_of_getElem? (i := 1380) (by decide +kernel)) (by decide +kernel)
theorem kL_284 : Cond.methodLink RL 284 yX10_startPlan ∈ q_W0 := q_W0_mem (List.mem_of_getElem? (i := 1378) (by decide +kernel)) (by decide +kernel)
theorem kL_285 : Cond.methodLink RL 285 yL_addTarget ∈ q_W0 := q_W0_mem (List.mem_of_getElem? (i := 978) (by decide +kernel)) (by decide +kernel)
theorem wX10_addTarget : q_cw yX10_addTarget cX10_addTarget mX10_addTarget 1 := ⟨q_W0_mem (List.mem_of_getElem? (i := 1385) (by decide +kernel)) (by decide +kernel), q_W0_mem (List.mem_of_getElem? (i := 53) (by decide +kernel)) (by decide +kernel), by decide +kernel, by decide +kernel, by decide +kernel⟩
theorem iX10_addTarget : Cond.instanceMethod yX10_addTarget ∈ q_W0 := q_W0_mem (List.mem_of_getElem? (i := 1383) (by decide +kernel)) (by decide +kernel)
theorem eX10_addTarget : Cond.selects yX10_addTarget.cls yX10_addTarget yX10_addTarget ∈ q_W0 := q_W0_mem (List.mem_of_getElem? (i := 1384) (by decide +kernel)) (by decide +kernel)
theorem kL_287 : Cond.methodLink RL 287 yX10_addTarget ∈ q_W0 := q_W0_mem (List.mem_of_getElem? (i := 1382) (by decide +kernel)) (by decide +kernel)
theorem kL_288 : Cond.methodLink RL 288 yL_targetAt ∈ q_W0 := q_W0_mem (List.mem_of_getElem? (i := 990) (by decide +kernel)) (by decide +kernel)
theorem wX10_targetAt : q_cw yX10_targetAt cX10_targetAt mX10_targetAt 1 := ⟨q_W0_mem (List.mem_of_getElem? (i := 1389) (by decide +kernel)) (by decide +kernel), q_W0_mem (List.mem_of_getElem? (i := 53) (by decide +kernel)) (by decide +kernel), by decide +kernel, by decide +kernel, by decide +kernel⟩
theorem iX10_targetAt : Cond.instanceMethod yX10_targetAt ∈ q_W0 := q_W0_mem (List.mem_of_getElem? (i := 1387) (by decide +kernel)) (by decide +kernel)
theorem eX10_targetAt : Cond.selects yX10_targetAt.cls yX10_targetAt yX10_targetAt ∈ q_W0 := q_W0_mem (List.mem_of_getElem? (i := 1388) (by decide +kernel)) (by decide +kernel)
theorem kL_290 : Cond.methodLink RL 290 yX10_targetAt ∈ q_W0 := q_W0_mem (List.mem_of_getElem? (i := 1386) (by decide +kernel)) (by decide +kernel)
theorem kL_291 : Cond.methodLink RL 291 yL_dueEntry ∈ q_W0 := q_W0_mem (List.mem_of_getElem? (i := 998) (by decide +kernel)) (by decide +kernel)
theorem wX10_dueEntry : q_cw yX10_dueEntry cX10_dueEntry mX10_dueEntry 0 := ⟨q_W0_mem (List.mem_of_getElem? (i := 1393) (by decide +kernel)) (by decide +kernel), q_W0_mem (List.mem_of_getElem? (i := 53) (by decide +kernel)) (by decide +kernel), by decide +kernel, by decide +kernel, by decide +kernel⟩
theorem iX10_dueEntry : Cond.instanceMethod yX10_dueEntry ∈ q_W0 := q_W0_mem (List.mem_of_getElem? (i := 1391) (by decide +kernel)) (by decide +kernel)
theorem eX10_dueEntry : Cond.selects yX10_dueEntry.cls yX10_dueEntry yX10_dueEntry ∈ q_W0 := q_W0_mem (List.mem_of_getElem? (i := 1392) (by decide +kernel)) (by decide +kernel)
theorem kL_294 : Cond.methodLink RL 294 yX10_dueEntry ∈ q_W0 := q_W0_mem (List.mem_of_getElem? (i := 1390) (by decide +kernel)) (by decide +kernel)
theorem wX9_missedDays : q_cw yX9_missedDays cX9_missedDays mX9_missedDays 0 := ⟨q_W0_mem (List.mem_of_getElem? (i := 431) (by decide +kernel)) (by decide +kernel), q_W0_mem (List.mem_of_getElem? (i := 43) (by decide +kernel)) (by decide +kernel), by decide +kernel, by decide +kernel, by decide +kernel⟩
theorem iX9_missedDays : Cond.instanceMethod yX9_missedDays ∈ q_W0 := q_W0_mem (List.mem_of_getElem? (i := 429) (by decide +kernel)) (by decide +kernel)
theorem eX9_missedDays : Cond.selects yX9_missedDays.cls yX9_missedDays yX9_missedDays ∈ q_W0 := q_W0_mem (List.mem_of_getElem? (i := 430) (by decide +kernel)) (by decide +kernel)
theorem kL_295 : Cond.methodLink RL 295 yX9_missedDays ∈ q_W0 := q_W0_mem (List.mem_of_getElem? (i := 428) (by decide +kernel)) (by decide +kernel)
theorem wX10_missedDays : q_cw yX10_missedDays cX10_missedDays mX10_missedDays 0 := ⟨q_W0_mem (List.mem_of_getElem? (i := 1401) (by decide +kernel)) (by decide +kernel), q_W0_mem (List.mem_of_getElem? (i := 53) (by decide +kernel)) (by decide +kernel), by decide +kernel, by decide +kernel, by decide +kernel⟩
theorem iX10_missedDays : Cond.instanceMethod yX10_missedDays ∈ q_W0 := q_W0_mem (List.mem_of_getElem? (i := 1399) (by decide +kernel)) (by decide +kernel)
theorem eX10_missedDays : Cond.selects yX10_missedDays.cls yX10_missedDays yX10_missedDays ∈ q_W0 := q_W0_mem (List.mem_of_getElem? (i := 1400) (by decide +kernel)) (by decide +kernel)
theorem kL_298 : Cond.methodLink RL 298 yX10_missedDays ∈ q_W0 := q_W0_mem (List.mem_of_getElem? (i := 1398) (by decide +kernel)) (by decide +kernel)
theorem wX9_droppedEntries : q_cw yX9_droppedEntries cX9_droppedEntries mX9_droppedEntries 0 := ⟨q_W0_mem (List.mem_of_getElem? (i := 443) (by decide +kernel)) (by decide +kernel), q_W0_mem (List.mem_of_getElem? (i := 43) (by decide +kernel)) (by decide +kernel), by decide +kernel, by decide +kernel, by decide +kernel⟩
theorem iX9_droppedEntries : Cond.instanceMethod yX9_droppedEntries ∈ q_W0 := q_W0_mem (List.mem_of_getElem? (i := 441) (by decide +kernel)) (by decide +kernel)
theorem eX9_droppedEntries : Cond.selects yX9_droppedEntries.cls yX9_droppedEntries yX9_droppedEntries ∈ q_W0 := q_W0_mem (List.mem_of_getElem? (i := 442) (by decide +kernel)) (by decide +kernel)
theorem kL_299 : Cond.methodLink RL 299 yX9_droppedEntries ∈ q_W0 := q_W0_mem (List.mem_of_getElem? (i := 440) (by decide +kernel)) (by decide +kernel)
theorem wX10_droppedEntries : q_cw yX10_droppedEntries cX10_droppedEntries mX10_droppedEntries 0 := ⟨q_W0_mem (List.mem_of_getElem? (i := 1405) (by decide +kernel)) (by decide +kernel), q_W0_mem (List.mem_of_getElem? (i := 53) (by decide +kernel)) (by decide +kernel), by decide +kernel, by decide +kernel, by decide +kernel⟩
theorem iX10_droppedEntries : Cond.instanceMethod yX10_droppedEntries ∈ q_W0 := q_W0_mem (List.mem_of_getElem? (i := 1403) (by decide +kernel)) (by decide +kernel)
theorem eX10_droppedEntries : Cond.selects yX10_droppedEntries.cls yX10_droppedEntries yX10_droppedEntries ∈ q_W0 := q_W0_mem (List.mem_of_getElem? (i := 1404) (by decide +kernel)) (by decide +kernel)
theorem kL_302 : Cond.methodLink RL 302 yX10_droppedEntries ∈ q_W0 := q_W0_mem (List.mem_of_getElem? (i := 1402) (by decide +kernel)) (by decide +kernel)
theorem kL_303 : Cond.methodLink RL 303 yL_planEnd ∈ q_W0 := q_W0_mem (List.mem_of_getElem? (i := 1010) (by decide +kernel)) (by decide +kernel)
theorem wX10_planEnd : q_cw yX10_planEnd cX10_planEnd mX10_planEnd 0 := ⟨q_W0_mem (List.mem_of_getElem? (i := 1409) (by decide +kernel)) (by decide +kernel), q_W0_mem (List.mem_of_getElem? (i := 53) (by decide +kernel)) (by decide +kernel), by decide +kernel, by decide +kernel, by decide +kernel⟩
theorem iX10_planEnd : Cond.instanceMethod yX10_planEnd ∈ q_W0 := q_W0_mem (List.mem_of_getElem? (i := 1407) (by decide +kernel)) (by decide +kernel)
theorem eX10_planEnd : Cond.selects yX10_planEnd.cls yX10_planEnd yX10_planEnd ∈ q_W0 := q_W0_mem (List.mem_of_getElem? (i := 1408) (by decide +kernel)) (by decide +kernel)
theorem kL_305 : Cond.methodLink RL 305 yX10_planEnd ∈ q_W0 := q_W0_mem (List.mem_of_getElem? (i := 1406) (by decide +kernel)) (by decide +kernel)
theorem wX9_isPlanOver : q_cw yX9_isPlanOver cX9_isPlanOver mX9_isPlanOver 0 := ⟨q_W0_mem (List.mem_of_getElem? (i := 447) (by decide +kernel)) (by decide +kernel), q_W0_mem (List.mem_of_getElem? (i := 43) (by decide +kernel)) (by decide +kernel), by decide +kernel, by decide +kernel, by decide +kernel⟩
theorem iX9_isPlanOver : Cond.instanceMethod yX9_isPlanOver ∈ q_W0 := q_W0_mem (List.mem_of_getElem? (i := 445) (by decide +kernel)) (by decide +kernel)
theorem eX9_isPlanOver : Cond.selects yX9_isPlanOver.cls yX9_isPlanOver yX9_isPlanOver ∈ q_W0 := q_W0_mem (List.mem_of_getElem? (i := 446) (by decide +kernel)) (by decide +kernel)
theorem kL_306 : Cond.methodLink RL 306 yX9_isPlanOver ∈ q_W0 := q_W0_mem (List.mem_of_getElem? (i := 444) (by decide +kernel)) (by decide +kernel)
theorem wX10_isPlanOver : q_cw yX10_isPlanOver cX10_isPlanOver mX10_isPlanOver 0 := ⟨q_W0_mem (List.mem_of_getElem? (i := 1413) (by decide +kernel)) (by decide +kernel), q_W0_mem (List.mem_of_getElem? (i := 53) (by decide +kernel)) (by decide +kernel), by decide +kernel, by decide +kernel, by decide +kernel⟩
theorem iX10_isPlanOver : Cond.instanceMethod yX10_isPlanOver ∈ q_W0 := q_W0_mem (List.mem_of_getElem? (i := 1411) (by decide +kernel)) (by decide +kernel)
theorem eX10_isPlanOver : Cond.selects yX10_isPlanOver.cls yX10_isPlanOver yX10_isPlanOver ∈ q_W0 := q_W0_mem (List.mem_of_getElem? (i := 1412) (by decide +kernel)) (by decide +kernel)
theorem kL_310 : Cond.methodLink RL 310 yX10_isPlanOver ∈ q_W0 := q_W0_mem (List.mem_of_getElem? (i := 1410) (by decide +kernel)) (by decide +kernel)
theorem kL_311 : Cond.methodLink RL 311 yL_writeWeek ∈ q_W0 := q_W0_mem (List.mem_of_getElem? (i := 1017) (by decide +kernel)) (by decide +kernel)
theorem wX10_writeWeek : q_cw yX10_writeWeek cX10_writeWeek mX10_writeWeek 1 := ⟨q_W0_mem (List.mem_of_getElem? (i := 1417) (by decide +kernel)) (by decide +kernel), q_W0_mem (List.mem_of_getElem? (i := 53) (by decide +kernel)) (by decide +kernel), by decide +kernel, by decide +kernel, by decide +kernel⟩
theorem iX10_writeWeek : Cond.instanceMethod yX10_writeWeek ∈ q_W0 := q_W0_mem (List.mem_of_getElem? (i := 1415) (by decide +kernel)) (by decide +kernel)
theorem eX10_writeWeek : Cond.selects yX10_writeWeek.cls yX10_writeWeek yX10_writeWeek ∈ q_W0 := q_W0_mem (List.mem_of_getElem? (i := 1416) (by decide +kernel)) (by decide +kernel)
theorem kL_313 : Cond.methodLink RL 313 yX10_writeWeek ∈ q_W0 := q_W0_mem (List.mem_of_getElem? (i := 1414) (by decide +kernel)) (by decide +kernel)
theorem kL_314 : Cond.methodLink RL 314 yL_lineAt ∈ q_W0 := q_W0_mem (List.mem_of_getElem? (i := 1032) (by decide +kernel)) (by decide +kernel)
theorem wX10_lineAt : q_cw yX10_lineAt cX10_lineAt mX10_lineAt 1 := ⟨q_W0_mem (List.mem_of_getElem? (i := 1425) (by decide +kernel)) (by decide +kernel), q_W0_mem (List.mem_of_getElem? (i := 53) (by decide +kernel)) (by decide +kernel), by decide +kernel, by decide +kernel, by decide +kernel⟩
theorem iX10_lineAt : Cond.instanceMethod yX10_lineAt ∈ q_W0 := q_W0_mem (List.mem_of_getElem? (i := 1423) (by decide +kernel)) (by decide +kernel)
theorem eX10_lineAt : Cond.selects yX10_lineAt.cls yX10_lineAt yX10_lineAt ∈ q_W0 := q_W0_mem (List.mem_of_getElem? (i := 1424) (by decide +kernel)) (by decide +kernel)
theorem kL_316 : Cond.methodLink RL 316 yX10_lineAt ∈ q_W0 := q_W0_mem (List.mem_of_getElem? (i := 1422) (by decide +kernel)) (by decide +kernel)
theorem kL_317 : Cond.methodLink RL 317 yL_undo ∈ q_W0 := q_W0_mem (List.mem_of_getElem? (i := 1040) (by decide +kernel)) (by decide +kernel)
theorem wX10_undo : q_cw yX10_undo cX10_undo mX10_undo 0 := ⟨q_W0_mem (List.mem_of_getElem? (i := 1429) (by decide +kernel)) (by decide +kernel), q_W0_mem (List.mem_of_getElem? (i := 53) (by decide +kernel)) (by decide +kernel), by decide +kernel, by decide +kernel, by decide +kernel⟩
theorem iX10_undo : Cond.instanceMethod yX10_undo ∈ q_W0 := q_W0_mem (List.mem_of_getElem? (i := 1427) (by decide +kernel)) (by decide +kernel)
theorem eX10_undo : Cond.selects yX10_undo.cls yX10_undo yX10_undo ∈ q_W0 := q_W0_mem (List.mem_of_getElem? (i := 1428) (by decide +kernel)) (by decide +kernel)
theorem kL_319 : Cond.methodLink RL 319 yX10_undo ∈ q_W0 := q_W0_mem (List.mem_of_getElem? (i := 1426) (by decide +kernel)) (by decide +kernel)
theorem wX9_save : q_cw yX9_save cX9_save mX9_save 0 := ⟨q_W0_mem (List.mem_of_getElem? (i := 451) (by decide +kernel)) (by decide +kernel), q_W0_mem (List.mem_of_getElem? (i := 43) (by decide +kernel)) (by decide +kernel), by decide +kernel, by decide +kernel, by decide +kernel⟩
theorem iX9_save : Cond.instanceMethod yX9_save ∈ q_W0 := q_W0_mem (List.mem_of_getElem? (i := 449) (by decide +kernel)) (by decide +kernel)
theorem eX9_save : Cond.selects yX9_save.cls yX9_save yX9_save ∈ q_W0 := q_W0_mem (List.mem_of_getElem? (i := 450) (by decide +kernel)) (by decide +kernel)
theorem kL_320 : Cond.methodLink RL 320 yX9_save ∈ q_W0 := q_W0_mem (List.mem_of_getElem? (i := 448) (by decide +kernel)) (by decide +kernel)
theorem wX10_save : q_cw yX10_save cX10_save mX10_save 0 := ⟨q_W0_mem (List.mem_of_getElem? (i := 1433) (by decide +kernel)) (by decide +kernel), q_W0_mem (List.mem_of_getElem? (i := 53) (by decide +kernel)) (by decide +kernel), by decide +kernel, by decide +kernel, by decide +kernel⟩
theorem iX10_save : Cond.instanceMethod yX10_save ∈ q_W0 := q_W0_mem (List.mem_of_getElem? (i := 1431) (by decide +kernel)) (by decide +kernel)
theorem eX10_save : Cond.selects yX10_save.cls yX10_save yX10_save ∈ q_W0 := q_W0_mem (List.mem_of_getElem? (i := 1432) (by decide +kernel)) (by decide +kernel)
theorem kL_323 : Cond.methodLink RL 323 yX10_save ∈ q_W0 := q_W0_mem (List.mem_of_getElem? (i := 1430) (by decide +kernel)) (by decide +kernel)
theorem kL_324 : Cond.methodLink RL 324 yL_restore ∈ q_W0 := q_W0_mem (List.mem_of_getElem? (i := 1052) (by decide +kernel)) (by decide +kernel)
theorem wX10_restore : q_cw yX10_restore cX10_restore mX10_restore 0 := ⟨q_W0_mem (List.mem_of_getElem? (i := 1437) (by decide +kernel)) (by decide +kernel), q_W0_mem (List.mem_of_getElem? (i := 53) (by decide +kernel)) (by decide +kernel), by decide +kernel, by decide +kernel, by decide +kernel⟩
theorem iX10_restore : Cond.instanceMethod yX10_restore ∈ q_W0 := q_W0_mem (List.mem_of_getElem? (i := 1435) (by decide +kernel)) (by decide +kernel)
theorem eX10_restore : Cond.selects yX10_restore.cls yX10_restore yX10_restore ∈ q_W0 := q_W0_mem (List.mem_of_getElem? (i := 1436) (by decide +kernel)) (by decide +kernel)
theorem kL_326 : Cond.methodLink RL 326 yX10_restore ∈ q_W0 := q_W0_mem (List.mem_of_getElem? (i := 1434) (by decide +kernel)) (by decide +kernel)
theorem kX0_3 : Cond.methodLink RX0 3 Lib.objectInit ∈ q_W0 := q_W0_mem (List.mem_of_getElem? (i := 271) (by decide +kernel)) (by decide +kernel)
theorem kX1_3 : Cond.methodLink RX1 3 Lib.objectInit ∈ q_W0 := q_W0_mem (List.mem_of_getElem? (i := 231) (by decide +kernel)) (by decide +kernel)
theorem wX5_init : q_cw yX5_init cX5_init mX5_init 0 := ⟨q_W0_mem (List.mem_of_getElem? (i := 78) (by decide +kernel)) (by decide +kernel), q_W0_mem (List.mem_of_getElem? (i := 44) (by decide +kernel)) (by decide +kernel), by decide +kernel, by decide +kernel, by decide +kernel⟩
theorem iX5_init : Cond.instanceMethod yX5_init ∈ q_W0 := q_W0_mem (List.mem_of_getElem? (i := 77) (by decide +kernel)) (by decide +kernel)
theorem knX1_24 : Cond.methodLinkNest RX1 24 yX5_init "TrainingDiary" ∈ q_nw := by decide +kernel
theorem wX5_copyFrom : q_cw yX5_copyFrom cX5_copyFrom mX5_copyFrom 1 := ⟨q_W0_mem (List.mem_of_getElem? (i := 394) (by decide +kernel)) (by decide +kernel), q_W0_mem (List.mem_of_getElem? (i := 44) (by decide +kernel)) (by decide +kernel), by decide +kernel, by decide +kernel, by decide +kernel⟩
theorem iX5_copyFrom : Cond.instanceMethod yX5_copyFrom ∈ q_W0 := q_W0_mem (List.mem_of_getElem? (i := 392) (by decide +kernel)) (by decide +kernel)
theorem eX5_copyFrom : Cond.selects yX5_copyFrom.cls yX5_copyFrom yX5_copyFrom ∈ q_W0 := q_W0_mem (List.mem_of_getElem? (i := 393) (by decide +kernel)) (by decide +kernel)
theorem kX1_25 : Cond.methodLink RX1 25 yX5_copyFrom ∈ q_W0 := q_W0_mem (List.mem_of_getElem? (i := 391) (by decide +kernel)) (by decide +kernel)
theorem kX1_29 : Cond.methodLink RX1 29 Lib.Math.min.name ∈ q_W0 := q_W0_mem (List.mem_of_getElem? (i := 421) (by decide +kernel)) (by decide +kernel)
theorem kX10_3 : Cond.methodLink RX10 3 Lib.objectInit ∈ q_W0 := q_W0_mem (List.mem_of_getElem? (i := 1069) (by decide +kernel)) (by decide +kernel)
theorem kX10_41 : Cond.methodLink RX10 41 Lib.Math.min.name ∈ q_W0 := q_W0_mem (List.mem_of_getElem? (i := 1134) (by decide +kernel)) (by decide +kernel)
theorem wX10_isIn : q_cw yX10_isIn cX10_isIn mX10_isIn 3 := ⟨q_W0_mem (List.mem_of_getElem? (i := 1125) (by decide +kernel)) (by decide +kernel), q_W0_mem (List.mem_of_getElem? (i := 53) (by decide +kernel)) (by decide +kernel), by decide +kernel, by decide +kernel, by decide +kernel⟩
theorem sX10_isIn : Cond.static yX10_isIn ∈ q_W0 := q_W0_mem (List.mem_of_getElem? (i := 1124) (by decide +kernel)) (by decide +kernel)
theorem kX10_47 : Cond.methodLink RX10 47 yX10_isIn ∈ q_W0 := q_W0_mem (List.mem_of_getElem? (i := 1123) (by decide +kernel)) (by decide +kernel)
theorem wX10_isThrown : q_cw yX10_isThrown cX10_isThrown mX10_isThrown 2 := ⟨q_W0_mem (List.mem_of_getElem? (i := 1129) (by decide +kernel)) (by decide +kernel), q_W0_mem (List.mem_of_getElem? (i := 53) (by decide +kernel)) (by decide +kernel), by decide +kernel, by decide +kernel, by decide +kernel⟩
theorem iX10_isThrown : Cond.instanceMethod yX10_isThrown ∈ q_W0 := q_W0_mem (List.mem_of_getElem? (i := 1128) (by decide +kernel)) (by decide +kernel)
theorem eX10_isThrown : Cond.selects yX10_isThrown.cls yX10_isThrown yX10_isThrown ∈ q_W0 := q_W0_mem (List.mem_of_getElem? (i := 16) (by decide +kernel)) (by decide +kernel)
theorem kX10_51 : Cond.methodLink RX10 51 yX10_isThrown ∈ q_W0 := q_W0_mem (List.mem_of_getElem? (i := 1126) (by decide +kernel)) (by decide +kernel)
theorem wX10_keeps : q_cw yX10_keeps cX10_keeps mX10_keeps 0 := ⟨q_W0_mem (List.mem_of_getElem? (i := 1133) (by decide +kernel)) (by decide +kernel), q_W0_mem (List.mem_of_getElem? (i := 53) (by decide +kernel)) (by decide +kernel), by decide +kernel, by decide +kernel, by decide +kernel⟩
theorem iX10_keeps : Cond.instanceMethod yX10_keeps ∈ q_W0 := q_W0_mem (List.mem_of_getElem? (i := 1132) (by decide +kernel)) (by decide +kernel)
theorem eX10_keeps : Cond.selects yX10_keeps.cls yX10_keeps yX10_keeps ∈ q_W0 := q_W0_mem (List.mem_of_getElem? (i := 17) (by decide +kernel)) (by decide +kernel)
theorem kX10_55 : Cond.methodLink RX10 55 yX10_keeps ∈ q_W0 := q_W0_mem (List.mem_of_getElem? (i := 1130) (by decide +kernel)) (by decide +kernel)
theorem wX10_isNoDay : q_cw yX10_isNoDay cX10_isNoDay mX10_isNoDay 1 := ⟨q_W0_mem (List.mem_of_getElem? (i := 1146) (by decide +kernel)) (by decide +kernel), q_W0_mem (List.mem_of_getElem? (i := 53) (by decide +kernel)) (by decide +kernel), by decide +kernel, by decide +kernel, by decide +kernel⟩
theorem iX10_isNoDay : Cond.instanceMethod yX10_isNoDay ∈ q_W0 := q_W0_mem (List.mem_of_getElem? (i := 1145) (by decide +kernel)) (by decide +kernel)
theorem eX10_isNoDay : Cond.selects yX10_isNoDay.cls yX10_isNoDay yX10_isNoDay ∈ q_W0 := q_W0_mem (List.mem_of_getElem? (i := 18) (by decide +kernel)) (by decide +kernel)
theorem kX10_58 : Cond.methodLink RX10 58 yX10_isNoDay ∈ q_W0 := q_W0_mem (List.mem_of_getElem? (i := 1143) (by decide +kernel)) (by decide +kernel)
theorem wX10_testOn : q_cw yX10_testOn cX10_testOn mX10_testOn 1 := ⟨q_W0_mem (List.mem_of_getElem? (i := 1150) (by decide +kernel)) (by decide +kernel), q_W0_mem (List.mem_of_getElem? (i := 53) (by decide +kernel)) (by decide +kernel), by decide +kernel, by decide +kernel, by decide +kernel⟩
theorem iX10_testOn : Cond.instanceMethod yX10_testOn ∈ q_W0 := q_W0_mem (List.mem_of_getElem? (i := 1149) (by decide +kernel)) (by decide +kernel)
theorem eX10_testOn : Cond.selects yX10_testOn.cls yX10_testOn yX10_testOn ∈ q_W0 := q_W0_mem (List.mem_of_getElem? (i := 19) (by decide +kernel)) (by decide +kernel)
theorem kX10_62 : Cond.methodLink RX10 62 yX10_testOn ∈ q_W0 := q_W0_mem (List.mem_of_getElem? (i := 1147) (by decide +kernel)) (by decide +kernel)
theorem wX10_loadAt : q_cw yX10_loadAt cX10_loadAt mX10_loadAt 1 := ⟨q_W0_mem (List.mem_of_getElem? (i := 1154) (by decide +kernel)) (by decide +kernel), q_W0_mem (List.mem_of_getElem? (i := 53) (by decide +kernel)) (by decide +kernel), by decide +kernel, by decide +kernel, by decide +kernel⟩
theorem iX10_loadAt : Cond.instanceMethod yX10_loadAt ∈ q_W0 := q_W0_mem (List.mem_of_getElem? (i := 1153) (by decide +kernel)) (by decide +kernel)
theorem eX10_loadAt : Cond.selects yX10_loadAt.cls yX10_loadAt yX10_loadAt ∈ q_W0 := q_W0_mem (List.mem_of_getElem? (i := 20) (by decide +kernel)) (by decide +kernel)
theorem kX10_66 : Cond.methodLink RX10 66 yX10_loadAt ∈ q_W0 := q_W0_mem (List.mem_of_getElem? (i := 1151) (by decide +kernel)) (by decide +kernel)
theorem wX10_threshold : q_cw yX10_threshold cX10_threshold mX10_threshold 1 := ⟨q_W0_mem (List.mem_of_getElem? (i := 1174) (by decide +kernel)) (by decide +kernel), q_W0_mem (List.mem_of_getElem? (i := 53) (by decide +kernel)) (by decide +kernel), by decide +kernel, by decide +kernel, by decide +kernel⟩
theorem iX10_threshold : Cond.instanceMethod yX10_threshold ∈ q_W0 := q_W0_mem (List.mem_of_getElem? (i := 1173) (by decide +kernel)) (by decide +kernel)
theorem eX10_threshold : Cond.selects yX10_threshold.cls yX10_threshold yX10_threshold ∈ q_W0 := q_W0_mem (List.mem_of_getElem? (i := 25) (by decide +kernel)) (by decide +kernel)
theorem kX10_69 : Cond.methodLink RX10 69 yX10_threshold ∈ q_W0 := q_W0_mem (List.mem_of_getElem? (i := 1171) (by decide +kernel)) (by decide +kernel)
theorem wX10_zone : q_cw yX10_zone cX10_zone mX10_zone 2 := ⟨q_W0_mem (List.mem_of_getElem? (i := 1170) (by decide +kernel)) (by decide +kernel), q_W0_mem (List.mem_of_getElem? (i := 53) (by decide +kernel)) (by decide +kernel), by decide +kernel, by decide +kernel, by decide +kernel⟩
theorem iX10_zone : Cond.instanceMethod yX10_zone ∈ q_W0 := q_W0_mem (List.mem_of_getElem? (i := 1169) (by decide +kernel)) (by decide +kernel)
theorem eX10_zone : Cond.selects yX10_zone.cls yX10_zone yX10_zone ∈ q_W0 := q_W0_mem (List.mem_of_getElem? (i := 24) (by decide +kernel)) (by decide +kernel)
theorem kX10_72 : Cond.methodLink RX10 72 yX10_zone ∈ q_W0 := q_W0_mem (List.mem_of_getElem? (i := 1167) (by decide +kernel)) (by decide +kernel)
theorem wX10_at : q_cw yX10_at cX10_at mX10_at 1 := ⟨q_W0_mem (List.mem_of_getElem? (i := 1166) (by decide +kernel)) (by decide +kernel), q_W0_mem (List.mem_of_getElem? (i := 53) (by decide +kernel)) (by decide +kernel), by decide +kernel, by decide +kernel, by decide +kernel⟩
theorem iX10_at : Cond.instanceMethod yX10_at ∈ q_W0 := q_W0_mem (List.mem_of_getElem? (i := 1165) (by decide +kernel)) (by decide +kernel)
theorem eX10_at : Cond.selects yX10_at.cls yX10_at yX10_at ∈ q_W0 := q_W0_mem (List.mem_of_getElem? (i := 23) (by decide +kernel)) (by decide +kernel)
theorem kX10_75 : Cond.methodLink RX10 75 yX10_at ∈ q_W0 := q_W0_mem (List.mem_of_getElem? (i := 1163) (by decide +kernel)) (by decide +kernel)
theorem wX10_noZones : q_cw yX10_noZones cX10_noZones mX10_noZones 0 := ⟨q_W0_mem (List.mem_of_getElem? (i := 1158) (by decide +kernel)) (by decide +kernel), q_W0_mem (List.mem_of_getElem? (i := 53) (by decide +kernel)) (by decide +kernel), by decide +kernel, by decide +kernel, by decide +kernel⟩
theorem iX10_noZones : Cond.instanceMethod yX10_noZones ∈ q_W0 := q_W0_mem (List.mem_of_getElem? (i := 1157) (by decide +kernel)) (by decide +kernel)
theorem eX10_noZones : Cond.selects yX10_noZones.cls yX10_noZones yX10_noZones ∈ q_W0 := q_W0_mem (List.mem_of_getElem? (i := 21) (by decide +kernel)) (by decide +kernel)
theorem kX10_78 : Cond.methodLink RX10 78 yX10_noZones ∈ q_W0 := q_W0_mem (List.mem_of_getElem? (i := 1155) (by decide +kernel)) (by decide +kernel)
theorem wX10_zones : q_cw yX10_zones cX10_zones mX10_zones 1 := ⟨q_W0_mem (List.mem_of_getElem? (i := 1162) (by decide +kernel)) (by decide +kernel), q_W0_mem (List.mem_of_getElem? (i := 53) (by decide +kernel)) (by decide +kernel), by decide +kernel, by decide +kernel, by decide +kernel⟩
theorem iX10_zones : Cond.instanceMethod yX10_zones ∈ q_W0 := q_W0_mem (List.mem_of_getElem? (i := 1161) (by decide +kernel)) (by decide +kernel)
theorem eX10_zones : Cond.selects yX10_zones.cls yX10_zones yX10_zones ∈ q_W0 := q_W0_mem (List.mem_of_getElem? (i := 22) (by decide +kernel)) (by decide +kernel)
theorem kX10_81 : Cond.methodLink RX10 81 yX10_zones ∈ q_W0 := q_W0_mem (List.mem_of_getElem? (i := 1159) (by decide +kernel)) (by decide +kernel)
theorem wX10_place : q_cw yX10_place cX10_place mX10_place 1 := ⟨q_W0_mem (List.mem_of_getElem? (i := 1218) (by decide +kernel)) (by decide +kernel), q_W0_mem (List.mem_of_getElem? (i := 53) (by decide +kernel)) (by decide +kernel), by decide +kernel, by decide +kernel, by decide +kernel⟩
theorem iX10_place : Cond.instanceMethod yX10_place ∈ q_W0 := q_W0_mem (List.mem_of_getElem? (i := 1217) (by decide +kernel)) (by decide +kernel)
theorem eX10_place : Cond.selects yX10_place.cls yX10_place yX10_place ∈ q_W0 := q_W0_mem (List.mem_of_getElem? (i := 26) (by decide +kernel)) (by decide +kernel)
theorem kX10_84 : Cond.methodLink RX10 84 yX10_place ∈ q_W0 := q_W0_mem (List.mem_of_getElem? (i := 1215) (by decide +kernel)) (by decide +kernel)
theorem wX10_minutes : q_cw yX10_minutes cX10_minutes mX10_minutes 1 := ⟨q_W0_mem (List.mem_of_getElem? (i := 1222) (by decide +kernel)) (by decide +kernel), q_W0_mem (List.mem_of_getElem? (i := 53) (by decide +kernel)) (by decide +kernel), by decide +kernel, by decide +kernel, by decide +kernel⟩
theorem iX10_minutes : Cond.instanceMethod yX10_minutes ∈ q_W0 := q_W0_mem (List.mem_of_getElem? (i := 1221) (by decide +kernel)) (by decide +kernel)
theorem eX10_minutes : Cond.selects yX10_minutes.cls yX10_minutes yX10_minutes ∈ q_W0 := q_W0_mem (List.mem_of_getElem? (i := 27) (by decide +kernel)) (by decide +kernel)
theorem kX10_87 : Cond.methodLink RX10 87 yX10_minutes ∈ q_W0 := q_W0_mem (List.mem_of_getElem? (i := 1219) (by decide +kernel)) (by decide +kernel)
theorem wX10_isNoSession : q_cw yX10_isNoSession cX10_isNoSession mX10_isNoSession 1 := ⟨q_W0_mem (List.mem_of_getElem? (i := 1230) (by decide +kernel)) (by decide +kernel), q_W0_mem (List.mem_of_getElem? (i := 53) (by decide +kernel)) (by decide +kernel), by decide +kernel, by decide +kernel, by decide +kernel⟩
theorem iX10_isNoSession : Cond.instanceMethod yX10_isNoSession ∈ q_W0 := q_W0_mem (List.mem_of_getElem? (i := 1229) (by decide +kernel)) (by decide +kernel)
theorem eX10_isNoSession : Cond.selects yX10_isNoSession.cls yX10_isNoSession yX10_isNoSession ∈ q_W0 := q_W0_mem (List.mem_of_getElem? (i := 28) (by decide +kernel)) (by decide +kernel)
theorem kX10_90 : Cond.methodLink RX10 90 yX10_isNoSession ∈ q_W0 := q_W0_mem (List.mem_of_getElem? (i := 1227) (by decide +kernel)) (by decide +kernel)
theorem wX10_ranked : q_cw yX10_ranked cX10_ranked mX10_ranked 1 := ⟨q_W0_mem (List.mem_of_getElem? (i := 1250) (by decide +kernel)) (by decide +kernel), q_W0_mem (List.mem_of_getElem? (i := 53) (by decide +kernel)) (by decide +kernel), by decide +kernel, by decide +kernel, by decide +kernel⟩
theorem iX10_ranked : Cond.instanceMethod yX10_ranked ∈ q_W0 := q_W0_mem (List.mem_of_getElem? (i := 1249) (by decide +kernel)) (by decide +kernel)
theorem eX10_ranked : Cond.selects yX10_ranked.cls yX10_ranked yX10_ranked ∈ q_W0 := q_W0_mem (List.mem_of_getElem? (i := 29) (by decide +kernel)) (by decide +kernel)
theorem kX10_93 : Cond.methodLink RX10 93 yX10_ranked ∈ q_W0 := q_W0_mem (List.mem_of_getElem? (i := 1247) (by decide +kernel)) (by decide +kernel)
theorem wX10_loads : q_cw yX10_loads cX10_loads mX10_loads 0 := ⟨q_W0_mem (List.mem_of_getElem? (i := 1274) (by decide +kernel)) (by decide +kernel), q_W0_mem (List.mem_of_getElem? (i := 53) (by decide +kernel)) (by decide +kernel), by decide +kernel, by decide +kernel, by decide +kernel⟩
theorem iX10_loads : Cond.instanceMethod yX10_loads ∈ q_W0 := q_W0_mem (List.mem_of_getElem? (i := 1273) (by decide +kernel)) (by decide +kernel)
theorem eX10_loads : Cond.selects yX10_loads.cls yX10_loads yX10_loads ∈ q_W0 := q_W0_mem (List.mem_of_getElem? (i := 30) (by decide +kernel)) (by decide +kernel)
theorem kX10_96 : Cond.methodLink RX10 96 yX10_loads ∈ q_W0 := q_W0_mem (List.mem_of_getElem? (i := 1271) (by decide +kernel)) (by decide +kernel)
theorem wX10_decayed : q_cw yX10_decayed cX10_decayed mX10_decayed 2 := ⟨q_W0_mem (List.mem_of_getElem? (i := 1290) (by decide +kernel)) (by decide +kernel), q_W0_mem (List.mem_of_getElem? (i := 53) (by decide +kernel)) (by decide +kernel), by decide +kernel, by decide +kernel, by decide +kernel⟩
theorem iX10_decayed : Cond.instanceMethod yX10_decayed ∈ q_W0 := q_W0_mem (List.mem_of_getElem? (i := 1289) (by decide +kernel)) (by decide +kernel)
theorem eX10_decayed : Cond.selects yX10_decayed.cls yX10_decayed yX10_decayed ∈ q_W0 := q_W0_mem (List.mem_of_getElem? (i := 31) (by decide +kernel)) (by decide +kernel)
theorem kX10_99 : Cond.methodLink RX10 99 yX10_decayed ∈ q_W0 := q_W0_mem (List.mem_of_getElem? (i := 1287) (by decide +kernel)) (by decide +kernel)
theorem kX10_102 : Cond.methodLink RX10 102 yX10_fitnessOn ∈ q_W0 := q_W0_mem (List.mem_of_getElem? (i := 1295) (by decide +kernel)) (by decide +kernel)
theorem kX10_105 : Cond.methodLink RX10 105 yX10_fatigueOn ∈ q_W0 := q_W0_mem (List.mem_of_getElem? (i := 1304) (by decide +kernel)) (by decide +kernel)
theorem wX10_form : q_cw yX10_form cX10_form mX10_form 1 := ⟨q_W0_mem (List.mem_of_getElem? (i := 1312) (by decide +kernel)) (by decide +kernel), q_W0_mem (List.mem_of_getElem? (i := 53) (by decide +kernel)) (by decide +kernel), by decide +kernel, by decide +kernel, by decide +kernel⟩
theorem iX10_form : Cond.instanceMethod yX10_form ∈ q_W0 := q_W0_mem (List.mem_of_getElem? (i := 1311) (by decide +kernel)) (by decide +kernel)
theorem eX10_form : Cond.selects yX10_form.cls yX10_form yX10_form ∈ q_W0 := q_W0_mem (List.mem_of_getElem? (i := 32) (by decide +kernel)) (by decide +kernel)
theorem kX10_108 : Cond.methodLink RX10 108 yX10_form ∈ q_W0 := q_W0_mem (List.mem_of_getElem? (i := 1309) (by decide +kernel)) (by decide +kernel)
theorem wX10_row : q_cw yX10_row cX10_row mX10_row 2 := ⟨q_W0_mem (List.mem_of_getElem? (i := 1338) (by decide +kernel)) (by decide +kernel), q_W0_mem (List.mem_of_getElem? (i := 53) (by decide +kernel)) (by decide +kernel), by decide +kernel, by decide +kernel, by decide +kernel⟩
theorem iX10_row : Cond.instanceMethod yX10_row ∈ q_W0 := q_W0_mem (List.mem_of_getElem? (i := 1337) (by decide +kernel)) (by decide +kernel)
theorem eX10_row : Cond.selects yX10_row.cls yX10_row yX10_row ∈ q_W0 := q_W0_mem (List.mem_of_getElem? (i := 35) (by decide +kernel)) (by decide +kernel)
theorem kX10_113 : Cond.methodLink RX10 113 yX10_row ∈ q_W0 := q_W0_mem (List.mem_of_getElem? (i := 1335) (by decide +kernel)) (by decide +kernel)
theorem wX10_isNoRow : q_cw yX10_isNoRow cX10_isNoRow mX10_isNoRow 1 := ⟨q_W0_mem (List.mem_of_getElem? (i := 1330) (by decide +kernel)) (by decide +kernel), q_W0_mem (List.mem_of_getElem? (i := 53) (by decide +kernel)) (by decide +kernel), by decide +kernel, by decide +kernel, by decide +kernel⟩
theorem iX10_isNoRow : Cond.instanceMethod yX10_isNoRow ∈ q_W0 := q_W0_mem (List.mem_of_getElem? (i := 1329) (by decide +kernel)) (by decide +kernel)
theorem eX10_isNoRow : Cond.selects yX10_isNoRow.cls yX10_isNoRow yX10_isNoRow ∈ q_W0 := q_W0_mem (List.mem_of_getElem? (i := 33) (by decide +kernel)) (by decide +kernel)
theorem kX10_116 : Cond.methodLink RX10 116 yX10_isNoRow ∈ q_W0 := q_W0_mem (List.mem_of_getElem? (i := 1327) (by decide +kernel)) (by decide +kernel)
theorem wX10_bestRow : q_cw yX10_bestRow cX10_bestRow mX10_bestRow 1 := ⟨q_W0_mem (List.mem_of_getElem? (i := 1334) (by decide +kernel)) (by decide +kernel), q_W0_mem (List.mem_of_getElem? (i := 53) (by decide +kernel)) (by decide +kernel), by decide +kernel, by decide +kernel, by decide +kernel⟩
theorem iX10_bestRow : Cond.instanceMethod yX10_bestRow ∈ q_W0 := q_W0_mem (List.mem_of_getElem? (i := 1333) (by decide +kernel)) (by decide +kernel)
theorem eX10_bestRow : Cond.selects yX10_bestRow.cls yX10_bestRow yX10_bestRow ∈ q_W0 := q_W0_mem (List.mem_of_getElem? (i := 34) (by decide +kernel)) (by decide +kernel)
theorem kX10_119 : Cond.methodLink RX10 119 yX10_bestRow ∈ q_W0 := q_W0_mem (List.mem_of_getElem? (i := 1331) (by decide +kernel)) (by decide +kernel)
theorem kX10_122 : Cond.methodLink RX10 122 yX10_bestDays ∈ q_W0 := q_W0_mem (List.mem_of_getElem? (i := 1343) (by decide +kernel)) (by decide +kernel)
theorem wX10_intensity : q_cw yX10_intensity cX10_intensity mX10_intensity 2 := ⟨q_W0_mem (List.mem_of_getElem? (i := 1367) (by decide +kernel)) (by decide +kernel), q_W0_mem (List.mem_of_getElem? (i := 53) (by decide +kernel)) (by decide +kernel), by decide +kernel, by decide +kernel, by decide +kernel⟩
theorem iX10_intensity : Cond.instanceMethod yX10_intensity ∈ q_W0 := q_W0_mem (List.mem_of_getElem? (i := 1366) (by decide +kernel)) (by decide +kernel)
theorem eX10_intensity : Cond.selects yX10_intensity.cls yX10_intensity yX10_intensity ∈ q_W0 := q_W0_mem (List.mem_of_getElem? (i := 39) (by decide +kernel)) (by decide +kernel)
theorem kX10_125 : Cond.methodLink RX10 125 yX10_intensity ∈ q_W0 := q_W0_mem (List.mem_of_getElem? (i := 1364) (by decide +kernel)) (by decide +kernel)
theorem kX10_128 : Cond.methodLink RX10 128 Lib.Math.max.name ∈ q_W0 := q_W0_mem (List.mem_of_getElem? (i := 1368) (by decide +kernel)) (by decide +kernel)
theorem wX10_effort : q_cw yX10_effort cX10_effort mX10_effort 2 := ⟨q_W0_mem (List.mem_of_getElem? (i := 1363) (by decide +kernel)) (by decide +kernel), q_W0_mem (List.mem_of_getElem? (i := 53) (by decide +kernel)) (by decide +kernel), by decide +kernel, by decide +kernel, by decide +kernel⟩
theorem iX10_effort : Cond.instanceMethod yX10_effort ∈ q_W0 := q_W0_mem (List.mem_of_getElem? (i := 1362) (by decide +kernel)) (by decide +kernel)
theorem eX10_effort : Cond.selects yX10_effort.cls yX10_effort yX10_effort ∈ q_W0 := q_W0_mem (List.mem_of_getElem? (i := 38) (by decide +kernel)) (by decide +kernel)
theorem kX10_131 : Cond.methodLink RX10 131 yX10_effort ∈ q_W0 := q_W0_mem (List.mem_of_getElem? (i := 1360) (by decide +kernel)) (by decide +kernel)
theorem wX10_strongest : q_cw yX10_strongest cX10_strongest mX10_strongest 1 := ⟨q_W0_mem (List.mem_of_getElem? (i := 1359) (by decide +kernel)) (by decide +kernel), q_W0_mem (List.mem_of_getElem? (i := 53) (by decide +kernel)) (by decide +kernel), by decide +kernel, by decide +kernel, by decide +kernel⟩
theorem iX10_strongest : Cond.instanceMethod yX10_strongest ∈ q_W0 := q_W0_mem (List.mem_of_getElem? (i := 1358) (by decide +kernel)) (by decide +kernel)
theorem eX10_strongest : Cond.selects yX10_strongest.cls yX10_strongest yX10_strongest ∈ q_W0 := q_W0_mem (List.mem_of_getElem? (i := 37) (by decide +kernel)) (by decide +kernel)
theorem kX10_134 : Cond.methodLink RX10 134 yX10_strongest ∈ q_W0 := q_W0_mem (List.mem_of_getElem? (i := 1356) (by decide +kernel)) (by decide +kernel)
theorem wX10_isNoEffort : q_cw yX10_isNoEffort cX10_isNoEffort mX10_isNoEffort 1 := ⟨q_W0_mem (List.mem_of_getElem? (i := 1355) (by decide +kernel)) (by decide +kernel), q_W0_mem (List.mem_of_getElem? (i := 53) (by decide +kernel)) (by decide +kernel), by decide +kernel, by decide +kernel, by decide +kernel⟩
theorem iX10_isNoEffort : Cond.instanceMethod yX10_isNoEffort ∈ q_W0 := q_W0_mem (List.mem_of_getElem? (i := 1354) (by decide +kernel)) (by decide +kernel)
theorem eX10_isNoEffort : Cond.selects yX10_isNoEffort.cls yX10_isNoEffort yX10_isNoEffort ∈ q_W0 := q_W0_mem (List.mem_of_getElem? (i := 36) (by decide +kernel)) (by decide +kernel)
theorem kX10_137 : Cond.methodLink RX10 137 yX10_isNoEffort ∈ q_W0 := q_W0_mem (List.mem_of_getElem? (i := 1352) (by decide +kernel)) (by decide +kernel)
theorem kX10_140 : Cond.methodLink RX10 140 yX10_bestEffort ∈ q_W0 := q_W0_mem (List.mem_of_getElem? (i := 1373) (by decide +kernel)) (by decide +kernel)
theorem wX10_goes : q_cw yX10_goes cX10_goes mX10_goes 0 := ⟨q_W0_mem (List.mem_of_getElem? (i := 1397) (by decide +kernel)) (by decide +kernel), q_W0_mem (List.mem_of_getElem? (i := 53) (by decide +kernel)) (by decide +kernel), by decide +kernel, by decide +kernel, by decide +kernel⟩
theorem iX10_goes : Cond.instanceMethod yX10_goes ∈ q_W0 := q_W0_mem (List.mem_of_getElem? (i := 1396) (by decide +kernel)) (by decide +kernel)
theorem eX10_goes : Cond.selects yX10_goes.cls yX10_goes yX10_goes ∈ q_W0 := q_W0_mem (List.mem_of_getElem? (i := 40) (by decide +kernel)) (by decide +kernel)
theorem kX10_152 : Cond.methodLink RX10 152 yX10_goes ∈ q_W0 := q_W0_mem (List.mem_of_getElem? (i := 1394) (by decide +kernel)) (by decide +kernel)
theorem wX10_told : q_cw yX10_told cX10_told mX10_told 1 := ⟨q_W0_mem (List.mem_of_getElem? (i := 1421) (by decide +kernel)) (by decide +kernel), q_W0_mem (List.mem_of_getElem? (i := 53) (by decide +kernel)) (by decide +kernel), by decide +kernel, by decide +kernel, by decide +kernel⟩
theorem iX10_told : Cond.instanceMethod yX10_told ∈ q_W0 := q_W0_mem (List.mem_of_getElem? (i := 1420) (by decide +kernel)) (by decide +kernel)
theorem eX10_told : Cond.selects yX10_told.cls yX10_told yX10_told ∈ q_W0 := q_W0_mem (List.mem_of_getElem? (i := 41) (by decide +kernel)) (by decide +kernel)
theorem kX10_156 : Cond.methodLink RX10 156 yX10_told ∈ q_W0 := q_W0_mem (List.mem_of_getElem? (i := 1418) (by decide +kernel)) (by decide +kernel)
theorem kX2_3 : Cond.methodLink RX2 3 Lib.objectInit ∈ q_W0 := q_W0_mem (List.mem_of_getElem? (i := 184) (by decide +kernel)) (by decide +kernel)
theorem kX2_26 : Cond.methodLink RX2 26 arraycopyName ∈ q_W0 := q_W0_mem (List.mem_of_getElem? (i := 420) (by decide +kernel)) (by decide +kernel)
theorem kX3_3 : Cond.methodLink RX3 3 Lib.objectInit ∈ q_W0 := q_W0_mem (List.mem_of_getElem? (i := 138) (by decide +kernel)) (by decide +kernel)
theorem kX3_28 : Cond.methodLink RX3 28 arraycopyName ∈ q_W0 := q_W0_mem (List.mem_of_getElem? (i := 415) (by decide +kernel)) (by decide +kernel)
theorem kX4_3 : Cond.methodLink RX4 3 Lib.objectInit ∈ q_W0 := q_W0_mem (List.mem_of_getElem? (i := 131) (by decide +kernel)) (by decide +kernel)
theorem wX3_init : q_cw yX3_init cX3_init mX3_init 0 := ⟨q_W0_mem (List.mem_of_getElem? (i := 137) (by decide +kernel)) (by decide +kernel), q_W0_mem (List.mem_of_getElem? (i := 48) (by decide +kernel)) (by decide +kernel), by decide +kernel, by decide +kernel, by decide +kernel⟩
theorem iX3_init : Cond.instanceMethod yX3_init ∈ q_W0 := q_W0_mem (List.mem_of_getElem? (i := 136) (by decide +kernel)) (by decide +kernel)
theorem knX4_24 : Cond.methodLinkNest RX4 24 yX3_init "TrainingDiary" ∈ q_nw := by decide +kernel
theorem wX3_copyFrom : q_cw yX3_copyFrom cX3_copyFrom mX3_copyFrom 1 := ⟨q_W0_mem (List.mem_of_getElem? (i := 414) (by decide +kernel)) (by decide +kernel), q_W0_mem (List.mem_of_getElem? (i := 48) (by decide +kernel)) (by decide +kernel), by decide +kernel, by decide +kernel, by decide +kernel⟩
theorem iX3_copyFrom : Cond.instanceMethod yX3_copyFrom ∈ q_W0 := q_W0_mem (List.mem_of_getElem? (i := 412) (by decide +kernel)) (by decide +kernel)
theorem eX3_copyFrom : Cond.selects yX3_copyFrom.cls yX3_copyFrom yX3_copyFrom ∈ q_W0 := q_W0_mem (List.mem_of_getElem? (i := 413) (by decide +kernel)) (by decide +kernel)
theorem kX4_25 : Cond.methodLink RX4 25 yX3_copyFrom ∈ q_W0 := q_W0_mem (List.mem_of_getElem? (i := 411) (by decide +kernel)) (by decide +kernel)
theorem wX3_length : q_cw yX3_length cX3_length mX3_length 0 := ⟨q_W0_mem (List.mem_of_getElem? (i := 708) (by decide +kernel)) (by decide +kernel), q_W0_mem (List.mem_of_getElem? (i := 48) (by decide +kernel)) (by decide +kernel), by decide +kernel, by decide +kernel, by decide +kernel⟩
theorem iX3_length : Cond.instanceMethod yX3_length ∈ q_W0 := q_W0_mem (List.mem_of_getElem? (i := 706) (by decide +kernel)) (by decide +kernel)
theorem eX3_length : Cond.selects yX3_length.cls yX3_length yX3_length ∈ q_W0 := q_W0_mem (List.mem_of_getElem? (i := 707) (by decide +kernel)) (by decide +kernel)
theorem kX4_35 : Cond.methodLink RX4 35 yX3_length ∈ q_W0 := q_W0_mem (List.mem_of_getElem? (i := 950) (by decide +kernel)) (by decide +kernel)
theorem wX4_settle : q_cw yX4_settle cX4_settle mX4_settle 1 := ⟨q_W0_mem (List.mem_of_getElem? (i := 680) (by decide +kernel)) (by decide +kernel), q_W0_mem (List.mem_of_getElem? (i := 47) (by decide +kernel)) (by decide +kernel), by decide +kernel, by decide +kernel, by decide +kernel⟩
theorem iX4_settle : Cond.instanceMethod yX4_settle ∈ q_W0 := q_W0_mem (List.mem_of_getElem? (i := 679) (by decide +kernel)) (by decide +kernel)
theorem eX4_settle : Cond.selects yX4_settle.cls yX4_settle yX4_settle ∈ q_W0 := q_W0_mem (List.mem_of_getElem? (i := 5) (by decide +kernel)) (by decide +kernel)
theorem kX4_42 : Cond.methodLink RX4 42 yX4_settle ∈ q_W0 := q_W0_mem (List.mem_of_getElem? (i := 677) (by decide +kernel)) (by decide +kernel)
theorem wX3_comesBefore : q_cw yX3_comesBefore cX3_comesBefore mX3_comesBefore 1 := ⟨q_W0_mem (List.mem_of_getElem? (i := 684) (by decide +kernel)) (by decide +kernel), q_W0_mem (List.mem_of_getElem? (i := 48) (by decide +kernel)) (by decide +kernel), by decide +kernel, by decide +kernel, by decide +kernel⟩
theorem iX3_comesBefore : Cond.instanceMethod yX3_comesBefore ∈ q_W0 := q_W0_mem (List.mem_of_getElem? (i := 682) (by decide +kernel)) (by decide +kernel)
theorem eX3_comesBefore : Cond.selects yX3_comesBefore.cls yX3_comesBefore yX3_comesBefore ∈ q_W0 := q_W0_mem (List.mem_of_getElem? (i := 683) (by decide +kernel)) (by decide +kernel)
theorem kX4_46 : Cond.methodLink RX4 46 yX3_comesBefore ∈ q_W0 := q_W0_mem (List.mem_of_getElem? (i := 681) (by decide +kernel)) (by decide +kernel)
theorem kX5_1 : Cond.methodLink RX5 1 Lib.objectInit ∈ q_W0 := q_W0_mem (List.mem_of_getElem? (i := 79) (by decide +kernel)) (by decide +kernel)
theorem wX6_init : q_cw yX6_init cX6_init mX6_init 0 := ⟨q_W0_mem (List.mem_of_getElem? (i := 84) (by decide +kernel)) (by decide +kernel), q_W0_mem (List.mem_of_getElem? (i := 45) (by decide +kernel)) (by decide +kernel), by decide +kernel, by decide +kernel, by decide +kernel⟩
theorem iX6_init : Cond.instanceMethod yX6_init ∈ q_W0 := q_W0_mem (List.mem_of_getElem? (i := 83) (by decide +kernel)) (by decide +kernel)
theorem knX5_15 : Cond.methodLinkNest RX5 15 yX6_init "TrainingDiary" ∈ q_nw := by decide +kernel
theorem wX8_init : q_cw yX8_init cX8_init mX8_init 0 := ⟨q_W0_mem (List.mem_of_getElem? (i := 103) (by decide +kernel)) (by decide +kernel), q_W0_mem (List.mem_of_getElem? (i := 46) (by decide +kernel)) (by decide +kernel), by decide +kernel, by decide +kernel, by decide +kernel⟩
theorem iX8_init : Cond.instanceMethod yX8_init ∈ q_W0 := q_W0_mem (List.mem_of_getElem? (i := 102) (by decide +kernel)) (by decide +kernel)
theorem knX5_22 : Cond.methodLinkNest RX5 22 yX8_init "TrainingDiary" ∈ q_nw := by decide +kernel
theorem wX4_init : q_cw yX4_init cX4_init mX4_init 0 := ⟨q_W0_mem (List.mem_of_getElem? (i := 130) (by decide +kernel)) (by decide +kernel), q_W0_mem (List.mem_of_getElem? (i := 47) (by decide +kernel)) (by decide +kernel), by decide +kernel, by decide +kernel, by decide +kernel⟩
theorem iX4_init : Cond.instanceMethod yX4_init ∈ q_W0 := q_W0_mem (List.mem_of_getElem? (i := 129) (by decide +kernel)) (by decide +kernel)
theorem kX5_29 : Cond.methodLink RX5 29 yX4_init ∈ q_W0 := q_W0_mem (List.mem_of_getElem? (i := 128) (by decide +kernel)) (by decide +kernel)
theorem wX2_init : q_cw yX2_init cX2_init mX2_init 0 := ⟨q_W0_mem (List.mem_of_getElem? (i := 183) (by decide +kernel)) (by decide +kernel), q_W0_mem (List.mem_of_getElem? (i := 49) (by decide +kernel)) (by decide +kernel), by decide +kernel, by decide +kernel, by decide +kernel⟩
theorem iX2_init : Cond.instanceMethod yX2_init ∈ q_W0 := q_W0_mem (List.mem_of_getElem? (i := 182) (by decide +kernel)) (by decide +kernel)
theorem knX5_36 : Cond.methodLinkNest RX5 36 yX2_init "TrainingDiary" ∈ q_nw := by decide +kernel
theorem wX6_copyFrom : q_cw yX6_copyFrom cX6_copyFrom mX6_copyFrom 1 := ⟨q_W0_mem (List.mem_of_getElem? (i := 398) (by decide +kernel)) (by decide +kernel), q_W0_mem (List.mem_of_getElem? (i := 45) (by decide +kernel)) (by decide +kernel), by decide +kernel, by decide +kernel, by decide +kernel⟩
theorem iX6_copyFrom : Cond.instanceMethod yX6_copyFrom ∈ q_W0 := q_W0_mem (List.mem_of_getElem? (i := 396) (by decide +kernel)) (by decide +kernel)
theorem eX6_copyFrom : Cond.selects yX6_copyFrom.cls yX6_copyFrom yX6_copyFrom ∈ q_W0 := q_W0_mem (List.mem_of_getElem? (i := 397) (by decide +kernel)) (by decide +kernel)
theorem kX5_41 : Cond.methodLink RX5 41 yX6_copyFrom ∈ q_W0 := q_W0_mem (List.mem_of_getElem? (i := 395) (by decide +kernel)) (by decide +kernel)
theorem wX8_copyFrom : q_cw yX8_copyFrom cX8_copyFrom mX8_copyFrom 1 := ⟨q_W0_mem (List.mem_of_getElem? (i := 405) (by decide +kernel)) (by decide +kernel), q_W0_mem (List.mem_of_getElem? (i := 46) (by decide +kernel)) (by decide +kernel), by decide +kernel, by decide +kernel, by decide +kernel⟩
theorem iX8_copyFrom : Cond.instanceMethod yX8_copyFrom ∈ q_W0 := q_W0_mem (List.mem_of_getElem? (i := 403) (by decide +kernel)) (by decide +kernel)
theorem eX8_copyFrom : Cond.selects yX8_copyFrom.cls yX8_copyFrom yX8_copyFrom ∈ q_W0 := q_W0_mem (List.mem_of_getElem? (i := 404) (by decide +kernel)) (by decide +kernel)
theorem kX5_45 : Cond.methodLink RX5 45 yX8_copyFrom ∈ q_W0 := q_W0_mem (List.mem_of_getElem? (i := 402) (by decide +kernel)) (by decide +kernel)
theorem wX4_copyFrom : q_cw yX4_copyFrom cX4_copyFrom mX4_copyFrom 1 := ⟨q_W0_mem (List.mem_of_getElem? (i := 410) (by decide +kernel)) (by decide +kernel), q_W0_mem (List.mem_of_getElem? (i := 47) (by decide +kernel)) (by decide +kernel), by decide +kernel, by decide +kernel, by decide +kernel⟩
theorem iX4_copyFrom : Cond.instanceMethod yX4_copyFrom ∈ q_W0 := q_W0_mem (List.mem_of_getElem? (i := 408) (by decide +kernel)) (by decide +kernel)
theorem eX4_copyFrom : Cond.selects yX4_copyFrom.cls yX4_copyFrom yX4_copyFrom ∈ q_W0 := q_W0_mem (List.mem_of_getElem? (i := 409) (by decide +kernel)) (by decide +kernel)
theorem kX5_48 : Cond.methodLink RX5 48 yX4_copyFrom ∈ q_W0 := q_W0_mem (List.mem_of_getElem? (i := 407) (by decide +kernel)) (by decide +kernel)
theorem wX2_copyFrom : q_cw yX2_copyFrom cX2_copyFrom mX2_copyFrom 1 := ⟨q_W0_mem (List.mem_of_getElem? (i := 419) (by decide +kernel)) (by decide +kernel), q_W0_mem (List.mem_of_getElem? (i := 49) (by decide +kernel)) (by decide +kernel), by decide +kernel, by decide +kernel, by decide +kernel⟩
theorem iX2_copyFrom : Cond.instanceMethod yX2_copyFrom ∈ q_W0 := q_W0_mem (List.mem_of_getElem? (i := 417) (by decide +kernel)) (by decide +kernel)
theorem eX2_copyFrom : Cond.selects yX2_copyFrom.cls yX2_copyFrom yX2_copyFrom ∈ q_W0 := q_W0_mem (List.mem_of_getElem? (i := 418) (by decide +kernel)) (by decide +kernel)
theorem kX5_51 : Cond.methodLink RX5 51 yX2_copyFrom ∈ q_W0 := q_W0_mem (List.mem_of_getElem? (i := 416) (by decide +kernel)) (by decide +kernel)
theorem wX6_thresholdInForce : q_cw yX6_thresholdInForce cX6_thresholdInForce mX6_thresholdInForce 1 := ⟨q_W0_mem (List.mem_of_getElem? (i := 352) (by decide +kernel)) (by decide +kernel), q_W0_mem (List.mem_of_getElem? (i := 45) (by decide +kernel)) (by decide +kernel), by decide +kernel, by decide +kernel, by decide +kernel⟩
theorem iX6_thresholdInForce : Cond.instanceMethod yX6_thresholdInForce ∈ q_W0 := q_W0_mem (List.mem_of_getElem? (i := 350) (by decide +kernel)) (by decide +kernel)
theorem eX6_thresholdInForce : Cond.selects yX6_thresholdInForce.cls yX6_thresholdInForce yX6_thresholdInForce ∈ q_W0 := q_W0_mem (List.mem_of_getElem? (i := 351) (by decide +kernel)) (by decide +kernel)
theorem kX5_59 : Cond.methodLink RX5 59 yX6_thresholdInForce ∈ q_W0 := q_W0_mem (List.mem_of_getElem? (i := 349) (by decide +kernel)) (by decide +kernel)
theorem wX8_zoneFor : q_cw yX8_zoneFor cX8_zoneFor mX8_zoneFor 2 := ⟨q_W0_mem (List.mem_of_getElem? (i := 356) (by decide +kernel)) (by decide +kernel), q_W0_mem (List.mem_of_getElem? (i := 46) (by decide +kernel)) (by decide +kernel), by decide +kernel, by decide +kernel, by decide +kernel⟩
theorem iX8_zoneFor : Cond.instanceMethod yX8_zoneFor ∈ q_W0 := q_W0_mem (List.mem_of_getElem? (i := 354) (by decide +kernel)) (by decide +kernel)
theorem eX8_zoneFor : Cond.selects yX8_zoneFor.cls yX8_zoneFor yX8_zoneFor ∈ q_W0 := q_W0_mem (List.mem_of_getElem? (i := 355) (by decide +kernel)) (by decide +kernel)
theorem kX5_70 : Cond.methodLink RX5 70 yX8_zoneFor ∈ q_W0 := q_W0_mem (List.mem_of_getElem? (i := 353) (by decide +kernel)) (by decide +kernel)
theorem wX5_sessionLoad : q_cw yX5_sessionLoad cX5_sessionLoad mX5_sessionLoad 1 := ⟨q_W0_mem (List.mem_of_getElem? (i := 348) (by decide +kernel)) (by decide +kernel), q_W0_mem (List.mem_of_getElem? (i := 44) (by decide +kernel)) (by decide +kernel), by decide +kernel, by decide +kernel, by decide +kernel⟩
theorem iX5_sessionLoad : Cond.instanceMethod yX5_sessionLoad ∈ q_W0 := q_W0_mem (List.mem_of_getElem? (i := 346) (by decide +kernel)) (by decide +kernel)
theorem eX5_sessionLoad : Cond.selects yX5_sessionLoad.cls yX5_sessionLoad yX5_sessionLoad ∈ q_W0 := q_W0_mem (List.mem_of_getElem? (i := 347) (by decide +kernel)) (by decide +kernel)
theorem kX5_87 : Cond.methodLink RX5 87 yX5_sessionLoad ∈ q_W0 := q_W0_mem (List.mem_of_getElem? (i := 345) (by decide +kernel)) (by decide +kernel)
theorem wX9_clear : q_cw yX9_clear cX9_clear mX9_clear 1 := ⟨q_W0_mem (List.mem_of_getElem? (i := 344) (by decide +kernel)) (by decide +kernel), q_W0_mem (List.mem_of_getElem? (i := 43) (by decide +kernel)) (by decide +kernel), by decide +kernel, by decide +kernel, by decide +kernel⟩
theorem sX9_clear : Cond.static yX9_clear ∈ q_W0 := q_W0_mem (List.mem_of_getElem? (i := 343) (by decide +kernel)) (by decide +kernel)
theorem knX5_91 : Cond.methodLinkNest RX5 91 yX9_clear "TrainingDiary" ∈ q_nw := by decide +kernel
theorem kX6_3 : Cond.methodLink RX6 3 Lib.objectInit ∈ q_W0 := q_W0_mem (List.mem_of_getElem? (i := 85) (by decide +kernel)) (by decide +kernel)
theorem kX6_22 : Cond.methodLink RX6 22 arraycopyName ∈ q_W0 := q_W0_mem (List.mem_of_getElem? (i := 399) (by decide +kernel)) (by decide +kernel)
theorem kX7_3 : Cond.methodLink RX7 3 Lib.objectInit ∈ q_W0 := q_W0_mem (List.mem_of_getElem? (i := 251) (by decide +kernel)) (by decide +kernel)
theorem kX7_22 : Cond.methodLink RX7 22 Lib.Math.min.name ∈ q_W0 := q_W0_mem (List.mem_of_getElem? (i := 580) (by decide +kernel)) (by decide +kernel)
theorem kX8_3 : Cond.methodLink RX8 3 Lib.objectInit ∈ q_W0 := q_W0_mem (List.mem_of_getElem? (i := 104) (by decide +kernel)) (by decide +kernel)
theorem kX8_29 : Cond.methodLink RX8 29 arraycopyName ∈ q_W0 := q_W0_mem (List.mem_of_getElem? (i := 406) (by decide +kernel)) (by decide +kernel)
theorem kX9_3 : Cond.methodLink RX9 3 Lib.objectInit ∈ q_W0 := q_W0_mem (List.mem_of_getElem? (i := 71) (by decide +kernel)) (by decide +kernel)
theorem knX9_11 : Cond.methodLinkNest RX9 11 yX5_init "TrainingDiary" ∈ q_nw := by decide +kernel
theorem wX1_init : q_cw yX1_init cX1_init mX1_init 0 := ⟨q_W0_mem (List.mem_of_getElem? (i := 230) (by decide +kernel)) (by decide +kernel), q_W0_mem (List.mem_of_getElem? (i := 50) (by decide +kernel)) (by decide +kernel), by decide +kernel, by decide +kernel, by decide +kernel⟩
theorem iX1_init : Cond.instanceMethod yX1_init ∈ q_W0 := q_W0_mem (List.mem_of_getElem? (i := 229) (by decide +kernel)) (by decide +kernel)
theorem kX9_18 : Cond.methodLink RX9 18 yX1_init ∈ q_W0 := q_W0_mem (List.mem_of_getElem? (i := 228) (by decide +kernel)) (by decide +kernel)
theorem wX7_init : q_cw yX7_init cX7_init mX7_init 0 := ⟨q_W0_mem (List.mem_of_getElem? (i := 250) (by decide +kernel)) (by decide +kernel), q_W0_mem (List.mem_of_getElem? (i := 51) (by decide +kernel)) (by decide +kernel), by decide +kernel, by decide +kernel, by decide +kernel⟩
theorem iX7_init : Cond.instanceMethod yX7_init ∈ q_W0 := q_W0_mem (List.mem_of_getElem? (i := 249) (by decide +kernel)) (by decide +kernel)
theorem knX9_40 : Cond.methodLinkNest RX9 40 yX7_init "TrainingDiary" ∈ q_nw := by decide +kernel
theorem wX0_init : q_cw yX0_init cX0_init mX0_init 0 := ⟨q_W0_mem (List.mem_of_getElem? (i := 270) (by decide +kernel)) (by decide +kernel), q_W0_mem (List.mem_of_getElem? (i := 52) (by decide +kernel)) (by decide +kernel), by decide +kernel, by decide +kernel, by decide +kernel⟩
theorem iX0_init : Cond.instanceMethod yX0_init ∈ q_W0 := q_W0_mem (List.mem_of_getElem? (i := 269) (by decide +kernel)) (by decide +kernel)
theorem knX9_47 : Cond.methodLinkNest RX9 47 yX0_init "TrainingDiary" ∈ q_nw := by decide +kernel
theorem wX9_requireRange : q_cw yX9_requireRange cX9_requireRange mX9_requireRange 3 := ⟨q_W0_mem (List.mem_of_getElem? (i := 464) (by decide +kernel)) (by decide +kernel), q_W0_mem (List.mem_of_getElem? (i := 43) (by decide +kernel)) (by decide +kernel), by decide +kernel, by decide +kernel, by decide +kernel⟩
theorem sX9_requireRange : Cond.static yX9_requireRange ∈ q_W0 := q_W0_mem (List.mem_of_getElem? (i := 463) (by decide +kernel)) (by decide +kernel)
theorem kX9_65 : Cond.methodLink RX9 65 yX9_requireRange ∈ q_W0 := q_W0_mem (List.mem_of_getElem? (i := 462) (by decide +kernel)) (by decide +kernel)
theorem wX1_keep : q_cw yX1_keep cX1_keep mX1_keep 1 := ⟨q_W0_mem (List.mem_of_getElem? (i := 390) (by decide +kernel)) (by decide +kernel), q_W0_mem (List.mem_of_getElem? (i := 50) (by decide +kernel)) (by decide +kernel), by decide +kernel, by decide +kernel, by decide +kernel⟩
theorem iX1_keep : Cond.instanceMethod yX1_keep ∈ q_W0 := q_W0_mem (List.mem_of_getElem? (i := 388) (by decide +kernel)) (by decide +kernel)
theorem eX1_keep : Cond.selects yX1_keep.cls yX1_keep yX1_keep ∈ q_W0 := q_W0_mem (List.mem_of_getElem? (i := 389) (by decide +kernel)) (by decide +kernel)
theorem kX9_79 : Cond.methodLink RX9 79 yX1_keep ∈ q_W0 := q_W0_mem (List.mem_of_getElem? (i := 387) (by decide +kernel)) (by decide +kernel)
theorem wX9_requireDayUpToToday : q_cw yX9_requireDayUpToToday cX9_requireDayUpToToday mX9_requireDayUpToToday 1 := ⟨q_W0_mem (List.mem_of_getElem? (i := 562) (by decide +kernel)) (by decide +kernel), q_W0_mem (List.mem_of_getElem? (i := 43) (by decide +kernel)) (by decide +kernel), by decide +kernel, by decide +kernel, by decide +kernel⟩
theorem iX9_requireDayUpToToday : Cond.instanceMethod yX9_requireDayUpToToday ∈ q_W0 := q_W0_mem (List.mem_of_getElem? (i := 561) (by decide +kernel)) (by decide +kernel)
theorem eX9_requireDayUpToToday : Cond.selects yX9_requireDayUpToToday.cls yX9_requireDayUpToToday yX9_requireDayUpToToday ∈ q_W0 := q_W0_mem (List.mem_of_getElem? (i := 4) (by decide +kernel)) (by decide +kernel)
theorem kX9_83 : Cond.methodLink RX9 83 yX9_requireDayUpToToday ∈ q_W0 := q_W0_mem (List.mem_of_getElem? (i := 559) (by decide +kernel)) (by decide +kernel)
theorem wX6_positionOn : q_cw yX6_positionOn cX6_positionOn mX6_positionOn 1 := ⟨q_W0_mem (List.mem_of_getElem? (i := 566) (by decide +kernel)) (by decide +kernel), q_W0_mem (List.mem_of_getElem? (i := 45) (by decide +kernel)) (by decide +kernel), by decide +kernel, by decide +kernel, by decide +kernel⟩
theorem iX6_positionOn : Cond.instanceMethod yX6_positionOn ∈ q_W0 := q_W0_mem (List.mem_of_getElem? (i := 564) (by decide +kernel)) (by decide +kernel)
theorem eX6_positionOn : Cond.selects yX6_positionOn.cls yX6_positionOn yX6_positionOn ∈ q_W0 := q_W0_mem (List.mem_of_getElem? (i := 565) (by decide +kernel)) (by decide +kernel)
theorem kX9_96 : Cond.methodLink RX9 96 yX6_positionOn ∈ q_W0 := q_W0_mem (List.mem_of_getElem? (i := 563) (by decide +kernel)) (by decide +kernel)
theorem wX5_fillSessionLoads : q_cw yX5_fillSessionLoads cX5_fillSessionLoads mX5_fillSessionLoads 1 := ⟨q_W0_mem (List.mem_of_getElem? (i := 571) (by decide +kernel)) (by decide +kernel), q_W0_mem (List.mem_of_getElem? (i := 44) (by decide +kernel)) (by decide +kernel), by decide +kernel, by decide +kernel, by decide +kernel⟩
theorem iX5_fillSessionLoads : Cond.instanceMethod yX5_fillSessionLoads ∈ q_W0 := q_W0_mem (List.mem_of_getElem? (i := 569) (by decide +kernel)) (by decide +kernel)
theorem eX5_fillSessionLoads : Cond.selects yX5_fillSessionLoads.cls yX5_fillSessionLoads yX5_fillSessionLoads ∈ q_W0 := q_W0_mem (List.mem_of_getElem? (i := 570) (by decide +kernel)) (by decide +kernel)
theorem kX9_102 : Cond.methodLink RX9 102 yX5_fillSessionLoads ∈ q_W0 := q_W0_mem (List.mem_of_getElem? (i := 568) (by decide +kernel)) (by decide +kernel)
theorem wX6_append : q_cw yX6_append cX6_append mX6_append 2 := ⟨q_W0_mem (List.mem_of_getElem? (i := 575) (by decide +kernel)) (by decide +kernel), q_W0_mem (List.mem_of_getElem? (i := 45) (by decide +kernel)) (by decide +kernel), by decide +kernel, by decide +kernel, by decide +kernel⟩
theorem iX6_append : Cond.instanceMethod yX6_append ∈ q_W0 := q_W0_mem (List.mem_of_getElem? (i := 573) (by decide +kernel)) (by decide +kernel)
theorem eX6_append : Cond.selects yX6_append.cls yX6_append yX6_append ∈ q_W0 := q_W0_mem (List.mem_of_getElem? (i := 574) (by decide +kernel)) (by decide +kernel)
theorem kX9_106 : Cond.methodLink RX9 106 yX6_append ∈ q_W0 := q_W0_mem (List.mem_of_getElem? (i := 572) (by decide +kernel)) (by decide +kernel)
theorem wX7_forgetFrom : q_cw yX7_forgetFrom cX7_forgetFrom mX7_forgetFrom 1 := ⟨q_W0_mem (List.mem_of_getElem? (i := 579) (by decide +kernel)) (by decide +kernel), q_W0_mem (List.mem_of_getElem? (i := 51) (by decide +kernel)) (by decide +kernel), by decide +kernel, by decide +kernel, by decide +kernel⟩
theorem iX7_forgetFrom : Cond.instanceMethod yX7_forgetFrom ∈ q_W0 := q_W0_mem (List.mem_of_getElem? (i := 577) (by decide +kernel)) (by decide +kernel)
theorem eX7_forgetFrom : Cond.selects yX7_forgetFrom.cls yX7_forgetFrom yX7_forgetFrom ∈ q_W0 := q_W0_mem (List.mem_of_getElem? (i := 578) (by decide +kernel)) (by decide +kernel)
theorem kX9_110 : Cond.methodLink RX9 110 yX7_forgetFrom ∈ q_W0 := q_W0_mem (List.mem_of_getElem? (i := 576) (by decide +kernel)) (by decide +kernel)
theorem wX5_countChangedLoads : q_cw yX5_countChangedLoads cX5_countChangedLoads mX5_countChangedLoads 1 := ⟨q_W0_mem (List.mem_of_getElem? (i := 584) (by decide +kernel)) (by decide +kernel), q_W0_mem (List.mem_of_getElem? (i := 44) (by decide +kernel)) (by decide +kernel), by decide +kernel, by decide +kernel, by decide +kernel⟩
theorem iX5_countChangedLoads : Cond.instanceMethod yX5_countChangedLoads ∈ q_W0 := q_W0_mem (List.mem_of_getElem? (i := 582) (by decide +kernel)) (by decide +kernel)
theorem eX5_countChangedLoads : Cond.selects yX5_countChangedLoads.cls yX5_countChangedLoads yX5_countChangedLoads ∈ q_W0 := q_W0_mem (List.mem_of_getElem? (i := 583) (by decide +kernel)) (by decide +kernel)
theorem kX9_113 : Cond.methodLink RX9 113 yX5_countChangedLoads ∈ q_W0 := q_W0_mem (List.mem_of_getElem? (i := 581) (by decide +kernel)) (by decide +kernel)
theorem wX6_removeAt : q_cw yX6_removeAt cX6_removeAt mX6_removeAt 1 := ⟨q_W0_mem (List.mem_of_getElem? (i := 612) (by decide +kernel)) (by decide +kernel), q_W0_mem (List.mem_of_getElem? (i := 45) (by decide +kernel)) (by decide +kernel), by decide +kernel, by decide +kernel, by decide +kernel⟩
theorem iX6_removeAt : Cond.instanceMethod yX6_removeAt ∈ q_W0 := q_W0_mem (List.mem_of_getElem? (i := 610) (by decide +kernel)) (by decide +kernel)
theorem eX6_removeAt : Cond.selects yX6_removeAt.cls yX6_removeAt yX6_removeAt ∈ q_W0 := q_W0_mem (List.mem_of_getElem? (i := 611) (by decide +kernel)) (by decide +kernel)
theorem kX9_125 : Cond.methodLink RX9 125 yX6_removeAt ∈ q_W0 := q_W0_mem (List.mem_of_getElem? (i := 609) (by decide +kernel)) (by decide +kernel)
theorem kX9_128 : Cond.methodLink RX9 128 yX6_thresholdInForce ∈ q_W0 := q_W0_mem (List.mem_of_getElem? (i := 620) (by decide +kernel)) (by decide +kernel)
theorem wX8_boundsWouldIncrease : q_cw yX8_boundsWouldIncrease cX8_boundsWouldIncrease mX8_boundsWouldIncrease 2 := ⟨q_W0_mem (List.mem_of_getElem? (i := 631) (by decide +kernel)) (by decide +kernel), q_W0_mem (List.mem_of_getElem? (i := 46) (by decide +kernel)) (by decide +kernel), by decide +kernel, by decide +kernel, by decide +kernel⟩
theorem iX8_boundsWouldIncrease : Cond.instanceMethod yX8_boundsWouldIncrease ∈ q_W0 := q_W0_mem (List.mem_of_getElem? (i := 629) (by decide +kernel)) (by decide +kernel)
theorem eX8_boundsWouldIncrease : Cond.selects yX8_boundsWouldIncrease.cls yX8_boundsWouldIncrease yX8_boundsWouldIncrease ∈ q_W0 := q_W0_mem (List.mem_of_getElem? (i := 630) (by decide +kernel)) (by decide +kernel)
theorem kX9_135 : Cond.methodLink RX9 135 yX8_boundsWouldIncrease ∈ q_W0 := q_W0_mem (List.mem_of_getElem? (i := 628) (by decide +kernel)) (by decide +kernel)
theorem wX9_requireZone : q_cw yX9_requireZone cX9_requireZone mX9_requireZone 1 := ⟨q_W0_mem (List.mem_of_getElem? (i := 649) (by decide +kernel)) (by decide +kernel), q_W0_mem (List.mem_of_getElem? (i := 43) (by decide +kernel)) (by decide +kernel), by decide +kernel, by decide +kernel, by decide +kernel⟩
theorem sX9_requireZone : Cond.static yX9_requireZone ∈ q_W0 := q_W0_mem (List.mem_of_getElem? (i := 648) (by decide +kernel)) (by decide +kernel)
theorem kX9_146 : Cond.methodLink RX9 146 yX9_requireZone ∈ q_W0 := q_W0_mem (List.mem_of_getElem? (i := 647) (by decide +kernel)) (by decide +kernel)
theorem kX9_152 : Cond.methodLink RX9 152 yX8_zoneFor ∈ q_W0 := q_W0_mem (List.mem_of_getElem? (i := 664) (by decide +kernel)) (by decide +kernel)
theorem wX4_add : q_cw yX4_add cX4_add mX4_add 1 := ⟨q_W0_mem (List.mem_of_getElem? (i := 676) (by decide +kernel)) (by decide +kernel), q_W0_mem (List.mem_of_getElem? (i := 47) (by decide +kernel)) (by decide +kernel), by decide +kernel, by decide +kernel, by decide +kernel⟩
theorem iX4_add : Cond.instanceMethod yX4_add ∈ q_W0 := q_W0_mem (List.mem_of_getElem? (i := 674) (by decide +kernel)) (by decide +kernel)
theorem eX4_add : Cond.selects yX4_add.cls yX4_add yX4_add ∈ q_W0 := q_W0_mem (List.mem_of_getElem? (i := 675) (by decide +kernel)) (by decide +kernel)
theorem kX9_165 : Cond.methodLink RX9 165 yX4_add ∈ q_W0 := q_W0_mem (List.mem_of_getElem? (i := 673) (by decide +kernel)) (by decide +kernel)
theorem wX9_existingSession : q_cw yX9_existingSession cX9_existingSession mX9_existingSession 1 := ⟨q_W0_mem (List.mem_of_getElem? (i := 695) (by decide +kernel)) (by decide +kernel), q_W0_mem (List.mem_of_getElem? (i := 43) (by decide +kernel)) (by decide +kernel), by decide +kernel, by decide +kernel, by decide +kernel⟩
theorem iX9_existingSession : Cond.instanceMethod yX9_existingSession ∈ q_W0 := q_W0_mem (List.mem_of_getElem? (i := 694) (by decide +kernel)) (by decide +kernel)
theorem eX9_existingSession : Cond.selects yX9_existingSession.cls yX9_existingSession yX9_existingSession ∈ q_W0 := q_W0_mem (List.mem_of_getElem? (i := 6) (by decide +kernel)) (by decide +kernel)
theorem kX9_168 : Cond.methodLink RX9 168 yX9_existingSession ∈ q_W0 := q_W0_mem (List.mem_of_getElem? (i := 692) (by decide +kernel)) (by decide +kernel)
theorem kX9_177 : Cond.methodLink RX9 177 yX3_length ∈ q_W0 := q_W0_mem (List.mem_of_getElem? (i := 705) (by decide +kernel)) (by decide +kernel)
theorem wX3_append : q_cw yX3_append cX3_append mX3_append 2 := ⟨q_W0_mem (List.mem_of_getElem? (i := 713) (by decide +kernel)) (by decide +kernel), q_W0_mem (List.mem_of_getElem? (i := 48) (by decide +kernel)) (by decide +kernel), by decide +kernel, by decide +kernel, by decide +kernel⟩
theorem iX3_append : Cond.instanceMethod yX3_append ∈ q_W0 := q_W0_mem (List.mem_of_getElem? (i := 711) (by decide +kernel)) (by decide +kernel)
theorem eX3_append : Cond.selects yX3_append.cls yX3_append yX3_append ∈ q_W0 := q_W0_mem (List.mem_of_getElem? (i := 712) (by decide +kernel)) (by decide +kernel)
theorem kX9_183 : Cond.methodLink RX9 183 yX3_append ∈ q_W0 := q_W0_mem (List.mem_of_getElem? (i := 710) (by decide +kernel)) (by decide +kernel)
theorem wX9_existingPosition : q_cw yX9_existingPosition cX9_existingPosition mX9_existingPosition 1 := ⟨q_W0_mem (List.mem_of_getElem? (i := 699) (by decide +kernel)) (by decide +kernel), q_W0_mem (List.mem_of_getElem? (i := 43) (by decide +kernel)) (by decide +kernel), by decide +kernel, by decide +kernel, by decide +kernel⟩
theorem iX9_existingPosition : Cond.instanceMethod yX9_existingPosition ∈ q_W0 := q_W0_mem (List.mem_of_getElem? (i := 698) (by decide +kernel)) (by decide +kernel)
theorem eX9_existingPosition : Cond.selects yX9_existingPosition.cls yX9_existingPosition yX9_existingPosition ∈ q_W0 := q_W0_mem (List.mem_of_getElem? (i := 7) (by decide +kernel)) (by decide +kernel)
theorem kX9_187 : Cond.methodLink RX9 187 yX9_existingPosition ∈ q_W0 := q_W0_mem (List.mem_of_getElem? (i := 696) (by decide +kernel)) (by decide +kernel)
theorem wX4_moveAt : q_cw yX4_moveAt cX4_moveAt mX4_moveAt 2 := ⟨q_W0_mem (List.mem_of_getElem? (i := 731) (by decide +kernel)) (by decide +kernel), q_W0_mem (List.mem_of_getElem? (i := 47) (by decide +kernel)) (by decide +kernel), by decide +kernel, by decide +kernel, by decide +kernel⟩
theorem iX4_moveAt : Cond.instanceMethod yX4_moveAt ∈ q_W0 := q_W0_mem (List.mem_of_getElem? (i := 729) (by decide +kernel)) (by decide +kernel)
theorem eX4_moveAt : Cond.selects yX4_moveAt.cls yX4_moveAt yX4_moveAt ∈ q_W0 := q_W0_mem (List.mem_of_getElem? (i := 730) (by decide +kernel)) (by decide +kernel)
theorem kX9_190 : Cond.methodLink RX9 190 yX4_moveAt ∈ q_W0 := q_W0_mem (List.mem_of_getElem? (i := 728) (by decide +kernel)) (by decide +kernel)
theorem kX9_193 : Cond.methodLink RX9 193 Lib.Math.min.name ∈ q_W0 := q_W0_mem (List.mem_of_getElem? (i := 732) (by decide +kernel)) (by decide +kernel)
theorem wX4_removeAt : q_cw yX4_removeAt cX4_removeAt mX4_removeAt 1 := ⟨q_W0_mem (List.mem_of_getElem? (i := 743) (by decide +kernel)) (by decide +kernel), q_W0_mem (List.mem_of_getElem? (i := 47) (by decide +kernel)) (by decide +kernel), by decide +kernel, by decide +kernel, by decide +kernel⟩
theorem iX4_removeAt : Cond.instanceMethod yX4_removeAt ∈ q_W0 := q_W0_mem (List.mem_of_getElem? (i := 741) (by decide +kernel)) (by decide +kernel)
theorem eX4_removeAt : Cond.selects yX4_removeAt.cls yX4_removeAt yX4_removeAt ∈ q_W0 := q_W0_mem (List.mem_of_getElem? (i := 742) (by decide +kernel)) (by decide +kernel)
theorem kX9_198 : Cond.methodLink RX9 198 yX4_removeAt ∈ q_W0 := q_W0_mem (List.mem_of_getElem? (i := 740) (by decide +kernel)) (by decide +kernel)
theorem kX9_212 : Cond.methodLink RX9 212 yX9_clear ∈ q_W0 := q_W0_mem (List.mem_of_getElem? (i := 809) (by decide +kernel)) (by decide +kernel)
theorem wX5_addZoneMinutes : q_cw yX5_addZoneMinutes cX5_addZoneMinutes mX5_addZoneMinutes 2 := ⟨q_W0_mem (List.mem_of_getElem? (i := 813) (by decide +kernel)) (by decide +kernel), q_W0_mem (List.mem_of_getElem? (i := 44) (by decide +kernel)) (by decide +kernel), by decide +kernel, by decide +kernel, by decide +kernel⟩
theorem iX5_addZoneMinutes : Cond.instanceMethod yX5_addZoneMinutes ∈ q_W0 := q_W0_mem (List.mem_of_getElem? (i := 811) (by decide +kernel)) (by decide +kernel)
theorem eX5_addZoneMinutes : Cond.selects yX5_addZoneMinutes.cls yX5_addZoneMinutes yX5_addZoneMinutes ∈ q_W0 := q_W0_mem (List.mem_of_getElem? (i := 812) (by decide +kernel)) (by decide +kernel)
theorem kX9_215 : Cond.methodLink RX9 215 yX5_addZoneMinutes ∈ q_W0 := q_W0_mem (List.mem_of_getElem? (i := 810) (by decide +kernel)) (by decide +kernel)
theorem kX9_219 : Cond.methodLink RX9 219 yX5_sessionLoad ∈ q_W0 := q_W0_mem (List.mem_of_getElem? (i := 821) (by decide +kernel)) (by decide +kernel)
theorem wX5_fillDayLoads : q_cw yX5_fillDayLoads cX5_fillDayLoads mX5_fillDayLoads 1 := ⟨q_W0_mem (List.mem_of_getElem? (i := 341) (by decide +kernel)) (by decide +kernel), q_W0_mem (List.mem_of_getElem? (i := 44) (by decide +kernel)) (by decide +kernel), by decide +kernel, by decide +kernel, by decide +kernel⟩
theorem iX5_fillDayLoads : Cond.instanceMethod yX5_fillDayLoads ∈ q_W0 := q_W0_mem (List.mem_of_getElem? (i := 339) (by decide +kernel)) (by decide +kernel)
theorem eX5_fillDayLoads : Cond.selects yX5_fillDayLoads.cls yX5_fillDayLoads yX5_fillDayLoads ∈ q_W0 := q_W0_mem (List.mem_of_getElem? (i := 340) (by decide +kernel)) (by decide +kernel)
theorem kX9_223 : Cond.methodLink RX9 223 yX5_fillDayLoads ∈ q_W0 := q_W0_mem (List.mem_of_getElem? (i := 338) (by decide +kernel)) (by decide +kernel)
theorem wX9_sumOfLoads : q_cw yX9_sumOfLoads cX9_sumOfLoads mX9_sumOfLoads 2 := ⟨q_W0_mem (List.mem_of_getElem? (i := 360) (by decide +kernel)) (by decide +kernel), q_W0_mem (List.mem_of_getElem? (i := 43) (by decide +kernel)) (by decide +kernel), by decide +kernel, by decide +kernel, by decide +kernel⟩
theorem iX9_sumOfLoads : Cond.instanceMethod yX9_sumOfLoads ∈ q_W0 := q_W0_mem (List.mem_of_getElem? (i := 359) (by decide +kernel)) (by decide +kernel)
theorem eX9_sumOfLoads : Cond.selects yX9_sumOfLoads.cls yX9_sumOfLoads yX9_sumOfLoads ∈ q_W0 := q_W0_mem (List.mem_of_getElem? (i := 0) (by decide +kernel)) (by decide +kernel)
theorem kX9_231 : Cond.methodLink RX9 231 yX9_sumOfLoads ∈ q_W0 := q_W0_mem (List.mem_of_getElem? (i := 357) (by decide +kernel)) (by decide +kernel)
theorem wX9_learnTrend : q_cw yX9_learnTrend cX9_learnTrend mX9_learnTrend 1 := ⟨q_W0_mem (List.mem_of_getElem? (i := 368) (by decide +kernel)) (by decide +kernel), q_W0_mem (List.mem_of_getElem? (i := 43) (by decide +kernel)) (by decide +kernel), by decide +kernel, by decide +kernel, by decide +kernel⟩
theorem iX9_learnTrend : Cond.instanceMethod yX9_learnTrend ∈ q_W0 := q_W0_mem (List.mem_of_getElem? (i := 367) (by decide +kernel)) (by decide +kernel)
theorem eX9_learnTrend : Cond.selects yX9_learnTrend.cls yX9_learnTrend yX9_learnTrend ∈ q_W0 := q_W0_mem (List.mem_of_getElem? (i := 1) (by decide +kernel)) (by decide +kernel)
theorem kX9_234 : Cond.methodLink RX9 234 yX9_learnTrend ∈ q_W0 := q_W0_mem (List.mem_of_getElem? (i := 365) (by decide +kernel)) (by decide +kernel)
theorem wX9_nextFitness : q_cw yX9_nextFitness cX9_nextFitness mX9_nextFitness 2 := ⟨q_W0_mem (List.mem_of_getElem? (i := 375) (by decide +kernel)) (by decide +kernel), q_W0_mem (List.mem_of_getElem? (i := 43) (by decide +kernel)) (by decide +kernel), by decide +kernel, by decide +kernel, by decide +kernel⟩
theorem sX9_nextFitness : Cond.static yX9_nextFitness ∈ q_W0 := q_W0_mem (List.mem_of_getElem? (i := 374) (by decide +kernel)) (by decide +kernel)
theorem kX9_240 : Cond.methodLink RX9 240 yX9_nextFitness ∈ q_W0 := q_W0_mem (List.mem_of_getElem? (i := 373) (by decide +kernel)) (by decide +kernel)
theorem wX9_nextFatigue : q_cw yX9_nextFatigue cX9_nextFatigue mX9_nextFatigue 2 := ⟨q_W0_mem (List.mem_of_getElem? (i := 382) (by decide +kernel)) (by decide +kernel), q_W0_mem (List.mem_of_getElem? (i := 43) (by decide +kernel)) (by decide +kernel), by decide +kernel, by decide +kernel, by decide +kernel⟩
theorem sX9_nextFatigue : Cond.static yX9_nextFatigue ∈ q_W0 := q_W0_mem (List.mem_of_getElem? (i := 381) (by decide +kernel)) (by decide +kernel)
theorem kX9_246 : Cond.methodLink RX9 246 yX9_nextFatigue ∈ q_W0 := q_W0_mem (List.mem_of_getElem? (i := 380) (by decide +kernel)) (by decide +kernel)
theorem wX7_fitnessBefore : q_cw yX7_fitnessBefore cX7_fitnessBefore mX7_fitnessBefore 1 := ⟨q_W0_mem (List.mem_of_getElem? (i := 372) (by decide +kernel)) (by decide +kernel), q_W0_mem (List.mem_of_getElem? (i := 51) (by decide +kernel)) (by decide +kernel), by decide +kernel, by decide +kernel, by decide +kernel⟩
theorem iX7_fitnessBefore : Cond.instanceMethod yX7_fitnessBefore ∈ q_W0 := q_W0_mem (List.mem_of_getElem? (i := 370) (by decide +kernel)) (by decide +kernel)
theorem eX7_fitnessBefore : Cond.selects yX7_fitnessBefore.cls yX7_fitnessBefore yX7_fitnessBefore ∈ q_W0 := q_W0_mem (List.mem_of_getElem? (i := 371) (by decide +kernel)) (by decide +kernel)
theorem kX9_249 : Cond.methodLink RX9 249 yX7_fitnessBefore ∈ q_W0 := q_W0_mem (List.mem_of_getElem? (i := 369) (by decide +kernel)) (by decide +kernel)
theorem wX7_fatigueBefore : q_cw yX7_fatigueBefore cX7_fatigueBefore mX7_fatigueBefore 1 := ⟨q_W0_mem (List.mem_of_getElem? (i := 379) (by decide +kernel)) (by decide +kernel), q_W0_mem (List.mem_of_getElem? (i := 51) (by decide +kernel)) (by decide +kernel), by decide +kernel, by decide +kernel, by decide +kernel⟩
theorem iX7_fatigueBefore : Cond.instanceMethod yX7_fatigueBefore ∈ q_W0 := q_W0_mem (List.mem_of_getElem? (i := 377) (by decide +kernel)) (by decide +kernel)
theorem eX7_fatigueBefore : Cond.selects yX7_fatigueBefore.cls yX7_fatigueBefore yX7_fatigueBefore ∈ q_W0 := q_W0_mem (List.mem_of_getElem? (i := 378) (by decide +kernel)) (by decide +kernel)
theorem kX9_252 : Cond.methodLink RX9 252 yX7_fatigueBefore ∈ q_W0 := q_W0_mem (List.mem_of_getElem? (i := 376) (by decide +kernel)) (by decide +kernel)
theorem wX9_requireRowOfDays : q_cw yX9_requireRowOfDays cX9_requireRowOfDays mX9_requireRowOfDays 1 := ⟨q_W0_mem (List.mem_of_getElem? (i := 908) (by decide +kernel)) (by decide +kernel), q_W0_mem (List.mem_of_getElem? (i := 43) (by decide +kernel)) (by decide +kernel), by decide +kernel, by decide +kernel, by decide +kernel⟩
theorem iX9_requireRowOfDays : Cond.instanceMethod yX9_requireRowOfDays ∈ q_W0 := q_W0_mem (List.mem_of_getElem? (i := 907) (by decide +kernel)) (by decide +kernel)
theorem eX9_requireRowOfDays : Cond.selects yX9_requireRowOfDays.cls yX9_requireRowOfDays yX9_requireRowOfDays ∈ q_W0 := q_W0_mem (List.mem_of_getElem? (i := 8) (by decide +kernel)) (by decide +kernel)
theorem kX9_259 : Cond.methodLink RX9 259 yX9_requireRowOfDays ∈ q_W0 := q_W0_mem (List.mem_of_getElem? (i := 905) (by decide +kernel)) (by decide +kernel)
theorem wX9_startOfBestDays : q_cw yX9_startOfBestDays cX9_startOfBestDays mX9_startOfBestDays 1 := ⟨q_W0_mem (List.mem_of_getElem? (i := 913) (by decide +kernel)) (by decide +kernel), q_W0_mem (List.mem_of_getElem? (i := 43) (by decide +kernel)) (by decide +kernel), by decide +kernel, by decide +kernel, by decide +kernel⟩
theorem iX9_startOfBestDays : Cond.instanceMethod yX9_startOfBestDays ∈ q_W0 := q_W0_mem (List.mem_of_getElem? (i := 912) (by decide +kernel)) (by decide +kernel)
theorem eX9_startOfBestDays : Cond.selects yX9_startOfBestDays.cls yX9_startOfBestDays yX9_startOfBestDays ∈ q_W0 := q_W0_mem (List.mem_of_getElem? (i := 9) (by decide +kernel)) (by decide +kernel)
theorem kX9_262 : Cond.methodLink RX9 262 yX9_startOfBestDays ∈ q_W0 := q_W0_mem (List.mem_of_getElem? (i := 910) (by decide +kernel)) (by decide +kernel)
theorem kX9_265 : Cond.methodLink RX9 265 Lib.Math.max.name ∈ q_W0 := q_W0_mem (List.mem_of_getElem? (i := 921) (by decide +kernel)) (by decide +kernel)
theorem wX9_positionOfBestEffort : q_cw yX9_positionOfBestEffort cX9_positionOfBestEffort mX9_positionOfBestEffort 1 := ⟨q_W0_mem (List.mem_of_getElem? (i := 941) (by decide +kernel)) (by decide +kernel), q_W0_mem (List.mem_of_getElem? (i := 43) (by decide +kernel)) (by decide +kernel), by decide +kernel, by decide +kernel, by decide +kernel⟩
theorem iX9_positionOfBestEffort : Cond.instanceMethod yX9_positionOfBestEffort ∈ q_W0 := q_W0_mem (List.mem_of_getElem? (i := 940) (by decide +kernel)) (by decide +kernel)
theorem eX9_positionOfBestEffort : Cond.selects yX9_positionOfBestEffort.cls yX9_positionOfBestEffort yX9_positionOfBestEffort ∈ q_W0 := q_W0_mem (List.mem_of_getElem? (i := 10) (by decide +kernel)) (by decide +kernel)
theorem kX9_268 : Cond.methodLink RX9 268 yX9_positionOfBestEffort ∈ q_W0 := q_W0_mem (List.mem_of_getElem? (i := 938) (by decide +kernel)) (by decide +kernel)
theorem wX9_effortBySums : q_cw yX9_effortBySums cX9_effortBySums mX9_effortBySums 2 := ⟨q_W0_mem (List.mem_of_getElem? (i := 955) (by decide +kernel)) (by decide +kernel), q_W0_mem (List.mem_of_getElem? (i := 43) (by decide +kernel)) (by decide +kernel), by decide +kernel, by decide +kernel, by decide +kernel⟩
theorem iX9_effortBySums : Cond.instanceMethod yX9_effortBySums ∈ q_W0 := q_W0_mem (List.mem_of_getElem? (i := 954) (by decide +kernel)) (by decide +kernel)
theorem eX9_effortBySums : Cond.selects yX9_effortBySums.cls yX9_effortBySums yX9_effortBySums ∈ q_W0 := q_W0_mem (List.mem_of_getElem? (i := 12) (by decide +kernel)) (by decide +kernel)
theorem kX9_271 : Cond.methodLink RX9 271 yX9_effortBySums ∈ q_W0 := q_W0_mem (List.mem_of_getElem? (i := 952) (by decide +kernel)) (by decide +kernel)
theorem wX9_requireRowOfMinutes : q_cw yX9_requireRowOfMinutes cX9_requireRowOfMinutes mX9_requireRowOfMinutes 1 := ⟨q_W0_mem (List.mem_of_getElem? (i := 945) (by decide +kernel)) (by decide +kernel), q_W0_mem (List.mem_of_getElem? (i := 43) (by decide +kernel)) (by decide +kernel), by decide +kernel, by decide +kernel, by decide +kernel⟩
theorem iX9_requireRowOfMinutes : Cond.instanceMethod yX9_requireRowOfMinutes ∈ q_W0 := q_W0_mem (List.mem_of_getElem? (i := 944) (by decide +kernel)) (by decide +kernel)
theorem eX9_requireRowOfMinutes : Cond.selects yX9_requireRowOfMinutes.cls yX9_requireRowOfMinutes yX9_requireRowOfMinutes ∈ q_W0 := q_W0_mem (List.mem_of_getElem? (i := 11) (by decide +kernel)) (by decide +kernel)
theorem kX9_275 : Cond.methodLink RX9 275 yX9_requireRowOfMinutes ∈ q_W0 := q_W0_mem (List.mem_of_getElem? (i := 942) (by decide +kernel)) (by decide +kernel)
theorem wX9_effortByTrying : q_cw yX9_effortByTrying cX9_effortByTrying mX9_effortByTrying 2 := ⟨q_W0_mem (List.mem_of_getElem? (i := 970) (by decide +kernel)) (by decide +kernel), q_W0_mem (List.mem_of_getElem? (i := 43) (by decide +kernel)) (by decide +kernel), by decide +kernel, by decide +kernel, by decide +kernel⟩
theorem iX9_effortByTrying : Cond.instanceMethod yX9_effortByTrying ∈ q_W0 := q_W0_mem (List.mem_of_getElem? (i := 969) (by decide +kernel)) (by decide +kernel)
theorem eX9_effortByTrying : Cond.selects yX9_effortByTrying.cls yX9_effortByTrying yX9_effortByTrying ∈ q_W0 := q_W0_mem (List.mem_of_getElem? (i := 13) (by decide +kernel)) (by decide +kernel)
theorem kX9_278 : Cond.methodLink RX9 278 yX9_effortByTrying ∈ q_W0 := q_W0_mem (List.mem_of_getElem? (i := 967) (by decide +kernel)) (by decide +kernel)
theorem wX2_start : q_cw yX2_start cX2_start mX2_start 1 := ⟨q_W0_mem (List.mem_of_getElem? (i := 427) (by decide +kernel)) (by decide +kernel), q_W0_mem (List.mem_of_getElem? (i := 49) (by decide +kernel)) (by decide +kernel), by decide +kernel, by decide +kernel, by decide +kernel⟩
theorem iX2_start : Cond.instanceMethod yX2_start ∈ q_W0 := q_W0_mem (List.mem_of_getElem? (i := 425) (by decide +kernel)) (by decide +kernel)
theorem eX2_start : Cond.selects yX2_start.cls yX2_start yX2_start ∈ q_W0 := q_W0_mem (List.mem_of_getElem? (i := 426) (by decide +kernel)) (by decide +kernel)
theorem kX9_290 : Cond.methodLink RX9 290 yX2_start ∈ q_W0 := q_W0_mem (List.mem_of_getElem? (i := 424) (by decide +kernel)) (by decide +kernel)
theorem wX2_append : q_cw yX2_append cX2_append mX2_append 1 := ⟨q_W0_mem (List.mem_of_getElem? (i := 989) (by decide +kernel)) (by decide +kernel), q_W0_mem (List.mem_of_getElem? (i := 49) (by decide +kernel)) (by decide +kernel), by decide +kernel, by decide +kernel, by decide +kernel⟩
theorem iX2_append : Cond.instanceMethod yX2_append ∈ q_W0 := q_W0_mem (List.mem_of_getElem? (i := 987) (by decide +kernel)) (by decide +kernel)
theorem eX2_append : Cond.selects yX2_append.cls yX2_append yX2_append ∈ q_W0 := q_W0_mem (List.mem_of_getElem? (i := 988) (by decide +kernel)) (by decide +kernel)
theorem kX9_301 : Cond.methodLink RX9 301 yX2_append ∈ q_W0 := q_W0_mem (List.mem_of_getElem? (i := 986) (by decide +kernel)) (by decide +kernel)
theorem wX9_existingDueEntry : q_cw yX9_existingDueEntry cX9_existingDueEntry mX9_existingDueEntry 0 := ⟨q_W0_mem (List.mem_of_getElem? (i := 1008) (by decide +kernel)) (by decide +kernel), q_W0_mem (List.mem_of_getElem? (i := 43) (by decide +kernel)) (by decide +kernel), by decide +kernel, by decide +kernel, by decide +kernel⟩
theorem iX9_existingDueEntry : Cond.instanceMethod yX9_existingDueEntry ∈ q_W0 := q_W0_mem (List.mem_of_getElem? (i := 1007) (by decide +kernel)) (by decide +kernel)
theorem eX9_existingDueEntry : Cond.selects yX9_existingDueEntry.cls yX9_existingDueEntry yX9_existingDueEntry ∈ q_W0 := q_W0_mem (List.mem_of_getElem? (i := 14) (by decide +kernel)) (by decide +kernel)
theorem kX9_308 : Cond.methodLink RX9 308 yX9_existingDueEntry ∈ q_W0 := q_W0_mem (List.mem_of_getElem? (i := 1005) (by decide +kernel)) (by decide +kernel)
theorem wX9_followPlan : q_cw yX9_followPlan cX9_followPlan mX9_followPlan 0 := ⟨q_W0_mem (List.mem_of_getElem? (i := 435) (by decide +kernel)) (by decide +kernel), q_W0_mem (List.mem_of_getElem? (i := 43) (by decide +kernel)) (by decide +kernel), by decide +kernel, by decide +kernel, by decide +kernel⟩
theorem iX9_followPlan : Cond.instanceMethod yX9_followPlan ∈ q_W0 := q_W0_mem (List.mem_of_getElem? (i := 434) (by decide +kernel)) (by decide +kernel)
theorem eX9_followPlan : Cond.selects yX9_followPlan.cls yX9_followPlan yX9_followPlan ∈ q_W0 := q_W0_mem (List.mem_of_getElem? (i := 2) (by decide +kernel)) (by decide +kernel)
theorem kX9_311 : Cond.methodLink RX9 311 yX9_followPlan ∈ q_W0 := q_W0_mem (List.mem_of_getElem? (i := 432) (by decide +kernel)) (by decide +kernel)
theorem wX9_signOfDay : q_cw yX9_signOfDay cX9_signOfDay mX9_signOfDay 1 := ⟨q_W0_mem (List.mem_of_getElem? (i := 1027) (by decide +kernel)) (by decide +kernel), q_W0_mem (List.mem_of_getElem? (i := 43) (by decide +kernel)) (by decide +kernel), by decide +kernel, by decide +kernel, by decide +kernel⟩
theorem iX9_signOfDay : Cond.instanceMethod yX9_signOfDay ∈ q_W0 := q_W0_mem (List.mem_of_getElem? (i := 1026) (by decide +kernel)) (by decide +kernel)
theorem eX9_signOfDay : Cond.selects yX9_signOfDay.cls yX9_signOfDay yX9_signOfDay ∈ q_W0 := q_W0_mem (List.mem_of_getElem? (i := 15) (by decide +kernel)) (by decide +kernel)
theorem kX9_323 : Cond.methodLink RX9 323 yX9_signOfDay ∈ q_W0 := q_W0_mem (List.mem_of_getElem? (i := 1024) (by decide +kernel)) (by decide +kernel)
theorem wX1_takeBack : q_cw yX1_takeBack cX1_takeBack mX1_takeBack 1 := ⟨q_W0_mem (List.mem_of_getElem? (i := 1051) (by decide +kernel)) (by decide +kernel), q_W0_mem (List.mem_of_getElem? (i := 50) (by decide +kernel)) (by decide +kernel), by decide +kernel, by decide +kernel, by decide +kernel⟩
theorem iX1_takeBack : Cond.instanceMethod yX1_takeBack ∈ q_W0 := q_W0_mem (List.mem_of_getElem? (i := 1049) (by decide +kernel)) (by decide +kernel)
theorem eX1_takeBack : Cond.selects yX1_takeBack.cls yX1_takeBack yX1_takeBack ∈ q_W0 := q_W0_mem (List.mem_of_getElem? (i := 1050) (by decide +kernel)) (by decide +kernel)
theorem kX9_332 : Cond.methodLink RX9 332 yX1_takeBack ∈ q_W0 := q_W0_mem (List.mem_of_getElem? (i := 1048) (by decide +kernel)) (by decide +kernel)
theorem kX9_335 : Cond.methodLink RX9 335 yX5_copyFrom ∈ q_W0 := q_W0_mem (List.mem_of_getElem? (i := 452) (by decide +kernel)) (by decide +kernel)
theorem wX1_forget : q_cw yX1_forget cX1_forget mX1_forget 0 := ⟨q_W0_mem (List.mem_of_getElem? (i := 1063) (by decide +kernel)) (by decide +kernel), q_W0_mem (List.mem_of_getElem? (i := 50) (by decide +kernel)) (by decide +kernel), by decide +kernel, by decide +kernel, by decide +kernel⟩
theorem iX1_forget : Cond.instanceMethod yX1_forget ∈ q_W0 := q_W0_mem (List.mem_of_getElem? (i := 1061) (by decide +kernel)) (by decide +kernel)
theorem eX1_forget : Cond.selects yX1_forget.cls yX1_forget yX1_forget ∈ q_W0 := q_W0_mem (List.mem_of_getElem? (i := 1062) (by decide +kernel)) (by decide +kernel)
theorem kX9_340 : Cond.methodLink RX9 340 yX1_forget ∈ q_W0 := q_W0_mem (List.mem_of_getElem? (i := 1060) (by decide +kernel)) (by decide +kernel)
theorem wX4_hasLength : q_cw yX4_hasLength cX4_hasLength mX4_hasLength 1 := ⟨q_W0_mem (List.mem_of_getElem? (i := 949) (by decide +kernel)) (by decide +kernel), q_W0_mem (List.mem_of_getElem? (i := 47) (by decide +kernel)) (by decide +kernel), by decide +kernel, by decide +kernel, by decide +kernel⟩
theorem iX4_hasLength : Cond.instanceMethod yX4_hasLength ∈ q_W0 := q_W0_mem (List.mem_of_getElem? (i := 947) (by decide +kernel)) (by decide +kernel)
theorem eX4_hasLength : Cond.selects yX4_hasLength.cls yX4_hasLength yX4_hasLength ∈ q_W0 := q_W0_mem (List.mem_of_getElem? (i := 948) (by decide +kernel)) (by decide +kernel)
theorem kX9_350 : Cond.methodLink RX9 350 yX4_hasLength ∈ q_W0 := q_W0_mem (List.mem_of_getElem? (i := 946) (by decide +kernel)) (by decide +kernel)
theorem wX4_positionWithId : q_cw yX4_positionWithId cX4_positionWithId mX4_positionWithId 1 := ⟨q_W0_mem (List.mem_of_getElem? (i := 703) (by decide +kernel)) (by decide +kernel), q_W0_mem (List.mem_of_getElem? (i := 47) (by decide +kernel)) (by decide +kernel), by decide +kernel, by decide +kernel, by decide +kernel⟩
theorem iX4_positionWithId : Cond.instanceMethod yX4_positionWithId ∈ q_W0 := q_W0_mem (List.mem_of_getElem? (i := 701) (by decide +kernel)) (by decide +kernel)
theorem eX4_positionWithId : Cond.selects yX4_positionWithId.cls yX4_positionWithId yX4_positionWithId ∈ q_W0 := q_W0_mem (List.mem_of_getElem? (i := 702) (by decide +kernel)) (by decide +kernel)
theorem kX9_356 : Cond.methodLink RX9 356 yX4_positionWithId ∈ q_W0 := q_W0_mem (List.mem_of_getElem? (i := 700) (by decide +kernel)) (by decide +kernel)
theorem wX3_fillMinutes : q_cw yX3_fillMinutes cX3_fillMinutes mX3_fillMinutes 1 := ⟨q_W0_mem (List.mem_of_getElem? (i := 959) (by decide +kernel)) (by decide +kernel), q_W0_mem (List.mem_of_getElem? (i := 48) (by decide +kernel)) (by decide +kernel), by decide +kernel, by decide +kernel, by decide +kernel⟩
theorem iX3_fillMinutes : Cond.instanceMethod yX3_fillMinutes ∈ q_W0 := q_W0_mem (List.mem_of_getElem? (i := 957) (by decide +kernel)) (by decide +kernel)
theorem eX3_fillMinutes : Cond.selects yX3_fillMinutes.cls yX3_fillMinutes yX3_fillMinutes ∈ q_W0 := q_W0_mem (List.mem_of_getElem? (i := 958) (by decide +kernel)) (by decide +kernel)
theorem kX9_364 : Cond.methodLink RX9 364 yX3_fillMinutes ∈ q_W0 := q_W0_mem (List.mem_of_getElem? (i := 956) (by decide +kernel)) (by decide +kernel)
theorem wX0_follow : q_cw yX0_follow cX0_follow mX0_follow 3 := ⟨q_W0_mem (List.mem_of_getElem? (i := 439) (by decide +kernel)) (by decide +kernel), q_W0_mem (List.mem_of_getElem? (i := 52) (by decide +kernel)) (by decide +kernel), by decide +kernel, by decide +kernel, by decide +kernel⟩
theorem iX0_follow : Cond.instanceMethod yX0_follow ∈ q_W0 := q_W0_mem (List.mem_of_getElem? (i := 437) (by decide +kernel)) (by decide +kernel)
theorem eX0_follow : Cond.selects yX0_follow.cls yX0_follow yX0_follow ∈ q_W0 := q_W0_mem (List.mem_of_getElem? (i := 438) (by decide +kernel)) (by decide +kernel)
theorem kX9_367 : Cond.methodLink RX9 367 yX0_follow ∈ q_W0 := q_W0_mem (List.mem_of_getElem? (i := 436) (by decide +kernel)) (by decide +kernel)
theorem wX4_anyOn : q_cw yX4_anyOn cX4_anyOn mX4_anyOn 1 := ⟨q_W0_mem (List.mem_of_getElem? (i := 1031) (by decide +kernel)) (by decide +kernel), q_W0_mem (List.mem_of_getElem? (i := 47) (by decide +kernel)) (by decide +kernel), by decide +kernel, by decide +kernel, by decide +kernel⟩
theorem iX4_anyOn : Cond.instanceMethod yX4_anyOn ∈ q_W0 := q_W0_mem (List.mem_of_getElem? (i := 1029) (by decide +kernel)) (by decide +kernel)
theorem eX4_anyOn : Cond.selects yX4_anyOn.cls yX4_anyOn yX4_anyOn ∈ q_W0 := q_W0_mem (List.mem_of_getElem? (i := 1030) (by decide +kernel)) (by decide +kernel)
theorem kX9_373 : Cond.methodLink RX9 373 yX4_anyOn ∈ q_W0 := q_W0_mem (List.mem_of_getElem? (i := 1028) (by decide +kernel)) (by decide +kernel)
theorem kcX10_111 : Cond.constant RX10 111 (-100000) ∈ q_W0 := q_W0_mem (List.mem_of_getElem? (i := 1321) (by decide +kernel)) (by decide +kernel)
theorem kcX10_112 : Cond.constant RX10 112 (100000) ∈ q_W0 := q_W0_mem (List.mem_of_getElem? (i := 1322) (by decide +kernel)) (by decide +kernel)
theorem kcX9_255 : Cond.constant RX9 255 (-100000) ∈ q_W0 := q_W0_mem (List.mem_of_getElem? (i := 895) (by decide +kernel)) (by decide +kernel)
theorem kcX9_256 : Cond.constant RX9 256 (100000) ∈ q_W0 := q_W0_mem (List.mem_of_getElem? (i := 896) (by decide +kernel)) (by decide +kernel)
theorem kfX0_9 : Cond.fieldLink RX0 9 (TX0 0).1 (TX0 0).2.1 (TX0 0).2.2.1 ∈ q_W0 := q_W0_mem (List.mem_of_getElem? (i := 272) (by decide +kernel)) (by decide +kernel)
theorem kfX0_15 : Cond.fieldLink RX0 15 (TX0 1).1 (TX0 1).2.1 (TX0 1).2.2.1 ∈ q_W0 := q_W0_mem (List.mem_of_getElem? (i := 274) (by decide +kernel)) (by decide +kernel)
theorem kfX0_18 : Cond.fieldLink RX0 18 (TX0 2).1 (TX0 2).2.1 (TX0 2).2.2.1 ∈ q_W0 := q_W0_mem (List.mem_of_getElem? (i := 276) (by decide +kernel)) (by decide +kernel)
theorem kfX0_21 : Cond.fieldLink RX0 21 (TX2 1).1 (TX2 1).2.1 (TX2 1).2.2.1 ∈ q_W0 := q_W0_mem (List.mem_of_getElem? (i := 188) (by decide +kernel)) (by decide +kernel)
theorem kfX0_26 : Cond.fieldLink RX0 26 (TX2 2).1 (TX2 2).2.1 (TX2 2).2.2.1 ∈ q_W0 := q_W0_mem (List.mem_of_getElem? (i := 191) (by decide +kernel)) (by decide +kernel)
theorem kfX0_29 : Cond.fieldLink RX0 29 (TX2 3).1 (TX2 3).2.1 (TX2 3).2.2.1 ∈ q_W0 := q_W0_mem (List.mem_of_getElem? (i := 194) (by decide +kernel)) (by decide +kernel)
theorem kfX1_11 : Cond.fieldLink RX1 11 (TX1 0).1 (TX1 0).2.1 (TX1 0).2.2.1 ∈ q_W0 := q_W0_mem (List.mem_of_getElem? (i := 235) (by decide +kernel)) (by decide +kernel)
theorem kfX1_17 : Cond.fieldLink RX1 17 (TX1 1).1 (TX1 1).2.1 (TX1 1).2.2.1 ∈ q_W0 := q_W0_mem (List.mem_of_getElem? (i := 236) (by decide +kernel)) (by decide +kernel)
theorem kfX1_21 : Cond.fieldLink RX1 21 (TX1 2).1 (TX1 2).2.1 (TX1 2).2.2.1 ∈ q_W0 := q_W0_mem (List.mem_of_getElem? (i := 237) (by decide +kernel)) (by decide +kernel)
theorem kfX10_9 : Cond.fieldLink RX10 9 (TX10 0).1 (TX10 0).2.1 (TX10 0).2.2.1 ∈ q_W0 := q_W0_mem (List.mem_of_getElem? (i := 1072) (by decide +kernel)) (by decide +kernel)
theorem kfX10_15 : Cond.fieldLink RX10 15 (TX10 1).1 (TX10 1).2.1 (TX10 1).2.2.1 ∈ q_W0 := q_W0_mem (List.mem_of_getElem? (i := 1073) (by decide +kernel)) (by decide +kernel)
theorem kfX10_18 : Cond.fieldLink RX10 18 (TX10 2).1 (TX10 2).2.1 (TX10 2).2.2.1 ∈ q_W0 := q_W0_mem (List.mem_of_getElem? (i := 1074) (by decide +kernel)) (by decide +kernel)
theorem kfX10_21 : Cond.fieldLink RX10 21 (TX10 3).1 (TX10 3).2.1 (TX10 3).2.2.1 ∈ q_W0 := q_W0_mem (List.mem_of_getElem? (i := 1075) (by decide +kernel)) (by decide +kernel)
theorem kfX10_24 : Cond.fieldLink RX10 24 (TX10 4).1 (TX10 4).2.1 (TX10 4).2.2.1 ∈ q_W0 := q_W0_mem (List.mem_of_getElem? (i := 1076) (by decide +kernel)) (by decide +kernel)
theorem kfX10_27 : Cond.fieldLink RX10 27 (TX10 5).1 (TX10 5).2.1 (TX10 5).2.2.1 ∈ q_W0 := q_W0_mem (List.mem_of_getElem? (i := 1077) (by decide +kernel)) (by decide +kernel)
theorem kfX10_31 : Cond.fieldLink RX10 31 (TX10 12).1 (TX10 12).2.1 (TX10 12).2.2.1 ∈ q_W0 := q_W0_mem (List.mem_of_getElem? (i := 1084) (by decide +kernel)) (by decide +kernel)
theorem kfX10_35 : Cond.fieldLink RX10 35 (TX10 7).1 (TX10 7).2.1 (TX10 7).2.2.1 ∈ q_W0 := q_W0_mem (List.mem_of_getElem? (i := 1079) (by decide +kernel)) (by decide +kernel)
theorem kfX10_38 : Cond.fieldLink RX10 38 (TX10 6).1 (TX10 6).2.1 (TX10 6).2.2.1 ∈ q_W0 := q_W0_mem (List.mem_of_getElem? (i := 1078) (by decide +kernel)) (by decide +kernel)
theorem kfX10_143 : Cond.fieldLink RX10 143 (TX10 9).1 (TX10 9).2.1 (TX10 9).2.2.1 ∈ q_W0 := q_W0_mem (List.mem_of_getElem? (i := 1081) (by decide +kernel)) (by decide +kernel)
theorem kfX10_146 : Cond.fieldLink RX10 146 (TX10 10).1 (TX10 10).2.1 (TX10 10).2.2.1 ∈ q_W0 := q_W0_mem (List.mem_of_getElem? (i := 1082) (by decide +kernel)) (by decide +kernel)
theorem kfX10_149 : Cond.fieldLink RX10 149 (TX10 11).1 (TX10 11).2.1 (TX10 11).2.2.1 ∈ q_W0 := q_W0_mem (List.mem_of_getElem? (i := 1083) (by decide +kernel)) (by decide +kernel)
theorem kfX10_160 : Cond.fieldLink RX10 160 (TX10 8).1 (TX10 8).2.1 (TX10 8).2.2.1 ∈ q_W0 := q_W0_mem (List.mem_of_getElem? (i := 1080) (by decide +kernel)) (by decide +kernel)
theorem kfX10_163 : Cond.fieldLink RX10 163 (TX10 13).1 (TX10 13).2.1 (TX10 13).2.2.1 ∈ q_W0 := q_W0_mem (List.mem_of_getElem? (i := 1085) (by decide +kernel)) (by decide +kernel)
theorem kfX2_9 : Cond.fieldLink RX2 9 (TX2 0).1 (TX2 0).2.1 (TX2 0).2.2.1 ∈ q_W0 := q_W0_mem (List.mem_of_getElem? (i := 185) (by decide +kernel)) (by decide +kernel)
theorem kfX2_15 : Cond.fieldLink RX2 15 (TX2 1).1 (TX2 1).2.1 (TX2 1).2.2.1 ∈ q_W0 := q_W0_mem (List.mem_of_getElem? (i := 187) (by decide +kernel)) (by decide +kernel)
theorem kfX2_19 : Cond.fieldLink RX2 19 (TX2 2).1 (TX2 2).2.1 (TX2 2).2.2.1 ∈ q_W0 := q_W0_mem (List.mem_of_getElem? (i := 190) (by decide +kernel)) (by decide +kernel)
theorem kfX2_22 : Cond.fieldLink RX2 22 (TX2 3).1 (TX2 3).2.1 (TX2 3).2.2.1 ∈ q_W0 := q_W0_mem (List.mem_of_getElem? (i := 193) (by decide +kernel)) (by decide +kernel)
theorem kfX3_9 : Cond.fieldLink RX3 9 (TX3 0).1 (TX3 0).2.1 (TX3 0).2.2.1 ∈ q_W0 := q_W0_mem (List.mem_of_getElem? (i := 139) (by decide +kernel)) (by decide +kernel)
theorem kfX3_15 : Cond.fieldLink RX3 15 (TX3 1).1 (TX3 1).2.1 (TX3 1).2.2.1 ∈ q_W0 := q_W0_mem (List.mem_of_getElem? (i := 142) (by decide +kernel)) (by decide +kernel)
theorem kfX3_18 : Cond.fieldLink RX3 18 (TX3 2).1 (TX3 2).2.1 (TX3 2).2.2.1 ∈ q_W0 := q_W0_mem (List.mem_of_getElem? (i := 146) (by decide +kernel)) (by decide +kernel)
theorem kfX3_21 : Cond.fieldLink RX3 21 (TX3 3).1 (TX3 3).2.1 (TX3 3).2.2.1 ∈ q_W0 := q_W0_mem (List.mem_of_getElem? (i := 150) (by decide +kernel)) (by decide +kernel)
theorem kfX3_25 : Cond.fieldLink RX3 25 (TX3 4).1 (TX3 4).2.1 (TX3 4).2.2.1 ∈ q_W0 := q_W0_mem (List.mem_of_getElem? (i := 152) (by decide +kernel)) (by decide +kernel)
theorem kfX4_11 : Cond.fieldLink RX4 11 (TX4 0).1 (TX4 0).2.1 (TX4 0).2.2.1 ∈ q_W0 := q_W0_mem (List.mem_of_getElem? (i := 165) (by decide +kernel)) (by decide +kernel)
theorem kfX4_17 : Cond.fieldLink RX4 17 (TX4 1).1 (TX4 1).2.1 (TX4 1).2.2.1 ∈ q_W0 := q_W0_mem (List.mem_of_getElem? (i := 168) (by decide +kernel)) (by decide +kernel)
theorem kfX4_21 : Cond.fieldLink RX4 21 (TX4 2).1 (TX4 2).2.1 (TX4 2).2.2.1 ∈ q_W0 := q_W0_mem (List.mem_of_getElem? (i := 171) (by decide +kernel)) (by decide +kernel)
theorem kfX4_29 : Cond.fieldLink RX4 29 (TX3 0).1 (TX3 0).2.1 (TX3 0).2.2.1 ∈ q_W0 := q_W0_mem (List.mem_of_getElem? (i := 140) (by decide +kernel)) (by decide +kernel)
theorem kfX4_32 : Cond.fieldLink RX4 32 (TX3 1).1 (TX3 1).2.1 (TX3 1).2.2.1 ∈ q_W0 := q_W0_mem (List.mem_of_getElem? (i := 144) (by decide +kernel)) (by decide +kernel)
theorem kfX4_39 : Cond.fieldLink RX4 39 (TX3 2).1 (TX3 2).2.1 (TX3 2).2.2.1 ∈ q_W0 := q_W0_mem (List.mem_of_getElem? (i := 148) (by decide +kernel)) (by decide +kernel)
theorem kfX5_7 : Cond.fieldLink RX5 7 (TX5 0).1 (TX5 0).2.1 (TX5 0).2.2.1 ∈ q_W0 := q_W0_mem (List.mem_of_getElem? (i := 205) (by decide +kernel)) (by decide +kernel)
theorem kfX5_16 : Cond.fieldLink RX5 16 (TX5 1).1 (TX5 1).2.1 (TX5 1).2.2.1 ∈ q_W0 := q_W0_mem (List.mem_of_getElem? (i := 207) (by decide +kernel)) (by decide +kernel)
theorem kfX5_23 : Cond.fieldLink RX5 23 (TX5 2).1 (TX5 2).2.1 (TX5 2).2.2.1 ∈ q_W0 := q_W0_mem (List.mem_of_getElem? (i := 209) (by decide +kernel)) (by decide +kernel)
theorem kfX5_30 : Cond.fieldLink RX5 30 (TX5 3).1 (TX5 3).2.1 (TX5 3).2.2.1 ∈ q_W0 := q_W0_mem (List.mem_of_getElem? (i := 211) (by decide +kernel)) (by decide +kernel)
theorem kfX5_37 : Cond.fieldLink RX5 37 (TX5 4).1 (TX5 4).2.1 (TX5 4).2.2.1 ∈ q_W0 := q_W0_mem (List.mem_of_getElem? (i := 213) (by decide +kernel)) (by decide +kernel)
theorem kfX5_54 : Cond.fieldLink RX5 54 (TX3 1).1 (TX3 1).2.1 (TX3 1).2.2.1 ∈ q_W0 := q_W0_mem (List.mem_of_getElem? (i := 143) (by decide +kernel)) (by decide +kernel)
theorem kfX5_63 : Cond.fieldLink RX5 63 (TX3 2).1 (TX3 2).2.1 (TX3 2).2.2.1 ∈ q_W0 := q_W0_mem (List.mem_of_getElem? (i := 147) (by decide +kernel)) (by decide +kernel)
theorem kfX5_66 : Cond.fieldLink RX5 66 (TX3 4).1 (TX3 4).2.1 (TX3 4).2.2.1 ∈ q_W0 := q_W0_mem (List.mem_of_getElem? (i := 153) (by decide +kernel)) (by decide +kernel)
theorem kfX5_74 : Cond.fieldLink RX5 74 (TX3 3).1 (TX3 3).2.1 (TX3 3).2.2.1 ∈ q_W0 := q_W0_mem (List.mem_of_getElem? (i := 151) (by decide +kernel)) (by decide +kernel)
theorem kfX5_77 : Cond.fieldLink RX5 77 (TX8 1).1 (TX8 1).2.1 (TX8 1).2.2.1 ∈ q_W0 := q_W0_mem (List.mem_of_getElem? (i := 119) (by decide +kernel)) (by decide +kernel)
theorem kfX5_80 : Cond.fieldLink RX5 80 (TX4 1).1 (TX4 1).2.1 (TX4 1).2.2.1 ∈ q_W0 := q_W0_mem (List.mem_of_getElem? (i := 169) (by decide +kernel)) (by decide +kernel)
theorem kfX5_83 : Cond.fieldLink RX5 83 (TX4 0).1 (TX4 0).2.1 (TX4 0).2.2.1 ∈ q_W0 := q_W0_mem (List.mem_of_getElem? (i := 166) (by decide +kernel)) (by decide +kernel)
theorem kfX6_9 : Cond.fieldLink RX6 9 (TX6 0).1 (TX6 0).2.1 (TX6 0).2.2.1 ∈ q_W0 := q_W0_mem (List.mem_of_getElem? (i := 86) (by decide +kernel)) (by decide +kernel)
theorem kfX6_15 : Cond.fieldLink RX6 15 (TX6 1).1 (TX6 1).2.1 (TX6 1).2.2.1 ∈ q_W0 := q_W0_mem (List.mem_of_getElem? (i := 87) (by decide +kernel)) (by decide +kernel)
theorem kfX6_18 : Cond.fieldLink RX6 18 (TX6 2).1 (TX6 2).2.1 (TX6 2).2.2.1 ∈ q_W0 := q_W0_mem (List.mem_of_getElem? (i := 89) (by decide +kernel)) (by decide +kernel)
theorem kfX7_9 : Cond.fieldLink RX7 9 (TX7 0).1 (TX7 0).2.1 (TX7 0).2.2.1 ∈ q_W0 := q_W0_mem (List.mem_of_getElem? (i := 252) (by decide +kernel)) (by decide +kernel)
theorem kfX7_15 : Cond.fieldLink RX7 15 (TX7 1).1 (TX7 1).2.1 (TX7 1).2.2.1 ∈ q_W0 := q_W0_mem (List.mem_of_getElem? (i := 254) (by decide +kernel)) (by decide +kernel)
theorem kfX7_18 : Cond.fieldLink RX7 18 (TX7 2).1 (TX7 2).2.1 (TX7 2).2.2.1 ∈ q_W0 := q_W0_mem (List.mem_of_getElem? (i := 256) (by decide +kernel)) (by decide +kernel)
theorem kfX8_18 : Cond.fieldLink RX8 18 (TX8 0).1 (TX8 0).2.1 (TX8 0).2.2.1 ∈ q_W0 := q_W0_mem (List.mem_of_getElem? (i := 116) (by decide +kernel)) (by decide +kernel)
theorem kfX8_26 : Cond.fieldLink RX8 26 (TX8 1).1 (TX8 1).2.1 (TX8 1).2.2.1 ∈ q_W0 := q_W0_mem (List.mem_of_getElem? (i := 118) (by decide +kernel)) (by decide +kernel)
theorem kfX9_12 : Cond.fieldLink RX9 12 (TX9 0).1 (TX9 0).2.1 (TX9 0).2.2.1 ∈ q_W0 := q_W0_mem (List.mem_of_getElem? (i := 285) (by decide +kernel)) (by decide +kernel)
theorem kfX9_19 : Cond.fieldLink RX9 19 (TX9 1).1 (TX9 1).2.1 (TX9 1).2.2.1 ∈ q_W0 := q_W0_mem (List.mem_of_getElem? (i := 286) (by decide +kernel)) (by decide +kernel)
theorem kfX9_23 : Cond.fieldLink RX9 23 (TX9 2).1 (TX9 2).2.1 (TX9 2).2.2.1 ∈ q_W0 := q_W0_mem (List.mem_of_getElem? (i := 287) (by decide +kernel)) (by decide +kernel)
theorem kfX9_26 : Cond.fieldLink RX9 26 (TX9 3).1 (TX9 3).2.1 (TX9 3).2.2.1 ∈ q_W0 := q_W0_mem (List.mem_of_getElem? (i := 288) (by decide +kernel)) (by decide +kernel)
theorem kfX9_30 : Cond.fieldLink RX9 30 (TX9 4).1 (TX9 4).2.1 (TX9 4).2.2.1 ∈ q_W0 := q_W0_mem (List.mem_of_getElem? (i := 289) (by decide +kernel)) (by decide +kernel)
theorem kfX9_34 : Cond.fieldLink RX9 34 (TX9 5).1 (TX9 5).2.1 (TX9 5).2.2.1 ∈ q_W0 := q_W0_mem (List.mem_of_getElem? (i := 290) (by decide +kernel)) (by decide +kernel)
theorem kfX9_41 : Cond.fieldLink RX9 41 (TX9 6).1 (TX9 6).2.1 (TX9 6).2.2.1 ∈ q_W0 := q_W0_mem (List.mem_of_getElem? (i := 291) (by decide +kernel)) (by decide +kernel)
theorem kfX9_48 : Cond.fieldLink RX9 48 (TX9 7).1 (TX9 7).2.1 (TX9 7).2.2.1 ∈ q_W0 := q_W0_mem (List.mem_of_getElem? (i := 292) (by decide +kernel)) (by decide +kernel)
theorem kfX9_52 : Cond.fieldLink RX9 52 (TX9 8).1 (TX9 8).2.1 (TX9 8).2.2.1 ∈ q_W0 := q_W0_mem (List.mem_of_getElem? (i := 293) (by decide +kernel)) (by decide +kernel)
theorem kfX9_56 : Cond.fieldLink RX9 56 (TX9 9).1 (TX9 9).2.1 (TX9 9).2.2.1 ∈ q_W0 := q_W0_mem (List.mem_of_getElem? (i := 294) (by decide +kernel)) (by decide +kernel)
theorem kfX9_59 : Cond.fieldLink RX9 59 (TX9 10).1 (TX9 10).2.1 (TX9 10).2.2.1 ∈ q_W0 := q_W0_mem (List.mem_of_getElem? (i := 295) (by decide +kernel)) (by decide +kernel)
theorem kfX9_62 : Cond.fieldLink RX9 62 (TX9 11).1 (TX9 11).2.1 (TX9 11).2.2.1 ∈ q_W0 := q_W0_mem (List.mem_of_getElem? (i := 296) (by decide +kernel)) (by decide +kernel)
theorem kfX9_69 : Cond.fieldLink RX9 69 (TX5 0).1 (TX5 0).2.1 (TX5 0).2.2.1 ∈ q_W0 := q_W0_mem (List.mem_of_getElem? (i := 206) (by decide +kernel)) (by decide +kernel)
theorem kfX9_87 : Cond.fieldLink RX9 87 (TX5 1).1 (TX5 1).2.1 (TX5 1).2.2.1 ∈ q_W0 := q_W0_mem (List.mem_of_getElem? (i := 208) (by decide +kernel)) (by decide +kernel)
theorem kfX9_91 : Cond.fieldLink RX9 91 (TX6 2).1 (TX6 2).2.1 (TX6 2).2.2.1 ∈ q_W0 := q_W0_mem (List.mem_of_getElem? (i := 90) (by decide +kernel)) (by decide +kernel)
theorem kfX9_122 : Cond.fieldLink RX9 122 (TX6 1).1 (TX6 1).2.1 (TX6 1).2.2.1 ∈ q_W0 := q_W0_mem (List.mem_of_getElem? (i := 88) (by decide +kernel)) (by decide +kernel)
theorem kfX9_131 : Cond.fieldLink RX9 131 (TX5 2).1 (TX5 2).2.1 (TX5 2).2.2.1 ∈ q_W0 := q_W0_mem (List.mem_of_getElem? (i := 210) (by decide +kernel)) (by decide +kernel)
theorem kfX9_143 : Cond.fieldLink RX9 143 (TX8 0).1 (TX8 0).2.1 (TX8 0).2.2.1 ∈ q_W0 := q_W0_mem (List.mem_of_getElem? (i := 117) (by decide +kernel)) (by decide +kernel)
theorem kfX9_149 : Cond.fieldLink RX9 149 (TX8 1).1 (TX8 1).2.1 (TX8 1).2.2.1 ∈ q_W0 := q_W0_mem (List.mem_of_getElem? (i := 120) (by decide +kernel)) (by decide +kernel)
theorem kfX9_156 : Cond.fieldLink RX9 156 (TX5 3).1 (TX5 3).2.1 (TX5 3).2.2.1 ∈ q_W0 := q_W0_mem (List.mem_of_getElem? (i := 212) (by decide +kernel)) (by decide +kernel)
theorem kfX9_160 : Cond.fieldLink RX9 160 (TX4 1).1 (TX4 1).2.1 (TX4 1).2.2.1 ∈ q_W0 := q_W0_mem (List.mem_of_getElem? (i := 170) (by decide +kernel)) (by decide +kernel)
theorem kfX9_172 : Cond.fieldLink RX9 172 (TX3 2).1 (TX3 2).2.1 (TX3 2).2.2.1 ∈ q_W0 := q_W0_mem (List.mem_of_getElem? (i := 149) (by decide +kernel)) (by decide +kernel)
theorem kfX9_184 : Cond.fieldLink RX9 184 (TX3 1).1 (TX3 1).2.1 (TX3 1).2.2.1 ∈ q_W0 := q_W0_mem (List.mem_of_getElem? (i := 145) (by decide +kernel)) (by decide +kernel)
theorem kfX9_205 : Cond.fieldLink RX9 205 (TX4 0).1 (TX4 0).2.1 (TX4 0).2.2.1 ∈ q_W0 := q_W0_mem (List.mem_of_getElem? (i := 167) (by decide +kernel)) (by decide +kernel)
theorem kfX9_209 : Cond.fieldLink RX9 209 (TX3 0).1 (TX3 0).2.1 (TX3 0).2.2.1 ∈ q_W0 := q_W0_mem (List.mem_of_getElem? (i := 141) (by decide +kernel)) (by decide +kernel)
theorem kfX9_237 : Cond.fieldLink RX9 237 (TX7 0).1 (TX7 0).2.1 (TX7 0).2.2.1 ∈ q_W0 := q_W0_mem (List.mem_of_getElem? (i := 253) (by decide +kernel)) (by decide +kernel)
theorem kfX9_243 : Cond.fieldLink RX9 243 (TX7 1).1 (TX7 1).2.1 (TX7 1).2.2.1 ∈ q_W0 := q_W0_mem (List.mem_of_getElem? (i := 255) (by decide +kernel)) (by decide +kernel)
theorem kfX9_281 : Cond.fieldLink RX9 281 (TX5 4).1 (TX5 4).2.1 (TX5 4).2.2.1 ∈ q_W0 := q_W0_mem (List.mem_of_getElem? (i := 214) (by decide +kernel)) (by decide +kernel)
theorem kfX9_285 : Cond.fieldLink RX9 285 (TX2 2).1 (TX2 2).2.1 (TX2 2).2.2.1 ∈ q_W0 := q_W0_mem (List.mem_of_getElem? (i := 192) (by decide +kernel)) (by decide +kernel)
theorem kfX9_293 : Cond.fieldLink RX9 293 (TX2 0).1 (TX2 0).2.1 (TX2 0).2.2.1 ∈ q_W0 := q_W0_mem (List.mem_of_getElem? (i := 186) (by decide +kernel)) (by decide +kernel)
theorem kfX9_296 : Cond.fieldLink RX9 296 (TX2 1).1 (TX2 1).2.1 (TX2 1).2.2.1 ∈ q_W0 := q_W0_mem (List.mem_of_getElem? (i := 189) (by decide +kernel)) (by decide +kernel)
theorem kfX9_305 : Cond.fieldLink RX9 305 (TX2 3).1 (TX2 3).2.1 (TX2 3).2.2.1 ∈ q_W0 := q_W0_mem (List.mem_of_getElem? (i := 195) (by decide +kernel)) (by decide +kernel)
theorem kfX9_314 : Cond.fieldLink RX9 314 (TX0 1).1 (TX0 1).2.1 (TX0 1).2.2.1 ∈ q_W0 := q_W0_mem (List.mem_of_getElem? (i := 275) (by decide +kernel)) (by decide +kernel)
theorem kfX9_317 : Cond.fieldLink RX9 317 (TX0 2).1 (TX0 2).2.1 (TX0 2).2.2.1 ∈ q_W0 := q_W0_mem (List.mem_of_getElem? (i := 277) (by decide +kernel)) (by decide +kernel)
theorem kfX9_320 : Cond.fieldLink RX9 320 (TX0 0).1 (TX0 0).2.1 (TX0 0).2.2.1 ∈ q_W0 := q_W0_mem (List.mem_of_getElem? (i := 273) (by decide +kernel)) (by decide +kernel)
theorem kfX9_329 : Cond.fieldLink RX9 329 (TX1 2).1 (TX1 2).2.1 (TX1 2).2.2.1 ∈ q_W0 := q_W0_mem (List.mem_of_getElem? (i := 238) (by decide +kernel)) (by decide +kernel)
theorem kfX9_361 : Cond.fieldLink RX9 361 (TX7 2).1 (TX7 2).2.1 (TX7 2).2.2.1 ∈ q_W0 := q_W0_mem (List.mem_of_getElem? (i := 257) (by decide +kernel)) (by decide +kernel)
