theorem wX9_pass : q_cw yX9_pass cX9_pass mX9_pass 1 := ⟨q_W0_mem (List.mem_of_getElem? (i := 357) (by decide +kernel)) (by decide +kernel), q_W0_mem (List.mem_of_getElem? (i := 9) (by decide +kernel)) (by decide +kernel), by decide +kernel, by decide +kernel, by decide +kernel⟩
theorem iX9_pass : Cond.instanceMethod yX9_pass ∈ q_W0 := q_W0_mem (List.mem_of_getElem? (i := 355) (by decide +kernel)) (by decide +kernel)
theorem eX9_pass : Cond.selects yX9_pass.cls yX9_pass yX9_pass ∈ q_W0 := q_W0_mem (List.mem_of_getElem? (i := 356) (by decide +kernel)) (by decide +kernel)
theorem kL_9 : Cond.methodLink RL 9 yX9_pass ∈ q_W0 := q_W0_mem (List.mem_of_getElem? (i := 354) (by decide +kernel)) (by decide +kernel)
theorem wX9_addTest : q_cw yX9_addTest cX9_addTest mX9_addTest 2 := ⟨q_W0_mem (List.mem_of_getElem? (i := 464) (by decide +kernel)) (by decide +kernel), q_W0_mem (List.mem_of_getElem? (i := 9) (by decide +kernel)) (by decide +kernel), by decide +kernel, by decide +kernel, by decide +kernel⟩
theorem iX9_addTest : Cond.instanceMethod yX9_addTest ∈ q_W0 := q_W0_mem (List.mem_of_getElem? (i := 462) (by decide +kernel)) (by decide +kernel)
theorem eX9_addTest : Cond.selects yX9_addTest.cls yX9_addTest yX9_addTest ∈ q_W0 := q_W0_mem (List.mem_of_getElem? (i := 463) (by decide +kernel)) (by decide +kernel)
theorem kL_21 : Cond.methodLink RL 21 yX9_addTest ∈ q_W0 := q_W0_mem (List.mem_of_getElem? (i := 461) (by decide +kernel)) (by decide +kernel)
theorem wX9_removeTest : q_cw yX9_removeTest cX9_removeTest mX9_removeTest 1 := ⟨q_W0_mem (List.mem_of_getElem? (i := 498) (by decide +kernel)) (by decide +kernel), q_W0_mem (List.mem_of_getElem? (i := 9) (by decide +kernel)) (by decide +kernel), by decide +kernel, by decide +kernel, by decide +kernel⟩
theorem iX9_removeTest : Cond.instanceMethod yX9_removeTest ∈ q_W0 := q_W0_mem (List.mem_of_getElem? (i := 496) (by decide +kernel)) (by decide +kernel)
theorem eX9_removeTest : Cond.selects yX9_removeTest.cls yX9_removeTest yX9_removeTest ∈ q_W0 := q_W0_mem (List.mem_of_getElem? (i := 497) (by decide +kernel)) (by decide +kernel)
theorem kL_25 : Cond.methodLink RL 25 yX9_removeTest ∈ q_W0 := q_W0_mem (List.mem_of_getElem? (i := 495) (by decide +kernel)) (by decide +kernel)
theorem wX9_thresholdOn : q_cw yX9_thresholdOn cX9_thresholdOn mX9_thresholdOn 1 := ⟨q_W0_mem (List.mem_of_getElem? (i := 525) (by decide +kernel)) (by decide +kernel), q_W0_mem (List.mem_of_getElem? (i := 9) (by decide +kernel)) (by decide +kernel), by decide +kernel, by decide +kernel, by decide +kernel⟩
theorem iX9_thresholdOn : Cond.instanceMethod yX9_thresholdOn ∈ q_W0 := q_W0_mem (List.mem_of_getElem? (i := 523) (by decide +kernel)) (by decide +kernel)
theorem eX9_thresholdOn : Cond.selects yX9_thresholdOn.cls yX9_thresholdOn yX9_thresholdOn ∈ q_W0 := q_W0_mem (List.mem_of_getElem? (i := 524) (by decide +kernel)) (by decide +kernel)
theorem kL_30 : Cond.methodLink RL 30 yX9_thresholdOn ∈ q_W0 := q_W0_mem (List.mem_of_getElem? (i := 522) (by decide +kernel)) (by decide +kernel)
theorem wX9_setBound : q_cw yX9_setBound cX9_setBound mX9_setBound 2 := ⟨q_W0_mem (List.mem_of_getElem? (i := 533) (by decide +kernel)) (by decide +kernel), q_W0_mem (List.mem_of_getElem? (i := 9) (by decide +kernel)) (by decide +kernel), by decide +kernel, by decide +kernel, by decide +kernel⟩
theorem iX9_setBound : Cond.instanceMethod yX9_setBound ∈ q_W0 := q_W0_mem (List.mem_of_getElem? (i := 531) (by decide +kernel)) (by decide +kernel)
theorem eX9_setBound : Cond.selects yX9_setBound.cls yX9_setBound yX9_setBound ∈ q_W0 := q_W0_mem (List.mem_of_getElem? (i := 532) (by decide +kernel)) (by decide +kernel)
theorem kL_33 : Cond.methodLink RL 33 yX9_setBound ∈ q_W0 := q_W0_mem (List.mem_of_getElem? (i := 530) (by decide +kernel)) (by decide +kernel)
theorem wX9_boundOf : q_cw yX9_boundOf cX9_boundOf mX9_boundOf 1 := ⟨q_W0_mem (List.mem_of_getElem? (i := 545) (by decide +kernel)) (by decide +kernel), q_W0_mem (List.mem_of_getElem? (i := 9) (by decide +kernel)) (by decide +kernel), by decide +kernel, by decide +kernel, by decide +kernel⟩
theorem iX9_boundOf : Cond.instanceMethod yX9_boundOf ∈ q_W0 := q_W0_mem (List.mem_of_getElem? (i := 543) (by decide +kernel)) (by decide +kernel)
theorem eX9_boundOf : Cond.selects yX9_boundOf.cls yX9_boundOf yX9_boundOf ∈ q_W0 := q_W0_mem (List.mem_of_getElem? (i := 544) (by decide +kernel)) (by decide +kernel)
theorem kL_36 : Cond.methodLink RL 36 yX9_boundOf ∈ q_W0 := q_W0_mem (List.mem_of_getElem? (i := 542) (by decide +kernel)) (by decide +kernel)
theorem wX9_setWeight : q_cw yX9_setWeight cX9_setWeight mX9_setWeight 2 := ⟨q_W0_mem (List.mem_of_getElem? (i := 552) (by decide +kernel)) (by decide +kernel), q_W0_mem (List.mem_of_getElem? (i := 9) (by decide +kernel)) (by decide +kernel), by decide +kernel, by decide +kernel, by decide +kernel⟩
theorem iX9_setWeight : Cond.instanceMethod yX9_setWeight ∈ q_W0 := q_W0_mem (List.mem_of_getElem? (i := 550) (by decide +kernel)) (by decide +kernel)
theorem eX9_setWeight : Cond.selects yX9_setWeight.cls yX9_setWeight yX9_setWeight ∈ q_W0 := q_W0_mem (List.mem_of_getElem? (i := 551) (by decide +kernel)) (by decide +kernel)
theorem kL_39 : Cond.methodLink RL 39 yX9_setWeight ∈ q_W0 := q_W0_mem (List.mem_of_getElem? (i := 549) (by decide +kernel)) (by decide +kernel)
theorem wX9_weightOf : q_cw yX9_weightOf cX9_weightOf mX9_weightOf 1 := ⟨q_W0_mem (List.mem_of_getElem? (i := 562) (by decide +kernel)) (by decide +kernel), q_W0_mem (List.mem_of_getElem? (i := 9) (by decide +kernel)) (by decide +kernel), by decide +kernel, by decide +kernel, by decide +kernel⟩
theorem iX9_weightOf : Cond.instanceMethod yX9_weightOf ∈ q_W0 := q_W0_mem (List.mem_of_getElem? (i := 560) (by decide +kernel)) (by decide +kernel)
theorem eX9_weightOf : Cond.selects yX9_weightOf.cls yX9_weightOf yX9_weightOf ∈ q_W0 := q_W0_mem (List.mem_of_getElem? (i := 561) (by decide +kernel)) (by decide +kernel)
theorem kL_42 : Cond.methodLink RL 42 yX9_weightOf ∈ q_W0 := q_W0_mem (List.mem_of_getElem? (i := 559) (by decide +kernel)) (by decide +kernel)
theorem wX9_zoneOf : q_cw yX9_zoneOf cX9_zoneOf mX9_zoneOf 2 := ⟨q_W0_mem (List.mem_of_getElem? (i := 569) (by decide +kernel)) (by decide +kernel), q_W0_mem (List.mem_of_getElem? (i := 9) (by decide +kernel)) (by decide +kernel), by decide +kernel, by decide +kernel, by decide +kernel⟩
theorem iX9_zoneOf : Cond.instanceMethod yX9_zoneOf ∈ q_W0 := q_W0_mem (List.mem_of_getElem? (i := 567) (by decide +kernel)) (by decide +kernel)
theorem eX9_zoneOf : Cond.selects yX9_zoneOf.cls yX9_zoneOf yX9_zoneOf ∈ q_W0 := q_W0_mem (List.mem_of_getElem? (i := 568) (by decide +kernel)) (by decide +kernel)
theorem kL_45 : Cond.methodLink RL 45 yX9_zoneOf ∈ q_W0 := q_W0_mem (List.mem_of_getElem? (i := 566) (by decide +kernel)) (by decide +kernel)
theorem wX9_addSession : q_cw yX9_addSession cX9_addSession mX9_addSession 1 := ⟨q_W0_mem (List.mem_of_getElem? (i := 577) (by decide +kernel)) (by decide +kernel), q_W0_mem (List.mem_of_getElem? (i := 9) (by decide +kernel)) (by decide +kernel), by decide +kernel, by decide +kernel, by decide +kernel⟩
theorem iX9_addSession : Cond.instanceMethod yX9_addSession ∈ q_W0 := q_W0_mem (List.mem_of_getElem? (i := 575) (by decide +kernel)) (by decide +kernel)
theorem eX9_addSession : Cond.selects yX9_addSession.cls yX9_addSession yX9_addSession ∈ q_W0 := q_W0_mem (List.mem_of_getElem? (i := 576) (by decide +kernel)) (by decide +kernel)
theorem kL_48 : Cond.methodLink RL 48 yX9_addSession ∈ q_W0 := q_W0_mem (List.mem_of_getElem? (i := 574) (by decide +kernel)) (by decide +kernel)
theorem wX9_addPart : q_cw yX9_addPart cX9_addPart mX9_addPart 3 := ⟨q_W0_mem (List.mem_of_getElem? (i := 597) (by decide +kernel)) (by decide +kernel), q_W0_mem (List.mem_of_getElem? (i := 9) (by decide +kernel)) (by decide +kernel), by decide +kernel, by decide +kernel, by decide +kernel⟩
theorem iX9_addPart : Cond.instanceMethod yX9_addPart ∈ q_W0 := q_W0_mem (List.mem_of_getElem? (i := 595) (by decide +kernel)) (by decide +kernel)
theorem eX9_addPart : Cond.selects yX9_addPart.cls yX9_addPart yX9_addPart ∈ q_W0 := q_W0_mem (List.mem_of_getElem? (i := 596) (by decide +kernel)) (by decide +kernel)
theorem kL_51 : Cond.methodLink RL 51 yX9_addPart ∈ q_W0 := q_W0_mem (List.mem_of_getElem? (i := 594) (by decide +kernel)) (by decide +kernel)
theorem wX9_clearParts : q_cw yX9_clearParts cX9_clearParts mX9_clearParts 1 := ⟨q_W0_mem (List.mem_of_getElem? (i := 627) (by decide +kernel)) (by decide +kernel), q_W0_mem (List.mem_of_getElem? (i := 9) (by decide +kernel)) (by decide +kernel), by decide +kernel, by decide +kernel, by decide +kernel⟩
theorem iX9_clearParts : Cond.instanceMethod yX9_clearParts ∈ q_W0 := q_W0_mem (List.mem_of_getElem? (i := 625) (by decide +kernel)) (by decide +kernel)
theorem eX9_clearParts : Cond.selects yX9_clearParts.cls yX9_clearParts yX9_clearParts ∈ q_W0 := q_W0_mem (List.mem_of_getElem? (i := 626) (by decide +kernel)) (by decide +kernel)
theorem kL_56 : Cond.methodLink RL 56 yX9_clearParts ∈ q_W0 := q_W0_mem (List.mem_of_getElem? (i := 624) (by decide +kernel)) (by decide +kernel)
theorem wX9_moveSession : q_cw yX9_moveSession cX9_moveSession mX9_moveSession 2 := ⟨q_W0_mem (List.mem_of_getElem? (i := 879) (by decide +kernel)) (by decide +kernel), q_W0_mem (List.mem_of_getElem? (i := 9) (by decide +kernel)) (by decide +kernel), by decide +kernel, by decide +kernel, by decide +kernel⟩
theorem iX9_moveSession : Cond.instanceMethod yX9_moveSession ∈ q_W0 := q_W0_mem (List.mem_of_getElem? (i := 877) (by decide +kernel)) (by decide +kernel)
theorem eX9_moveSession : Cond.selects yX9_moveSession.cls yX9_moveSession yX9_moveSession ∈ q_W0 := q_W0_mem (List.mem_of_getElem? (i := 878) (by decide +kernel)) (by decide +kernel)
theorem kL_59 : Cond.methodLink RL 59 yX9_moveSession ∈ q_W0 := q_W0_mem (List.mem_of_getElem? (i := 876) (by decide +kernel)) (by decide +kernel)
theorem wX9_removeSession : q_cw yX9_removeSession cX9_removeSession mX9_removeSession 1 := ⟨q_W0_mem (List.mem_of_getElem? (i := 894) (by decide +kernel)) (by decide +kernel), q_W0_mem (List.mem_of_getElem? (i := 9) (by decide +kernel)) (by decide +kernel), by decide +kernel, by decide +kernel, by decide +kernel⟩
theorem iX9_removeSession : Cond.instanceMethod yX9_removeSession ∈ q_W0 := q_W0_mem (List.mem_of_getElem? (i := 892) (by decide +kernel)) (by decide +kernel)
theorem eX9_removeSession : Cond.selects yX9_removeSession.cls yX9_removeSession yX9_removeSession ∈ q_W0 := q_W0_mem (List.mem_of_getElem? (i := 893) (by decide +kernel)) (by decide +kernel)
theorem kL_62 : Cond.methodLink RL 62 yX9_removeSession ∈ q_W0 := q_W0_mem (List.mem_of_getElem? (i := 891) (by decide +kernel)) (by decide +kernel)
theorem wX9_sessionAt : q_cw yX9_sessionAt cX9_sessionAt mX9_sessionAt 1 := ⟨q_W0_mem (List.mem_of_getElem? (i := 926) (by decide +kernel)) (by decide +kernel), q_W0_mem (List.mem_of_getElem? (i := 9) (by decide +kernel)) (by decide +kernel), by decide +kernel, by decide +kernel, by decide +kernel⟩
theorem iX9_sessionAt : Cond.instanceMethod yX9_sessionAt ∈ q_W0 := q_W0_mem (List.mem_of_getElem? (i := 924) (by decide +kernel)) (by decide +kernel)
theorem eX9_sessionAt : Cond.selects yX9_sessionAt.cls yX9_sessionAt yX9_sessionAt ∈ q_W0 := q_W0_mem (List.mem_of_getElem? (i := 925) (by decide +kernel)) (by decide +kernel)
theorem kL_65 : Cond.methodLink RL 65 yX9_sessionAt ∈ q_W0 := q_W0_mem (List.mem_of_getElem? (i := 923) (by decide +kernel)) (by decide +kernel)
theorem wX9_dayOf : q_cw yX9_dayOf cX9_dayOf mX9_dayOf 1 := ⟨q_W0_mem (List.mem_of_getElem? (i := 634) (by decide +kernel)) (by decide +kernel), q_W0_mem (List.mem_of_getElem? (i := 9) (by decide +kernel)) (by decide +kernel), by decide +kernel, by decide +kernel, by decide +kernel⟩
theorem iX9_dayOf : Cond.instanceMethod yX9_dayOf ∈ q_W0 := q_W0_mem (List.mem_of_getElem? (i := 632) (by decide +kernel)) (by decide +kernel)
theorem eX9_dayOf : Cond.selects yX9_dayOf.cls yX9_dayOf yX9_dayOf ∈ q_W0 := q_W0_mem (List.mem_of_getElem? (i := 633) (by decide +kernel)) (by decide +kernel)
theorem kL_70 : Cond.methodLink RL 70 yX9_dayOf ∈ q_W0 := q_W0_mem (List.mem_of_getElem? (i := 631) (by decide +kernel)) (by decide +kernel)
theorem wX9_minutesOf : q_cw yX9_minutesOf cX9_minutesOf mX9_minutesOf 1 := ⟨q_W0_mem (List.mem_of_getElem? (i := 641) (by decide +kernel)) (by decide +kernel), q_W0_mem (List.mem_of_getElem? (i := 9) (by decide +kernel)) (by decide +kernel), by decide +kernel, by decide +kernel, by decide +kernel⟩
theorem iX9_minutesOf : Cond.instanceMethod yX9_minutesOf ∈ q_W0 := q_W0_mem (List.mem_of_getElem? (i := 639) (by decide +kernel)) (by decide +kernel)
theorem eX9_minutesOf : Cond.selects yX9_minutesOf.cls yX9_minutesOf yX9_minutesOf ∈ q_W0 := q_W0_mem (List.mem_of_getElem? (i := 640) (by decide +kernel)) (by decide +kernel)
theorem kL_73 : Cond.methodLink RL 73 yX9_minutesOf ∈ q_W0 := q_W0_mem (List.mem_of_getElem? (i := 638) (by decide +kernel)) (by decide +kernel)
theorem wX9_minutesInZone : q_cw yX9_minutesInZone cX9_minutesInZone mX9_minutesInZone 2 := ⟨q_W0_mem (List.mem_of_getElem? (i := 648) (by decide +kernel)) (by decide +kernel), q_W0_mem (List.mem_of_getElem? (i := 9) (by decide +kernel)) (by decide +kernel), by decide +kernel, by decide +kernel, by decide +kernel⟩
theorem iX9_minutesInZone : Cond.instanceMethod yX9_minutesInZone ∈ q_W0 := q_W0_mem (List.mem_of_getElem? (i := 646) (by decide +kernel)) (by decide +kernel)
theorem eX9_minutesInZone : Cond.selects yX9_minutesInZone.cls yX9_minutesInZone yX9_minutesInZone ∈ q_W0 := q_W0_mem (List.mem_of_getElem? (i := 647) (by decide +kernel)) (by decide +kernel)
theorem kL_76 : Cond.methodLink RL 76 yX9_minutesInZone ∈ q_W0 := q_W0_mem (List.mem_of_getElem? (i := 645) (by decide +kernel)) (by decide +kernel)
theorem wX9_loadOf : q_cw yX9_loadOf cX9_loadOf mX9_loadOf 1 := ⟨q_W0_mem (List.mem_of_getElem? (i := 660) (by decide +kernel)) (by decide +kernel), q_W0_mem (List.mem_of_getElem? (i := 9) (by decide +kernel)) (by decide +kernel), by decide +kernel, by decide +kernel, by decide +kernel⟩
theorem iX9_loadOf : Cond.instanceMethod yX9_loadOf ∈ q_W0 := q_W0_mem (List.mem_of_getElem? (i := 658) (by decide +kernel)) (by decide +kernel)
theorem eX9_loadOf : Cond.selects yX9_loadOf.cls yX9_loadOf yX9_loadOf ∈ q_W0 := q_W0_mem (List.mem_of_getElem? (i := 659) (by decide +kernel)) (by decide +kernel)
theorem kL_79 : Cond.methodLink RL 79 yX9_loadOf ∈ q_W0 := q_W0_mem (List.mem_of_getElem? (i := 657) (by decide +kernel)) (by decide +kernel)
theorem wX9_loadOn : q_cw yX9_loadOn cX9_loadOn mX9_loadOn 1 := ⟨q_W0_mem (List.mem_of_getElem? (i := 668) (by decide +kernel)) (by decide +kernel), q_W0_mem (List.mem_of_getElem? (i := 9) (by decide +kernel)) (by decide +kernel), by decide +kernel, by decide +kernel, by decide +kernel⟩
theorem iX9_loadOn : Cond.instanceMethod yX9_loadOn ∈ q_W0 := q_W0_mem (List.mem_of_getElem? (i := 666) (by decide +kernel)) (by decide +kernel)
theorem eX9_loadOn : Cond.selects yX9_loadOn.cls yX9_loadOn yX9_loadOn ∈ q_W0 := q_W0_mem (List.mem_of_getElem? (i := 667) (by decide +kernel)) (by decide +kernel)
theorem kL_82 : Cond.methodLink RL 82 yX9_loadOn ∈ q_W0 := q_W0_mem (List.mem_of_getElem? (i := 665) (by decide +kernel)) (by decide +kernel)
theorem wX9_zoneShare : q_cw yX9_zoneShare cX9_zoneShare mX9_zoneShare 1 := ⟨q_W0_mem (List.mem_of_getElem? (i := 694) (by decide +kernel)) (by decide +kernel), q_W0_mem (List.mem_of_getElem? (i := 9) (by decide +kernel)) (by decide +kernel), by decide +kernel, by decide +kernel, by decide +kernel⟩
theorem iX9_zoneShare : Cond.instanceMethod yX9_zoneShare ∈ q_W0 := q_W0_mem (List.mem_of_getElem? (i := 692) (by decide +kernel)) (by decide +kernel)
theorem eX9_zoneShare : Cond.selects yX9_zoneShare.cls yX9_zoneShare yX9_zoneShare ∈ q_W0 := q_W0_mem (List.mem_of_getElem? (i := 693) (by decide +kernel)) (by decide +kernel)
theorem kL_85 : Cond.methodLink RL 85 yX9_zoneShare ∈ q_W0 := q_W0_mem (List.mem_of_getElem? (i := 691) (by decide +kernel)) (by decide +kernel)
theorem wX9_addTarget : q_cw yX9_addTarget cX9_addTarget mX9_addTarget 1 := ⟨q_W0_mem (List.mem_of_getElem? (i := 706) (by decide +kernel)) (by decide +kernel), q_W0_mem (List.mem_of_getElem? (i := 9) (by decide +kernel)) (by decide +kernel), by decide +kernel, by decide +kernel, by decide +kernel⟩
theorem iX9_addTarget : Cond.instanceMethod yX9_addTarget ∈ q_W0 := q_W0_mem (List.mem_of_getElem? (i := 704) (by decide +kernel)) (by decide +kernel)
theorem eX9_addTarget : Cond.selects yX9_addTarget.cls yX9_addTarget yX9_addTarget ∈ q_W0 := q_W0_mem (List.mem_of_getElem? (i := 705) (by decide +kernel)) (by decide +kernel)
theorem kL_93 : Cond.methodLink RL 93 yX9_addTarget ∈ q_W0 := q_W0_mem (List.mem_of_getElem? (i := 703) (by decide +kernel)) (by decide +kernel)
theorem wX9_targetAt : q_cw yX9_targetAt cX9_targetAt mX9_targetAt 1 := ⟨q_W0_mem (List.mem_of_getElem? (i := 737) (by decide +kernel)) (by decide +kernel), q_W0_mem (List.mem_of_getElem? (i := 9) (by decide +kernel)) (by decide +kernel), by decide +kernel, by decide +kernel, by decide +kernel⟩
theorem iX9_targetAt : Cond.instanceMethod yX9_targetAt ∈ q_W0 := q_W0_mem (List.mem_of_getElem? (i := 735) (by decide +kernel)) (by decide +kernel)
theorem eX9_targetAt : Cond.selects yX9_targetAt.cls yX9_targetAt yX9_targetAt ∈ q_W0 := q_W0_mem (List.mem_of_getElem? (i := 736) (by decide +kernel)) (by decide +kernel)
theorem kL_96 : Cond.methodLink RL 96 yX9_targetAt ∈ q_W0 := q_W0_mem (List.mem_of_getElem? (i := 734) (by decide +kernel)) (by decide +kernel)
theorem wX9_dueEntry : q_cw yX9_dueEntry cX9_dueEntry mX9_dueEntry 0 := ⟨q_W0_mem (List.mem_of_getElem? (i := 757) (by decide +kernel)) (by decide +kernel), q_W0_mem (List.mem_of_getElem? (i := 9) (by decide +kernel)) (by decide +kernel), by decide +kernel, by decide +kernel, by decide +kernel⟩
theorem iX9_dueEntry : Cond.instanceMethod yX9_dueEntry ∈ q_W0 := q_W0_mem (List.mem_of_getElem? (i := 755) (by decide +kernel)) (by decide +kernel)
theorem eX9_dueEntry : Cond.selects yX9_dueEntry.cls yX9_dueEntry yX9_dueEntry ∈ q_W0 := q_W0_mem (List.mem_of_getElem? (i := 756) (by decide +kernel)) (by decide +kernel)
theorem kL_99 : Cond.methodLink RL 99 yX9_dueEntry ∈ q_W0 := q_W0_mem (List.mem_of_getElem? (i := 754) (by decide +kernel)) (by decide +kernel)
theorem wX9_planEnd : q_cw yX9_planEnd cX9_planEnd mX9_planEnd 0 := ⟨q_W0_mem (List.mem_of_getElem? (i := 940) (by decide +kernel)) (by decide +kernel), q_W0_mem (List.mem_of_getElem? (i := 9) (by decide +kernel)) (by decide +kernel), by decide +kernel, by decide +kernel, by decide +kernel⟩
theorem iX9_planEnd : Cond.instanceMethod yX9_planEnd ∈ q_W0 := q_W0_mem (List.mem_of_getElem? (i := 938) (by decide +kernel)) (by decide +kernel)
theorem eX9_planEnd : Cond.selects yX9_planEnd.cls yX9_planEnd yX9_planEnd ∈ q_W0 := q_W0_mem (List.mem_of_getElem? (i := 939) (by decide +kernel)) (by decide +kernel)
theorem kL_103 : Cond.methodLink RL 103 yX9_planEnd ∈ q_W0 := q_W0_mem (List.mem_of_getElem? (i := 937) (by decide +kernel)) (by decide +kernel)
theorem wX9_writeWeek : q_cw yX9_writeWeek cX9_writeWeek mX9_writeWeek 1 := ⟨q_W0_mem (List.mem_of_getElem? (i := 769) (by decide +kernel)) (by decide +kernel), q_W0_mem (List.mem_of_getElem? (i := 9) (by decide +kernel)) (by decide +kernel), by decide +kernel, by decide +kernel, by decide +kernel⟩
theorem iX9_writeWeek : Cond.instanceMethod yX9_writeWeek ∈ q_W0 := q_W0_mem (List.mem_of_getElem? (i := 767) (by decide +kernel)) (by decide +kernel)
theorem eX9_writeWeek : Cond.selects yX9_writeWeek.cls yX9_writeWeek yX9_writeWeek ∈ q_W0 := q_W0_mem (List.mem_of_getElem? (i := 768) (by decide +kernel)) (by decide +kernel)
theorem kL_106 : Cond.methodLink RL 106 yX9_writeWeek ∈ q_W0 := q_W0_mem (List.mem_of_getElem? (i := 766) (by decide +kernel)) (by decide +kernel)
theorem wX9_lineAt : q_cw yX9_lineAt cX9_lineAt mX9_lineAt 1 := ⟨q_W0_mem (List.mem_of_getElem? (i := 784) (by decide +kernel)) (by decide +kernel), q_W0_mem (List.mem_of_getElem? (i := 9) (by decide +kernel)) (by decide +kernel), by decide +kernel, by decide +kernel, by decide +kernel⟩
theorem iX9_lineAt : Cond.instanceMethod yX9_lineAt ∈ q_W0 := q_W0_mem (List.mem_of_getElem? (i := 782) (by decide +kernel)) (by decide +kernel)
theorem eX9_lineAt : Cond.selects yX9_lineAt.cls yX9_lineAt yX9_lineAt ∈ q_W0 := q_W0_mem (List.mem_of_getElem? (i := 783) (by decide +kernel)) (by decide +kernel)
theorem kL_109 : Cond.methodLink RL 109 yX9_lineAt ∈ q_W0 := q_W0_mem (List.mem_of_getElem? (i := 781) (by decide +kernel)) (by decide +kernel)
theorem wX9_undo : q_cw yX9_undo cX9_undo mX9_undo 0 := ⟨q_W0_mem (List.mem_of_getElem? (i := 792) (by decide +kernel)) (by decide +kernel), q_W0_mem (List.mem_of_getElem? (i := 9) (by decide +kernel)) (by decide +kernel), by decide +kernel, by decide +kernel, by decide +kernel⟩
theorem iX9_undo : Cond.instanceMethod yX9_undo ∈ q_W0 := q_W0_mem (List.mem_of_getElem? (i := 790) (by decide +kernel)) (by decide +kernel)
theorem eX9_undo : Cond.selects yX9_undo.cls yX9_undo yX9_undo ∈ q_W0 := q_W0_mem (List.mem_of_getElem? (i := 791) (by decide +kernel)) (by decide +kernel)
theorem kL_113 : Cond.methodLink RL 113 yX9_undo ∈ q_W0 := q_W0_mem (List.mem_of_getElem? (i := 789) (by decide +kernel)) (by decide +kernel)
theorem wX9_restore : q_cw yX9_restore cX9_restore mX9_restore 0 := ⟨q_W0_mem (List.mem_of_getElem? (i := 804) (by decide +kernel)) (by decide +kernel), q_W0_mem (List.mem_of_getElem? (i := 9) (by decide +kernel)) (by decide +kernel), by decide +kernel, by decide +kernel, by decide +kernel⟩
theorem iX9_restore : Cond.instanceMethod yX9_restore ∈ q_W0 := q_W0_mem (List.mem_of_getElem? (i := 802) (by decide +kernel)) (by decide +kernel)
theorem eX9_restore : Cond.selects yX9_restore.cls yX9_restore yX9_restore ∈ q_W0 := q_W0_mem (List.mem_of_getElem? (i := 803) (by decide +kernel)) (by decide +kernel)
theorem kL_116 : Cond.methodLink RL 116 yX9_restore ∈ q_W0 := q_W0_mem (List.mem_of_getElem? (i := 801) (by decide +kernel)) (by decide +kernel)
theorem wL_cell : q_cw yL_cell cL_cell mL_cell 2 := ⟨q_W0_mem (List.mem_of_getElem? (i := 815) (by decide +kernel)) (by decide +kernel), q_W0_mem (List.mem_of_getElem? (i := 8) (by decide +kernel)) (by decide +kernel), by decide +kernel, by decide +kernel, by decide +kernel⟩
theorem sL_cell : Cond.static yL_cell ∈ q_W0 := q_W0_mem (List.mem_of_getElem? (i := 814) (by decide +kernel)) (by decide +kernel)
theorem kL_119 : Cond.methodLink RL 119 yL_cell ∈ q_W0 := q_W0_mem (List.mem_of_getElem? (i := 813) (by decide +kernel)) (by decide +kernel)
theorem wL_threshold : q_cw yL_threshold cL_threshold mL_threshold 2 := ⟨q_W0_mem (List.mem_of_getElem? (i := 827) (by decide +kernel)) (by decide +kernel), q_W0_mem (List.mem_of_getElem? (i := 8) (by decide +kernel)) (by decide +kernel), by decide +kernel, by decide +kernel, by decide +kernel⟩
theorem sL_threshold : Cond.static yL_threshold ∈ q_W0 := q_W0_mem (List.mem_of_getElem? (i := 826) (by decide +kernel)) (by decide +kernel)
theorem kL_126 : Cond.methodLink RL 126 yL_threshold ∈ q_W0 := q_W0_mem (List.mem_of_getElem? (i := 825) (by decide +kernel)) (by decide +kernel)
theorem wL_zone : q_cw yL_zone cL_zone mL_zone 3 := ⟨q_W0_mem (List.mem_of_getElem? (i := 830) (by decide +kernel)) (by decide +kernel), q_W0_mem (List.mem_of_getElem? (i := 8) (by decide +kernel)) (by decide +kernel), by decide +kernel, by decide +kernel, by decide +kernel⟩
theorem sL_zone : Cond.static yL_zone ∈ q_W0 := q_W0_mem (List.mem_of_getElem? (i := 829) (by decide +kernel)) (by decide +kernel)
theorem kL_129 : Cond.methodLink RL 129 yL_zone ∈ q_W0 := q_W0_mem (List.mem_of_getElem? (i := 828) (by decide +kernel)) (by decide +kernel)
theorem wL_load : q_cw yL_load cL_load mL_load 2 := ⟨q_W0_mem (List.mem_of_getElem? (i := 836) (by decide +kernel)) (by decide +kernel), q_W0_mem (List.mem_of_getElem? (i := 8) (by decide +kernel)) (by decide +kernel), by decide +kernel, by decide +kernel, by decide +kernel⟩
theorem sL_load : Cond.static yL_load ∈ q_W0 := q_W0_mem (List.mem_of_getElem? (i := 835) (by decide +kernel)) (by decide +kernel)
theorem kL_133 : Cond.methodLink RL 133 yL_load ∈ q_W0 := q_W0_mem (List.mem_of_getElem? (i := 834) (by decide +kernel)) (by decide +kernel)
theorem wL_copy : q_cw yL_copy cL_copy mL_copy 1 := ⟨q_W0_mem (List.mem_of_getElem? (i := 824) (by decide +kernel)) (by decide +kernel), q_W0_mem (List.mem_of_getElem? (i := 8) (by decide +kernel)) (by decide +kernel), by decide +kernel, by decide +kernel, by decide +kernel⟩
theorem sL_copy : Cond.static yL_copy ∈ q_W0 := q_W0_mem (List.mem_of_getElem? (i := 823) (by decide +kernel)) (by decide +kernel)
theorem kL_136 : Cond.methodLink RL 136 yL_copy ∈ q_W0 := q_W0_mem (List.mem_of_getElem? (i := 822) (by decide +kernel)) (by decide +kernel)
theorem wL_isTold : q_cw yL_isTold cL_isTold mL_isTold 4 := ⟨q_W0_mem (List.mem_of_getElem? (i := 842) (by decide +kernel)) (by decide +kernel), q_W0_mem (List.mem_of_getElem? (i := 8) (by decide +kernel)) (by decide +kernel), by decide +kernel, by decide +kernel, by decide +kernel⟩
theorem sL_isTold : Cond.static yL_isTold ∈ q_W0 := q_W0_mem (List.mem_of_getElem? (i := 841) (by decide +kernel)) (by decide +kernel)
theorem kL_140 : Cond.methodLink RL 140 yL_isTold ∈ q_W0 := q_W0_mem (List.mem_of_getElem? (i := 840) (by decide +kernel)) (by decide +kernel)
theorem kL_144 : Cond.methodLink RL 144 Lib.Math.min.name ∈ q_W0 := q_W0_mem (List.mem_of_getElem? (i := 916) (by decide +kernel)) (by decide +kernel)
theorem wL_in : q_cw yL_in cL_in mL_in 3 := ⟨q_W0_mem (List.mem_of_getElem? (i := 812) (by decide +kernel)) (by decide +kernel), q_W0_mem (List.mem_of_getElem? (i := 8) (by decide +kernel)) (by decide +kernel), by decide +kernel, by decide +kernel, by decide +kernel⟩
theorem sL_in : Cond.static yL_in ∈ q_W0 := q_W0_mem (List.mem_of_getElem? (i := 811) (by decide +kernel)) (by decide +kernel)
theorem kL_149 : Cond.methodLink RL 149 yL_in ∈ q_W0 := q_W0_mem (List.mem_of_getElem? (i := 810) (by decide +kernel)) (by decide +kernel)
theorem wL_pass : q_cwH yL_pass cL_pass [(0, 5, 6, 15), (0, 5, 10, 18)] mL_pass 2 := ⟨q_W0_mem (List.mem_of_getElem? (i := 351) (by decide +kernel)) (by decide +kernel), q_W0_mem (List.mem_of_getElem? (i := 8) (by decide +kernel)) (by decide +kernel), by decide +kernel, by decide +kernel, by decide +kernel⟩
theorem sL_pass : Cond.static yL_pass ∈ q_W0 := q_W0_mem (List.mem_of_getElem? (i := 350) (by decide +kernel)) (by decide +kernel)
theorem kL_152 : Cond.methodLink RL 152 yL_pass ∈ q_W0 := q_W0_mem (List.mem_of_getElem? (i := 349) (by decide +kernel)) (by decide +kernel)
theorem wX9_today : q_cw yX9_today cX9_today mX9_today 0 := ⟨q_W0_mem (List.mem_of_getElem? (i := 846) (by decide +kernel)) (by decide +kernel), q_W0_mem (List.mem_of_getElem? (i := 9) (by decide +kernel)) (by decide +kernel), by decide +kernel, by decide +kernel, by decide +kernel⟩
theorem iX9_today : Cond.instanceMethod yX9_today ∈ q_W0 := q_W0_mem (List.mem_of_getElem? (i := 844) (by decide +kernel)) (by decide +kernel)
theorem eX9_today : Cond.selects yX9_today.cls yX9_today yX9_today ∈ q_W0 := q_W0_mem (List.mem_of_getElem? (i := 845) (by decide +kernel)) (by decide +kernel)
theorem kL_155 : Cond.methodLink RL 155 yX9_today ∈ q_W0 := q_W0_mem (List.mem_of_getElem? (i := 843) (by decide +kernel)) (by decide +kernel)
theorem wL_isTest : q_cw yL_isTest cL_isTest mL_isTest 4 := ⟨q_W0_mem (List.mem_of_getElem? (i := 849) (by decide +kernel)) (by decide +kernel), q_W0_mem (List.mem_of_getElem? (i := 8) (by decide +kernel)) (by decide +kernel), by decide +kernel, by decide +kernel, by decide +kernel⟩
theorem sL_isTest : Cond.static yL_isTest ∈ q_W0 := q_W0_mem (List.mem_of_getElem? (i := 848) (by decide +kernel)) (by decide +kernel)
theorem kL_158 : Cond.methodLink RL 158 yL_isTest ∈ q_W0 := q_W0_mem (List.mem_of_getElem? (i := 847) (by decide +kernel)) (by decide +kernel)
theorem wL_isNoTest : q_cw yL_isNoTest cL_isNoTest mL_isNoTest 3 := ⟨q_W0_mem (List.mem_of_getElem? (i := 852) (by decide +kernel)) (by decide +kernel), q_W0_mem (List.mem_of_getElem? (i := 8) (by decide +kernel)) (by decide +kernel), by decide +kernel, by decide +kernel, by decide +kernel⟩
theorem sL_isNoTest : Cond.static yL_isNoTest ∈ q_W0 := q_W0_mem (List.mem_of_getElem? (i := 851) (by decide +kernel)) (by decide +kernel)
theorem kL_162 : Cond.methodLink RL 162 yL_isNoTest ∈ q_W0 := q_W0_mem (List.mem_of_getElem? (i := 850) (by decide +kernel)) (by decide +kernel)
theorem wL_isBound : q_cw yL_isBound cL_isBound mL_isBound 4 := ⟨q_W0_mem (List.mem_of_getElem? (i := 859) (by decide +kernel)) (by decide +kernel), q_W0_mem (List.mem_of_getElem? (i := 8) (by decide +kernel)) (by decide +kernel), by decide +kernel, by decide +kernel, by decide +kernel⟩
theorem sL_isBound : Cond.static yL_isBound ∈ q_W0 := q_W0_mem (List.mem_of_getElem? (i := 858) (by decide +kernel)) (by decide +kernel)
theorem kL_166 : Cond.methodLink RL 166 yL_isBound ∈ q_W0 := q_W0_mem (List.mem_of_getElem? (i := 857) (by decide +kernel)) (by decide +kernel)
theorem wL_setWeight : q_cwH yL_setWeight cL_setWeight [(0, 6, 7, 15)] mL_setWeight 3 := ⟨q_W0_mem (List.mem_of_getElem? (i := 548) (by decide +kernel)) (by decide +kernel), q_W0_mem (List.mem_of_getElem? (i := 8) (by decide +kernel)) (by decide +kernel), by decide +kernel, by decide +kernel, by decide +kernel⟩
theorem sL_setWeight : Cond.static yL_setWeight ∈ q_W0 := q_W0_mem (List.mem_of_getElem? (i := 547) (by decide +kernel)) (by decide +kernel)
theorem kL_169 : Cond.methodLink RL 169 yL_setWeight ∈ q_W0 := q_W0_mem (List.mem_of_getElem? (i := 546) (by decide +kernel)) (by decide +kernel)
theorem wL_isSession : q_cw yL_isSession cL_isSession mL_isSession 3 := ⟨q_W0_mem (List.mem_of_getElem? (i := 862) (by decide +kernel)) (by decide +kernel), q_W0_mem (List.mem_of_getElem? (i := 8) (by decide +kernel)) (by decide +kernel), by decide +kernel, by decide +kernel, by decide +kernel⟩
theorem sL_isSession : Cond.static yL_isSession ∈ q_W0 := q_W0_mem (List.mem_of_getElem? (i := 861) (by decide +kernel)) (by decide +kernel)
theorem kL_172 : Cond.methodLink RL 172 yL_isSession ∈ q_W0 := q_W0_mem (List.mem_of_getElem? (i := 860) (by decide +kernel)) (by decide +kernel)
theorem wL_isMoved : q_cw yL_isMoved cL_isMoved mL_isMoved 4 := ⟨q_W0_mem (List.mem_of_getElem? (i := 869) (by decide +kernel)) (by decide +kernel), q_W0_mem (List.mem_of_getElem? (i := 8) (by decide +kernel)) (by decide +kernel), by decide +kernel, by decide +kernel, by decide +kernel⟩
theorem sL_isMoved : Cond.static yL_isMoved ∈ q_W0 := q_W0_mem (List.mem_of_getElem? (i := 868) (by decide +kernel)) (by decide +kernel)
theorem kL_175 : Cond.methodLink RL 175 yL_isMoved ∈ q_W0 := q_W0_mem (List.mem_of_getElem? (i := 867) (by decide +kernel)) (by decide +kernel)
theorem wL_isRemoved : q_cw yL_isRemoved cL_isRemoved mL_isRemoved 4 := ⟨q_W0_mem (List.mem_of_getElem? (i := 887) (by decide +kernel)) (by decide +kernel), q_W0_mem (List.mem_of_getElem? (i := 8) (by decide +kernel)) (by decide +kernel), by decide +kernel, by decide +kernel, by decide +kernel⟩
theorem sL_isRemoved : Cond.static yL_isRemoved ∈ q_W0 := q_W0_mem (List.mem_of_getElem? (i := 886) (by decide +kernel)) (by decide +kernel)
theorem kL_178 : Cond.methodLink RL 178 yL_isRemoved ∈ q_W0 := q_W0_mem (List.mem_of_getElem? (i := 885) (by decide +kernel)) (by decide +kernel)
theorem wX9_startPlan : q_cw yX9_startPlan cX9_startPlan mX9_startPlan 0 := ⟨q_W0_mem (List.mem_of_getElem? (i := 902) (by decide +kernel)) (by decide +kernel), q_W0_mem (List.mem_of_getElem? (i := 9) (by decide +kernel)) (by decide +kernel), by decide +kernel, by decide +kernel, by decide +kernel⟩
theorem iX9_startPlan : Cond.instanceMethod yX9_startPlan ∈ q_W0 := q_W0_mem (List.mem_of_getElem? (i := 900) (by decide +kernel)) (by decide +kernel)
theorem eX9_startPlan : Cond.selects yX9_startPlan.cls yX9_startPlan yX9_startPlan ∈ q_W0 := q_W0_mem (List.mem_of_getElem? (i := 901) (by decide +kernel)) (by decide +kernel)
theorem kL_182 : Cond.methodLink RL 182 yX9_startPlan ∈ q_W0 := q_W0_mem (List.mem_of_getElem? (i := 899) (by decide +kernel)) (by decide +kernel)
theorem wL_isTarget : q_cw yL_isTarget cL_isTarget mL_isTarget 3 := ⟨q_W0_mem (List.mem_of_getElem? (i := 909) (by decide +kernel)) (by decide +kernel), q_W0_mem (List.mem_of_getElem? (i := 8) (by decide +kernel)) (by decide +kernel), by decide +kernel, by decide +kernel, by decide +kernel⟩
theorem sL_isTarget : Cond.static yL_isTarget ∈ q_W0 := q_W0_mem (List.mem_of_getElem? (i := 908) (by decide +kernel)) (by decide +kernel)
theorem kL_185 : Cond.methodLink RL 185 yL_isTarget ∈ q_W0 := q_W0_mem (List.mem_of_getElem? (i := 907) (by decide +kernel)) (by decide +kernel)
theorem wL_isPart : q_cw yL_isPart cL_isPart mL_isPart 5 := ⟨q_W0_mem (List.mem_of_getElem? (i := 912) (by decide +kernel)) (by decide +kernel), q_W0_mem (List.mem_of_getElem? (i := 8) (by decide +kernel)) (by decide +kernel), by decide +kernel, by decide +kernel, by decide +kernel⟩
theorem sL_isPart : Cond.static yL_isPart ∈ q_W0 := q_W0_mem (List.mem_of_getElem? (i := 911) (by decide +kernel)) (by decide +kernel)
theorem kL_188 : Cond.methodLink RL 188 yL_isPart ∈ q_W0 := q_W0_mem (List.mem_of_getElem? (i := 910) (by decide +kernel)) (by decide +kernel)
theorem wL_addTest : q_cwH yL_addTest cL_addTest [(0, 6, 7, 15), (0, 6, 11, 18)] mL_addTest 3 := ⟨q_W0_mem (List.mem_of_getElem? (i := 460) (by decide +kernel)) (by decide +kernel), q_W0_mem (List.mem_of_getElem? (i := 8) (by decide +kernel)) (by decide +kernel), by decide +kernel, by decide +kernel, by decide +kernel⟩
theorem sL_addTest : Cond.static yL_addTest ∈ q_W0 := q_W0_mem (List.mem_of_getElem? (i := 459) (by decide +kernel)) (by decide +kernel)
theorem kL_192 : Cond.methodLink RL 192 yL_addTest ∈ q_W0 := q_W0_mem (List.mem_of_getElem? (i := 458) (by decide +kernel)) (by decide +kernel)
theorem wL_removeTest : q_cwH yL_removeTest cL_removeTest [(0, 5, 6, 28)] mL_removeTest 2 := ⟨q_W0_mem (List.mem_of_getElem? (i := 493) (by decide +kernel)) (by decide +kernel), q_W0_mem (List.mem_of_getElem? (i := 8) (by decide +kernel)) (by decide +kernel), by decide +kernel, by decide +kernel, by decide +kernel⟩
theorem sL_removeTest : Cond.static yL_removeTest ∈ q_W0 := q_W0_mem (List.mem_of_getElem? (i := 492) (by decide +kernel)) (by decide +kernel)
theorem kL_194 : Cond.methodLink RL 194 yL_removeTest ∈ q_W0 := q_W0_mem (List.mem_of_getElem? (i := 491) (by decide +kernel)) (by decide +kernel)
theorem wX9_testCount : q_cw yX9_testCount cX9_testCount mX9_testCount 0 := ⟨q_W0_mem (List.mem_of_getElem? (i := 856) (by decide +kernel)) (by decide +kernel), q_W0_mem (List.mem_of_getElem? (i := 9) (by decide +kernel)) (by decide +kernel), by decide +kernel, by decide +kernel, by decide +kernel⟩
theorem iX9_testCount : Cond.instanceMethod yX9_testCount ∈ q_W0 := q_W0_mem (List.mem_of_getElem? (i := 854) (by decide +kernel)) (by decide +kernel)
theorem eX9_testCount : Cond.selects yX9_testCount.cls yX9_testCount yX9_testCount ∈ q_W0 := q_W0_mem (List.mem_of_getElem? (i := 855) (by decide +kernel)) (by decide +kernel)
theorem kL_196 : Cond.methodLink RL 196 yX9_testCount ∈ q_W0 := q_W0_mem (List.mem_of_getElem? (i := 853) (by decide +kernel)) (by decide +kernel)
theorem wL_setBound : q_cwH yL_setBound cL_setBound [(0, 6, 7, 15), (0, 6, 11, 18)] mL_setBound 3 := ⟨q_W0_mem (List.mem_of_getElem? (i := 529) (by decide +kernel)) (by decide +kernel), q_W0_mem (List.mem_of_getElem? (i := 8) (by decide +kernel)) (by decide +kernel), by decide +kernel, by decide +kernel, by decide +kernel⟩
theorem sL_setBound : Cond.static yL_setBound ∈ q_W0 := q_W0_mem (List.mem_of_getElem? (i := 528) (by decide +kernel)) (by decide +kernel)
theorem kL_199 : Cond.methodLink RL 199 yL_setBound ∈ q_W0 := q_W0_mem (List.mem_of_getElem? (i := 527) (by decide +kernel)) (by decide +kernel)
theorem wL_addSession : q_cwH yL_addSession cL_addSession [(0, 5, 6, 15), (0, 5, 10, 18)] mL_addSession 2 := ⟨q_W0_mem (List.mem_of_getElem? (i := 573) (by decide +kernel)) (by decide +kernel), q_W0_mem (List.mem_of_getElem? (i := 8) (by decide +kernel)) (by decide +kernel), by decide +kernel, by decide +kernel, by decide +kernel⟩
theorem sL_addSession : Cond.static yL_addSession ∈ q_W0 := q_W0_mem (List.mem_of_getElem? (i := 572) (by decide +kernel)) (by decide +kernel)
theorem kL_201 : Cond.methodLink RL 201 yL_addSession ∈ q_W0 := q_W0_mem (List.mem_of_getElem? (i := 571) (by decide +kernel)) (by decide +kernel)
theorem wX9_sessionCount : q_cw yX9_sessionCount cX9_sessionCount mX9_sessionCount 0 := ⟨q_W0_mem (List.mem_of_getElem? (i := 866) (by decide +kernel)) (by decide +kernel), q_W0_mem (List.mem_of_getElem? (i := 9) (by decide +kernel)) (by decide +kernel), by decide +kernel, by decide +kernel, by decide +kernel⟩
theorem iX9_sessionCount : Cond.instanceMethod yX9_sessionCount ∈ q_W0 := q_W0_mem (List.mem_of_getElem? (i := 864) (by decide +kernel)) (by decide +kernel)
theorem eX9_sessionCount : Cond.selects yX9_sessionCount.cls yX9_sessionCount yX9_sessionCount ∈ q_W0 := q_W0_mem (List.mem_of_getElem? (i := 865) (by decide +kernel)) (by decide +kernel)
theorem kL_203 : Cond.methodLink RL 203 yX9_sessionCount ∈ q_W0 := q_W0_mem (List.mem_of_getElem? (i := 863) (by decide +kernel)) (by decide +kernel)
theorem wL_place : q_cw yL_place cL_place mL_place 2 := ⟨q_W0_mem (List.mem_of_getElem? (i := 872) (by decide +kernel)) (by decide +kernel), q_W0_mem (List.mem_of_getElem? (i := 8) (by decide +kernel)) (by decide +kernel), by decide +kernel, by decide +kernel, by decide +kernel⟩
theorem sL_place : Cond.static yL_place ∈ q_W0 := q_W0_mem (List.mem_of_getElem? (i := 871) (by decide +kernel)) (by decide +kernel)
theorem kL_206 : Cond.methodLink RL 206 yL_place ∈ q_W0 := q_W0_mem (List.mem_of_getElem? (i := 870) (by decide +kernel)) (by decide +kernel)
theorem wL_addPart : q_cwH yL_addPart cL_addPart [(0, 7, 8, 28), (0, 7, 13, 15), (0, 7, 18, 18)] mL_addPart 4 := ⟨q_W0_mem (List.mem_of_getElem? (i := 593) (by decide +kernel)) (by decide +kernel), q_W0_mem (List.mem_of_getElem? (i := 8) (by decide +kernel)) (by decide +kernel), by decide +kernel, by decide +kernel, by decide +kernel⟩
theorem sL_addPart : Cond.static yL_addPart ∈ q_W0 := q_W0_mem (List.mem_of_getElem? (i := 592) (by decide +kernel)) (by decide +kernel)
theorem kL_209 : Cond.methodLink RL 209 yL_addPart ∈ q_W0 := q_W0_mem (List.mem_of_getElem? (i := 591) (by decide +kernel)) (by decide +kernel)
theorem wL_minutes : q_cw yL_minutes cL_minutes mL_minutes 3 := ⟨q_W0_mem (List.mem_of_getElem? (i := 915) (by decide +kernel)) (by decide +kernel), q_W0_mem (List.mem_of_getElem? (i := 8) (by decide +kernel)) (by decide +kernel), by decide +kernel, by decide +kernel, by decide +kernel⟩
theorem sL_minutes : Cond.static yL_minutes ∈ q_W0 := q_W0_mem (List.mem_of_getElem? (i := 914) (by decide +kernel)) (by decide +kernel)
theorem kL_212 : Cond.methodLink RL 212 yL_minutes ∈ q_W0 := q_W0_mem (List.mem_of_getElem? (i := 913) (by decide +kernel)) (by decide +kernel)
theorem wL_moveSession : q_cwH yL_moveSession cL_moveSession [(0, 6, 7, 28), (0, 6, 11, 15)] mL_moveSession 3 := ⟨q_W0_mem (List.mem_of_getElem? (i := 875) (by decide +kernel)) (by decide +kernel), q_W0_mem (List.mem_of_getElem? (i := 8) (by decide +kernel)) (by decide +kernel), by decide +kernel, by decide +kernel, by decide +kernel⟩
theorem sL_moveSession : Cond.static yL_moveSession ∈ q_W0 := q_W0_mem (List.mem_of_getElem? (i := 874) (by decide +kernel)) (by decide +kernel)
theorem kL_215 : Cond.methodLink RL 215 yL_moveSession ∈ q_W0 := q_W0_mem (List.mem_of_getElem? (i := 873) (by decide +kernel)) (by decide +kernel)
theorem wL_clearParts : q_cwH yL_clearParts cL_clearParts [(0, 5, 6, 28)] mL_clearParts 2 := ⟨q_W0_mem (List.mem_of_getElem? (i := 623) (by decide +kernel)) (by decide +kernel), q_W0_mem (List.mem_of_getElem? (i := 8) (by decide +kernel)) (by decide +kernel), by decide +kernel, by decide +kernel, by decide +kernel⟩
theorem sL_clearParts : Cond.static yL_clearParts ∈ q_W0 := q_W0_mem (List.mem_of_getElem? (i := 622) (by decide +kernel)) (by decide +kernel)
theorem kL_217 : Cond.methodLink RL 217 yL_clearParts ∈ q_W0 := q_W0_mem (List.mem_of_getElem? (i := 621) (by decide +kernel)) (by decide +kernel)
theorem wL_removeSession : q_cwH yL_removeSession cL_removeSession [(0, 5, 6, 28)] mL_removeSession 2 := ⟨q_W0_mem (List.mem_of_getElem? (i := 890) (by decide +kernel)) (by decide +kernel), q_W0_mem (List.mem_of_getElem? (i := 8) (by decide +kernel)) (by decide +kernel), by decide +kernel, by decide +kernel, by decide +kernel⟩
theorem sL_removeSession : Cond.static yL_removeSession ∈ q_W0 := q_W0_mem (List.mem_of_getElem? (i := 889) (by decide +kernel)) (by decide +kernel)
theorem kL_219 : Cond.methodLink RL 219 yL_removeSession ∈ q_W0 := q_W0_mem (List.mem_of_getElem? (i := 888) (by decide +kernel)) (by decide +kernel)
theorem wL_addTarget : q_cwH yL_addTarget cL_addTarget [(0, 5, 6, 15), (0, 5, 10, 18)] mL_addTarget 2 := ⟨q_W0_mem (List.mem_of_getElem? (i := 702) (by decide +kernel)) (by decide +kernel), q_W0_mem (List.mem_of_getElem? (i := 8) (by decide +kernel)) (by decide +kernel), by decide +kernel, by decide +kernel, by decide +kernel⟩
theorem sL_addTarget : Cond.static yL_addTarget ∈ q_W0 := q_W0_mem (List.mem_of_getElem? (i := 701) (by decide +kernel)) (by decide +kernel)
theorem kL_221 : Cond.methodLink RL 221 yL_addTarget ∈ q_W0 := q_W0_mem (List.mem_of_getElem? (i := 700) (by decide +kernel)) (by decide +kernel)
theorem wL_dayOf : q_cwH yL_dayOf cL_dayOf [(0, 5, 6, 28)] mL_dayOf 2 := ⟨q_W0_mem (List.mem_of_getElem? (i := 630) (by decide +kernel)) (by decide +kernel), q_W0_mem (List.mem_of_getElem? (i := 8) (by decide +kernel)) (by decide +kernel), by decide +kernel, by decide +kernel, by decide +kernel⟩
theorem sL_dayOf : Cond.static yL_dayOf ∈ q_W0 := q_W0_mem (List.mem_of_getElem? (i := 629) (by decide +kernel)) (by decide +kernel)
theorem kL_223 : Cond.methodLink RL 223 yL_dayOf ∈ q_W0 := q_W0_mem (List.mem_of_getElem? (i := 628) (by decide +kernel)) (by decide +kernel)
theorem wL_minutesOf : q_cwH yL_minutesOf cL_minutesOf [(0, 5, 6, 28)] mL_minutesOf 2 := ⟨q_W0_mem (List.mem_of_getElem? (i := 637) (by decide +kernel)) (by decide +kernel), q_W0_mem (List.mem_of_getElem? (i := 8) (by decide +kernel)) (by decide +kernel), by decide +kernel, by decide +kernel, by decide +kernel⟩
theorem sL_minutesOf : Cond.static yL_minutesOf ∈ q_W0 := q_W0_mem (List.mem_of_getElem? (i := 636) (by decide +kernel)) (by decide +kernel)
theorem kL_225 : Cond.methodLink RL 225 yL_minutesOf ∈ q_W0 := q_W0_mem (List.mem_of_getElem? (i := 635) (by decide +kernel)) (by decide +kernel)
theorem wL_loadOf : q_cwH yL_loadOf cL_loadOf [(0, 5, 6, 28)] mL_loadOf 2 := ⟨q_W0_mem (List.mem_of_getElem? (i := 656) (by decide +kernel)) (by decide +kernel), q_W0_mem (List.mem_of_getElem? (i := 8) (by decide +kernel)) (by decide +kernel), by decide +kernel, by decide +kernel, by decide +kernel⟩
theorem sL_loadOf : Cond.static yL_loadOf ∈ q_W0 := q_W0_mem (List.mem_of_getElem? (i := 655) (by decide +kernel)) (by decide +kernel)
theorem kL_227 : Cond.methodLink RL 227 yL_loadOf ∈ q_W0 := q_W0_mem (List.mem_of_getElem? (i := 654) (by decide +kernel)) (by decide +kernel)
theorem wL_sessionAt : q_cwH yL_sessionAt cL_sessionAt [(0, 5, 6, 68)] mL_sessionAt 2 := ⟨q_W0_mem (List.mem_of_getElem? (i := 922) (by decide +kernel)) (by decide +kernel), q_W0_mem (List.mem_of_getElem? (i := 8) (by decide +kernel)) (by decide +kernel), by decide +kernel, by decide +kernel, by decide +kernel⟩
theorem sL_sessionAt : Cond.static yL_sessionAt ∈ q_W0 := q_W0_mem (List.mem_of_getElem? (i := 921) (by decide +kernel)) (by decide +kernel)
theorem kL_229 : Cond.methodLink RL 229 yL_sessionAt ∈ q_W0 := q_W0_mem (List.mem_of_getElem? (i := 920) (by decide +kernel)) (by decide +kernel)
theorem wL_ranked : q_cw yL_ranked cL_ranked mL_ranked 2 := ⟨q_W0_mem (List.mem_of_getElem? (i := 930) (by decide +kernel)) (by decide +kernel), q_W0_mem (List.mem_of_getElem? (i := 8) (by decide +kernel)) (by decide +kernel), by decide +kernel, by decide +kernel, by decide +kernel⟩
theorem sL_ranked : Cond.static yL_ranked ∈ q_W0 := q_W0_mem (List.mem_of_getElem? (i := 929) (by decide +kernel)) (by decide +kernel)
theorem kL_231 : Cond.methodLink RL 231 yL_ranked ∈ q_W0 := q_W0_mem (List.mem_of_getElem? (i := 928) (by decide +kernel)) (by decide +kernel)
theorem wL_minutesInZone : q_cwH yL_minutesInZone cL_minutesInZone [(0, 6, 7, 28), (0, 6, 11, 15)] mL_minutesInZone 3 := ⟨q_W0_mem (List.mem_of_getElem? (i := 644) (by decide +kernel)) (by decide +kernel), q_W0_mem (List.mem_of_getElem? (i := 8) (by decide +kernel)) (by decide +kernel), by decide +kernel, by decide +kernel, by decide +kernel⟩
theorem sL_minutesInZone : Cond.static yL_minutesInZone ∈ q_W0 := q_W0_mem (List.mem_of_getElem? (i := 643) (by decide +kernel)) (by decide +kernel)
theorem kL_234 : Cond.methodLink RL 234 yL_minutesInZone ∈ q_W0 := q_W0_mem (List.mem_of_getElem? (i := 642) (by decide +kernel)) (by decide +kernel)
theorem wL_weightOf : q_cwH yL_weightOf cL_weightOf [(0, 5, 6, 15)] mL_weightOf 2 := ⟨q_W0_mem (List.mem_of_getElem? (i := 558) (by decide +kernel)) (by decide +kernel), q_W0_mem (List.mem_of_getElem? (i := 8) (by decide +kernel)) (by decide +kernel), by decide +kernel, by decide +kernel, by decide +kernel⟩
theorem sL_weightOf : Cond.static yL_weightOf ∈ q_W0 := q_W0_mem (List.mem_of_getElem? (i := 557) (by decide +kernel)) (by decide +kernel)
theorem kL_236 : Cond.methodLink RL 236 yL_weightOf ∈ q_W0 := q_W0_mem (List.mem_of_getElem? (i := 556) (by decide +kernel)) (by decide +kernel)
theorem wL_boundOf : q_cwH yL_boundOf cL_boundOf [(0, 5, 6, 15)] mL_boundOf 2 := ⟨q_W0_mem (List.mem_of_getElem? (i := 541) (by decide +kernel)) (by decide +kernel), q_W0_mem (List.mem_of_getElem? (i := 8) (by decide +kernel)) (by decide +kernel), by decide +kernel, by decide +kernel, by decide +kernel⟩
theorem sL_boundOf : Cond.static yL_boundOf ∈ q_W0 := q_W0_mem (List.mem_of_getElem? (i := 540) (by decide +kernel)) (by decide +kernel)
theorem kL_238 : Cond.methodLink RL 238 yL_boundOf ∈ q_W0 := q_W0_mem (List.mem_of_getElem? (i := 539) (by decide +kernel)) (by decide +kernel)
theorem wL_zoneShare : q_cwH yL_zoneShare cL_zoneShare [(0, 5, 6, 15), (0, 5, 10, 90)] mL_zoneShare 2 := ⟨q_W0_mem (List.mem_of_getElem? (i := 671) (by decide +kernel)) (by decide +kernel), q_W0_mem (List.mem_of_getElem? (i := 8) (by decide +kernel)) (by decide +kernel), by decide +kernel, by decide +kernel, by decide +kernel⟩
theorem sL_zoneShare : Cond.static yL_zoneShare ∈ q_W0 := q_W0_mem (List.mem_of_getElem? (i := 670) (by decide +kernel)) (by decide +kernel)
theorem kL_240 : Cond.methodLink RL 240 yL_zoneShare ∈ q_W0 := q_W0_mem (List.mem_of_getElem? (i := 669) (by decide +kernel)) (by decide +kernel)
theorem wL_loadOf_ : q_cw yL_loadOf_ cL_loadOf_ mL_loadOf_ 2 := ⟨q_W0_mem (List.mem_of_getElem? (i := 833) (by decide +kernel)) (by decide +kernel), q_W0_mem (List.mem_of_getElem? (i := 8) (by decide +kernel)) (by decide +kernel), by decide +kernel, by decide +kernel, by decide +kernel⟩
theorem sL_loadOf_ : Cond.static yL_loadOf_ ∈ q_W0 := q_W0_mem (List.mem_of_getElem? (i := 832) (by decide +kernel)) (by decide +kernel)
theorem kL_243 : Cond.methodLink RL 243 yL_loadOf_ ∈ q_W0 := q_W0_mem (List.mem_of_getElem? (i := 831) (by decide +kernel)) (by decide +kernel)
theorem wL_dueEntry : q_cwH yL_dueEntry cL_dueEntry [(0, 4, 5, 28)] mL_dueEntry 1 := ⟨q_W0_mem (List.mem_of_getElem? (i := 753) (by decide +kernel)) (by decide +kernel), q_W0_mem (List.mem_of_getElem? (i := 8) (by decide +kernel)) (by decide +kernel), by decide +kernel, by decide +kernel, by decide +kernel⟩
theorem sL_dueEntry : Cond.static yL_dueEntry ∈ q_W0 := q_W0_mem (List.mem_of_getElem? (i := 752) (by decide +kernel)) (by decide +kernel)
theorem kL_245 : Cond.methodLink RL 245 yL_dueEntry ∈ q_W0 := q_W0_mem (List.mem_of_getElem? (i := 751) (by decide +kernel)) (by decide +kernel)
theorem wL_planEnd : q_cwH yL_planEnd cL_planEnd [(0, 4, 5, 28)] mL_planEnd 1 := ⟨q_W0_mem (List.mem_of_getElem? (i := 936) (by decide +kernel)) (by decide +kernel), q_W0_mem (List.mem_of_getElem? (i := 8) (by decide +kernel)) (by decide +kernel), by decide +kernel, by decide +kernel, by decide +kernel⟩
theorem sL_planEnd : Cond.static yL_planEnd ∈ q_W0 := q_W0_mem (List.mem_of_getElem? (i := 935) (by decide +kernel)) (by decide +kernel)
theorem kL_248 : Cond.methodLink RL 248 yL_planEnd ∈ q_W0 := q_W0_mem (List.mem_of_getElem? (i := 934) (by decide +kernel)) (by decide +kernel)
theorem wX9_isPlanOver : q_cw yX9_isPlanOver cX9_isPlanOver mX9_isPlanOver 0 := ⟨q_W0_mem (List.mem_of_getElem? (i := 287) (by decide +kernel)) (by decide +kernel), q_W0_mem (List.mem_of_getElem? (i := 9) (by decide +kernel)) (by decide +kernel), by decide +kernel, by decide +kernel, by decide +kernel⟩
theorem iX9_isPlanOver : Cond.instanceMethod yX9_isPlanOver ∈ q_W0 := q_W0_mem (List.mem_of_getElem? (i := 285) (by decide +kernel)) (by decide +kernel)
theorem eX9_isPlanOver : Cond.selects yX9_isPlanOver.cls yX9_isPlanOver yX9_isPlanOver ∈ q_W0 := q_W0_mem (List.mem_of_getElem? (i := 286) (by decide +kernel)) (by decide +kernel)
theorem kL_250 : Cond.methodLink RL 250 yX9_isPlanOver ∈ q_W0 := q_W0_mem (List.mem_of_getElem? (i := 284) (by decide +kernel)) (by decide +kernel)
theorem wX9_missedDays : q_cw yX9_missedDays cX9_missedDays mX9_missedDays 0 := ⟨q_W0_mem (List.mem_of_getElem? (i := 944) (by decide +kernel)) (by decide +kernel), q_W0_mem (List.mem_of_getElem? (i := 9) (by decide +kernel)) (by decide +kernel), by decide +kernel, by decide +kernel, by decide +kernel⟩
theorem iX9_missedDays : Cond.instanceMethod yX9_missedDays ∈ q_W0 := q_W0_mem (List.mem_of_getElem? (i := 942) (by decide +kernel)) (by decide +kernel)
theorem eX9_missedDays : Cond.selects yX9_missedDays.cls yX9_missedDays yX9_missedDays ∈ q_W0 := q_W0_mem (List.mem_of_getElem? (i := 943) (by decide +kernel)) (by decide +kernel)
theorem kL_254 : Cond.methodLink RL 254 yX9_missedDays ∈ q_W0 := q_W0_mem (List.mem_of_getElem? (i := 941) (by decide +kernel)) (by decide +kernel)
theorem wX9_droppedEntries : q_cw yX9_droppedEntries cX9_droppedEntries mX9_droppedEntries 0 := ⟨q_W0_mem (List.mem_of_getElem? (i := 948) (by decide +kernel)) (by decide +kernel), q_W0_mem (List.mem_of_getElem? (i := 9) (by decide +kernel)) (by decide +kernel), by decide +kernel, by decide +kernel, by decide +kernel⟩
theorem iX9_droppedEntries : Cond.instanceMethod yX9_droppedEntries ∈ q_W0 := q_W0_mem (List.mem_of_getElem? (i := 946) (by decide +kernel)) (by decide +kernel)
theorem eX9_droppedEntries : Cond.selects yX9_droppedEntries.cls yX9_droppedEntries yX9_droppedEntries ∈ q_W0 := q_W0_mem (List.mem_of_getElem? (i := 947) (by decide +kernel)) (by decide +kernel)
theorem kL_257 : Cond.methodLink RL 257 yX9_droppedEntries ∈ q_W0 := q_W0_mem (List.mem_of_getElem? (i := 945) (by decide +kernel)) (by decide +kernel)
theorem wL_targetAt : q_cwH yL_targetAt cL_targetAt [(0, 5, 6, 68)] mL_targetAt 2 := ⟨q_W0_mem (List.mem_of_getElem? (i := 714) (by decide +kernel)) (by decide +kernel), q_W0_mem (List.mem_of_getElem? (i := 8) (by decide +kernel)) (by decide +kernel), by decide +kernel, by decide +kernel, by decide +kernel⟩
theorem sL_targetAt : Cond.static yL_targetAt ∈ q_W0 := q_W0_mem (List.mem_of_getElem? (i := 713) (by decide +kernel)) (by decide +kernel)
theorem kL_260 : Cond.methodLink RL 260 yL_targetAt ∈ q_W0 := q_W0_mem (List.mem_of_getElem? (i := 712) (by decide +kernel)) (by decide +kernel)
theorem wL_writeWeek : q_cwH yL_writeWeek cL_writeWeek [(0, 5, 6, 15)] mL_writeWeek 2 := ⟨q_W0_mem (List.mem_of_getElem? (i := 765) (by decide +kernel)) (by decide +kernel), q_W0_mem (List.mem_of_getElem? (i := 8) (by decide +kernel)) (by decide +kernel), by decide +kernel, by decide +kernel, by decide +kernel⟩
theorem sL_writeWeek : Cond.static yL_writeWeek ∈ q_W0 := q_W0_mem (List.mem_of_getElem? (i := 764) (by decide +kernel)) (by decide +kernel)
theorem kL_262 : Cond.methodLink RL 262 yL_writeWeek ∈ q_W0 := q_W0_mem (List.mem_of_getElem? (i := 763) (by decide +kernel)) (by decide +kernel)
theorem kL_264 : Cond.methodLink RL 264 Lib.Math.max.name ∈ q_W0 := q_W0_mem (List.mem_of_getElem? (i := 952) (by decide +kernel)) (by decide +kernel)
theorem wL_lineAt : q_cwH yL_lineAt cL_lineAt [(0, 5, 6, 68)] mL_lineAt 2 := ⟨q_W0_mem (List.mem_of_getElem? (i := 780) (by decide +kernel)) (by decide +kernel), q_W0_mem (List.mem_of_getElem? (i := 8) (by decide +kernel)) (by decide +kernel), by decide +kernel, by decide +kernel, by decide +kernel⟩
theorem sL_lineAt : Cond.static yL_lineAt ∈ q_W0 := q_W0_mem (List.mem_of_getElem? (i := 779) (by decide +kernel)) (by decide +kernel)
theorem kL_267 : Cond.methodLink RL 267 yL_lineAt ∈ q_W0 := q_W0_mem (List.mem_of_getElem? (i := 778) (by decide +kernel)) (by decide +kernel)
theorem wL_begun : q_cw yL_begun cL_begun mL_begun 0 := ⟨q_W0_mem (List.mem_of_getElem? (i := 821) (by decide +kernel)) (by decide +kernel), q_W0_mem (List.mem_of_getElem? (i := 8) (by decide +kernel)) (by decide +kernel), by decide +kernel, by decide +kernel, by decide +kernel⟩
theorem sL_begun : Cond.static yL_begun ∈ q_W0 := q_W0_mem (List.mem_of_getElem? (i := 820) (by decide +kernel)) (by decide +kernel)
theorem kL_269 : Cond.methodLink RL 269 yL_begun ∈ q_W0 := q_W0_mem (List.mem_of_getElem? (i := 819) (by decide +kernel)) (by decide +kernel)
theorem wX9_init : q_cw yX9_init cX9_init mX9_init 0 := ⟨q_W0_mem (List.mem_of_getElem? (i := 35) (by decide +kernel)) (by decide +kernel), q_W0_mem (List.mem_of_getElem? (i := 9) (by decide +kernel)) (by decide +kernel), by decide +kernel, by decide +kernel, by decide +kernel⟩
theorem iX9_init : Cond.instanceMethod yX9_init ∈ q_W0 := q_W0_mem (List.mem_of_getElem? (i := 34) (by decide +kernel)) (by decide +kernel)
theorem kL_275 : Cond.methodLink RL 275 yX9_init ∈ q_W0 := q_W0_mem (List.mem_of_getElem? (i := 33) (by decide +kernel)) (by decide +kernel)
theorem wL_undo : q_cwH yL_undo cL_undo [(0, 4, 5, 18)] mL_undo 1 := ⟨q_W0_mem (List.mem_of_getElem? (i := 788) (by decide +kernel)) (by decide +kernel), q_W0_mem (List.mem_of_getElem? (i := 8) (by decide +kernel)) (by decide +kernel), by decide +kernel, by decide +kernel, by decide +kernel⟩
theorem sL_undo : Cond.static yL_undo ∈ q_W0 := q_W0_mem (List.mem_of_getElem? (i := 787) (by decide +kernel)) (by decide +kernel)
theorem kL_276 : Cond.methodLink RL 276 yL_undo ∈ q_W0 := q_W0_mem (List.mem_of_getElem? (i := 786) (by decide +kernel)) (by decide +kernel)
theorem wL_restore : q_cwH yL_restore cL_restore [(0, 4, 5, 18)] mL_restore 1 := ⟨q_W0_mem (List.mem_of_getElem? (i := 800) (by decide +kernel)) (by decide +kernel), q_W0_mem (List.mem_of_getElem? (i := 8) (by decide +kernel)) (by decide +kernel), by decide +kernel, by decide +kernel, by decide +kernel⟩
theorem sL_restore : Cond.static yL_restore ∈ q_W0 := q_W0_mem (List.mem_of_getElem? (i := 799) (by decide +kernel)) (by decide +kernel)
theorem kL_278 : Cond.methodLink RL 278 yL_restore ∈ q_W0 := q_W0_mem (List.mem_of_getElem? (i := 798) (by decide +kernel)) (by decide +kernel)
theorem wX9_save : q_cw yX9_save cX9_save mX9_save 0 := ⟨q_W0_mem (List.mem_of_getElem? (i := 318) (by decide +kernel)) (by decide +kernel), q_W0_mem (List.mem_of_getElem? (i := 9) (by decide +kernel)) (by decide +kernel), by decide +kernel, by decide +kernel, by decide +kernel⟩
theorem iX9_save : Cond.instanceMethod yX9_save ∈ q_W0 := q_W0_mem (List.mem_of_getElem? (i := 316) (by decide +kernel)) (by decide +kernel)
theorem eX9_save : Cond.selects yX9_save.cls yX9_save yX9_save ∈ q_W0 := q_W0_mem (List.mem_of_getElem? (i := 317) (by decide +kernel)) (by decide +kernel)
theorem kL_280 : Cond.methodLink RL 280 yX9_save ∈ q_W0 := q_W0_mem (List.mem_of_getElem? (i := 315) (by decide +kernel)) (by decide +kernel)
theorem wL_isDone : q_cw yL_isDone cL_isDone mL_isDone 5 := ⟨q_W0_mem (List.mem_of_getElem? (i := 839) (by decide +kernel)) (by decide +kernel), q_W0_mem (List.mem_of_getElem? (i := 8) (by decide +kernel)) (by decide +kernel), by decide +kernel, by decide +kernel, by decide +kernel⟩
theorem sL_isDone : Cond.static yL_isDone ∈ q_W0 := q_W0_mem (List.mem_of_getElem? (i := 838) (by decide +kernel)) (by decide +kernel)
theorem kL_283 : Cond.methodLink RL 283 yL_isDone ∈ q_W0 := q_W0_mem (List.mem_of_getElem? (i := 837) (by decide +kernel)) (by decide +kernel)
theorem wL_areSessions : q_cw yL_areSessions cL_areSessions mL_areSessions 2 := ⟨q_W0_mem (List.mem_of_getElem? (i := 919) (by decide +kernel)) (by decide +kernel), q_W0_mem (List.mem_of_getElem? (i := 8) (by decide +kernel)) (by decide +kernel), by decide +kernel, by decide +kernel, by decide +kernel⟩
theorem sL_areSessions : Cond.static yL_areSessions ∈ q_W0 := q_W0_mem (List.mem_of_getElem? (i := 918) (by decide +kernel)) (by decide +kernel)
theorem kL_287 : Cond.methodLink RL 287 yL_areSessions ∈ q_W0 := q_W0_mem (List.mem_of_getElem? (i := 917) (by decide +kernel)) (by decide +kernel)
theorem wL_isPlan : q_cw yL_isPlan cL_isPlan mL_isPlan 2 := ⟨q_W0_mem (List.mem_of_getElem? (i := 933) (by decide +kernel)) (by decide +kernel), q_W0_mem (List.mem_of_getElem? (i := 8) (by decide +kernel)) (by decide +kernel), by decide +kernel, by decide +kernel, by decide +kernel⟩
theorem sL_isPlan : Cond.static yL_isPlan ∈ q_W0 := q_W0_mem (List.mem_of_getElem? (i := 932) (by decide +kernel)) (by decide +kernel)
theorem kL_291 : Cond.methodLink RL 291 yL_isPlan ∈ q_W0 := q_W0_mem (List.mem_of_getElem? (i := 931) (by decide +kernel)) (by decide +kernel)
theorem wL_isWeek : q_cw yL_isWeek cL_isWeek mL_isWeek 3 := ⟨q_W0_mem (List.mem_of_getElem? (i := 951) (by decide +kernel)) (by decide +kernel), q_W0_mem (List.mem_of_getElem? (i := 8) (by decide +kernel)) (by decide +kernel), by decide +kernel, by decide +kernel, by decide +kernel⟩
theorem sL_isWeek : Cond.static yL_isWeek ∈ q_W0 := q_W0_mem (List.mem_of_getElem? (i := 950) (by decide +kernel)) (by decide +kernel)
theorem kL_294 : Cond.methodLink RL 294 yL_isWeek ∈ q_W0 := q_W0_mem (List.mem_of_getElem? (i := 949) (by decide +kernel)) (by decide +kernel)
theorem wL_thresholdOn : q_cwH yL_thresholdOn cL_thresholdOn [(0, 5, 6, 15)] mL_thresholdOn 2 := ⟨q_W0_mem (List.mem_of_getElem? (i := 521) (by decide +kernel)) (by decide +kernel), q_W0_mem (List.mem_of_getElem? (i := 8) (by decide +kernel)) (by decide +kernel), by decide +kernel, by decide +kernel, by decide +kernel⟩
theorem sL_thresholdOn : Cond.static yL_thresholdOn ∈ q_W0 := q_W0_mem (List.mem_of_getElem? (i := 520) (by decide +kernel)) (by decide +kernel)
theorem kL_297 : Cond.methodLink RL 297 yL_thresholdOn ∈ q_W0 := q_W0_mem (List.mem_of_getElem? (i := 519) (by decide +kernel)) (by decide +kernel)
theorem wL_zoneOf : q_cwH yL_zoneOf cL_zoneOf [(0, 6, 7, 15)] mL_zoneOf 3 := ⟨q_W0_mem (List.mem_of_getElem? (i := 565) (by decide +kernel)) (by decide +kernel), q_W0_mem (List.mem_of_getElem? (i := 8) (by decide +kernel)) (by decide +kernel), by decide +kernel, by decide +kernel, by decide +kernel⟩
theorem sL_zoneOf : Cond.static yL_zoneOf ∈ q_W0 := q_W0_mem (List.mem_of_getElem? (i := 564) (by decide +kernel)) (by decide +kernel)
theorem kL_299 : Cond.methodLink RL 299 yL_zoneOf ∈ q_W0 := q_W0_mem (List.mem_of_getElem? (i := 563) (by decide +kernel)) (by decide +kernel)
theorem wL_loadOn : q_cwH yL_loadOn cL_loadOn [(0, 5, 6, 15)] mL_loadOn 2 := ⟨q_W0_mem (List.mem_of_getElem? (i := 664) (by decide +kernel)) (by decide +kernel), q_W0_mem (List.mem_of_getElem? (i := 8) (by decide +kernel)) (by decide +kernel), by decide +kernel, by decide +kernel, by decide +kernel⟩
theorem sL_loadOn : Cond.static yL_loadOn ∈ q_W0 := q_W0_mem (List.mem_of_getElem? (i := 663) (by decide +kernel)) (by decide +kernel)
theorem kL_301 : Cond.methodLink RL 301 yL_loadOn ∈ q_W0 := q_W0_mem (List.mem_of_getElem? (i := 662) (by decide +kernel)) (by decide +kernel)
theorem kX0_3 : Cond.methodLink RX0 3 Lib.objectInit ∈ q_W0 := q_W0_mem (List.mem_of_getElem? (i := 233) (by decide +kernel)) (by decide +kernel)
theorem kX1_3 : Cond.methodLink RX1 3 Lib.objectInit ∈ q_W0 := q_W0_mem (List.mem_of_getElem? (i := 196) (by decide +kernel)) (by decide +kernel)
theorem wX5_init : q_cw yX5_init cX5_init mX5_init 0 := ⟨q_W0_mem (List.mem_of_getElem? (i := 43) (by decide +kernel)) (by decide +kernel), q_W0_mem (List.mem_of_getElem? (i := 10) (by decide +kernel)) (by decide +kernel), by decide +kernel, by decide +kernel, by decide +kernel⟩
theorem iX5_init : Cond.instanceMethod yX5_init ∈ q_W0 := q_W0_mem (List.mem_of_getElem? (i := 42) (by decide +kernel)) (by decide +kernel)
theorem knX1_24 : Cond.methodLinkNest RX1 24 yX5_init "TrainingDiary" ∈ q_nw := by decide +kernel
theorem wX5_copyFrom : q_cw yX5_copyFrom cX5_copyFrom mX5_copyFrom 1 := ⟨q_W0_mem (List.mem_of_getElem? (i := 322) (by decide +kernel)) (by decide +kernel), q_W0_mem (List.mem_of_getElem? (i := 10) (by decide +kernel)) (by decide +kernel), by decide +kernel, by decide +kernel, by decide +kernel⟩
theorem iX5_copyFrom : Cond.instanceMethod yX5_copyFrom ∈ q_W0 := q_W0_mem (List.mem_of_getElem? (i := 320) (by decide +kernel)) (by decide +kernel)
theorem eX5_copyFrom : Cond.selects yX5_copyFrom.cls yX5_copyFrom yX5_copyFrom ∈ q_W0 := q_W0_mem (List.mem_of_getElem? (i := 321) (by decide +kernel)) (by decide +kernel)
theorem kX1_25 : Cond.methodLink RX1 25 yX5_copyFrom ∈ q_W0 := q_W0_mem (List.mem_of_getElem? (i := 452) (by decide +kernel)) (by decide +kernel)
theorem kX1_29 : Cond.methodLink RX1 29 Lib.Math.min.name ∈ q_W0 := q_W0_mem (List.mem_of_getElem? (i := 453) (by decide +kernel)) (by decide +kernel)
theorem kX2_3 : Cond.methodLink RX2 3 Lib.objectInit ∈ q_W0 := q_W0_mem (List.mem_of_getElem? (i := 149) (by decide +kernel)) (by decide +kernel)
theorem kX2_26 : Cond.methodLink RX2 26 arraycopyName ∈ q_W0 := q_W0_mem (List.mem_of_getElem? (i := 348) (by decide +kernel)) (by decide +kernel)
theorem kX3_3 : Cond.methodLink RX3 3 Lib.objectInit ∈ q_W0 := q_W0_mem (List.mem_of_getElem? (i := 103) (by decide +kernel)) (by decide +kernel)
theorem kX3_28 : Cond.methodLink RX3 28 arraycopyName ∈ q_W0 := q_W0_mem (List.mem_of_getElem? (i := 343) (by decide +kernel)) (by decide +kernel)
theorem kX4_3 : Cond.methodLink RX4 3 Lib.objectInit ∈ q_W0 := q_W0_mem (List.mem_of_getElem? (i := 96) (by decide +kernel)) (by decide +kernel)
theorem wX3_init : q_cw yX3_init cX3_init mX3_init 0 := ⟨q_W0_mem (List.mem_of_getElem? (i := 102) (by decide +kernel)) (by decide +kernel), q_W0_mem (List.mem_of_getElem? (i := 14) (by decide +kernel)) (by decide +kernel), by decide +kernel, by decide +kernel, by decide +kernel⟩
theorem iX3_init : Cond.instanceMethod yX3_init ∈ q_W0 := q_W0_mem (List.mem_of_getElem? (i := 101) (by decide +kernel)) (by decide +kernel)
theorem knX4_24 : Cond.methodLinkNest RX4 24 yX3_init "TrainingDiary" ∈ q_nw := by decide +kernel
theorem wX3_copyFrom : q_cw yX3_copyFrom cX3_copyFrom mX3_copyFrom 1 := ⟨q_W0_mem (List.mem_of_getElem? (i := 342) (by decide +kernel)) (by decide +kernel), q_W0_mem (List.mem_of_getElem? (i := 14) (by decide +kernel)) (by decide +kernel), by decide +kernel, by decide +kernel, by decide +kernel⟩
theorem iX3_copyFrom : Cond.instanceMethod yX3_copyFrom ∈ q_W0 := q_W0_mem (List.mem_of_getElem? (i := 340) (by decide +kernel)) (by decide +kernel)
theorem eX3_copyFrom : Cond.selects yX3_copyFrom.cls yX3_copyFrom yX3_copyFrom ∈ q_W0 := q_W0_mem (List.mem_of_getElem? (i := 341) (by decide +kernel)) (by decide +kernel)
theorem kX4_25 : Cond.methodLink RX4 25 yX3_copyFrom ∈ q_W0 := q_W0_mem (List.mem_of_getElem? (i := 339) (by decide +kernel)) (by decide +kernel)
theorem wX4_settle : q_cw yX4_settle cX4_settle mX4_settle 1 := ⟨q_W0_mem (List.mem_of_getElem? (i := 586) (by decide +kernel)) (by decide +kernel), q_W0_mem (List.mem_of_getElem? (i := 13) (by decide +kernel)) (by decide +kernel), by decide +kernel, by decide +kernel, by decide +kernel⟩
theorem iX4_settle : Cond.instanceMethod yX4_settle ∈ q_W0 := q_W0_mem (List.mem_of_getElem? (i := 585) (by decide +kernel)) (by decide +kernel)
theorem eX4_settle : Cond.selects yX4_settle.cls yX4_settle yX4_settle ∈ q_W0 := q_W0_mem (List.mem_of_getElem? (i := 3) (by decide +kernel)) (by decide +kernel)
theorem kX4_42 : Cond.methodLink RX4 42 yX4_settle ∈ q_W0 := q_W0_mem (List.mem_of_getElem? (i := 583) (by decide +kernel)) (by decide +kernel)
theorem wX3_comesBefore : q_cw yX3_comesBefore cX3_comesBefore mX3_comesBefore 1 := ⟨q_W0_mem (List.mem_of_getElem? (i := 590) (by decide +kernel)) (by decide +kernel), q_W0_mem (List.mem_of_getElem? (i := 14) (by decide +kernel)) (by decide +kernel), by decide +kernel, by decide +kernel, by decide +kernel⟩
theorem iX3_comesBefore : Cond.instanceMethod yX3_comesBefore ∈ q_W0 := q_W0_mem (List.mem_of_getElem? (i := 588) (by decide +kernel)) (by decide +kernel)
theorem eX3_comesBefore : Cond.selects yX3_comesBefore.cls yX3_comesBefore yX3_comesBefore ∈ q_W0 := q_W0_mem (List.mem_of_getElem? (i := 589) (by decide +kernel)) (by decide +kernel)
theorem kX4_46 : Cond.methodLink RX4 46 yX3_comesBefore ∈ q_W0 := q_W0_mem (List.mem_of_getElem? (i := 587) (by decide +kernel)) (by decide +kernel)
theorem kX5_1 : Cond.methodLink RX5 1 Lib.objectInit ∈ q_W0 := q_W0_mem (List.mem_of_getElem? (i := 44) (by decide +kernel)) (by decide +kernel)
theorem wX6_init : q_cw yX6_init cX6_init mX6_init 0 := ⟨q_W0_mem (List.mem_of_getElem? (i := 49) (by decide +kernel)) (by decide +kernel), q_W0_mem (List.mem_of_getElem? (i := 11) (by decide +kernel)) (by decide +kernel), by decide +kernel, by decide +kernel, by decide +kernel⟩
theorem iX6_init : Cond.instanceMethod yX6_init ∈ q_W0 := q_W0_mem (List.mem_of_getElem? (i := 48) (by decide +kernel)) (by decide +kernel)
theorem knX5_15 : Cond.methodLinkNest RX5 15 yX6_init "TrainingDiary" ∈ q_nw := by decide +kernel
theorem wX8_init : q_cw yX8_init cX8_init mX8_init 0 := ⟨q_W0_mem (List.mem_of_getElem? (i := 68) (by decide +kernel)) (by decide +kernel), q_W0_mem (List.mem_of_getElem? (i := 12) (by decide +kernel)) (by decide +kernel), by decide +kernel, by decide +kernel, by decide +kernel⟩
theorem iX8_init : Cond.instanceMethod yX8_init ∈ q_W0 := q_W0_mem (List.mem_of_getElem? (i := 67) (by decide +kernel)) (by decide +kernel)
theorem knX5_22 : Cond.methodLinkNest RX5 22 yX8_init "TrainingDiary" ∈ q_nw := by decide +kernel
theorem wX4_init : q_cw yX4_init cX4_init mX4_init 0 := ⟨q_W0_mem (List.mem_of_getElem? (i := 95) (by decide +kernel)) (by decide +kernel), q_W0_mem (List.mem_of_getElem? (i := 13) (by decide +kernel)) (by decide +kernel), by decide +kernel, by decide +kernel, by decide +kernel⟩
theorem iX4_init : Cond.instanceMethod yX4_init ∈ q_W0 := q_W0_mem (List.mem_of_getElem? (i := 94) (by decide +kernel)) (by decide +kernel)
theorem kX5_29 : Cond.methodLink RX5 29 yX4_init ∈ q_W0 := q_W0_mem (List.mem_of_getElem? (i := 93) (by decide +kernel)) (by decide +kernel)
theorem wX2_init : q_cw yX2_init cX2_init mX2_init 0 := ⟨q_W0_mem (List.mem_of_getElem? (i := 148) (by decide +kernel)) (by decide +kernel), q_W0_mem (List.mem_of_getElem? (i := 15) (by decide +kernel)) (by decide +kernel), by decide +kernel, by decide +kernel, by decide +kernel⟩
theorem iX2_init : Cond.instanceMethod yX2_init ∈ q_W0 := q_W0_mem (List.mem_of_getElem? (i := 147) (by decide +kernel)) (by decide +kernel)
theorem knX5_36 : Cond.methodLinkNest RX5 36 yX2_init "TrainingDiary" ∈ q_nw := by decide +kernel
theorem wX6_copyFrom : q_cw yX6_copyFrom cX6_copyFrom mX6_copyFrom 1 := ⟨q_W0_mem (List.mem_of_getElem? (i := 326) (by decide +kernel)) (by decide +kernel), q_W0_mem (List.mem_of_getElem? (i := 11) (by decide +kernel)) (by decide +kernel), by decide +kernel, by decide +kernel, by decide +kernel⟩
theorem iX6_copyFrom : Cond.instanceMethod yX6_copyFrom ∈ q_W0 := q_W0_mem (List.mem_of_getElem? (i := 324) (by decide +kernel)) (by decide +kernel)
theorem eX6_copyFrom : Cond.selects yX6_copyFrom.cls yX6_copyFrom yX6_copyFrom ∈ q_W0 := q_W0_mem (List.mem_of_getElem? (i := 325) (by decide +kernel)) (by decide +kernel)
theorem kX5_41 : Cond.methodLink RX5 41 yX6_copyFrom ∈ q_W0 := q_W0_mem (List.mem_of_getElem? (i := 323) (by decide +kernel)) (by decide +kernel)
theorem wX8_copyFrom : q_cw yX8_copyFrom cX8_copyFrom mX8_copyFrom 1 := ⟨q_W0_mem (List.mem_of_getElem? (i := 333) (by decide +kernel)) (by decide +kernel), q_W0_mem (List.mem_of_getElem? (i := 12) (by decide +kernel)) (by decide +kernel), by decide +kernel, by decide +kernel, by decide +kernel⟩
theorem iX8_copyFrom : Cond.instanceMethod yX8_copyFrom ∈ q_W0 := q_W0_mem (List.mem_of_getElem? (i := 331) (by decide +kernel)) (by decide +kernel)
theorem eX8_copyFrom : Cond.selects yX8_copyFrom.cls yX8_copyFrom yX8_copyFrom ∈ q_W0 := q_W0_mem (List.mem_of_getElem? (i := 332) (by decide +kernel)) (by decide +kernel)
theorem kX5_45 : Cond.methodLink RX5 45 yX8_copyFrom ∈ q_W0 := q_W0_mem (List.mem_of_getElem? (i := 330) (by decide +kernel)) (by decide +kernel)
theorem wX4_copyFrom : q_cw yX4_copyFrom cX4_copyFrom mX4_copyFrom 1 := ⟨q_W0_mem (List.mem_of_getElem? (i := 338) (by decide +kernel)) (by decide +kernel), q_W0_mem (List.mem_of_getElem? (i := 13) (by decide +kernel)) (by decide +kernel), by decide +kernel, by decide +kernel, by decide +kernel⟩
theorem iX4_copyFrom : Cond.instanceMethod yX4_copyFrom ∈ q_W0 := q_W0_mem (List.mem_of_getElem? (i := 336) (by decide +kernel)) (by decide +kernel)
theorem eX4_copyFrom : Cond.selects yX4_copyFrom.cls yX4_copyFrom yX4_copyFrom ∈ q_W0 := q_W0_mem (List.mem_of_getElem? (i := 337) (by decide +kernel)) (by decide +kernel)
theorem kX5_48 : Cond.methodLink RX5 48 yX4_copyFrom ∈ q_W0 := q_W0_mem (List.mem_of_getElem? (i := 335) (by decide +kernel)) (by decide +kernel)
theorem wX2_copyFrom : q_cw yX2_copyFrom cX2_copyFrom mX2_copyFrom 1 := ⟨q_W0_mem (List.mem_of_getElem? (i := 347) (by decide +kernel)) (by decide +kernel), q_W0_mem (List.mem_of_getElem? (i := 15) (by decide +kernel)) (by decide +kernel), by decide +kernel, by decide +kernel, by decide +kernel⟩
theorem iX2_copyFrom : Cond.instanceMethod yX2_copyFrom ∈ q_W0 := q_W0_mem (List.mem_of_getElem? (i := 345) (by decide +kernel)) (by decide +kernel)
theorem eX2_copyFrom : Cond.selects yX2_copyFrom.cls yX2_copyFrom yX2_copyFrom ∈ q_W0 := q_W0_mem (List.mem_of_getElem? (i := 346) (by decide +kernel)) (by decide +kernel)
theorem kX5_51 : Cond.methodLink RX5 51 yX2_copyFrom ∈ q_W0 := q_W0_mem (List.mem_of_getElem? (i := 344) (by decide +kernel)) (by decide +kernel)
theorem wX6_thresholdInForce : q_cw yX6_thresholdInForce cX6_thresholdInForce mX6_thresholdInForce 1 := ⟨q_W0_mem (List.mem_of_getElem? (i := 306) (by decide +kernel)) (by decide +kernel), q_W0_mem (List.mem_of_getElem? (i := 11) (by decide +kernel)) (by decide +kernel), by decide +kernel, by decide +kernel, by decide +kernel⟩
theorem iX6_thresholdInForce : Cond.instanceMethod yX6_thresholdInForce ∈ q_W0 := q_W0_mem (List.mem_of_getElem? (i := 304) (by decide +kernel)) (by decide +kernel)
theorem eX6_thresholdInForce : Cond.selects yX6_thresholdInForce.cls yX6_thresholdInForce yX6_thresholdInForce ∈ q_W0 := q_W0_mem (List.mem_of_getElem? (i := 305) (by decide +kernel)) (by decide +kernel)
theorem kX5_59 : Cond.methodLink RX5 59 yX6_thresholdInForce ∈ q_W0 := q_W0_mem (List.mem_of_getElem? (i := 303) (by decide +kernel)) (by decide +kernel)
theorem wX8_zoneFor : q_cw yX8_zoneFor cX8_zoneFor mX8_zoneFor 2 := ⟨q_W0_mem (List.mem_of_getElem? (i := 310) (by decide +kernel)) (by decide +kernel), q_W0_mem (List.mem_of_getElem? (i := 12) (by decide +kernel)) (by decide +kernel), by decide +kernel, by decide +kernel, by decide +kernel⟩
theorem iX8_zoneFor : Cond.instanceMethod yX8_zoneFor ∈ q_W0 := q_W0_mem (List.mem_of_getElem? (i := 308) (by decide +kernel)) (by decide +kernel)
theorem eX8_zoneFor : Cond.selects yX8_zoneFor.cls yX8_zoneFor yX8_zoneFor ∈ q_W0 := q_W0_mem (List.mem_of_getElem? (i := 309) (by decide +kernel)) (by decide +kernel)
theorem kX5_70 : Cond.methodLink RX5 70 yX8_zoneFor ∈ q_W0 := q_W0_mem (List.mem_of_getElem? (i := 307) (by decide +kernel)) (by decide +kernel)
theorem wX5_sessionLoad : q_cw yX5_sessionLoad cX5_sessionLoad mX5_sessionLoad 1 := ⟨q_W0_mem (List.mem_of_getElem? (i := 302) (by decide +kernel)) (by decide +kernel), q_W0_mem (List.mem_of_getElem? (i := 10) (by decide +kernel)) (by decide +kernel), by decide +kernel, by decide +kernel, by decide +kernel⟩
theorem iX5_sessionLoad : Cond.instanceMethod yX5_sessionLoad ∈ q_W0 := q_W0_mem (List.mem_of_getElem? (i := 300) (by decide +kernel)) (by decide +kernel)
theorem eX5_sessionLoad : Cond.selects yX5_sessionLoad.cls yX5_sessionLoad yX5_sessionLoad ∈ q_W0 := q_W0_mem (List.mem_of_getElem? (i := 301) (by decide +kernel)) (by decide +kernel)
theorem kX5_87 : Cond.methodLink RX5 87 yX5_sessionLoad ∈ q_W0 := q_W0_mem (List.mem_of_getElem? (i := 299) (by decide +kernel)) (by decide +kernel)
theorem wX9_clear : q_cw yX9_clear cX9_clear mX9_clear 1 := ⟨q_W0_mem (List.mem_of_getElem? (i := 298) (by decide +kernel)) (by decide +kernel), q_W0_mem (List.mem_of_getElem? (i := 9) (by decide +kernel)) (by decide +kernel), by decide +kernel, by decide +kernel, by decide +kernel⟩
theorem sX9_clear : Cond.static yX9_clear ∈ q_W0 := q_W0_mem (List.mem_of_getElem? (i := 297) (by decide +kernel)) (by decide +kernel)
theorem knX5_91 : Cond.methodLinkNest RX5 91 yX9_clear "TrainingDiary" ∈ q_nw := by decide +kernel
theorem kX6_3 : Cond.methodLink RX6 3 Lib.objectInit ∈ q_W0 := q_W0_mem (List.mem_of_getElem? (i := 50) (by decide +kernel)) (by decide +kernel)
theorem kX6_22 : Cond.methodLink RX6 22 arraycopyName ∈ q_W0 := q_W0_mem (List.mem_of_getElem? (i := 327) (by decide +kernel)) (by decide +kernel)
theorem kX7_3 : Cond.methodLink RX7 3 Lib.objectInit ∈ q_W0 := q_W0_mem (List.mem_of_getElem? (i := 216) (by decide +kernel)) (by decide +kernel)
theorem kX7_22 : Cond.methodLink RX7 22 Lib.Math.min.name ∈ q_W0 := q_W0_mem (List.mem_of_getElem? (i := 486) (by decide +kernel)) (by decide +kernel)
theorem kX8_3 : Cond.methodLink RX8 3 Lib.objectInit ∈ q_W0 := q_W0_mem (List.mem_of_getElem? (i := 69) (by decide +kernel)) (by decide +kernel)
theorem kX8_29 : Cond.methodLink RX8 29 arraycopyName ∈ q_W0 := q_W0_mem (List.mem_of_getElem? (i := 334) (by decide +kernel)) (by decide +kernel)
theorem kX9_3 : Cond.methodLink RX9 3 Lib.objectInit ∈ q_W0 := q_W0_mem (List.mem_of_getElem? (i := 36) (by decide +kernel)) (by decide +kernel)
theorem knX9_11 : Cond.methodLinkNest RX9 11 yX5_init "TrainingDiary" ∈ q_nw := by decide +kernel
theorem wX1_init : q_cw yX1_init cX1_init mX1_init 0 := ⟨q_W0_mem (List.mem_of_getElem? (i := 195) (by decide +kernel)) (by decide +kernel), q_W0_mem (List.mem_of_getElem? (i := 16) (by decide +kernel)) (by decide +kernel), by decide +kernel, by decide +kernel, by decide +kernel⟩
theorem iX1_init : Cond.instanceMethod yX1_init ∈ q_W0 := q_W0_mem (List.mem_of_getElem? (i := 194) (by decide +kernel)) (by decide +kernel)
theorem kX9_18 : Cond.methodLink RX9 18 yX1_init ∈ q_W0 := q_W0_mem (List.mem_of_getElem? (i := 193) (by decide +kernel)) (by decide +kernel)
theorem wX7_init : q_cw yX7_init cX7_init mX7_init 0 := ⟨q_W0_mem (List.mem_of_getElem? (i := 215) (by decide +kernel)) (by decide +kernel), q_W0_mem (List.mem_of_getElem? (i := 17) (by decide +kernel)) (by decide +kernel), by decide +kernel, by decide +kernel, by decide +kernel⟩
theorem iX7_init : Cond.instanceMethod yX7_init ∈ q_W0 := q_W0_mem (List.mem_of_getElem? (i := 214) (by decide +kernel)) (by decide +kernel)
theorem knX9_40 : Cond.methodLinkNest RX9 40 yX7_init "TrainingDiary" ∈ q_nw := by decide +kernel
theorem wX0_init : q_cw yX0_init cX0_init mX0_init 0 := ⟨q_W0_mem (List.mem_of_getElem? (i := 232) (by decide +kernel)) (by decide +kernel), q_W0_mem (List.mem_of_getElem? (i := 18) (by decide +kernel)) (by decide +kernel), by decide +kernel, by decide +kernel, by decide +kernel⟩
theorem iX0_init : Cond.instanceMethod yX0_init ∈ q_W0 := q_W0_mem (List.mem_of_getElem? (i := 231) (by decide +kernel)) (by decide +kernel)
theorem knX9_47 : Cond.methodLinkNest RX9 47 yX0_init "TrainingDiary" ∈ q_nw := by decide +kernel
theorem wX9_requireRange : q_cw yX9_requireRange cX9_requireRange mX9_requireRange 3 := ⟨q_W0_mem (List.mem_of_getElem? (i := 360) (by decide +kernel)) (by decide +kernel), q_W0_mem (List.mem_of_getElem? (i := 9) (by decide +kernel)) (by decide +kernel), by decide +kernel, by decide +kernel, by decide +kernel⟩
theorem sX9_requireRange : Cond.static yX9_requireRange ∈ q_W0 := q_W0_mem (List.mem_of_getElem? (i := 359) (by decide +kernel)) (by decide +kernel)
theorem kX9_65 : Cond.methodLink RX9 65 yX9_requireRange ∈ q_W0 := q_W0_mem (List.mem_of_getElem? (i := 358) (by decide +kernel)) (by decide +kernel)
theorem wX1_keep : q_cw yX1_keep cX1_keep mX1_keep 1 := ⟨q_W0_mem (List.mem_of_getElem? (i := 451) (by decide +kernel)) (by decide +kernel), q_W0_mem (List.mem_of_getElem? (i := 16) (by decide +kernel)) (by decide +kernel), by decide +kernel, by decide +kernel, by decide +kernel⟩
theorem iX1_keep : Cond.instanceMethod yX1_keep ∈ q_W0 := q_W0_mem (List.mem_of_getElem? (i := 449) (by decide +kernel)) (by decide +kernel)
theorem eX1_keep : Cond.selects yX1_keep.cls yX1_keep yX1_keep ∈ q_W0 := q_W0_mem (List.mem_of_getElem? (i := 450) (by decide +kernel)) (by decide +kernel)
theorem kX9_79 : Cond.methodLink RX9 79 yX1_keep ∈ q_W0 := q_W0_mem (List.mem_of_getElem? (i := 448) (by decide +kernel)) (by decide +kernel)
theorem wX9_requireDayUpToToday : q_cw yX9_requireDayUpToToday cX9_requireDayUpToToday mX9_requireDayUpToToday 1 := ⟨q_W0_mem (List.mem_of_getElem? (i := 468) (by decide +kernel)) (by decide +kernel), q_W0_mem (List.mem_of_getElem? (i := 9) (by decide +kernel)) (by decide +kernel), by decide +kernel, by decide +kernel, by decide +kernel⟩
theorem iX9_requireDayUpToToday : Cond.instanceMethod yX9_requireDayUpToToday ∈ q_W0 := q_W0_mem (List.mem_of_getElem? (i := 467) (by decide +kernel)) (by decide +kernel)
theorem eX9_requireDayUpToToday : Cond.selects yX9_requireDayUpToToday.cls yX9_requireDayUpToToday yX9_requireDayUpToToday ∈ q_W0 := q_W0_mem (List.mem_of_getElem? (i := 2) (by decide +kernel)) (by decide +kernel)
theorem kX9_83 : Cond.methodLink RX9 83 yX9_requireDayUpToToday ∈ q_W0 := q_W0_mem (List.mem_of_getElem? (i := 465) (by decide +kernel)) (by decide +kernel)
theorem wX6_positionOn : q_cw yX6_positionOn cX6_positionOn mX6_positionOn 1 := ⟨q_W0_mem (List.mem_of_getElem? (i := 472) (by decide +kernel)) (by decide +kernel), q_W0_mem (List.mem_of_getElem? (i := 11) (by decide +kernel)) (by decide +kernel), by decide +kernel, by decide +kernel, by decide +kernel⟩
theorem iX6_positionOn : Cond.instanceMethod yX6_positionOn ∈ q_W0 := q_W0_mem (List.mem_of_getElem? (i := 470) (by decide +kernel)) (by decide +kernel)
theorem eX6_positionOn : Cond.selects yX6_positionOn.cls yX6_positionOn yX6_positionOn ∈ q_W0 := q_W0_mem (List.mem_of_getElem? (i := 471) (by decide +kernel)) (by decide +kernel)
theorem kX9_96 : Cond.methodLink RX9 96 yX6_positionOn ∈ q_W0 := q_W0_mem (List.mem_of_getElem? (i := 469) (by decide +kernel)) (by decide +kernel)
theorem wX5_fillSessionLoads : q_cw yX5_fillSessionLoads cX5_fillSessionLoads mX5_fillSessionLoads 1 := ⟨q_W0_mem (List.mem_of_getElem? (i := 477) (by decide +kernel)) (by decide +kernel), q_W0_mem (List.mem_of_getElem? (i := 10) (by decide +kernel)) (by decide +kernel), by decide +kernel, by decide +kernel, by decide +kernel⟩
theorem iX5_fillSessionLoads : Cond.instanceMethod yX5_fillSessionLoads ∈ q_W0 := q_W0_mem (List.mem_of_getElem? (i := 475) (by decide +kernel)) (by decide +kernel)
theorem eX5_fillSessionLoads : Cond.selects yX5_fillSessionLoads.cls yX5_fillSessionLoads yX5_fillSessionLoads ∈ q_W0 := q_W0_mem (List.mem_of_getElem? (i := 476) (by decide +kernel)) (by decide +kernel)
theorem kX9_102 : Cond.methodLink RX9 102 yX5_fillSessionLoads ∈ q_W0 := q_W0_mem (List.mem_of_getElem? (i := 474) (by decide +kernel)) (by decide +kernel)
theorem wX6_append : q_cw yX6_append cX6_append mX6_append 2 := ⟨q_W0_mem (List.mem_of_getElem? (i := 481) (by decide +kernel)) (by decide +kernel), q_W0_mem (List.mem_of_getElem? (i := 11) (by decide +kernel)) (by decide +kernel), by decide +kernel, by decide +kernel, by decide +kernel⟩
theorem iX6_append : Cond.instanceMethod yX6_append ∈ q_W0 := q_W0_mem (List.mem_of_getElem? (i := 479) (by decide +kernel)) (by decide +kernel)
theorem eX6_append : Cond.selects yX6_append.cls yX6_append yX6_append ∈ q_W0 := q_W0_mem (List.mem_of_getElem? (i := 480) (by decide +kernel)) (by decide +kernel)
theorem kX9_106 : Cond.methodLink RX9 106 yX6_append ∈ q_W0 := q_W0_mem (List.mem_of_getElem? (i := 478) (by decide +kernel)) (by decide +kernel)
theorem wX7_forgetFrom : q_cw yX7_forgetFrom cX7_forgetFrom mX7_forgetFrom 1 := ⟨q_W0_mem (List.mem_of_getElem? (i := 485) (by decide +kernel)) (by decide +kernel), q_W0_mem (List.mem_of_getElem? (i := 17) (by decide +kernel)) (by decide +kernel), by decide +kernel, by decide +kernel, by decide +kernel⟩
theorem iX7_forgetFrom : Cond.instanceMethod yX7_forgetFrom ∈ q_W0 := q_W0_mem (List.mem_of_getElem? (i := 483) (by decide +kernel)) (by decide +kernel)
theorem eX7_forgetFrom : Cond.selects yX7_forgetFrom.cls yX7_forgetFrom yX7_forgetFrom ∈ q_W0 := q_W0_mem (List.mem_of_getElem? (i := 484) (by decide +kernel)) (by decide +kernel)
theorem kX9_110 : Cond.methodLink RX9 110 yX7_forgetFrom ∈ q_W0 := q_W0_mem (List.mem_of_getElem? (i := 482) (by decide +kernel)) (by decide +kernel)
theorem wX5_countChangedLoads : q_cw yX5_countChangedLoads cX5_countChangedLoads mX5_countChangedLoads 1 := ⟨q_W0_mem (List.mem_of_getElem? (i := 490) (by decide +kernel)) (by decide +kernel), q_W0_mem (List.mem_of_getElem? (i := 10) (by decide +kernel)) (by decide +kernel), by decide +kernel, by decide +kernel, by decide +kernel⟩
theorem iX5_countChangedLoads : Cond.instanceMethod yX5_countChangedLoads ∈ q_W0 := q_W0_mem (List.mem_of_getElem? (i := 488) (by decide +kernel)) (by decide +kernel)
theorem eX5_countChangedLoads : Cond.selects yX5_countChangedLoads.cls yX5_countChangedLoads yX5_countChangedLoads ∈ q_W0 := q_W0_mem (List.mem_of_getElem? (i := 489) (by decide +kernel)) (by decide +kernel)
theorem kX9_113 : Cond.methodLink RX9 113 yX5_countChangedLoads ∈ q_W0 := q_W0_mem (List.mem_of_getElem? (i := 487) (by decide +kernel)) (by decide +kernel)
theorem wX6_removeAt : q_cw yX6_removeAt cX6_removeAt mX6_removeAt 1 := ⟨q_W0_mem (List.mem_of_getElem? (i := 518) (by decide +kernel)) (by decide +kernel), q_W0_mem (List.mem_of_getElem? (i := 11) (by decide +kernel)) (by decide +kernel), by decide +kernel, by decide +kernel, by decide +kernel⟩
theorem iX6_removeAt : Cond.instanceMethod yX6_removeAt ∈ q_W0 := q_W0_mem (List.mem_of_getElem? (i := 516) (by decide +kernel)) (by decide +kernel)
theorem eX6_removeAt : Cond.selects yX6_removeAt.cls yX6_removeAt yX6_removeAt ∈ q_W0 := q_W0_mem (List.mem_of_getElem? (i := 517) (by decide +kernel)) (by decide +kernel)
theorem kX9_125 : Cond.methodLink RX9 125 yX6_removeAt ∈ q_W0 := q_W0_mem (List.mem_of_getElem? (i := 515) (by decide +kernel)) (by decide +kernel)
theorem kX9_128 : Cond.methodLink RX9 128 yX6_thresholdInForce ∈ q_W0 := q_W0_mem (List.mem_of_getElem? (i := 526) (by decide +kernel)) (by decide +kernel)
theorem wX8_boundsWouldIncrease : q_cw yX8_boundsWouldIncrease cX8_boundsWouldIncrease mX8_boundsWouldIncrease 2 := ⟨q_W0_mem (List.mem_of_getElem? (i := 537) (by decide +kernel)) (by decide +kernel), q_W0_mem (List.mem_of_getElem? (i := 12) (by decide +kernel)) (by decide +kernel), by decide +kernel, by decide +kernel, by decide +kernel⟩
theorem iX8_boundsWouldIncrease : Cond.instanceMethod yX8_boundsWouldIncrease ∈ q_W0 := q_W0_mem (List.mem_of_getElem? (i := 535) (by decide +kernel)) (by decide +kernel)
theorem eX8_boundsWouldIncrease : Cond.selects yX8_boundsWouldIncrease.cls yX8_boundsWouldIncrease yX8_boundsWouldIncrease ∈ q_W0 := q_W0_mem (List.mem_of_getElem? (i := 536) (by decide +kernel)) (by decide +kernel)
theorem kX9_135 : Cond.methodLink RX9 135 yX8_boundsWouldIncrease ∈ q_W0 := q_W0_mem (List.mem_of_getElem? (i := 534) (by decide +kernel)) (by decide +kernel)
theorem wX9_requireZone : q_cw yX9_requireZone cX9_requireZone mX9_requireZone 1 := ⟨q_W0_mem (List.mem_of_getElem? (i := 555) (by decide +kernel)) (by decide +kernel), q_W0_mem (List.mem_of_getElem? (i := 9) (by decide +kernel)) (by decide +kernel), by decide +kernel, by decide +kernel, by decide +kernel⟩
theorem sX9_requireZone : Cond.static yX9_requireZone ∈ q_W0 := q_W0_mem (List.mem_of_getElem? (i := 554) (by decide +kernel)) (by decide +kernel)
theorem kX9_146 : Cond.methodLink RX9 146 yX9_requireZone ∈ q_W0 := q_W0_mem (List.mem_of_getElem? (i := 553) (by decide +kernel)) (by decide +kernel)
theorem kX9_152 : Cond.methodLink RX9 152 yX8_zoneFor ∈ q_W0 := q_W0_mem (List.mem_of_getElem? (i := 570) (by decide +kernel)) (by decide +kernel)
theorem wX4_add : q_cw yX4_add cX4_add mX4_add 1 := ⟨q_W0_mem (List.mem_of_getElem? (i := 582) (by decide +kernel)) (by decide +kernel), q_W0_mem (List.mem_of_getElem? (i := 13) (by decide +kernel)) (by decide +kernel), by decide +kernel, by decide +kernel, by decide +kernel⟩
theorem iX4_add : Cond.instanceMethod yX4_add ∈ q_W0 := q_W0_mem (List.mem_of_getElem? (i := 580) (by decide +kernel)) (by decide +kernel)
theorem eX4_add : Cond.selects yX4_add.cls yX4_add yX4_add ∈ q_W0 := q_W0_mem (List.mem_of_getElem? (i := 581) (by decide +kernel)) (by decide +kernel)
theorem kX9_165 : Cond.methodLink RX9 165 yX4_add ∈ q_W0 := q_W0_mem (List.mem_of_getElem? (i := 579) (by decide +kernel)) (by decide +kernel)
theorem wX9_existingSession : q_cw yX9_existingSession cX9_existingSession mX9_existingSession 1 := ⟨q_W0_mem (List.mem_of_getElem? (i := 601) (by decide +kernel)) (by decide +kernel), q_W0_mem (List.mem_of_getElem? (i := 9) (by decide +kernel)) (by decide +kernel), by decide +kernel, by decide +kernel, by decide +kernel⟩
theorem iX9_existingSession : Cond.instanceMethod yX9_existingSession ∈ q_W0 := q_W0_mem (List.mem_of_getElem? (i := 600) (by decide +kernel)) (by decide +kernel)
theorem eX9_existingSession : Cond.selects yX9_existingSession.cls yX9_existingSession yX9_existingSession ∈ q_W0 := q_W0_mem (List.mem_of_getElem? (i := 4) (by decide +kernel)) (by decide +kernel)
theorem kX9_168 : Cond.methodLink RX9 168 yX9_existingSession ∈ q_W0 := q_W0_mem (List.mem_of_getElem? (i := 598) (by decide +kernel)) (by decide +kernel)
theorem wX3_length : q_cw yX3_length cX3_length mX3_length 0 := ⟨q_W0_mem (List.mem_of_getElem? (i := 614) (by decide +kernel)) (by decide +kernel), q_W0_mem (List.mem_of_getElem? (i := 14) (by decide +kernel)) (by decide +kernel), by decide +kernel, by decide +kernel, by decide +kernel⟩
theorem iX3_length : Cond.instanceMethod yX3_length ∈ q_W0 := q_W0_mem (List.mem_of_getElem? (i := 612) (by decide +kernel)) (by decide +kernel)
theorem eX3_length : Cond.selects yX3_length.cls yX3_length yX3_length ∈ q_W0 := q_W0_mem (List.mem_of_getElem? (i := 613) (by decide +kernel)) (by decide +kernel)
theorem kX9_177 : Cond.methodLink RX9 177 yX3_length ∈ q_W0 := q_W0_mem (List.mem_of_getElem? (i := 611) (by decide +kernel)) (by decide +kernel)
theorem wX3_append : q_cw yX3_append cX3_append mX3_append 2 := ⟨q_W0_mem (List.mem_of_getElem? (i := 619) (by decide +kernel)) (by decide +kernel), q_W0_mem (List.mem_of_getElem? (i := 14) (by decide +kernel)) (by decide +kernel), by decide +kernel, by decide +kernel, by decide +kernel⟩
theorem iX3_append : Cond.instanceMethod yX3_append ∈ q_W0 := q_W0_mem (List.mem_of_getElem? (i := 617) (by decide +kernel)) (by decide +kernel)
theorem eX3_append : Cond.selects yX3_append.cls yX3_append yX3_append ∈ q_W0 := q_W0_mem (List.mem_of_getElem? (i := 618) (by decide +kernel)) (by decide +kernel)
theorem kX9_183 : Cond.methodLink RX9 183 yX3_append ∈ q_W0 := q_W0_mem (List.mem_of_getElem? (i := 616) (by decide +kernel)) (by decide +kernel)
theorem wX9_existingPosition : q_cw yX9_existingPosition cX9_existingPosition mX9_existingPosition 1 := ⟨q_W0_mem (List.mem_of_getElem? (i := 605) (by decide +kernel)) (by decide +kernel), q_W0_mem (List.mem_of_getElem? (i := 9) (by decide +kernel)) (by decide +kernel), by decide +kernel, by decide +kernel, by decide +kernel⟩
theorem iX9_existingPosition : Cond.instanceMethod yX9_existingPosition ∈ q_W0 := q_W0_mem (List.mem_of_getElem? (i := 604) (by decide +kernel)) (by decide +kernel)
theorem eX9_existingPosition : Cond.selects yX9_existingPosition.cls yX9_existingPosition yX9_existingPosition ∈ q_W0 := q_W0_mem (List.mem_of_getElem? (i := 5) (by decide +kernel)) (by decide +kernel)
theorem kX9_187 : Cond.methodLink RX9 187 yX9_existingPosition ∈ q_W0 := q_W0_mem (List.mem_of_getElem? (i := 602) (by decide +kernel)) (by decide +kernel)
theorem wX4_moveAt : q_cw yX4_moveAt cX4_moveAt mX4_moveAt 2 := ⟨q_W0_mem (List.mem_of_getElem? (i := 883) (by decide +kernel)) (by decide +kernel), q_W0_mem (List.mem_of_getElem? (i := 13) (by decide +kernel)) (by decide +kernel), by decide +kernel, by decide +kernel, by decide +kernel⟩
theorem iX4_moveAt : Cond.instanceMethod yX4_moveAt ∈ q_W0 := q_W0_mem (List.mem_of_getElem? (i := 881) (by decide +kernel)) (by decide +kernel)
theorem eX4_moveAt : Cond.selects yX4_moveAt.cls yX4_moveAt yX4_moveAt ∈ q_W0 := q_W0_mem (List.mem_of_getElem? (i := 882) (by decide +kernel)) (by decide +kernel)
theorem kX9_190 : Cond.methodLink RX9 190 yX4_moveAt ∈ q_W0 := q_W0_mem (List.mem_of_getElem? (i := 880) (by decide +kernel)) (by decide +kernel)
theorem kX9_193 : Cond.methodLink RX9 193 Lib.Math.min.name ∈ q_W0 := q_W0_mem (List.mem_of_getElem? (i := 884) (by decide +kernel)) (by decide +kernel)
theorem wX4_removeAt : q_cw yX4_removeAt cX4_removeAt mX4_removeAt 1 := ⟨q_W0_mem (List.mem_of_getElem? (i := 898) (by decide +kernel)) (by decide +kernel), q_W0_mem (List.mem_of_getElem? (i := 13) (by decide +kernel)) (by decide +kernel), by decide +kernel, by decide +kernel, by decide +kernel⟩
theorem iX4_removeAt : Cond.instanceMethod yX4_removeAt ∈ q_W0 := q_W0_mem (List.mem_of_getElem? (i := 896) (by decide +kernel)) (by decide +kernel)
theorem eX4_removeAt : Cond.selects yX4_removeAt.cls yX4_removeAt yX4_removeAt ∈ q_W0 := q_W0_mem (List.mem_of_getElem? (i := 897) (by decide +kernel)) (by decide +kernel)
theorem kX9_198 : Cond.methodLink RX9 198 yX4_removeAt ∈ q_W0 := q_W0_mem (List.mem_of_getElem? (i := 895) (by decide +kernel)) (by decide +kernel)
theorem kX9_212 : Cond.methodLink RX9 212 yX9_clear ∈ q_W0 := q_W0_mem (List.mem_of_getElem? (i := 649) (by decide +kernel)) (by decide +kernel)
theorem wX5_addZoneMinutes : q_cw yX5_addZoneMinutes cX5_addZoneMinutes mX5_addZoneMinutes 2 := ⟨q_W0_mem (List.mem_of_getElem? (i := 653) (by decide +kernel)) (by decide +kernel), q_W0_mem (List.mem_of_getElem? (i := 10) (by decide +kernel)) (by decide +kernel), by decide +kernel, by decide +kernel, by decide +kernel⟩
theorem iX5_addZoneMinutes : Cond.instanceMethod yX5_addZoneMinutes ∈ q_W0 := q_W0_mem (List.mem_of_getElem? (i := 651) (by decide +kernel)) (by decide +kernel)
theorem eX5_addZoneMinutes : Cond.selects yX5_addZoneMinutes.cls yX5_addZoneMinutes yX5_addZoneMinutes ∈ q_W0 := q_W0_mem (List.mem_of_getElem? (i := 652) (by decide +kernel)) (by decide +kernel)
theorem kX9_215 : Cond.methodLink RX9 215 yX5_addZoneMinutes ∈ q_W0 := q_W0_mem (List.mem_of_getElem? (i := 650) (by decide +kernel)) (by decide +kernel)
theorem kX9_219 : Cond.methodLink RX9 219 yX5_sessionLoad ∈ q_W0 := q_W0_mem (List.mem_of_getElem? (i := 661) (by decide +kernel)) (by decide +kernel)
theorem wX5_fillDayLoads : q_cw yX5_fillDayLoads cX5_fillDayLoads mX5_fillDayLoads 1 := ⟨q_W0_mem (List.mem_of_getElem? (i := 295) (by decide +kernel)) (by decide +kernel), q_W0_mem (List.mem_of_getElem? (i := 10) (by decide +kernel)) (by decide +kernel), by decide +kernel, by decide +kernel, by decide +kernel⟩
theorem iX5_fillDayLoads : Cond.instanceMethod yX5_fillDayLoads ∈ q_W0 := q_W0_mem (List.mem_of_getElem? (i := 293) (by decide +kernel)) (by decide +kernel)
theorem eX5_fillDayLoads : Cond.selects yX5_fillDayLoads.cls yX5_fillDayLoads yX5_fillDayLoads ∈ q_W0 := q_W0_mem (List.mem_of_getElem? (i := 294) (by decide +kernel)) (by decide +kernel)
theorem kX9_223 : Cond.methodLink RX9 223 yX5_fillDayLoads ∈ q_W0 := q_W0_mem (List.mem_of_getElem? (i := 292) (by decide +kernel)) (by decide +kernel)
theorem wX2_start : q_cw yX2_start cX2_start mX2_start 1 := ⟨q_W0_mem (List.mem_of_getElem? (i := 906) (by decide +kernel)) (by decide +kernel), q_W0_mem (List.mem_of_getElem? (i := 15) (by decide +kernel)) (by decide +kernel), by decide +kernel, by decide +kernel, by decide +kernel⟩
theorem iX2_start : Cond.instanceMethod yX2_start ∈ q_W0 := q_W0_mem (List.mem_of_getElem? (i := 904) (by decide +kernel)) (by decide +kernel)
theorem eX2_start : Cond.selects yX2_start.cls yX2_start yX2_start ∈ q_W0 := q_W0_mem (List.mem_of_getElem? (i := 905) (by decide +kernel)) (by decide +kernel)
theorem kX9_290 : Cond.methodLink RX9 290 yX2_start ∈ q_W0 := q_W0_mem (List.mem_of_getElem? (i := 903) (by decide +kernel)) (by decide +kernel)
theorem wX2_append : q_cw yX2_append cX2_append mX2_append 1 := ⟨q_W0_mem (List.mem_of_getElem? (i := 711) (by decide +kernel)) (by decide +kernel), q_W0_mem (List.mem_of_getElem? (i := 15) (by decide +kernel)) (by decide +kernel), by decide +kernel, by decide +kernel, by decide +kernel⟩
theorem iX2_append : Cond.instanceMethod yX2_append ∈ q_W0 := q_W0_mem (List.mem_of_getElem? (i := 709) (by decide +kernel)) (by decide +kernel)
theorem eX2_append : Cond.selects yX2_append.cls yX2_append yX2_append ∈ q_W0 := q_W0_mem (List.mem_of_getElem? (i := 710) (by decide +kernel)) (by decide +kernel)
theorem kX9_301 : Cond.methodLink RX9 301 yX2_append ∈ q_W0 := q_W0_mem (List.mem_of_getElem? (i := 708) (by decide +kernel)) (by decide +kernel)
theorem wX9_existingDueEntry : q_cw yX9_existingDueEntry cX9_existingDueEntry mX9_existingDueEntry 0 := ⟨q_W0_mem (List.mem_of_getElem? (i := 761) (by decide +kernel)) (by decide +kernel), q_W0_mem (List.mem_of_getElem? (i := 9) (by decide +kernel)) (by decide +kernel), by decide +kernel, by decide +kernel, by decide +kernel⟩
theorem iX9_existingDueEntry : Cond.instanceMethod yX9_existingDueEntry ∈ q_W0 := q_W0_mem (List.mem_of_getElem? (i := 760) (by decide +kernel)) (by decide +kernel)
theorem eX9_existingDueEntry : Cond.selects yX9_existingDueEntry.cls yX9_existingDueEntry yX9_existingDueEntry ∈ q_W0 := q_W0_mem (List.mem_of_getElem? (i := 6) (by decide +kernel)) (by decide +kernel)
theorem kX9_308 : Cond.methodLink RX9 308 yX9_existingDueEntry ∈ q_W0 := q_W0_mem (List.mem_of_getElem? (i := 758) (by decide +kernel)) (by decide +kernel)
theorem wX9_followPlan : q_cw yX9_followPlan cX9_followPlan mX9_followPlan 0 := ⟨q_W0_mem (List.mem_of_getElem? (i := 291) (by decide +kernel)) (by decide +kernel), q_W0_mem (List.mem_of_getElem? (i := 9) (by decide +kernel)) (by decide +kernel), by decide +kernel, by decide +kernel, by decide +kernel⟩
theorem iX9_followPlan : Cond.instanceMethod yX9_followPlan ∈ q_W0 := q_W0_mem (List.mem_of_getElem? (i := 290) (by decide +kernel)) (by decide +kernel)
theorem eX9_followPlan : Cond.selects yX9_followPlan.cls yX9_followPlan yX9_followPlan ∈ q_W0 := q_W0_mem (List.mem_of_getElem? (i := 0) (by decide +kernel)) (by decide +kernel)
theorem kX9_311 : Cond.methodLink RX9 311 yX9_followPlan ∈ q_W0 := q_W0_mem (List.mem_of_getElem? (i := 288) (by decide +kernel)) (by decide +kernel)
theorem wX9_signOfDay : q_cw yX9_signOfDay cX9_signOfDay mX9_signOfDay 1 := ⟨q_W0_mem (List.mem_of_getElem? (i := 773) (by decide +kernel)) (by decide +kernel), q_W0_mem (List.mem_of_getElem? (i := 9) (by decide +kernel)) (by decide +kernel), by decide +kernel, by decide +kernel, by decide +kernel⟩
theorem iX9_signOfDay : Cond.instanceMethod yX9_signOfDay ∈ q_W0 := q_W0_mem (List.mem_of_getElem? (i := 772) (by decide +kernel)) (by decide +kernel)
theorem eX9_signOfDay : Cond.selects yX9_signOfDay.cls yX9_signOfDay yX9_signOfDay ∈ q_W0 := q_W0_mem (List.mem_of_getElem? (i := 7) (by decide +kernel)) (by decide +kernel)
theorem kX9_323 : Cond.methodLink RX9 323 yX9_signOfDay ∈ q_W0 := q_W0_mem (List.mem_of_getElem? (i := 770) (by decide +kernel)) (by decide +kernel)
theorem wX1_takeBack : q_cw yX1_takeBack cX1_takeBack mX1_takeBack 1 := ⟨q_W0_mem (List.mem_of_getElem? (i := 797) (by decide +kernel)) (by decide +kernel), q_W0_mem (List.mem_of_getElem? (i := 16) (by decide +kernel)) (by decide +kernel), by decide +kernel, by decide +kernel, by decide +kernel⟩
theorem iX1_takeBack : Cond.instanceMethod yX1_takeBack ∈ q_W0 := q_W0_mem (List.mem_of_getElem? (i := 795) (by decide +kernel)) (by decide +kernel)
theorem eX1_takeBack : Cond.selects yX1_takeBack.cls yX1_takeBack yX1_takeBack ∈ q_W0 := q_W0_mem (List.mem_of_getElem? (i := 796) (by decide +kernel)) (by decide +kernel)
theorem kX9_332 : Cond.methodLink RX9 332 yX1_takeBack ∈ q_W0 := q_W0_mem (List.mem_of_getElem? (i := 794) (by decide +kernel)) (by decide +kernel)
theorem kX9_335 : Cond.methodLink RX9 335 yX5_copyFrom ∈ q_W0 := q_W0_mem (List.mem_of_getElem? (i := 319) (by decide +kernel)) (by decide +kernel)
theorem wX1_forget : q_cw yX1_forget cX1_forget mX1_forget 0 := ⟨q_W0_mem (List.mem_of_getElem? (i := 809) (by decide +kernel)) (by decide +kernel), q_W0_mem (List.mem_of_getElem? (i := 16) (by decide +kernel)) (by decide +kernel), by decide +kernel, by decide +kernel, by decide +kernel⟩
theorem iX1_forget : Cond.instanceMethod yX1_forget ∈ q_W0 := q_W0_mem (List.mem_of_getElem? (i := 807) (by decide +kernel)) (by decide +kernel)
theorem eX1_forget : Cond.selects yX1_forget.cls yX1_forget yX1_forget ∈ q_W0 := q_W0_mem (List.mem_of_getElem? (i := 808) (by decide +kernel)) (by decide +kernel)
theorem kX9_340 : Cond.methodLink RX9 340 yX1_forget ∈ q_W0 := q_W0_mem (List.mem_of_getElem? (i := 806) (by decide +kernel)) (by decide +kernel)
theorem wX4_positionWithId : q_cw yX4_positionWithId cX4_positionWithId mX4_positionWithId 1 := ⟨q_W0_mem (List.mem_of_getElem? (i := 609) (by decide +kernel)) (by decide +kernel), q_W0_mem (List.mem_of_getElem? (i := 13) (by decide +kernel)) (by decide +kernel), by decide +kernel, by decide +kernel, by decide +kernel⟩
theorem iX4_positionWithId : Cond.instanceMethod yX4_positionWithId ∈ q_W0 := q_W0_mem (List.mem_of_getElem? (i := 607) (by decide +kernel)) (by decide +kernel)
theorem eX4_positionWithId : Cond.selects yX4_positionWithId.cls yX4_positionWithId yX4_positionWithId ∈ q_W0 := q_W0_mem (List.mem_of_getElem? (i := 608) (by decide +kernel)) (by decide +kernel)
theorem kX9_356 : Cond.methodLink RX9 356 yX4_positionWithId ∈ q_W0 := q_W0_mem (List.mem_of_getElem? (i := 606) (by decide +kernel)) (by decide +kernel)
theorem wX0_follow : q_cw yX0_follow cX0_follow mX0_follow 3 := ⟨q_W0_mem (List.mem_of_getElem? (i := 314) (by decide +kernel)) (by decide +kernel), q_W0_mem (List.mem_of_getElem? (i := 18) (by decide +kernel)) (by decide +kernel), by decide +kernel, by decide +kernel, by decide +kernel⟩
theorem iX0_follow : Cond.instanceMethod yX0_follow ∈ q_W0 := q_W0_mem (List.mem_of_getElem? (i := 312) (by decide +kernel)) (by decide +kernel)
theorem eX0_follow : Cond.selects yX0_follow.cls yX0_follow yX0_follow ∈ q_W0 := q_W0_mem (List.mem_of_getElem? (i := 313) (by decide +kernel)) (by decide +kernel)
theorem kX9_367 : Cond.methodLink RX9 367 yX0_follow ∈ q_W0 := q_W0_mem (List.mem_of_getElem? (i := 311) (by decide +kernel)) (by decide +kernel)
theorem wX4_anyOn : q_cw yX4_anyOn cX4_anyOn mX4_anyOn 1 := ⟨q_W0_mem (List.mem_of_getElem? (i := 777) (by decide +kernel)) (by decide +kernel), q_W0_mem (List.mem_of_getElem? (i := 13) (by decide +kernel)) (by decide +kernel), by decide +kernel, by decide +kernel, by decide +kernel⟩
theorem iX4_anyOn : Cond.instanceMethod yX4_anyOn ∈ q_W0 := q_W0_mem (List.mem_of_getElem? (i := 775) (by decide +kernel)) (by decide +kernel)
theorem eX4_anyOn : Cond.selects yX4_anyOn.cls yX4_anyOn yX4_anyOn ∈ q_W0 := q_W0_mem (List.mem_of_getElem? (i := 776) (by decide +kernel)) (by decide +kernel)
theorem kX9_373 : Cond.methodLink RX9 373 yX4_anyOn ∈ q_W0 := q_W0_mem (List.mem_of_getElem? (i := 774) (by decide +kernel)) (by decide +kernel)
theorem kcL_7 : Cond.constant RL 7 (69069) ∈ q_W0 := q_W0_mem (List.mem_of_getElem? (i := 816) (by decide +kernel)) (by decide +kernel)
theorem kcL_8 : Cond.constant RL 8 (1103515245) ∈ q_W0 := q_W0_mem (List.mem_of_getElem? (i := 817) (by decide +kernel)) (by decide +kernel)
theorem kcL_17 : Cond.constant RL 17 (-900001) ∈ q_W0 := q_W0_mem (List.mem_of_getElem? (i := 456) (by decide +kernel)) (by decide +kernel)
theorem kcL_20 : Cond.constant RL 20 (-900002) ∈ q_W0 := q_W0_mem (List.mem_of_getElem? (i := 457) (by decide +kernel)) (by decide +kernel)
theorem kcL_55 : Cond.constant RL 55 (-900003) ∈ q_W0 := q_W0_mem (List.mem_of_getElem? (i := 620) (by decide +kernel)) (by decide +kernel)
theorem kcL_125 : Cond.constant RL 125 (2147483647) ∈ q_W0 := q_W0_mem (List.mem_of_getElem? (i := 818) (by decide +kernel)) (by decide +kernel)
theorem kfX0_9 : Cond.fieldLink RX0 9 (TX0 0).1 (TX0 0).2.1 (TX0 0).2.2.1 ∈ q_W0 := q_W0_mem (List.mem_of_getElem? (i := 234) (by decide +kernel)) (by decide +kernel)
theorem kfX0_15 : Cond.fieldLink RX0 15 (TX0 1).1 (TX0 1).2.1 (TX0 1).2.2.1 ∈ q_W0 := q_W0_mem (List.mem_of_getElem? (i := 236) (by decide +kernel)) (by decide +kernel)
theorem kfX0_18 : Cond.fieldLink RX0 18 (TX0 2).1 (TX0 2).2.1 (TX0 2).2.2.1 ∈ q_W0 := q_W0_mem (List.mem_of_getElem? (i := 238) (by decide +kernel)) (by decide +kernel)
theorem kfX0_21 : Cond.fieldLink RX0 21 (TX2 1).1 (TX2 1).2.1 (TX2 1).2.2.1 ∈ q_W0 := q_W0_mem (List.mem_of_getElem? (i := 153) (by decide +kernel)) (by decide +kernel)
theorem kfX0_26 : Cond.fieldLink RX0 26 (TX2 2).1 (TX2 2).2.1 (TX2 2).2.2.1 ∈ q_W0 := q_W0_mem (List.mem_of_getElem? (i := 156) (by decide +kernel)) (by decide +kernel)
theorem kfX0_29 : Cond.fieldLink RX0 29 (TX2 3).1 (TX2 3).2.1 (TX2 3).2.2.1 ∈ q_W0 := q_W0_mem (List.mem_of_getElem? (i := 159) (by decide +kernel)) (by decide +kernel)
theorem kfX1_11 : Cond.fieldLink RX1 11 (TX1 0).1 (TX1 0).2.1 (TX1 0).2.2.1 ∈ q_W0 := q_W0_mem (List.mem_of_getElem? (i := 200) (by decide +kernel)) (by decide +kernel)
theorem kfX1_17 : Cond.fieldLink RX1 17 (TX1 1).1 (TX1 1).2.1 (TX1 1).2.2.1 ∈ q_W0 := q_W0_mem (List.mem_of_getElem? (i := 201) (by decide +kernel)) (by decide +kernel)
theorem kfX1_21 : Cond.fieldLink RX1 21 (TX1 2).1 (TX1 2).2.1 (TX1 2).2.2.1 ∈ q_W0 := q_W0_mem (List.mem_of_getElem? (i := 202) (by decide +kernel)) (by decide +kernel)
theorem kfX2_9 : Cond.fieldLink RX2 9 (TX2 0).1 (TX2 0).2.1 (TX2 0).2.2.1 ∈ q_W0 := q_W0_mem (List.mem_of_getElem? (i := 150) (by decide +kernel)) (by decide +kernel)
theorem kfX2_15 : Cond.fieldLink RX2 15 (TX2 1).1 (TX2 1).2.1 (TX2 1).2.2.1 ∈ q_W0 := q_W0_mem (List.mem_of_getElem? (i := 152) (by decide +kernel)) (by decide +kernel)
theorem kfX2_19 : Cond.fieldLink RX2 19 (TX2 2).1 (TX2 2).2.1 (TX2 2).2.2.1 ∈ q_W0 := q_W0_mem (List.mem_of_getElem? (i := 155) (by decide +kernel)) (by decide +kernel)
theorem kfX2_22 : Cond.fieldLink RX2 22 (TX2 3).1 (TX2 3).2.1 (TX2 3).2.2.1 ∈ q_W0 := q_W0_mem (List.mem_of_getElem? (i := 158) (by decide +kernel)) (by decide +kernel)
theorem kfX3_9 : Cond.fieldLink RX3 9 (TX3 0).1 (TX3 0).2.1 (TX3 0).2.2.1 ∈ q_W0 := q_W0_mem (List.mem_of_getElem? (i := 104) (by decide +kernel)) (by decide +kernel)
theorem kfX3_15 : Cond.fieldLink RX3 15 (TX3 1).1 (TX3 1).2.1 (TX3 1).2.2.1 ∈ q_W0 := q_W0_mem (List.mem_of_getElem? (i := 107) (by decide +kernel)) (by decide +kernel)
theorem kfX3_18 : Cond.fieldLink RX3 18 (TX3 2).1 (TX3 2).2.1 (TX3 2).2.2.1 ∈ q_W0 := q_W0_mem (List.mem_of_getElem? (i := 111) (by decide +kernel)) (by decide +kernel)
theorem kfX3_21 : Cond.fieldLink RX3 21 (TX3 3).1 (TX3 3).2.1 (TX3 3).2.2.1 ∈ q_W0 := q_W0_mem (List.mem_of_getElem? (i := 115) (by decide +kernel)) (by decide +kernel)
theorem kfX3_25 : Cond.fieldLink RX3 25 (TX3 4).1 (TX3 4).2.1 (TX3 4).2.2.1 ∈ q_W0 := q_W0_mem (List.mem_of_getElem? (i := 117) (by decide +kernel)) (by decide +kernel)
theorem kfX4_11 : Cond.fieldLink RX4 11 (TX4 0).1 (TX4 0).2.1 (TX4 0).2.2.1 ∈ q_W0 := q_W0_mem (List.mem_of_getElem? (i := 130) (by decide +kernel)) (by decide +kernel)
theorem kfX4_17 : Cond.fieldLink RX4 17 (TX4 1).1 (TX4 1).2.1 (TX4 1).2.2.1 ∈ q_W0 := q_W0_mem (List.mem_of_getElem? (i := 133) (by decide +kernel)) (by decide +kernel)
theorem kfX4_21 : Cond.fieldLink RX4 21 (TX4 2).1 (TX4 2).2.1 (TX4 2).2.2.1 ∈ q_W0 := q_W0_mem (List.mem_of_getElem? (i := 136) (by decide +kernel)) (by decide +kernel)
theorem kfX4_29 : Cond.fieldLink RX4 29 (TX3 0).1 (TX3 0).2.1 (TX3 0).2.2.1 ∈ q_W0 := q_W0_mem (List.mem_of_getElem? (i := 105) (by decide +kernel)) (by decide +kernel)
theorem kfX4_32 : Cond.fieldLink RX4 32 (TX3 1).1 (TX3 1).2.1 (TX3 1).2.2.1 ∈ q_W0 := q_W0_mem (List.mem_of_getElem? (i := 109) (by decide +kernel)) (by decide +kernel)
theorem kfX4_39 : Cond.fieldLink RX4 39 (TX3 2).1 (TX3 2).2.1 (TX3 2).2.2.1 ∈ q_W0 := q_W0_mem (List.mem_of_getElem? (i := 113) (by decide +kernel)) (by decide +kernel)
theorem kfX5_7 : Cond.fieldLink RX5 7 (TX5 0).1 (TX5 0).2.1 (TX5 0).2.2.1 ∈ q_W0 := q_W0_mem (List.mem_of_getElem? (i := 170) (by decide +kernel)) (by decide +kernel)
theorem kfX5_16 : Cond.fieldLink RX5 16 (TX5 1).1 (TX5 1).2.1 (TX5 1).2.2.1 ∈ q_W0 := q_W0_mem (List.mem_of_getElem? (i := 172) (by decide +kernel)) (by decide +kernel)
theorem kfX5_23 : Cond.fieldLink RX5 23 (TX5 2).1 (TX5 2).2.1 (TX5 2).2.2.1 ∈ q_W0 := q_W0_mem (List.mem_of_getElem? (i := 174) (by decide +kernel)) (by decide +kernel)
theorem kfX5_30 : Cond.fieldLink RX5 30 (TX5 3).1 (TX5 3).2.1 (TX5 3).2.2.1 ∈ q_W0 := q_W0_mem (List.mem_of_getElem? (i := 176) (by decide +kernel)) (by decide +kernel)
theorem kfX5_37 : Cond.fieldLink RX5 37 (TX5 4).1 (TX5 4).2.1 (TX5 4).2.2.1 ∈ q_W0 := q_W0_mem (List.mem_of_getElem? (i := 178) (by decide +kernel)) (by decide +kernel)
theorem kfX5_54 : Cond.fieldLink RX5 54 (TX3 1).1 (TX3 1).2.1 (TX3 1).2.2.1 ∈ q_W0 := q_W0_mem (List.mem_of_getElem? (i := 108) (by decide +kernel)) (by decide +kernel)
theorem kfX5_63 : Cond.fieldLink RX5 63 (TX3 2).1 (TX3 2).2.1 (TX3 2).2.2.1 ∈ q_W0 := q_W0_mem (List.mem_of_getElem? (i := 112) (by decide +kernel)) (by decide +kernel)
theorem kfX5_66 : Cond.fieldLink RX5 66 (TX3 4).1 (TX3 4).2.1 (TX3 4).2.2.1 ∈ q_W0 := q_W0_mem (List.mem_of_getElem? (i := 118) (by decide +kernel)) (by decide +kernel)
theorem kfX5_74 : Cond.fieldLink RX5 74 (TX3 3).1 (TX3 3).2.1 (TX3 3).2.2.1 ∈ q_W0 := q_W0_mem (List.mem_of_getElem? (i := 116) (by decide +kernel)) (by decide +kernel)
theorem kfX5_77 : Cond.fieldLink RX5 77 (TX8 1).1 (TX8 1).2.1 (TX8 1).2.2.1 ∈ q_W0 := q_W0_mem (List.mem_of_getElem? (i := 84) (by decide +kernel)) (by decide +kernel)
theorem kfX5_80 : Cond.fieldLink RX5 80 (TX4 1).1 (TX4 1).2.1 (TX4 1).2.2.1 ∈ q_W0 := q_W0_mem (List.mem_of_getElem? (i := 134) (by decide +kernel)) (by decide +kernel)
theorem kfX5_83 : Cond.fieldLink RX5 83 (TX4 0).1 (TX4 0).2.1 (TX4 0).2.2.1 ∈ q_W0 := q_W0_mem (List.mem_of_getElem? (i := 131) (by decide +kernel)) (by decide +kernel)
theorem kfX6_9 : Cond.fieldLink RX6 9 (TX6 0).1 (TX6 0).2.1 (TX6 0).2.2.1 ∈ q_W0 := q_W0_mem (List.mem_of_getElem? (i := 51) (by decide +kernel)) (by decide +kernel)
theorem kfX6_15 : Cond.fieldLink RX6 15 (TX6 1).1 (TX6 1).2.1 (TX6 1).2.2.1 ∈ q_W0 := q_W0_mem (List.mem_of_getElem? (i := 52) (by decide +kernel)) (by decide +kernel)
theorem kfX6_18 : Cond.fieldLink RX6 18 (TX6 2).1 (TX6 2).2.1 (TX6 2).2.2.1 ∈ q_W0 := q_W0_mem (List.mem_of_getElem? (i := 54) (by decide +kernel)) (by decide +kernel)
theorem kfX7_9 : Cond.fieldLink RX7 9 (TX7 0).1 (TX7 0).2.1 (TX7 0).2.2.1 ∈ q_W0 := q_W0_mem (List.mem_of_getElem? (i := 217) (by decide +kernel)) (by decide +kernel)
theorem kfX7_15 : Cond.fieldLink RX7 15 (TX7 1).1 (TX7 1).2.1 (TX7 1).2.2.1 ∈ q_W0 := q_W0_mem (List.mem_of_getElem? (i := 218) (by decide +kernel)) (by decide +kernel)
theorem kfX7_18 : Cond.fieldLink RX7 18 (TX7 2).1 (TX7 2).2.1 (TX7 2).2.2.1 ∈ q_W0 := q_W0_mem (List.mem_of_getElem? (i := 219) (by decide +kernel)) (by decide +kernel)
theorem kfX8_18 : Cond.fieldLink RX8 18 (TX8 0).1 (TX8 0).2.1 (TX8 0).2.2.1 ∈ q_W0 := q_W0_mem (List.mem_of_getElem? (i := 81) (by decide +kernel)) (by decide +kernel)
theorem kfX8_26 : Cond.fieldLink RX8 26 (TX8 1).1 (TX8 1).2.1 (TX8 1).2.2.1 ∈ q_W0 := q_W0_mem (List.mem_of_getElem? (i := 83) (by decide +kernel)) (by decide +kernel)
theorem kfX9_12 : Cond.fieldLink RX9 12 (TX9 0).1 (TX9 0).2.1 (TX9 0).2.2.1 ∈ q_W0 := q_W0_mem (List.mem_of_getElem? (i := 247) (by decide +kernel)) (by decide +kernel)
theorem kfX9_19 : Cond.fieldLink RX9 19 (TX9 1).1 (TX9 1).2.1 (TX9 1).2.2.1 ∈ q_W0 := q_W0_mem (List.mem_of_getElem? (i := 248) (by decide +kernel)) (by decide +kernel)
theorem kfX9_23 : Cond.fieldLink RX9 23 (TX9 2).1 (TX9 2).2.1 (TX9 2).2.2.1 ∈ q_W0 := q_W0_mem (List.mem_of_getElem? (i := 249) (by decide +kernel)) (by decide +kernel)
theorem kfX9_26 : Cond.fieldLink RX9 26 (TX9 3).1 (TX9 3).2.1 (TX9 3).2.2.1 ∈ q_W0 := q_W0_mem (List.mem_of_getElem? (i := 250) (by decide +kernel)) (by decide +kernel)
theorem kfX9_30 : Cond.fieldLink RX9 30 (TX9 4).1 (TX9 4).2.1 (TX9 4).2.2.1 ∈ q_W0 := q_W0_mem (List.mem_of_getElem? (i := 251) (by decide +kernel)) (by decide +kernel)
theorem kfX9_34 : Cond.fieldLink RX9 34 (TX9 5).1 (TX9 5).2.1 (TX9 5).2.2.1 ∈ q_W0 := q_W0_mem (List.mem_of_getElem? (i := 252) (by decide +kernel)) (by decide +kernel)
theorem kfX9_41 : Cond.fieldLink RX9 41 (TX9 6).1 (TX9 6).2.1 (TX9 6).2.2.1 ∈ q_W0 := q_W0_mem (List.mem_of_getElem? (i := 253) (by decide +kernel)) (by decide +kernel)
theorem kfX9_48 : Cond.fieldLink RX9 48 (TX9 7).1 (TX9 7).2.1 (TX9 7).2.2.1 ∈ q_W0 := q_W0_mem (List.mem_of_getElem? (i := 254) (by decide +kernel)) (by decide +kernel)
theorem kfX9_52 : Cond.fieldLink RX9 52 (TX9 8).1 (TX9 8).2.1 (TX9 8).2.2.1 ∈ q_W0 := q_W0_mem (List.mem_of_getElem? (i := 255) (by decide +kernel)) (by decide +kernel)
theorem kfX9_56 : Cond.fieldLink RX9 56 (TX9 9).1 (TX9 9).2.1 (TX9 9).2.2.1 ∈ q_W0 := q_W0_mem (List.mem_of_getElem? (i := 256) (by decide +kernel)) (by decide +kernel)
theorem kfX9_59 : Cond.fieldLink RX9 59 (TX9 10).1 (TX9 10).2.1 (TX9 10).2.2.1 ∈ q_W0 := q_W0_mem (List.mem_of_getElem? (i := 257) (by decide +kernel)) (by decide +kernel)
theorem kfX9_62 : Cond.fieldLink RX9 62 (TX9 11).1 (TX9 11).2.1 (TX9 11).2.2.1 ∈ q_W0 := q_W0_mem (List.mem_of_getElem? (i := 258) (by decide +kernel)) (by decide +kernel)
theorem kfX9_69 : Cond.fieldLink RX9 69 (TX5 0).1 (TX5 0).2.1 (TX5 0).2.2.1 ∈ q_W0 := q_W0_mem (List.mem_of_getElem? (i := 171) (by decide +kernel)) (by decide +kernel)
theorem kfX9_87 : Cond.fieldLink RX9 87 (TX5 1).1 (TX5 1).2.1 (TX5 1).2.2.1 ∈ q_W0 := q_W0_mem (List.mem_of_getElem? (i := 173) (by decide +kernel)) (by decide +kernel)
theorem kfX9_91 : Cond.fieldLink RX9 91 (TX6 2).1 (TX6 2).2.1 (TX6 2).2.2.1 ∈ q_W0 := q_W0_mem (List.mem_of_getElem? (i := 55) (by decide +kernel)) (by decide +kernel)
theorem kfX9_122 : Cond.fieldLink RX9 122 (TX6 1).1 (TX6 1).2.1 (TX6 1).2.2.1 ∈ q_W0 := q_W0_mem (List.mem_of_getElem? (i := 53) (by decide +kernel)) (by decide +kernel)
theorem kfX9_131 : Cond.fieldLink RX9 131 (TX5 2).1 (TX5 2).2.1 (TX5 2).2.2.1 ∈ q_W0 := q_W0_mem (List.mem_of_getElem? (i := 175) (by decide +kernel)) (by decide +kernel)
theorem kfX9_143 : Cond.fieldLink RX9 143 (TX8 0).1 (TX8 0).2.1 (TX8 0).2.2.1 ∈ q_W0 := q_W0_mem (List.mem_of_getElem? (i := 82) (by decide +kernel)) (by decide +kernel)
theorem kfX9_149 : Cond.fieldLink RX9 149 (TX8 1).1 (TX8 1).2.1 (TX8 1).2.2.1 ∈ q_W0 := q_W0_mem (List.mem_of_getElem? (i := 85) (by decide +kernel)) (by decide +kernel)
theorem kfX9_156 : Cond.fieldLink RX9 156 (TX5 3).1 (TX5 3).2.1 (TX5 3).2.2.1 ∈ q_W0 := q_W0_mem (List.mem_of_getElem? (i := 177) (by decide +kernel)) (by decide +kernel)
theorem kfX9_160 : Cond.fieldLink RX9 160 (TX4 1).1 (TX4 1).2.1 (TX4 1).2.2.1 ∈ q_W0 := q_W0_mem (List.mem_of_getElem? (i := 135) (by decide +kernel)) (by decide +kernel)
theorem kfX9_172 : Cond.fieldLink RX9 172 (TX3 2).1 (TX3 2).2.1 (TX3 2).2.2.1 ∈ q_W0 := q_W0_mem (List.mem_of_getElem? (i := 114) (by decide +kernel)) (by decide +kernel)
theorem kfX9_184 : Cond.fieldLink RX9 184 (TX3 1).1 (TX3 1).2.1 (TX3 1).2.2.1 ∈ q_W0 := q_W0_mem (List.mem_of_getElem? (i := 110) (by decide +kernel)) (by decide +kernel)
theorem kfX9_205 : Cond.fieldLink RX9 205 (TX4 0).1 (TX4 0).2.1 (TX4 0).2.2.1 ∈ q_W0 := q_W0_mem (List.mem_of_getElem? (i := 132) (by decide +kernel)) (by decide +kernel)
theorem kfX9_209 : Cond.fieldLink RX9 209 (TX3 0).1 (TX3 0).2.1 (TX3 0).2.2.1 ∈ q_W0 := q_W0_mem (List.mem_of_getElem? (i := 106) (by decide +kernel)) (by decide +kernel)
theorem kfX9_281 : Cond.fieldLink RX9 281 (TX5 4).1 (TX5 4).2.1 (TX5 4).2.2.1 ∈ q_W0 := q_W0_mem (List.mem_of_getElem? (i := 179) (by decide +kernel)) (by decide +kernel)
theorem kfX9_285 : Cond.fieldLink RX9 285 (TX2 2).1 (TX2 2).2.1 (TX2 2).2.2.1 ∈ q_W0 := q_W0_mem (List.mem_of_getElem? (i := 157) (by decide +kernel)) (by decide +kernel)
theorem kfX9_293 : Cond.fieldLink RX9 293 (TX2 0).1 (TX2 0).2.1 (TX2 0).2.2.1 ∈ q_W0 := q_W0_mem (List.mem_of_getElem? (i := 151) (by decide +kernel)) (by decide +kernel)
theorem kfX9_296 : Cond.fieldLink RX9 296 (TX2 1).1 (TX2 1).2.1 (TX2 1).2.2.1 ∈ q_W0 := q_W0_mem (List.mem_of_getElem? (i := 154) (by decide +kernel)) (by decide +kernel)
theorem kfX9_305 : Cond.fieldLink RX9 305 (TX2 3).1 (TX2 3).2.1 (TX2 3).2.2.1 ∈ q_W0 := q_W0_mem (List.mem_of_getElem? (i := 160) (by decide +kernel)) (by decide +kernel)
theorem kfX9_314 : Cond.fieldLink RX9 314 (TX0 1).1 (TX0 1).2.1 (TX0 1).2.2.1 ∈ q_W0 := q_W0_mem (List.mem_of_getElem? (i := 237) (by decide +kernel)) (by decide +kernel)
theorem kfX9_317 : Cond.fieldLink RX9 317 (TX0 2).1 (TX0 2).2.1 (TX0 2).2.2.1 ∈ q_W0 := q_W0_mem (List.mem_of_getElem? (i := 239) (by decide +kernel)) (by decide +kernel)
theorem kfX9_320 : Cond.fieldLink RX9 320 (TX0 0).1 (TX0 0).2.1 (TX0 0).2.2.1 ∈ q_W0 := q_W0_mem (List.mem_of_getElem? (i := 235) (by decide +kernel)) (by decide +kernel)
theorem kfX9_329 : Cond.fieldLink RX9 329 (TX1 2).1 (TX1 2).2.1 (TX1 2).2.2.1 ∈ q_W0 := q_W0_mem (List.mem_of_getElem? (i := 203) (by decide +kernel)) (by decide +kernel)
