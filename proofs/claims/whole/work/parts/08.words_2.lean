def mX12_all : MethodName × ByteArray × Nat × Option FieldType := (yX12_all, cX12_all, 3, (some .int))
theorem wd_X12_all : Cond.code yX12_all cX12_all 3 (some .int) ∈ jWS := jw_t (i := 1376) (by decide +kernel) (by decide +kernel)
theorem wm_X12_all : Cond.instanceMethod yX12_all ∈ jWS := jw_t (i := 1374) (by decide +kernel) (by decide +kernel)
theorem wv_X12_all : Cond.selects yX12_all.cls yX12_all yX12_all ∈ jWS := jw_t (i := 1375) (by decide +kernel) (by decide +kernel)
def mX12_rankOf : MethodName × ByteArray × Nat × Option FieldType := (yX12_rankOf, cX12_rankOf, 3, (some .int))
theorem wd_X12_rankOf : Cond.code yX12_rankOf cX12_rankOf 3 (some .int) ∈ jWS := jw_t (i := 1400) (by decide +kernel) (by decide +kernel)
theorem wm_X12_rankOf : Cond.instanceMethod yX12_rankOf ∈ jWS := jw_t (i := 1399) (by decide +kernel) (by decide +kernel)
theorem wv_X12_rankOf : Cond.selects yX12_rankOf.cls yX12_rankOf yX12_rankOf ∈ jWS := jw_p (i := 60) (by decide +kernel) (by decide +kernel)
def mX12_overByRule : MethodName × ByteArray × Nat × Option FieldType := (yX12_overByRule, cX12_overByRule, 7, (some .int))
theorem wd_X12_overByRule : Cond.code yX12_overByRule cX12_overByRule 7 (some .int) ∈ jWS := jw_t (i := 1396) (by decide +kernel) (by decide +kernel)
theorem wm_X12_overByRule : Cond.instanceMethod yX12_overByRule ∈ jWS := jw_t (i := 1395) (by decide +kernel) (by decide +kernel)
theorem wv_X12_overByRule : Cond.selects yX12_overByRule.cls yX12_overByRule yX12_overByRule ∈ jWS := jw_p (i := 59) (by decide +kernel) (by decide +kernel)
def mX12_rule : MethodName × ByteArray × Nat × Option FieldType := (yX12_rule, cX12_rule, 7, (some .int))
theorem wd_X12_rule : Cond.code yX12_rule cX12_rule 7 (some .int) ∈ jWS := jw_t (i := 1392) (by decide +kernel) (by decide +kernel)
theorem wm_X12_rule : Cond.instanceMethod yX12_rule ∈ jWS := jw_t (i := 1390) (by decide +kernel) (by decide +kernel)
theorem wv_X12_rule : Cond.selects yX12_rule.cls yX12_rule yX12_rule ∈ jWS := jw_t (i := 1391) (by decide +kernel) (by decide +kernel)
def mX12_waitsFor : MethodName × ByteArray × Nat × Option FieldType := (yX12_waitsFor, cX12_waitsFor, 6, (some .int))
theorem wd_X12_waitsFor : Cond.code yX12_waitsFor cX12_waitsFor 6 (some .int) ∈ jWS := jw_t (i := 1408) (by decide +kernel) (by decide +kernel)
theorem wm_X12_waitsFor : Cond.instanceMethod yX12_waitsFor ∈ jWS := jw_t (i := 1407) (by decide +kernel) (by decide +kernel)
theorem wv_X12_waitsFor : Cond.selects yX12_waitsFor.cls yX12_waitsFor yX12_waitsFor ∈ jWS := jw_p (i := 61) (by decide +kernel) (by decide +kernel)
def mX12_waits : MethodName × ByteArray × Nat × Option FieldType := (yX12_waits, cX12_waits, 9, (some .int))
theorem wd_X12_waits : Cond.code yX12_waits cX12_waits 9 (some .int) ∈ jWS := jw_t (i := 1404) (by decide +kernel) (by decide +kernel)
theorem wm_X12_waits : Cond.instanceMethod yX12_waits ∈ jWS := jw_t (i := 1402) (by decide +kernel) (by decide +kernel)
theorem wv_X12_waits : Cond.selects yX12_waits.cls yX12_waits yX12_waits ∈ jWS := jw_t (i := 1403) (by decide +kernel) (by decide +kernel)
def mX12_soonestOn : MethodName × ByteArray × Nat × Option FieldType := (yX12_soonestOn, cX12_soonestOn, 7, none)
theorem wd_X12_soonestOn : Cond.code yX12_soonestOn cX12_soonestOn 7 none ∈ jWS := jw_t (i := 1416) (by decide +kernel) (by decide +kernel)
theorem wm_X12_soonestOn : Cond.instanceMethod yX12_soonestOn ∈ jWS := jw_t (i := 1415) (by decide +kernel) (by decide +kernel)
theorem wv_X12_soonestOn : Cond.selects yX12_soonestOn.cls yX12_soonestOn yX12_soonestOn ∈ jWS := jw_p (i := 62) (by decide +kernel) (by decide +kernel)
def mX12_soonest : MethodName × ByteArray × Nat × Option FieldType := (yX12_soonest, cX12_soonest, 3, (some .int))
theorem wd_X12_soonest : Cond.code yX12_soonest cX12_soonest 3 (some .int) ∈ jWS := jw_t (i := 1412) (by decide +kernel) (by decide +kernel)
theorem wm_X12_soonest : Cond.instanceMethod yX12_soonest ∈ jWS := jw_t (i := 1410) (by decide +kernel) (by decide +kernel)
theorem wv_X12_soonest : Cond.selects yX12_soonest.cls yX12_soonest yX12_soonest ∈ jWS := jw_t (i := 1411) (by decide +kernel) (by decide +kernel)
def mX12_strength : MethodName × ByteArray × Nat × Option FieldType := (yX12_strength, cX12_strength, 7, (some .int))
theorem wd_X12_strength : Cond.code yX12_strength cX12_strength 7 (some .int) ∈ jWS := jw_t (i := 1420) (by decide +kernel) (by decide +kernel)
theorem wm_X12_strength : Cond.instanceMethod yX12_strength ∈ jWS := jw_t (i := 1418) (by decide +kernel) (by decide +kernel)
theorem wv_X12_strength : Cond.selects yX12_strength.cls yX12_strength yX12_strength ∈ jWS := jw_t (i := 1419) (by decide +kernel) (by decide +kernel)
def mX12_loadOf : MethodName × ByteArray × Nat × Option FieldType := (yX12_loadOf, cX12_loadOf, 8, (some .int))
theorem wd_X12_loadOf : Cond.code yX12_loadOf cX12_loadOf 8 (some .int) ∈ jWS := jw_t (i := 1429) (by decide +kernel) (by decide +kernel)
theorem wm_X12_loadOf : Cond.instanceMethod yX12_loadOf ∈ jWS := jw_t (i := 1428) (by decide +kernel) (by decide +kernel)
theorem wv_X12_loadOf : Cond.selects yX12_loadOf.cls yX12_loadOf yX12_loadOf ∈ jWS := jw_p (i := 63) (by decide +kernel) (by decide +kernel)
def mX12_load : MethodName × ByteArray × Nat × Option FieldType := (yX12_load, cX12_load, 5, (some .int))
theorem wd_X12_load : Cond.code yX12_load cX12_load 5 (some .int) ∈ jWS := jw_t (i := 1424) (by decide +kernel) (by decide +kernel)
theorem wm_X12_load : Cond.instanceMethod yX12_load ∈ jWS := jw_t (i := 1422) (by decide +kernel) (by decide +kernel)
theorem wv_X12_load : Cond.selects yX12_load.cls yX12_load yX12_load ∈ jWS := jw_t (i := 1423) (by decide +kernel) (by decide +kernel)
def mX12_several : MethodName × ByteArray × Nat × Option FieldType := (yX12_several, cX12_several, 9, (some .int))
theorem wd_X12_several : Cond.code yX12_several cX12_several 9 (some .int) ∈ jWS := jw_t (i := 1433) (by decide +kernel) (by decide +kernel)
theorem wm_X12_several : Cond.instanceMethod yX12_several ∈ jWS := jw_t (i := 1431) (by decide +kernel) (by decide +kernel)
theorem wv_X12_several : Cond.selects yX12_several.cls yX12_several yX12_several ∈ jWS := jw_t (i := 1432) (by decide +kernel) (by decide +kernel)
def mX12_waysOf : MethodName × ByteArray × Nat × Option FieldType := (yX12_waysOf, cX12_waysOf, 8, (some .long))
theorem wd_X12_waysOf : Cond.code yX12_waysOf cX12_waysOf 8 (some .long) ∈ jWS := jw_t (i := 1454) (by decide +kernel) (by decide +kernel)
theorem wm_X12_waysOf : Cond.instanceMethod yX12_waysOf ∈ jWS := jw_t (i := 1453) (by decide +kernel) (by decide +kernel)
theorem wv_X12_waysOf : Cond.selects yX12_waysOf.cls yX12_waysOf yX12_waysOf ∈ jWS := jw_p (i := 67) (by decide +kernel) (by decide +kernel)
def mX12_asksGoes : MethodName × ByteArray × Nat × Option FieldType := (yX12_asksGoes, cX12_asksGoes, 2, none)
theorem wd_X12_asksGoes : Cond.code yX12_asksGoes cX12_asksGoes 2 none ∈ jWS := jw_t (i := 1442) (by decide +kernel) (by decide +kernel)
theorem wm_X12_asksGoes : Cond.instanceMethod yX12_asksGoes ∈ jWS := jw_t (i := 1441) (by decide +kernel) (by decide +kernel)
theorem wv_X12_asksGoes : Cond.selects yX12_asksGoes.cls yX12_asksGoes yX12_asksGoes ∈ jWS := jw_p (i := 64) (by decide +kernel) (by decide +kernel)
def mX12_asksThin : MethodName × ByteArray × Nat × Option FieldType := (yX12_asksThin, cX12_asksThin, 4, none)
theorem wd_X12_asksThin : Cond.code yX12_asksThin cX12_asksThin 4 none ∈ jWS := jw_t (i := 1446) (by decide +kernel) (by decide +kernel)
theorem wm_X12_asksThin : Cond.instanceMethod yX12_asksThin ∈ jWS := jw_t (i := 1445) (by decide +kernel) (by decide +kernel)
theorem wv_X12_asksThin : Cond.selects yX12_asksThin.cls yX12_asksThin yX12_asksThin ∈ jWS := jw_p (i := 65) (by decide +kernel) (by decide +kernel)
def mX12_likelyWays : MethodName × ByteArray × Nat × Option FieldType := (yX12_likelyWays, cX12_likelyWays, 6, (some .long))
theorem wd_X12_likelyWays : Cond.code yX12_likelyWays cX12_likelyWays 6 (some .long) ∈ jWS := jw_t (i := 1450) (by decide +kernel) (by decide +kernel)
theorem wm_X12_likelyWays : Cond.instanceMethod yX12_likelyWays ∈ jWS := jw_t (i := 1449) (by decide +kernel) (by decide +kernel)
theorem wv_X12_likelyWays : Cond.selects yX12_likelyWays.cls yX12_likelyWays yX12_likelyWays ∈ jWS := jw_p (i := 66) (by decide +kernel) (by decide +kernel)
def mX12_commonOf : MethodName × ByteArray × Nat × Option FieldType := (yX12_commonOf, cX12_commonOf, 10, (some .long))
theorem wd_X12_commonOf : Cond.code yX12_commonOf cX12_commonOf 10 (some .long) ∈ jWS := jw_t (i := 1461) (by decide +kernel) (by decide +kernel)
theorem wz_X12_commonOf : Cond.static yX12_commonOf ∈ jWS := jw_t (i := 1460) (by decide +kernel) (by decide +kernel)
def mX12_partOf : MethodName × ByteArray × Nat × Option FieldType := (yX12_partOf, cX12_partOf, 7, (some .long))
theorem wd_X12_partOf : Cond.code yX12_partOf cX12_partOf 7 (some .long) ∈ jWS := jw_t (i := 1458) (by decide +kernel) (by decide +kernel)
theorem wz_X12_partOf : Cond.static yX12_partOf ∈ jWS := jw_t (i := 1457) (by decide +kernel) (by decide +kernel)
def mX12_unsure : MethodName × ByteArray × Nat × Option FieldType := (yX12_unsure, cX12_unsure, 4, (some .long))
theorem wd_X12_unsure : Cond.code yX12_unsure cX12_unsure 4 (some .long) ∈ jWS := jw_t (i := 1437) (by decide +kernel) (by decide +kernel)
theorem wm_X12_unsure : Cond.instanceMethod yX12_unsure ∈ jWS := jw_t (i := 1435) (by decide +kernel) (by decide +kernel)
theorem wv_X12_unsure : Cond.selects yX12_unsure.cls yX12_unsure yX12_unsure ∈ jWS := jw_t (i := 1436) (by decide +kernel) (by decide +kernel)
def mX12_bore : MethodName × ByteArray × Nat × Option FieldType := (yX12_bore, cX12_bore, 10, (some .long))
theorem wd_X12_bore : Cond.code yX12_bore cX12_bore 10 (some .long) ∈ jWS := jw_t (i := 1465) (by decide +kernel) (by decide +kernel)
theorem wm_X12_bore : Cond.instanceMethod yX12_bore ∈ jWS := jw_t (i := 1463) (by decide +kernel) (by decide +kernel)
theorem wv_X12_bore : Cond.selects yX12_bore.cls yX12_bore yX12_bore ∈ jWS := jw_t (i := 1464) (by decide +kernel) (by decide +kernel)
def mX12_safe : MethodName × ByteArray × Nat × Option FieldType := (yX12_safe, cX12_safe, 8, (some .int))
theorem wd_X12_safe : Cond.code yX12_safe cX12_safe 8 (some .int) ∈ jWS := jw_t (i := 1470) (by decide +kernel) (by decide +kernel)
theorem wm_X12_safe : Cond.instanceMethod yX12_safe ∈ jWS := jw_t (i := 1468) (by decide +kernel) (by decide +kernel)
theorem wv_X12_safe : Cond.selects yX12_safe.cls yX12_safe yX12_safe ∈ jWS := jw_t (i := 1469) (by decide +kernel) (by decide +kernel)
def mX12_leaves : MethodName × ByteArray × Nat × Option FieldType := (yX12_leaves, cX12_leaves, 6, (some .boolean))
theorem wd_X12_leaves : Cond.code yX12_leaves cX12_leaves 6 (some .boolean) ∈ jWS := jw_t (i := 1478) (by decide +kernel) (by decide +kernel)
theorem wm_X12_leaves : Cond.instanceMethod yX12_leaves ∈ jWS := jw_t (i := 1477) (by decide +kernel) (by decide +kernel)
theorem wv_X12_leaves : Cond.selects yX12_leaves.cls yX12_leaves yX12_leaves ∈ jWS := jw_p (i := 68) (by decide +kernel) (by decide +kernel)
def mX12_who : MethodName × ByteArray × Nat × Option FieldType := (yX12_who, cX12_who, 8, (some .int))
theorem wd_X12_who : Cond.code yX12_who cX12_who 8 (some .int) ∈ jWS := jw_t (i := 1474) (by decide +kernel) (by decide +kernel)
theorem wm_X12_who : Cond.instanceMethod yX12_who ∈ jWS := jw_t (i := 1472) (by decide +kernel) (by decide +kernel)
theorem wv_X12_who : Cond.selects yX12_who.cls yX12_who yX12_who ∈ jWS := jw_t (i := 1473) (by decide +kernel) (by decide +kernel)
def mX12_isSo : MethodName × ByteArray × Nat × Option FieldType := (yX12_isSo, cX12_isSo, 4, (some .boolean))
theorem wd_X12_isSo : Cond.code yX12_isSo cX12_isSo 4 (some .boolean) ∈ jWS := jw_t (i := 1486) (by decide +kernel) (by decide +kernel)
theorem wm_X12_isSo : Cond.instanceMethod yX12_isSo ∈ jWS := jw_t (i := 1485) (by decide +kernel) (by decide +kernel)
theorem wv_X12_isSo : Cond.selects yX12_isSo.cls yX12_isSo yX12_isSo ∈ jWS := jw_p (i := 69) (by decide +kernel) (by decide +kernel)
def mX12_judge : MethodName × ByteArray × Nat × Option FieldType := (yX12_judge, cX12_judge, 3, (some .int))
theorem wd_X12_judge : Cond.code yX12_judge cX12_judge 3 (some .int) ∈ jWS := jw_t (i := 1482) (by decide +kernel) (by decide +kernel)
theorem wm_X12_judge : Cond.instanceMethod yX12_judge ∈ jWS := jw_t (i := 1480) (by decide +kernel) (by decide +kernel)
theorem wv_X12_judge : Cond.selects yX12_judge.cls yX12_judge yX12_judge ∈ jWS := jw_t (i := 1481) (by decide +kernel) (by decide +kernel)
def mX12_drawn : MethodName × ByteArray × Nat × Option FieldType := (yX12_drawn, cX12_drawn, 11, (some .int))
theorem wd_X12_drawn : Cond.code yX12_drawn cX12_drawn 11 (some .int) ∈ jWS := jw_t (i := 1490) (by decide +kernel) (by decide +kernel)
theorem wm_X12_drawn : Cond.instanceMethod yX12_drawn ∈ jWS := jw_t (i := 1488) (by decide +kernel) (by decide +kernel)
theorem wv_X12_drawn : Cond.selects yX12_drawn.cls yX12_drawn yX12_drawn ∈ jWS := jw_t (i := 1489) (by decide +kernel) (by decide +kernel)
def mX12_lays : MethodName × ByteArray × Nat × Option FieldType := (yX12_lays, cX12_lays, 2, none)
theorem wd_X12_lays : Cond.code yX12_lays cX12_lays 2 none ∈ jWS := jw_t (i := 1500) (by decide +kernel) (by decide +kernel)
theorem wm_X12_lays : Cond.instanceMethod yX12_lays ∈ jWS := jw_t (i := 1499) (by decide +kernel) (by decide +kernel)
theorem wv_X12_lays : Cond.selects yX12_lays.cls yX12_lays yX12_lays ∈ jWS := jw_p (i := 70) (by decide +kernel) (by decide +kernel)
def mX12_go : MethodName × ByteArray × Nat × Option FieldType := (yX12_go, cX12_go, 4, (some .int))
theorem wd_X12_go : Cond.code yX12_go cX12_go 4 (some .int) ∈ jWS := jw_t (i := 1496) (by decide +kernel) (by decide +kernel)
theorem wm_X12_go : Cond.instanceMethod yX12_go ∈ jWS := jw_t (i := 1494) (by decide +kernel) (by decide +kernel)
theorem wv_X12_go : Cond.selects yX12_go.cls yX12_go yX12_go ∈ jWS := jw_t (i := 1495) (by decide +kernel) (by decide +kernel)
def mX12_stay : MethodName × ByteArray × Nat × Option FieldType := (yX12_stay, cX12_stay, 2, (some .int))
theorem wd_X12_stay : Cond.code yX12_stay cX12_stay 2 (some .int) ∈ jWS := jw_t (i := 1504) (by decide +kernel) (by decide +kernel)
theorem wm_X12_stay : Cond.instanceMethod yX12_stay ∈ jWS := jw_t (i := 1502) (by decide +kernel) (by decide +kernel)
theorem wv_X12_stay : Cond.selects yX12_stay.cls yX12_stay yX12_stay ∈ jWS := jw_t (i := 1503) (by decide +kernel) (by decide +kernel)
def mX12_led : MethodName × ByteArray × Nat × Option FieldType := (yX12_led, cX12_led, 2, (some .int))
theorem wd_X12_led : Cond.code yX12_led cX12_led 2 (some .int) ∈ jWS := jw_t (i := 1508) (by decide +kernel) (by decide +kernel)
theorem wm_X12_led : Cond.instanceMethod yX12_led ∈ jWS := jw_t (i := 1506) (by decide +kernel) (by decide +kernel)
theorem wv_X12_led : Cond.selects yX12_led.cls yX12_led yX12_led ∈ jWS := jw_t (i := 1507) (by decide +kernel) (by decide +kernel)
def mX12_image : MethodName × ByteArray × Nat × Option FieldType := (yX12_image, cX12_image, 2, (some .int))
theorem wd_X12_image : Cond.code yX12_image cX12_image 2 (some .int) ∈ jWS := jw_t (i := 1512) (by decide +kernel) (by decide +kernel)
theorem wm_X12_image : Cond.instanceMethod yX12_image ∈ jWS := jw_t (i := 1510) (by decide +kernel) (by decide +kernel)
theorem wv_X12_image : Cond.selects yX12_image.cls yX12_image yX12_image ∈ jWS := jw_t (i := 1511) (by decide +kernel) (by decide +kernel)
def mX12_back : MethodName × ByteArray × Nat × Option FieldType := (yX12_back, cX12_back, 2, (some .int))
theorem wd_X12_back : Cond.code yX12_back cX12_back 2 (some .int) ∈ jWS := jw_t (i := 1517) (by decide +kernel) (by decide +kernel)
theorem wm_X12_back : Cond.instanceMethod yX12_back ∈ jWS := jw_t (i := 1515) (by decide +kernel) (by decide +kernel)
theorem wv_X12_back : Cond.selects yX12_back.cls yX12_back yX12_back ∈ jWS := jw_t (i := 1516) (by decide +kernel) (by decide +kernel)
def mX12_weakMany : MethodName × ByteArray × Nat × Option FieldType := (yX12_weakMany, cX12_weakMany, 3, (some .int))
theorem wd_X12_weakMany : Cond.code yX12_weakMany cX12_weakMany 3 (some .int) ∈ jWS := jw_t (i := 1599) (by decide +kernel) (by decide +kernel)
theorem wm_X12_weakMany : Cond.instanceMethod yX12_weakMany ∈ jWS := jw_t (i := 1598) (by decide +kernel) (by decide +kernel)
theorem wv_X12_weakMany : Cond.selects yX12_weakMany.cls yX12_weakMany yX12_weakMany ∈ jWS := jw_p (i := 79) (by decide +kernel) (by decide +kernel)
def mX12_isBody : MethodName × ByteArray × Nat × Option FieldType := (yX12_isBody, cX12_isBody, 2, (some .boolean))
theorem wd_X12_isBody : Cond.code yX12_isBody cX12_isBody 2 (some .boolean) ∈ jWS := jw_t (i := 1529) (by decide +kernel) (by decide +kernel)
theorem wm_X12_isBody : Cond.instanceMethod yX12_isBody ∈ jWS := jw_t (i := 1528) (by decide +kernel) (by decide +kernel)
theorem wv_X12_isBody : Cond.selects yX12_isBody.cls yX12_isBody yX12_isBody ∈ jWS := jw_p (i := 71) (by decide +kernel) (by decide +kernel)
def mX12_kindOf : MethodName × ByteArray × Nat × Option FieldType := (yX12_kindOf, cX12_kindOf, 2, (some .int))
theorem wd_X12_kindOf : Cond.code yX12_kindOf cX12_kindOf 2 (some .int) ∈ jWS := jw_t (i := 1588) (by decide +kernel) (by decide +kernel)
theorem wm_X12_kindOf : Cond.instanceMethod yX12_kindOf ∈ jWS := jw_t (i := 1587) (by decide +kernel) (by decide +kernel)
theorem wv_X12_kindOf : Cond.selects yX12_kindOf.cls yX12_kindOf yX12_kindOf ∈ jWS := jw_p (i := 78) (by decide +kernel) (by decide +kernel)
def mX12_body : MethodName × ByteArray × Nat × Option FieldType := (yX12_body, cX12_body, 2, (some .int))
theorem wd_X12_body : Cond.code yX12_body cX12_body 2 (some .int) ∈ jWS := jw_t (i := 1521) (by decide +kernel) (by decide +kernel)
theorem wm_X12_body : Cond.instanceMethod yX12_body ∈ jWS := jw_t (i := 1519) (by decide +kernel) (by decide +kernel)
theorem wv_X12_body : Cond.selects yX12_body.cls yX12_body yX12_body ∈ jWS := jw_t (i := 1520) (by decide +kernel) (by decide +kernel)
def mX12_above : MethodName × ByteArray × Nat × Option FieldType := (yX12_above, cX12_above, 1, (some .int))
theorem wd_X12_above : Cond.code yX12_above cX12_above 1 (some .int) ∈ jWS := jw_t (i := 1591) (by decide +kernel) (by decide +kernel)
theorem wz_X12_above : Cond.static yX12_above ∈ jWS := jw_t (i := 1590) (by decide +kernel) (by decide +kernel)
def mX12_begins : MethodName × ByteArray × Nat × Option FieldType := (yX12_begins, cX12_begins, 2, none)
theorem wd_X12_begins : Cond.code yX12_begins cX12_begins 2 none ∈ jWS := jw_t (i := 1537) (by decide +kernel) (by decide +kernel)
theorem wm_X12_begins : Cond.instanceMethod yX12_begins ∈ jWS := jw_t (i := 1536) (by decide +kernel) (by decide +kernel)
theorem wv_X12_begins : Cond.selects yX12_begins.cls yX12_begins yX12_begins ∈ jWS := jw_p (i := 73) (by decide +kernel) (by decide +kernel)
def mX12_goesAs : MethodName × ByteArray × Nat × Option FieldType := (yX12_goesAs, cX12_goesAs, 3, (some .int))
theorem wd_X12_goesAs : Cond.code yX12_goesAs cX12_goesAs 3 (some .int) ∈ jWS := jw_t (i := 1533) (by decide +kernel) (by decide +kernel)
theorem wm_X12_goesAs : Cond.instanceMethod yX12_goesAs ∈ jWS := jw_t (i := 1532) (by decide +kernel) (by decide +kernel)
theorem wv_X12_goesAs : Cond.selects yX12_goesAs.cls yX12_goesAs yX12_goesAs ∈ jWS := jw_p (i := 72) (by decide +kernel) (by decide +kernel)
def mX12_bearsAs : MethodName × ByteArray × Nat × Option FieldType := (yX12_bearsAs, cX12_bearsAs, 4, (some .int))
theorem wd_X12_bearsAs : Cond.code yX12_bearsAs cX12_bearsAs 4 (some .int) ∈ jWS := jw_t (i := 1541) (by decide +kernel) (by decide +kernel)
theorem wm_X12_bearsAs : Cond.instanceMethod yX12_bearsAs ∈ jWS := jw_t (i := 1540) (by decide +kernel) (by decide +kernel)
theorem wv_X12_bearsAs : Cond.selects yX12_bearsAs.cls yX12_bearsAs yX12_bearsAs ∈ jWS := jw_p (i := 74) (by decide +kernel) (by decide +kernel)
def mX12_waitsAs : MethodName × ByteArray × Nat × Option FieldType := (yX12_waitsAs, cX12_waitsAs, 4, (some .int))
theorem wd_X12_waitsAs : Cond.code yX12_waitsAs cX12_waitsAs 4 (some .int) ∈ jWS := jw_t (i := 1545) (by decide +kernel) (by decide +kernel)
theorem wm_X12_waitsAs : Cond.instanceMethod yX12_waitsAs ∈ jWS := jw_t (i := 1544) (by decide +kernel) (by decide +kernel)
theorem wv_X12_waitsAs : Cond.selects yX12_waitsAs.cls yX12_waitsAs yX12_waitsAs ∈ jWS := jw_p (i := 75) (by decide +kernel) (by decide +kernel)
def mX12_tellsAs : MethodName × ByteArray × Nat × Option FieldType := (yX12_tellsAs, cX12_tellsAs, 4, (some .int))
theorem wd_X12_tellsAs : Cond.code yX12_tellsAs cX12_tellsAs 4 (some .int) ∈ jWS := jw_t (i := 1549) (by decide +kernel) (by decide +kernel)
theorem wm_X12_tellsAs : Cond.instanceMethod yX12_tellsAs ∈ jWS := jw_t (i := 1548) (by decide +kernel) (by decide +kernel)
theorem wv_X12_tellsAs : Cond.selects yX12_tellsAs.cls yX12_tellsAs yX12_tellsAs ∈ jWS := jw_p (i := 76) (by decide +kernel) (by decide +kernel)
def mX12_act : MethodName × ByteArray × Nat × Option FieldType := (yX12_act, cX12_act, 4, (some .int))
theorem wd_X12_act : Cond.code yX12_act cX12_act 4 (some .int) ∈ jWS := jw_t (i := 1525) (by decide +kernel) (by decide +kernel)
theorem wm_X12_act : Cond.instanceMethod yX12_act ∈ jWS := jw_t (i := 1523) (by decide +kernel) (by decide +kernel)
theorem wv_X12_act : Cond.selects yX12_act.cls yX12_act yX12_act ∈ jWS := jw_t (i := 1524) (by decide +kernel) (by decide +kernel)
def mX12_trace : MethodName × ByteArray × Nat × Option FieldType := (yX12_trace, cX12_trace, 2, (some .int))
theorem wd_X12_trace : Cond.code yX12_trace cX12_trace 2 (some .int) ∈ jWS := jw_t (i := 1553) (by decide +kernel) (by decide +kernel)
theorem wm_X12_trace : Cond.instanceMethod yX12_trace ∈ jWS := jw_t (i := 1551) (by decide +kernel) (by decide +kernel)
theorem wv_X12_trace : Cond.selects yX12_trace.cls yX12_trace yX12_trace ∈ jWS := jw_t (i := 1552) (by decide +kernel) (by decide +kernel)
def mX12_isShelf : MethodName × ByteArray × Nat × Option FieldType := (yX12_isShelf, cX12_isShelf, 1, (some .boolean))
theorem wd_X12_isShelf : Cond.code yX12_isShelf cX12_isShelf 1 (some .boolean) ∈ jWS := jw_t (i := 1223) (by decide +kernel) (by decide +kernel)
theorem wz_X12_isShelf : Cond.static yX12_isShelf ∈ jWS := jw_t (i := 1222) (by decide +kernel) (by decide +kernel)
def mX12_keep : MethodName × ByteArray × Nat × Option FieldType := (yX12_keep, cX12_keep, 3, (some .int))
theorem wd_X12_keep : Cond.code yX12_keep cX12_keep 3 (some .int) ∈ jWS := jw_t (i := 1557) (by decide +kernel) (by decide +kernel)
theorem wm_X12_keep : Cond.instanceMethod yX12_keep ∈ jWS := jw_t (i := 1555) (by decide +kernel) (by decide +kernel)
theorem wv_X12_keep : Cond.selects yX12_keep.cls yX12_keep yX12_keep ∈ jWS := jw_t (i := 1556) (by decide +kernel) (by decide +kernel)
def mX12_row : MethodName × ByteArray × Nat × Option FieldType := (yX12_row, cX12_row, 5, (some .int))
theorem wd_X12_row : Cond.code yX12_row cX12_row 5 (some .int) ∈ jWS := jw_t (i := 1561) (by decide +kernel) (by decide +kernel)
theorem wm_X12_row : Cond.instanceMethod yX12_row ∈ jWS := jw_t (i := 1559) (by decide +kernel) (by decide +kernel)
theorem wv_X12_row : Cond.selects yX12_row.cls yX12_row yX12_row ∈ jWS := jw_t (i := 1560) (by decide +kernel) (by decide +kernel)
def mX12_refusal : MethodName × ByteArray × Nat × Option FieldType := (yX12_refusal, cX12_refusal, 3, (some .int))
theorem wd_X12_refusal : Cond.code yX12_refusal cX12_refusal 3 (some .int) ∈ jWS := jw_t (i := 1569) (by decide +kernel) (by decide +kernel)
theorem wm_X12_refusal : Cond.instanceMethod yX12_refusal ∈ jWS := jw_t (i := 1568) (by decide +kernel) (by decide +kernel)
theorem wv_X12_refusal : Cond.selects yX12_refusal.cls yX12_refusal yX12_refusal ∈ jWS := jw_p (i := 77) (by decide +kernel) (by decide +kernel)
def mX12_asSort : MethodName × ByteArray × Nat × Option FieldType := (yX12_asSort, cX12_asSort, 3, (some .long))
theorem wd_X12_asSort : Cond.code yX12_asSort cX12_asSort 3 (some .long) ∈ jWS := jw_t (i := 1572) (by decide +kernel) (by decide +kernel)
theorem wz_X12_asSort : Cond.static yX12_asSort ∈ jWS := jw_t (i := 1571) (by decide +kernel) (by decide +kernel)
def mX12_put : MethodName × ByteArray × Nat × Option FieldType := (yX12_put, cX12_put, 6, (some .int))
theorem wd_X12_put : Cond.code yX12_put cX12_put 6 (some .int) ∈ jWS := jw_t (i := 1565) (by decide +kernel) (by decide +kernel)
theorem wm_X12_put : Cond.instanceMethod yX12_put ∈ jWS := jw_t (i := 1563) (by decide +kernel) (by decide +kernel)
theorem wv_X12_put : Cond.selects yX12_put.cls yX12_put yX12_put ∈ jWS := jw_t (i := 1564) (by decide +kernel) (by decide +kernel)
def mX12_element : MethodName × ByteArray × Nat × Option FieldType := (yX12_element, cX12_element, 3, (some .long))
theorem wd_X12_element : Cond.code yX12_element cX12_element 3 (some .long) ∈ jWS := jw_t (i := 1576) (by decide +kernel) (by decide +kernel)
theorem wm_X12_element : Cond.instanceMethod yX12_element ∈ jWS := jw_t (i := 1574) (by decide +kernel) (by decide +kernel)
theorem wv_X12_element : Cond.selects yX12_element.cls yX12_element yX12_element ∈ jWS := jw_t (i := 1575) (by decide +kernel) (by decide +kernel)
def mX12_shift : MethodName × ByteArray × Nat × Option FieldType := (yX12_shift, cX12_shift, 7, (some .int))
theorem wd_X12_shift : Cond.code yX12_shift cX12_shift 7 (some .int) ∈ jWS := jw_t (i := 1580) (by decide +kernel) (by decide +kernel)
theorem wm_X12_shift : Cond.instanceMethod yX12_shift ∈ jWS := jw_t (i := 1578) (by decide +kernel) (by decide +kernel)
theorem wv_X12_shift : Cond.selects yX12_shift.cls yX12_shift yX12_shift ∈ jWS := jw_t (i := 1579) (by decide +kernel) (by decide +kernel)
def mX12_taken : MethodName × ByteArray × Nat × Option FieldType := (yX12_taken, cX12_taken, 4, (some .int))
theorem wd_X12_taken : Cond.code yX12_taken cX12_taken 4 (some .int) ∈ jWS := jw_t (i := 1584) (by decide +kernel) (by decide +kernel)
theorem wm_X12_taken : Cond.instanceMethod yX12_taken ∈ jWS := jw_t (i := 1582) (by decide +kernel) (by decide +kernel)
theorem wv_X12_taken : Cond.selects yX12_taken.cls yX12_taken yX12_taken ∈ jWS := jw_t (i := 1583) (by decide +kernel) (by decide +kernel)
def mX12_count : MethodName × ByteArray × Nat × Option FieldType := (yX12_count, cX12_count, 2, (some .int))
theorem wd_X12_count : Cond.code yX12_count cX12_count 2 (some .int) ∈ jWS := jw_t (i := 1595) (by decide +kernel) (by decide +kernel)
theorem wm_X12_count : Cond.instanceMethod yX12_count ∈ jWS := jw_t (i := 1593) (by decide +kernel) (by decide +kernel)
theorem wv_X12_count : Cond.selects yX12_count.cls yX12_count yX12_count ∈ jWS := jw_t (i := 1594) (by decide +kernel) (by decide +kernel)
def mJ9_max_7cf53 : MethodName × ByteArray × Nat × Option FieldType := (yJ9_max_7cf53, cJ9_max_7cf53, 2, (some .int))
theorem wd_J9_max_7cf53 : Cond.code yJ9_max_7cf53 cJ9_max_7cf53 2 (some .int) ∈ jWS := jw_t (i := 467) (by decide +kernel) (by decide +kernel)
theorem wz_J9_max_7cf53 : Cond.static yJ9_max_7cf53 ∈ jWS := jw_t (i := 466) (by decide +kernel) (by decide +kernel)
def mJ9_min_7cf53 : MethodName × ByteArray × Nat × Option FieldType := (yJ9_min_7cf53, cJ9_min_7cf53, 2, (some .int))
theorem wd_J9_min_7cf53 : Cond.code yJ9_min_7cf53 cJ9_min_7cf53 2 (some .int) ∈ jWS := jw_t (i := 546) (by decide +kernel) (by decide +kernel)
theorem wz_J9_min_7cf53 : Cond.static yJ9_min_7cf53 ∈ jWS := jw_t (i := 545) (by decide +kernel) (by decide +kernel)
def mJ7_fill_d0a16 : MethodName × ByteArray × Nat × Option FieldType := (yJ7_fill_d0a16, cJ7_fill_d0a16, 5, none)
theorem wd_J7_fill_d0a16 : Cond.code yJ7_fill_d0a16 cJ7_fill_d0a16 5 none ∈ jWS := jw_t (i := 970) (by decide +kernel) (by decide +kernel)
theorem wz_J7_fill_d0a16 : Cond.static yJ7_fill_d0a16 ∈ jWS := jw_t (i := 969) (by decide +kernel) (by decide +kernel)
def mJ7_fill_53178 : MethodName × ByteArray × Nat × Option FieldType := (yJ7_fill_53178, cJ7_fill_53178, 4, none)
theorem wd_J7_fill_53178 : Cond.code yJ7_fill_53178 cJ7_fill_53178 4 none ∈ jWS := jw_t (i := 37) (by decide +kernel) (by decide +kernel)
theorem wz_J7_fill_53178 : Cond.static yJ7_fill_53178 ∈ jWS := jw_t (i := 36) (by decide +kernel) (by decide +kernel)
theorem lk_L_9 : Cond.methodLink RL 9 yX11_init ∈ jWS := jw_t (i := 19) (by decide +kernel) (by decide +kernel)
theorem lk_X11_9 : Cond.methodLink RX11 9 yX7_init ∈ jWS := jw_t (i := 27) (by decide +kernel) (by decide +kernel)
theorem vm_X7_20 : jSm RX7 20 yJ7_fill_53178 cJ7_fill_53178 4 none 2 := ⟨jw_t (i := 35) (by decide +kernel) (by decide +kernel), wz_J7_fill_53178, wi_J7, wd_J7_fill_53178, ⟨by decide +kernel, by decide +kernel⟩, by decide +kernel, by decide⟩
theorem lk_X11_18 : Cond.methodLink RX11 18 yX2_init ∈ jWS := jw_t (i := 52) (by decide +kernel) (by decide +kernel)
theorem lk_X11_25 : Cond.methodLink RX11 25 yX6_init ∈ jWS := jw_t (i := 79) (by decide +kernel) (by decide +kernel)
theorem lk_X11_32 : Cond.methodLink RX11 32 yX3_init ∈ jWS := jw_t (i := 117) (by decide +kernel) (by decide +kernel)
theorem lk_X11_41 : Cond.methodLink RX11 41 yX4_init ∈ jWS := jw_t (i := 142) (by decide +kernel) (by decide +kernel)
theorem lk_X4_11 : Cond.methodLink RX4 11 yX5_init ∈ jWS := jw_t (i := 148) (by decide +kernel) (by decide +kernel)
theorem lk_X11_48 : Cond.methodLink RX11 48 yX10_init ∈ jWS := jw_t (i := 192) (by decide +kernel) (by decide +kernel)
theorem lk_X10_21 : Cond.methodLink RX10 21 yX5_init ∈ jWS := jw_t (i := 197) (by decide +kernel) (by decide +kernel)
theorem lk_X11_57 : Cond.methodLink RX11 57 yX8_init ∈ jWS := jw_t (i := 230) (by decide +kernel) (by decide +kernel)
theorem lk_X8_21 : Cond.methodLink RX8 21 yX5_init ∈ jWS := jw_t (i := 235) (by decide +kernel) (by decide +kernel)
theorem lk_X11_64 : Cond.methodLink RX11 64 yX1_init ∈ jWS := jw_t (i := 261) (by decide +kernel) (by decide +kernel)
theorem lk_X1_21 : Cond.methodLink RX1 21 yX5_init ∈ jWS := jw_t (i := 266) (by decide +kernel) (by decide +kernel)
theorem lk_X11_71 : Cond.methodLink RX11 71 yX9_init ∈ jWS := jw_t (i := 285) (by decide +kernel) (by decide +kernel)
theorem vm_X9_26 : jSm RX9 26 yJ7_fill_53178 cJ7_fill_53178 4 none 2 := ⟨jw_t (i := 291) (by decide +kernel) (by decide +kernel), wz_J7_fill_53178, wi_J7, wd_J7_fill_53178, ⟨by decide +kernel, by decide +kernel⟩, by decide +kernel, by decide⟩
theorem lk_X11_78 : Cond.methodLink RX11 78 yX0_init ∈ jWS := jw_t (i := 308) (by decide +kernel) (by decide +kernel)
theorem vm_L_13 : jVm RL 13 yX11_goer cX11_goer 3 (some .int) 2 := ⟨jw_t (i := 361) (by decide +kernel) (by decide +kernel), wm_X11_goer, wv_X11_goer, wi_X11, wd_X11_goer, ⟨by decide +kernel, by decide +kernel⟩, by decide +kernel, by decide⟩
theorem vm_X11_83 : jVm RX11 83 yX7_allows cX7_allows 3 (some .boolean) 2 := ⟨jw_t (i := 365) (by decide +kernel) (by decide +kernel), wm_X7_allows, wv_X7_allows, wi_X7, wd_X7_allows, ⟨by decide +kernel, by decide +kernel⟩, by decide +kernel, by decide⟩
theorem vm_X11_91 : jVm RX11 91 yX7_add cX7_add 5 (some .int) 3 := ⟨jw_t (i := 373) (by decide +kernel) (by decide +kernel), wm_X7_add, wv_X7_add, wi_X7, wd_X7_add, ⟨by decide +kernel, by decide +kernel⟩, by decide +kernel, by decide⟩
theorem vm_X7_40 : jVm RX7 40 yX7_set cX7_set 4 none 3 := ⟨jw_t (i := 377) (by decide +kernel) (by decide +kernel), wm_X7_set, wv_X7_set, wi_X7, wd_X7_set, ⟨by decide +kernel, by decide +kernel⟩, by decide +kernel, by decide⟩
theorem vm_X7_36 : jVm RX7 36 yX7_has cX7_has 3 (some .boolean) 2 := ⟨jw_t (i := 381) (by decide +kernel) (by decide +kernel), wm_X7_has, wv_X7_has, wi_X7, wd_X7_has, ⟨by decide +kernel, by decide +kernel⟩, by decide +kernel, by decide⟩
theorem vm_L_18 : jVm RL 18 yX11_goers cX11_goers 6 (some .int) 3 := ⟨jw_t (i := 385) (by decide +kernel) (by decide +kernel), wm_X11_goers, wv_X11_goers, wi_X11, wd_X11_goers, ⟨by decide +kernel, by decide +kernel⟩, by decide +kernel, by decide⟩
theorem vm_X11_95 : jSm RX11 95 yX11_isShelf cX11_isShelf 1 (some .boolean) 1 := ⟨jw_t (i := 389) (by decide +kernel) (by decide +kernel), wz_X11_isShelf, wi_X11, wd_X11_isShelf, ⟨by decide +kernel, by decide +kernel⟩, by decide +kernel, by decide⟩
theorem vm_X11_99 : jVm RX11 99 yX9_isEmpty cX9_isEmpty 2 (some .boolean) 1 := ⟨jw_t (i := 392) (by decide +kernel) (by decide +kernel), wm_X9_isEmpty, wv_X9_isEmpty, wi_X9, wd_X9_isEmpty, ⟨by decide +kernel, by decide +kernel⟩, by decide +kernel, by decide⟩
theorem vm_X11_102 : jVm RX11 102 yX9_isBytes cX9_isBytes 2 (some .boolean) 1 := ⟨jw_t (i := 397) (by decide +kernel) (by decide +kernel), wm_X9_isBytes, wv_X9_isBytes, wi_X9, wd_X9_isBytes, ⟨by decide +kernel, by decide +kernel⟩, by decide +kernel, by decide⟩
theorem vm_X11_105 : jVm RX11 105 yX9_hasSpan cX9_hasSpan 5 (some .boolean) 3 := ⟨jw_t (i := 401) (by decide +kernel) (by decide +kernel), wm_X9_hasSpan, wv_X9_hasSpan, wi_X9, wd_X9_hasSpan, ⟨by decide +kernel, by decide +kernel⟩, by decide +kernel, by decide⟩
theorem vm_X9_45 : jVm RX9 45 yX9_sizeOf cX9_sizeOf 2 (some .int) 1 := ⟨jw_t (i := 405) (by decide +kernel) (by decide +kernel), wm_X9_sizeOf, wv_X9_sizeOf, wi_X9, wd_X9_sizeOf, ⟨by decide +kernel, by decide +kernel⟩, by decide +kernel, by decide⟩
theorem vm_X11_109 : jVm RX11 109 yX11_comes cX11_comes 6 (some .boolean) 2 := ⟨jw_t (i := 409) (by decide +kernel) (by decide +kernel), wm_X11_comes, wv_X11_comes, wi_X11, wd_X11_comes, ⟨by decide +kernel, by decide +kernel⟩, by decide +kernel, by decide⟩
theorem vm_X11_357 : jVm RX11 357 yX9_byteAt cX9_byteAt 3 (some .int) 2 := ⟨jw_t (i := 413) (by decide +kernel) (by decide +kernel), wm_X9_byteAt, wv_X9_byteAt, wi_X9, wd_X9_byteAt, ⟨by decide +kernel, by decide +kernel⟩, by decide +kernel, by decide⟩
theorem vm_X9_52 : jVm RX9 52 yX9_get cX9_get 3 (some .long) 2 := ⟨jw_t (i := 417) (by decide +kernel) (by decide +kernel), wm_X9_get, wv_X9_get, wi_X9, wd_X9_get, ⟨by decide +kernel, by decide +kernel⟩, by decide +kernel, by decide⟩
theorem vm_L_23 : jVm RL 23 yX11_mend cX11_mend 5 (some .int) 3 := ⟨jw_t (i := 421) (by decide +kernel) (by decide +kernel), wm_X11_mend, wv_X11_mend, wi_X11, wd_X11_mend, ⟨by decide +kernel, by decide +kernel⟩, by decide +kernel, by decide⟩
theorem vm_X11_112 : jVm RX11 112 yX7_has cX7_has 3 (some .boolean) 2 := ⟨jw_t (i := 425) (by decide +kernel) (by decide +kernel), wm_X7_has, wv_X7_has, wi_X7, wd_X7_has, ⟨by decide +kernel, by decide +kernel⟩, by decide +kernel, by decide⟩
theorem vm_X11_115 : jVm RX11 115 yX7_get cX7_get 4 (some .int) 2 := ⟨jw_t (i := 426) (by decide +kernel) (by decide +kernel), wm_X7_get, wv_X7_get, wi_X7, wd_X7_get, ⟨by decide +kernel, by decide +kernel⟩, by decide +kernel, by decide⟩
theorem vm_X11_119 : jVm RX11 119 yX7_set cX7_set 4 none 3 := ⟨jw_t (i := 430) (by decide +kernel) (by decide +kernel), wm_X7_set, wv_X7_set, wi_X7, wd_X7_set, ⟨by decide +kernel, by decide +kernel⟩, by decide +kernel, by decide⟩
theorem vm_X11_123 : jVm RX11 123 yX2_add cX2_add 5 none 4 := ⟨jw_t (i := 431) (by decide +kernel) (by decide +kernel), wm_X2_add, wv_X2_add, wi_X2, wd_X2_add, ⟨by decide +kernel, by decide +kernel⟩, by decide +kernel, by decide⟩
theorem vm_X2_29 : jVm RX2 29 yX2_dropOldest cX2_dropOldest 2 none 0 := ⟨jw_t (i := 435) (by decide +kernel) (by decide +kernel), wm_X2_dropOldest, wv_X2_dropOldest, wi_X2, wd_X2_dropOldest, ⟨by decide +kernel, by decide +kernel⟩, by decide +kernel, by decide⟩
theorem vm_L_27 : jVm RL 27 yX11_of cX11_of 3 (some .int) 2 := ⟨jw_t (i := 442) (by decide +kernel) (by decide +kernel), wm_X11_of, wv_X11_of, wi_X11, wd_X11_of, ⟨by decide +kernel, by decide +kernel⟩, by decide +kernel, by decide⟩
theorem vm_X11_135 : jSm RX11 135 yX11_isSquare cX11_isSquare 1 (some .boolean) 1 := ⟨jw_t (i := 446) (by decide +kernel) (by decide +kernel), wz_X11_isSquare, wi_X11, wd_X11_isSquare, ⟨by decide +kernel, by decide +kernel⟩, by decide +kernel, by decide⟩
theorem vm_X11_138 : jVm RX11 138 yX3_layStrength cX3_layStrength 2 none 1 := ⟨jw_t (i := 449) (by decide +kernel) (by decide +kernel), wm_X3_layStrength, wv_X3_layStrength, wi_X3, wd_X3_layStrength, ⟨by decide +kernel, by decide +kernel⟩, by decide +kernel, by decide⟩
theorem vm_X11_142 : jVm RX11 142 yX5_weakOn cX5_weakOn 2 (some .int) 1 := ⟨jw_t (i := 454) (by decide +kernel) (by decide +kernel), wm_X5_weakOn, wv_X5_weakOn, wi_X5, wd_X5_weakOn, ⟨by decide +kernel, by decide +kernel⟩, by decide +kernel, by decide⟩
theorem vm_X11_146 : jVm RX11 146 yX3_bearing cX3_bearing 6 (some .int) 3 := ⟨jw_t (i := 459) (by decide +kernel) (by decide +kernel), wm_X3_bearing, wv_X3_bearing, wi_X3, wd_X3_bearing, ⟨by decide +kernel, by decide +kernel⟩, by decide +kernel, by decide⟩
theorem vm_X3_65 : jVm RX3 65 yX7_get cX7_get 4 (some .int) 2 := ⟨jw_t (i := 464) (by decide +kernel) (by decide +kernel), wm_X7_get, wv_X7_get, wi_X7, wd_X7_get, ⟨by decide +kernel, by decide +kernel⟩, by decide +kernel, by decide⟩
theorem vm_X3_74 : jSm RX3 74 yJ9_max_7cf53 cJ9_max_7cf53 2 (some .int) 2 := ⟨jw_t (i := 465) (by decide +kernel) (by decide +kernel), wz_J9_max_7cf53, wi_J9, wd_J9_max_7cf53, ⟨by decide +kernel, by decide +kernel⟩, by decide +kernel, by decide⟩
theorem vm_L_31 : jVm RL 31 yX11_feed cX11_feed 2 (some .int) 1 := ⟨jw_t (i := 468) (by decide +kernel) (by decide +kernel), wm_X11_feed, wv_X11_feed, wi_X11, wd_X11_feed, ⟨by decide +kernel, by decide +kernel⟩, by decide +kernel, by decide⟩
theorem vm_X11_150 : jVm RX11 150 yX6_take cX6_take 2 (some .boolean) 1 := ⟨jw_t (i := 472) (by decide +kernel) (by decide +kernel), wm_X6_take, wv_X6_take, wi_X6, wd_X6_take, ⟨by decide +kernel, by decide +kernel⟩, by decide +kernel, by decide⟩
theorem vm_L_36 : jVm RL 36 yX11_law cX11_law 2 (some .int) 0 := ⟨jw_t (i := 476) (by decide +kernel) (by decide +kernel), wm_X11_law, wv_X11_law, wi_X11, wd_X11_law, ⟨by decide +kernel, by decide +kernel⟩, by decide +kernel, by decide⟩
theorem vm_X11_156 : jVm RX11 156 yX6_read cX6_read 3 (some .int) 0 := ⟨jw_t (i := 480) (by decide +kernel) (by decide +kernel), wm_X6_read, wv_X6_read, wi_X6, wd_X6_read, ⟨by decide +kernel, by decide +kernel⟩, by decide +kernel, by decide⟩
theorem vm_X6_41 : jVm RX6 41 yX6_readLine cX6_readLine 3 (some .boolean) 0 := ⟨jw_t (i := 484) (by decide +kernel) (by decide +kernel), wm_X6_readLine, wv_X6_readLine, wi_X6, wd_X6_readLine, ⟨by decide +kernel, by decide +kernel⟩, by decide +kernel, by decide⟩
theorem vm_X6_54 : jVm RX6 54 yX6_readLevel cX6_readLevel 6 none 2 := ⟨jw_t (i := 488) (by decide +kernel) (by decide +kernel), wm_X6_readLevel, wv_X6_readLevel, wi_X6, wd_X6_readLevel, ⟨by decide +kernel, by decide +kernel⟩, by decide +kernel, by decide⟩
theorem vm_X6_66 : jVm RX6 66 yX6_readOperand cX6_readOperand 3 none 1 := ⟨jw_t (i := 492) (by decide +kernel) (by decide +kernel), wm_X6_readOperand, wv_X6_readOperand, wi_X6, wd_X6_readOperand, ⟨by decide +kernel, by decide +kernel⟩, by decide +kernel, by decide⟩
theorem vm_X6_58 : jVm RX6 58 yX6_next cX6_next 1 (some .int) 0 := ⟨jw_t (i := 496) (by decide +kernel) (by decide +kernel), wm_X6_next, wv_X6_next, wi_X6, wd_X6_next, ⟨by decide +kernel, by decide +kernel⟩, by decide +kernel, by decide⟩
theorem vm_X6_73 : jSm RX6 73 yX6_isDigit cX6_isDigit 1 (some .boolean) 1 := ⟨jw_t (i := 500) (by decide +kernel) (by decide +kernel), wz_X6_isDigit, wi_X6, wd_X6_isDigit, ⟨by decide +kernel, by decide +kernel⟩, by decide +kernel, by decide⟩
theorem vm_X6_77 : jVm RX6 77 yX6_readNumber cX6_readNumber 3 none 0 := ⟨jw_t (i := 503) (by decide +kernel) (by decide +kernel), wm_X6_readNumber, wv_X6_readNumber, wi_X6, wd_X6_readNumber, ⟨by decide +kernel, by decide +kernel⟩, by decide +kernel, by decide⟩
theorem vm_X6_62 : jVm RX6 62 yX6_emit cX6_emit 2 none 1 := ⟨jw_t (i := 507) (by decide +kernel) (by decide +kernel), wm_X6_emit, wv_X6_emit, wi_X6, wd_X6_emit, ⟨by decide +kernel, by decide +kernel⟩, by decide +kernel, by decide⟩
theorem vm_X6_80 : jSm RX6 80 yX6_nameOf cX6_nameOf 1 (some .int) 1 := ⟨jw_t (i := 511) (by decide +kernel) (by decide +kernel), wz_X6_nameOf, wi_X6, wd_X6_nameOf, ⟨by decide +kernel, by decide +kernel⟩, by decide +kernel, by decide⟩
theorem vm_X6_45 : jVm RX6 45 yX6_spoil cX6_spoil 1 none 0 := ⟨jw_t (i := 514) (by decide +kernel) (by decide +kernel), wm_X6_spoil, wv_X6_spoil, wi_X6, wd_X6_spoil, ⟨by decide +kernel, by decide +kernel⟩, by decide +kernel, by decide⟩
theorem vm_X6_69 : jSm RX6 69 yX6_levelOf cX6_levelOf 1 (some .int) 1 := ⟨jw_t (i := 518) (by decide +kernel) (by decide +kernel), wz_X6_levelOf, wi_X6, wd_X6_levelOf, ⟨by decide +kernel, by decide +kernel⟩, by decide +kernel, by decide⟩
theorem vm_L_41 : jVm RL 41 yX11_over cX11_over 5 (some .int) 3 := ⟨jw_t (i := 522) (by decide +kernel) (by decide +kernel), wm_X11_over, wv_X11_over, wi_X11, wd_X11_over, ⟨by decide +kernel, by decide +kernel⟩, by decide +kernel, by decide⟩
theorem vm_X11_160 : jSm RX11 160 yX11_isWay cX11_isWay 1 (some .boolean) 1 := ⟨jw_t (i := 526) (by decide +kernel) (by decide +kernel), wz_X11_isWay, wi_X11, wd_X11_isWay, ⟨by decide +kernel, by decide +kernel⟩, by decide +kernel, by decide⟩
theorem vm_X11_163 : jVm RX11 163 yX9_bytesRefusal cX9_bytesRefusal 2 (some .int) 1 := ⟨jw_t (i := 529) (by decide +kernel) (by decide +kernel), wm_X9_bytesRefusal, wv_X9_bytesRefusal, wi_X9, wd_X9_bytesRefusal, ⟨by decide +kernel, by decide +kernel⟩, by decide +kernel, by decide⟩
theorem vm_X9_36 : jVm RX9 36 yX9_isEmpty cX9_isEmpty 2 (some .boolean) 1 := ⟨jw_t (i := 533) (by decide +kernel) (by decide +kernel), wm_X9_isEmpty, wv_X9_isEmpty, wi_X9, wd_X9_isEmpty, ⟨by decide +kernel, by decide +kernel⟩, by decide +kernel, by decide⟩
theorem vm_X9_39 : jVm RX9 39 yX9_isBytes cX9_isBytes 2 (some .boolean) 1 := ⟨jw_t (i := 534) (by decide +kernel) (by decide +kernel), wm_X9_isBytes, wv_X9_isBytes, wi_X9, wd_X9_isBytes, ⟨by decide +kernel, by decide +kernel⟩, by decide +kernel, by decide⟩
theorem vm_X11_166 : jVm RX11 166 yX11_runOrder cX11_runOrder 3 none 2 := ⟨jw_t (i := 535) (by decide +kernel) (by decide +kernel), wm_X11_runOrder, wv_X11_runOrder, wi_X11, wd_X11_runOrder, ⟨by decide +kernel, by decide +kernel⟩, by decide +kernel, by decide⟩
theorem vm_X11_187 : jVm RX11 187 yX10_readOrder cX10_readOrder 7 none 3 := ⟨jw_t (i := 539) (by decide +kernel) (by decide +kernel), wm_X10_readOrder, wv_X10_readOrder, wi_X10, wd_X10_readOrder, ⟨by decide +kernel, by decide +kernel⟩, by decide +kernel, by decide⟩
theorem vm_X10_43 : jVm RX10 43 yX9_sizeOf cX9_sizeOf 2 (some .int) 1 := ⟨jw_t (i := 543) (by decide +kernel) (by decide +kernel), wm_X9_sizeOf, wv_X9_sizeOf, wi_X9, wd_X9_sizeOf, ⟨by decide +kernel, by decide +kernel⟩, by decide +kernel, by decide⟩
theorem vm_X10_49 : jSm RX10 49 yJ9_min_7cf53 cJ9_min_7cf53 2 (some .int) 2 := ⟨jw_t (i := 544) (by decide +kernel) (by decide +kernel), wz_J9_min_7cf53, wi_J9, wd_J9_min_7cf53, ⟨by decide +kernel, by decide +kernel⟩, by decide +kernel, by decide⟩
theorem vm_X10_55 : jVm RX10 55 yX9_byteAt cX9_byteAt 3 (some .int) 2 := ⟨jw_t (i := 547) (by decide +kernel) (by decide +kernel), wm_X9_byteAt, wv_X9_byteAt, wi_X9, wd_X9_byteAt, ⟨by decide +kernel, by decide +kernel⟩, by decide +kernel, by decide⟩
theorem vm_X10_63 : jVm RX10 63 yX10_add cX10_add 2 none 1 := ⟨jw_t (i := 548) (by decide +kernel) (by decide +kernel), wm_X10_add, wv_X10_add, wi_X10, wd_X10_add, ⟨by decide +kernel, by decide +kernel⟩, by decide +kernel, by decide⟩
theorem vm_X11_194 : jVm RX11 194 yX3_follow cX3_follow 3 none 2 := ⟨jw_t (i := 552) (by decide +kernel) (by decide +kernel), wm_X3_follow, wv_X3_follow, wi_X3, wd_X3_follow, ⟨by decide +kernel, by decide +kernel⟩, by decide +kernel, by decide⟩
theorem vm_X3_57 : jVm RX3 57 yX3_layStrength cX3_layStrength 2 none 1 := ⟨jw_t (i := 556) (by decide +kernel) (by decide +kernel), wm_X3_layStrength, wv_X3_layStrength, wi_X3, wd_X3_layStrength, ⟨by decide +kernel, by decide +kernel⟩, by decide +kernel, by decide⟩
theorem vm_X11_217 : jVm RX11 217 yX10_walk cX10_walk 4 none 1 := ⟨jw_t (i := 557) (by decide +kernel) (by decide +kernel), wm_X10_walk, wv_X10_walk, wi_X10, wd_X10_walk, ⟨by decide +kernel, by decide +kernel⟩, by decide +kernel, by decide⟩
theorem vm_X10_70 : jVm RX10 70 yX10_goerAt cX10_goerAt 2 (some .int) 1 := ⟨jw_t (i := 561) (by decide +kernel) (by decide +kernel), wm_X10_goerAt, wv_X10_goerAt, wi_X10, wd_X10_goerAt, ⟨by decide +kernel, by decide +kernel⟩, by decide +kernel, by decide⟩
theorem vm_X10_79 : jVm RX10 79 yX3_cross cX3_cross 9 (some .int) 5 := ⟨jw_t (i := 565) (by decide +kernel) (by decide +kernel), wm_X3_cross, wv_X3_cross, wi_X3, wd_X3_cross, ⟨by decide +kernel, by decide +kernel⟩, by decide +kernel, by decide⟩
theorem vm_X3_106 : jVm RX3 106 yX3_ready cX3_ready 4 none 2 := ⟨jw_t (i := 569) (by decide +kernel) (by decide +kernel), wm_X3_ready, wv_X3_ready, wi_X3, wd_X3_ready, ⟨by decide +kernel, by decide +kernel⟩, by decide +kernel, by decide⟩
theorem vm_X3_110 : jVm RX3 110 yX3_steps cX3_steps 6 (some .boolean) 2 := ⟨jw_t (i := 573) (by decide +kernel) (by decide +kernel), wm_X3_steps, wv_X3_steps, wi_X3, wd_X3_steps, ⟨by decide +kernel, by decide +kernel⟩, by decide +kernel, by decide⟩
theorem vm_X3_96 : jVm RX3 96 yX3_bearing cX3_bearing 6 (some .int) 3 := ⟨jw_t (i := 577) (by decide +kernel) (by decide +kernel), wm_X3_bearing, wv_X3_bearing, wi_X3, wd_X3_bearing, ⟨by decide +kernel, by decide +kernel⟩, by decide +kernel, by decide⟩
theorem vm_X3_100 : jVm RX3 100 yX3_weaker cX3_weaker 5 (some .int) 3 := ⟨jw_t (i := 578) (by decide +kernel) (by decide +kernel), wm_X3_weaker, wv_X3_weaker, wi_X3, wd_X3_weaker, ⟨by decide +kernel, by decide +kernel⟩, by decide +kernel, by decide⟩
theorem vm_X3_79 : jVm RX3 79 yX6_isTold cX6_isTold 1 (some .boolean) 0 := ⟨jw_t (i := 582) (by decide +kernel) (by decide +kernel), wm_X6_isTold, wv_X6_isTold, wi_X6, wd_X6_isTold, ⟨by decide +kernel, by decide +kernel⟩, by decide +kernel, by decide⟩
theorem vm_X3_85 : jVm RX3 85 yX6_name cX6_name 7 none 6 := ⟨jw_t (i := 586) (by decide +kernel) (by decide +kernel), wm_X6_name, wv_X6_name, wi_X6, wd_X6_name, ⟨by decide +kernel, by decide +kernel⟩, by decide +kernel, by decide⟩
theorem vm_X3_89 : jVm RX3 89 yX6_work cX6_work 5 (some .int) 0 := ⟨jw_t (i := 590) (by decide +kernel) (by decide +kernel), wm_X6_work, wv_X6_work, wi_X6, wd_X6_work, ⟨by decide +kernel, by decide +kernel⟩, by decide +kernel, by decide⟩
theorem vm_X6_83 : jVm RX6 83 yX6_named cX6_named 2 (some .int) 1 := ⟨jw_t (i := 594) (by decide +kernel) (by decide +kernel), wm_X6_named, wv_X6_named, wi_X6, wd_X6_named, ⟨by decide +kernel, by decide +kernel⟩, by decide +kernel, by decide⟩
theorem vm_X6_86 : jSm RX6 86 yX6_joined cX6_joined 3 (some .int) 3 := ⟨jw_t (i := 598) (by decide +kernel) (by decide +kernel), wz_X6_joined, wi_X6, wd_X6_joined, ⟨by decide +kernel, by decide +kernel⟩, by decide +kernel, by decide⟩
theorem vm_X3_93 : jSm RX3 93 yJ9_min_7cf53 cJ9_min_7cf53 2 (some .int) 2 := ⟨jw_t (i := 601) (by decide +kernel) (by decide +kernel), wz_J9_min_7cf53, wi_J9, wd_J9_min_7cf53, ⟨by decide +kernel, by decide +kernel⟩, by decide +kernel, by decide⟩
theorem vm_X3_114 : jVm RX3 114 yX3_passBehind cX3_passBehind 2 none 1 := ⟨jw_t (i := 602) (by decide +kernel) (by decide +kernel), wm_X3_passBehind, wv_X3_passBehind, wi_X3, wd_X3_passBehind, ⟨by decide +kernel, by decide +kernel⟩, by decide +kernel, by decide⟩
theorem vm_X3_103 : jVm RX3 103 yX3_pass cX3_pass 5 none 2 := ⟨jw_t (i := 606) (by decide +kernel) (by decide +kernel), wm_X3_pass, wv_X3_pass, wi_X3, wd_X3_pass, ⟨by decide +kernel, by decide +kernel⟩, by decide +kernel, by decide⟩
theorem vm_L_45 : jVm RL 45 yX11_bears cX11_bears 5 (some .int) 3 := ⟨jw_t (i := 610) (by decide +kernel) (by decide +kernel), wm_X11_bears, wv_X11_bears, wi_X11, wd_X11_bears, ⟨by decide +kernel, by decide +kernel⟩, by decide +kernel, by decide⟩
theorem vm_L_49 : jVm RL 49 yX11_all cX11_all 4 (some .int) 2 := ⟨jw_t (i := 614) (by decide +kernel) (by decide +kernel), wm_X11_all, wv_X11_all, wi_X11, wd_X11_all, ⟨by decide +kernel, by decide +kernel⟩, by decide +kernel, by decide⟩
theorem vm_X11_177 : jVm RX11 177 yX8_mostOver cX8_mostOver 3 (some .int) 2 := ⟨jw_t (i := 618) (by decide +kernel) (by decide +kernel), wm_X8_mostOver, wv_X8_mostOver, wi_X8, wd_X8_mostOver, ⟨by decide +kernel, by decide +kernel⟩, by decide +kernel, by decide⟩
theorem vm_X8_42 : jVm RX8 42 yX8_begin cX8_begin 3 none 2 := ⟨jw_t (i := 622) (by decide +kernel) (by decide +kernel), wm_X8_begin, wv_X8_begin, wi_X8, wd_X8_begin, ⟨by decide +kernel, by decide +kernel⟩, by decide +kernel, by decide⟩
theorem vm_X8_59 : jVm RX8 59 yX3_follow cX3_follow 3 none 2 := ⟨jw_t (i := 626) (by decide +kernel) (by decide +kernel), wm_X3_follow, wv_X3_follow, wi_X3, wd_X3_follow, ⟨by decide +kernel, by decide +kernel⟩, by decide +kernel, by decide⟩
theorem vm_X8_46 : jVm RX8 46 yX8_tryOrders cX8_tryOrders 8 none 4 := ⟨jw_t (i := 627) (by decide +kernel) (by decide +kernel), wm_X8_tryOrders, wv_X8_tryOrders, wi_X8, wd_X8_tryOrders, ⟨by decide +kernel, by decide +kernel⟩, by decide +kernel, by decide⟩
theorem vm_X8_82 : jVm RX8 82 yX8_keepAs cX8_keepAs 2 none 1 := ⟨jw_t (i := 631) (by decide +kernel) (by decide +kernel), wm_X8_keepAs, wv_X8_keepAs, wi_X8, wd_X8_keepAs, ⟨by decide +kernel, by decide +kernel⟩, by decide +kernel, by decide⟩
theorem vm_X8_86 : jVm RX8 86 yX8_save cX8_save 2 none 1 := ⟨jw_t (i := 636) (by decide +kernel) (by decide +kernel), wm_X8_save, wv_X8_save, wi_X8, wd_X8_save, ⟨by decide +kernel, by decide +kernel⟩, by decide +kernel, by decide⟩
theorem vm_X8_89 : jVm RX8 89 yX3_cross cX3_cross 9 (some .int) 5 := ⟨jw_t (i := 640) (by decide +kernel) (by decide +kernel), wm_X3_cross, wv_X3_cross, wi_X3, wd_X3_cross, ⟨by decide +kernel, by decide +kernel⟩, by decide +kernel, by decide⟩
theorem vm_X8_93 : jVm RX8 93 yX8_restore cX8_restore 3 none 2 := ⟨jw_t (i := 641) (by decide +kernel) (by decide +kernel), wm_X8_restore, wv_X8_restore, wi_X8, wd_X8_restore, ⟨by decide +kernel, by decide +kernel⟩, by decide +kernel, by decide⟩
theorem vm_X11_181 : jVm RX11 181 yX8_found cX8_found 2 (some .int) 1 := ⟨jw_t (i := 645) (by decide +kernel) (by decide +kernel), wm_X8_found, wv_X8_found, wi_X8, wd_X8_found, ⟨by decide +kernel, by decide +kernel⟩, by decide +kernel, by decide⟩
theorem vm_L_53 : jVm RL 53 yX11_rule cX11_rule 7 (some .int) 2 := ⟨jw_t (i := 649) (by decide +kernel) (by decide +kernel), wm_X11_rule, wv_X11_rule, wi_X11, wd_X11_rule, ⟨by decide +kernel, by decide +kernel⟩, by decide +kernel, by decide⟩
theorem vm_X11_184 : jVm RX11 184 yX11_overByRule cX11_overByRule 3 (some .int) 2 := ⟨jw_t (i := 653) (by decide +kernel) (by decide +kernel), wm_X11_overByRule, wv_X11_overByRule, wi_X11, wd_X11_overByRule, ⟨by decide +kernel, by decide +kernel⟩, by decide +kernel, by decide⟩
theorem vm_X11_360 : jVm RX11 360 yX10_byRule cX10_byRule 4 none 1 := ⟨jw_t (i := 657) (by decide +kernel) (by decide +kernel), wm_X10_byRule, wv_X10_byRule, wi_X10, wd_X10_byRule, ⟨by decide +kernel, by decide +kernel⟩, by decide +kernel, by decide⟩
theorem vm_X10_73 : jVm RX10 73 yX10_rank cX10_rank 4 (some .int) 2 := ⟨jw_t (i := 661) (by decide +kernel) (by decide +kernel), wm_X10_rank, wv_X10_rank, wi_X10, wd_X10_rank, ⟨by decide +kernel, by decide +kernel⟩, by decide +kernel, by decide⟩
theorem vm_X10_76 : jVm RX10 76 yX7_get cX7_get 4 (some .int) 2 := ⟨jw_t (i := 665) (by decide +kernel) (by decide +kernel), wm_X7_get, wv_X7_get, wi_X7, wd_X7_get, ⟨by decide +kernel, by decide +kernel⟩, by decide +kernel, by decide⟩
theorem vm_L_57 : jVm RL 57 yX11_waits cX11_waits 5 (some .int) 3 := ⟨jw_t (i := 666) (by decide +kernel) (by decide +kernel), wm_X11_waits, wv_X11_waits, wi_X11, wd_X11_waits, ⟨by decide +kernel, by decide +kernel⟩, by decide +kernel, by decide⟩
theorem vm_X11_198 : jVm RX11 198 yX10_walkWaiting cX10_walkWaiting 4 none 1 := ⟨jw_t (i := 670) (by decide +kernel) (by decide +kernel), wm_X10_walkWaiting, wv_X10_walkWaiting, wi_X10, wd_X10_walkWaiting, ⟨by decide +kernel, by decide +kernel⟩, by decide +kernel, by decide⟩
theorem vm_X10_85 : jVm RX10 85 yX3_firstWait cX3_firstWait 5 (some .int) 3 := ⟨jw_t (i := 674) (by decide +kernel) (by decide +kernel), wm_X3_firstWait, wv_X3_firstWait, wi_X3, wd_X3_firstWait, ⟨by decide +kernel, by decide +kernel⟩, by decide +kernel, by decide⟩
theorem vm_X3_117 : jVm RX3 117 yX3_holdsBehind cX3_holdsBehind 5 (some .boolean) 3 := ⟨jw_t (i := 678) (by decide +kernel) (by decide +kernel), wm_X3_holdsBehind, wv_X3_holdsBehind, wi_X3, wd_X3_holdsBehind, ⟨by decide +kernel, by decide +kernel⟩, by decide +kernel, by decide⟩
theorem vm_X10_89 : jVm RX10 89 yX3_pass cX3_pass 5 none 2 := ⟨jw_t (i := 682) (by decide +kernel) (by decide +kernel), wm_X3_pass, wv_X3_pass, wi_X3, wd_X3_pass, ⟨by decide +kernel, by decide +kernel⟩, by decide +kernel, by decide⟩
theorem vm_X11_202 : jVm RX11 202 yX10_allWaits cX10_allWaits 3 (some .int) 0 := ⟨jw_t (i := 683) (by decide +kernel) (by decide +kernel), wm_X10_allWaits, wv_X10_allWaits, wi_X10, wd_X10_allWaits, ⟨by decide +kernel, by decide +kernel⟩, by decide +kernel, by decide⟩
theorem vm_X10_93 : jVm RX10 93 yX10_waitOf cX10_waitOf 2 (some .int) 1 := ⟨jw_t (i := 687) (by decide +kernel) (by decide +kernel), wm_X10_waitOf, wv_X10_waitOf, wi_X10, wd_X10_waitOf, ⟨by decide +kernel, by decide +kernel⟩, by decide +kernel, by decide⟩
theorem vm_X11_205 : jVm RX11 205 yX10_waitOf cX10_waitOf 2 (some .int) 1 := ⟨jw_t (i := 691) (by decide +kernel) (by decide +kernel), wm_X10_waitOf, wv_X10_waitOf, wi_X10, wd_X10_waitOf, ⟨by decide +kernel, by decide +kernel⟩, by decide +kernel, by decide⟩
theorem vm_L_61 : jVm RL 61 yX11_soonest cX11_soonest 4 (some .int) 2 := ⟨jw_t (i := 692) (by decide +kernel) (by decide +kernel), wm_X11_soonest, wv_X11_soonest, wi_X11, wd_X11_soonest, ⟨by decide +kernel, by decide +kernel⟩, by decide +kernel, by decide⟩
theorem vm_X11_208 : jVm RX11 208 yX8_soonestMinute cX8_soonestMinute 3 (some .int) 2 := ⟨jw_t (i := 696) (by decide +kernel) (by decide +kernel), wm_X8_soonestMinute, wv_X8_soonestMinute, wi_X8, wd_X8_soonestMinute, ⟨by decide +kernel, by decide +kernel⟩, by decide +kernel, by decide⟩
theorem vm_X8_51 : jVm RX8 51 yX8_tryWaiting cX8_tryWaiting 7 none 3 := ⟨jw_t (i := 701) (by decide +kernel) (by decide +kernel), wm_X8_tryWaiting, wv_X8_tryWaiting, wi_X8, wd_X8_tryWaiting, ⟨by decide +kernel, by decide +kernel⟩, by decide +kernel, by decide⟩
theorem vm_X8_96 : jVm RX8 96 yX3_firstWait cX3_firstWait 5 (some .int) 3 := ⟨jw_t (i := 705) (by decide +kernel) (by decide +kernel), wm_X3_firstWait, wv_X3_firstWait, wi_X3, wd_X3_firstWait, ⟨by decide +kernel, by decide +kernel⟩, by decide +kernel, by decide⟩
theorem vm_X8_100 : jVm RX8 100 yX3_pass cX3_pass 5 none 2 := ⟨jw_t (i := 706) (by decide +kernel) (by decide +kernel), wm_X3_pass, wv_X3_pass, wi_X3, wd_X3_pass, ⟨by decide +kernel, by decide +kernel⟩, by decide +kernel, by decide⟩
theorem vm_L_65 : jVm RL 65 yX11_strength cX11_strength 5 (some .int) 2 := ⟨jw_t (i := 707) (by decide +kernel) (by decide +kernel), wm_X11_strength, wv_X11_strength, wi_X11, wd_X11_strength, ⟨by decide +kernel, by decide +kernel⟩, by decide +kernel, by decide⟩
theorem vm_X11_211 : jVm RX11 211 yX5_clearWay cX5_clearWay 3 none 1 := ⟨jw_t (i := 711) (by decide +kernel) (by decide +kernel), wm_X5_clearWay, wv_X5_clearWay, wi_X5, wd_X5_clearWay, ⟨by decide +kernel, by decide +kernel⟩, by decide +kernel, by decide⟩
theorem vm_X11_214 : jVm RX11 214 yX5_levelWay cX5_levelWay 4 none 2 := ⟨jw_t (i := 716) (by decide +kernel) (by decide +kernel), wm_X5_levelWay, wv_X5_levelWay, wi_X5, wd_X5_levelWay, ⟨by decide +kernel, by decide +kernel⟩, by decide +kernel, by decide⟩
theorem vm_L_69 : jVm RL 69 yX11_load cX11_load 7 (some .int) 3 := ⟨jw_t (i := 720) (by decide +kernel) (by decide +kernel), wm_X11_load, wv_X11_load, wi_X11, wd_X11_load, ⟨by decide +kernel, by decide +kernel⟩, by decide +kernel, by decide⟩
theorem vm_X11_220 : jVm RX11 220 yX11_isGoer cX11_isGoer 2 (some .boolean) 1 := ⟨jw_t (i := 724) (by decide +kernel) (by decide +kernel), wm_X11_isGoer, wv_X11_isGoer, wi_X11, wd_X11_isGoer, ⟨by decide +kernel, by decide +kernel⟩, by decide +kernel, by decide⟩
theorem vm_X11_223 : jVm RX11 223 yX11_carried cX11_carried 5 (some .int) 4 := ⟨jw_t (i := 728) (by decide +kernel) (by decide +kernel), wm_X11_carried, wv_X11_carried, wi_X11, wd_X11_carried, ⟨by decide +kernel, by decide +kernel⟩, by decide +kernel, by decide⟩
theorem vm_X11_363 : jVm RX11 363 yX10_carry cX10_carry 8 (some .int) 4 := ⟨jw_t (i := 732) (by decide +kernel) (by decide +kernel), wm_X10_carry, wv_X10_carry, wi_X10, wd_X10_carry, ⟨by decide +kernel, by decide +kernel⟩, by decide +kernel, by decide⟩
theorem vm_L_73 : jVm RL 73 yX11_several cX11_several 3 (some .int) 1 := ⟨jw_t (i := 736) (by decide +kernel) (by decide +kernel), wm_X11_several, wv_X11_several, wi_X11, wd_X11_several, ⟨by decide +kernel, by decide +kernel⟩, by decide +kernel, by decide⟩
theorem vm_X11_227 : jVm RX11 227 yX8_mostParted cX8_mostParted 2 (some .int) 1 := ⟨jw_t (i := 740) (by decide +kernel) (by decide +kernel), wm_X8_mostParted, wv_X8_mostParted, wi_X8, wd_X8_mostParted, ⟨by decide +kernel, by decide +kernel⟩, by decide +kernel, by decide⟩
theorem vm_X8_55 : jVm RX8 55 yX8_tryWays cX8_tryWays 6 none 2 := ⟨jw_t (i := 744) (by decide +kernel) (by decide +kernel), wm_X8_tryWays, wv_X8_tryWays, wi_X8, wd_X8_tryWays, ⟨by decide +kernel, by decide +kernel⟩, by decide +kernel, by decide⟩
theorem vm_L_77 : jVm RL 77 yX11_unsure cX11_unsure 4 (some .long) 3 := ⟨jw_t (i := 748) (by decide +kernel) (by decide +kernel), wm_X11_unsure, wv_X11_unsure, wi_X11, wd_X11_unsure, ⟨by decide +kernel, by decide +kernel⟩, by decide +kernel, by decide⟩
theorem vm_X11_233 : jVm RX11 233 yX1_look cX1_look 9 none 3 := ⟨jw_t (i := 753) (by decide +kernel) (by decide +kernel), wm_X1_look, wv_X1_look, wi_X1, wd_X1_look, ⟨by decide +kernel, by decide +kernel⟩, by decide +kernel, by decide⟩
theorem vm_X1_33 : jVm RX1 33 yX7_get cX7_get 4 (some .int) 2 := ⟨jw_t (i := 757) (by decide +kernel) (by decide +kernel), wm_X7_get, wv_X7_get, wi_X7, wd_X7_get, ⟨by decide +kernel, by decide +kernel⟩, by decide +kernel, by decide⟩
theorem vm_X1_39 : jVm RX1 39 yX1_holdsAll cX1_holdsAll 6 (some .boolean) 4 := ⟨jw_t (i := 758) (by decide +kernel) (by decide +kernel), wm_X1_holdsAll, wv_X1_holdsAll, wi_X1, wd_X1_holdsAll, ⟨by decide +kernel, by decide +kernel⟩, by decide +kernel, by decide⟩
theorem vm_X1_43 : jVm RX1 43 yX3_follow cX3_follow 3 none 2 := ⟨jw_t (i := 762) (by decide +kernel) (by decide +kernel), wm_X3_follow, wv_X3_follow, wi_X3, wd_X3_follow, ⟨by decide +kernel, by decide +kernel⟩, by decide +kernel, by decide⟩
theorem vm_X1_49 : jVm RX1 49 yX3_thin cX3_thin 3 none 2 := ⟨jw_t (i := 763) (by decide +kernel) (by decide +kernel), wm_X3_thin, wv_X3_thin, wi_X3, wd_X3_thin, ⟨by decide +kernel, by decide +kernel⟩, by decide +kernel, by decide⟩
theorem vm_X1_59 : jVm RX1 59 yX10_goerAt cX10_goerAt 2 (some .int) 1 := ⟨jw_t (i := 767) (by decide +kernel) (by decide +kernel), wm_X10_goerAt, wv_X10_goerAt, wi_X10, wd_X10_goerAt, ⟨by decide +kernel, by decide +kernel⟩, by decide +kernel, by decide⟩
theorem vm_X1_63 : jVm RX1 63 yX3_ready cX3_ready 4 none 2 := ⟨jw_t (i := 768) (by decide +kernel) (by decide +kernel), wm_X3_ready, wv_X3_ready, wi_X3, wd_X3_ready, ⟨by decide +kernel, by decide +kernel⟩, by decide +kernel, by decide⟩
theorem vm_X1_67 : jVm RX1 67 yX3_steps cX3_steps 6 (some .boolean) 2 := ⟨jw_t (i := 769) (by decide +kernel) (by decide +kernel), wm_X3_steps, wv_X3_steps, wi_X3, wd_X3_steps, ⟨by decide +kernel, by decide +kernel⟩, by decide +kernel, by decide⟩
theorem vm_X1_71 : jVm RX1 71 yX3_passBehind cX3_passBehind 2 none 1 := ⟨jw_t (i := 770) (by decide +kernel) (by decide +kernel), wm_X3_passBehind, wv_X3_passBehind, wi_X3, wd_X3_passBehind, ⟨by decide +kernel, by decide +kernel⟩, by decide +kernel, by decide⟩
theorem vm_X11_237 : jVm RX11 237 yX1_likely cX1_likely 1 (some .long) 0 := ⟨jw_t (i := 771) (by decide +kernel) (by decide +kernel), wm_X1_likely, wv_X1_likely, wi_X1, wd_X1_likely, ⟨by decide +kernel, by decide +kernel⟩, by decide +kernel, by decide⟩
theorem vm_X1_75 : jVm RX1 75 yX1_likelyBored cX1_likelyBored 5 (some .long) 1 := ⟨jw_t (i := 775) (by decide +kernel) (by decide +kernel), wm_X1_likelyBored, wv_X1_likelyBored, wi_X1, wd_X1_likelyBored, ⟨by decide +kernel, by decide +kernel⟩, by decide +kernel, by decide⟩
theorem vm_X11_241 : jVm RX11 241 yX1_part cX1_part 6 (some .long) 2 := ⟨jw_t (i := 779) (by decide +kernel) (by decide +kernel), wm_X1_part, wv_X1_part, wi_X1, wd_X1_part, ⟨by decide +kernel, by decide +kernel⟩, by decide +kernel, by decide⟩
theorem vm_X1_81 : jSm RX1 81 yX1_common cX1_common 11 (some .long) 2 := ⟨jw_t (i := 784) (by decide +kernel) (by decide +kernel), wz_X1_common, wi_X1, wd_X1_common, ⟨by decide +kernel, by decide +kernel⟩, by decide +kernel, by decide⟩
theorem vm_L_82 : jVm RL 82 yX11_bore cX11_bore 5 (some .long) 3 := ⟨jw_t (i := 787) (by decide +kernel) (by decide +kernel), wm_X11_bore, wv_X11_bore, wi_X11, wd_X11_bore, ⟨by decide +kernel, by decide +kernel⟩, by decide +kernel, by decide⟩
theorem vm_X11_245 : jVm RX11 245 yX1_bestBored cX1_bestBored 3 (some .int) 0 := ⟨jw_t (i := 791) (by decide +kernel) (by decide +kernel), wm_X1_bestBored, wv_X1_bestBored, wi_X1, wd_X1_bestBored, ⟨by decide +kernel, by decide +kernel⟩, by decide +kernel, by decide⟩
theorem vm_X11_248 : jVm RX11 248 yX1_likelyBored cX1_likelyBored 5 (some .long) 1 := ⟨jw_t (i := 795) (by decide +kernel) (by decide +kernel), wm_X1_likelyBored, wv_X1_likelyBored, wi_X1, wd_X1_likelyBored, ⟨by decide +kernel, by decide +kernel⟩, by decide +kernel, by decide⟩
theorem vm_L_86 : jVm RL 86 yX11_safe cX11_safe 8 (some .int) 1 := ⟨jw_t (i := 796) (by decide +kernel) (by decide +kernel), wm_X11_safe, wv_X11_safe, wi_X11, wd_X11_safe, ⟨by decide +kernel, by decide +kernel⟩, by decide +kernel, by decide⟩
theorem vm_X11_252 : jVm RX11 252 yX10_alone cX10_alone 2 none 1 := ⟨jw_t (i := 800) (by decide +kernel) (by decide +kernel), wm_X10_alone, wv_X10_alone, wi_X10, wd_X10_alone, ⟨by decide +kernel, by decide +kernel⟩, by decide +kernel, by decide⟩
theorem vm_L_90 : jVm RL 90 yX11_who cX11_who 10 (some .int) 3 := ⟨jw_t (i := 805) (by decide +kernel) (by decide +kernel), wm_X11_who, wv_X11_who, wi_X11, wd_X11_who, ⟨by decide +kernel, by decide +kernel⟩, by decide +kernel, by decide⟩
theorem vm_X11_257 : jVm RX11 257 yX11_mayHaveGone cX11_mayHaveGone 6 (some .boolean) 3 := ⟨jw_t (i := 809) (by decide +kernel) (by decide +kernel), wm_X11_mayHaveGone, wv_X11_mayHaveGone, wi_X11, wd_X11_mayHaveGone, ⟨by decide +kernel, by decide +kernel⟩, by decide +kernel, by decide⟩
theorem vm_X11_366 : jVm RX11 366 yX10_bySet cX10_bySet 3 none 1 := ⟨jw_t (i := 813) (by decide +kernel) (by decide +kernel), wm_X10_bySet, wv_X10_bySet, wi_X10, wd_X10_bySet, ⟨by decide +kernel, by decide +kernel⟩, by decide +kernel, by decide⟩
theorem vm_X11_260 : jVm RX11 260 yX9_sizeOf cX9_sizeOf 2 (some .int) 1 := ⟨jw_t (i := 817) (by decide +kernel) (by decide +kernel), wm_X9_sizeOf, wv_X9_sizeOf, wi_X9, wd_X9_sizeOf, ⟨by decide +kernel, by decide +kernel⟩, by decide +kernel, by decide⟩
theorem vm_X11_369 : jSm RX11 369 yJ9_min_7cf53 cJ9_min_7cf53 2 (some .int) 2 := ⟨jw_t (i := 818) (by decide +kernel) (by decide +kernel), wz_J9_min_7cf53, wi_J9, wd_J9_min_7cf53, ⟨by decide +kernel, by decide +kernel⟩, by decide +kernel, by decide⟩
theorem vm_L_94 : jVm RL 94 yX11_judge cX11_judge 5 (some .int) 1 := ⟨jw_t (i := 819) (by decide +kernel) (by decide +kernel), wm_X11_judge, wv_X11_judge, wi_X11, wd_X11_judge, ⟨by decide +kernel, by decide +kernel⟩, by decide +kernel, by decide⟩
theorem vm_X11_263 : jVm RX11 263 yX11_isSo cX11_isSo 7 (some .boolean) 2 := ⟨jw_t (i := 823) (by decide +kernel) (by decide +kernel), wm_X11_isSo, wv_X11_isSo, wi_X11, wd_X11_isSo, ⟨by decide +kernel, by decide +kernel⟩, by decide +kernel, by decide⟩
theorem vm_X11_272 : jVm RX11 272 yX3_cross cX3_cross 9 (some .int) 5 := ⟨jw_t (i := 827) (by decide +kernel) (by decide +kernel), wm_X3_cross, wv_X3_cross, wi_X3, wd_X3_cross, ⟨by decide +kernel, by decide +kernel⟩, by decide +kernel, by decide⟩
theorem vm_L_98 : jVm RL 98 yX11_drawn cX11_drawn 10 (some .int) 3 := ⟨jw_t (i := 828) (by decide +kernel) (by decide +kernel), wm_X11_drawn, wv_X11_drawn, wi_X11, wd_X11_drawn, ⟨by decide +kernel, by decide +kernel⟩, by decide +kernel, by decide⟩
theorem vm_X11_266 : jVm RX11 266 yX10_byNumbers cX10_byNumbers 1 none 0 := ⟨jw_t (i := 832) (by decide +kernel) (by decide +kernel), wm_X10_byNumbers, wv_X10_byNumbers, wi_X10, wd_X10_byNumbers, ⟨by decide +kernel, by decide +kernel⟩, by decide +kernel, by decide⟩
theorem vm_X10_67 : jVm RX10 67 yX10_byRule cX10_byRule 4 none 1 := ⟨jw_t (i := 836) (by decide +kernel) (by decide +kernel), wm_X10_byRule, wv_X10_byRule, wi_X10, wd_X10_byRule, ⟨by decide +kernel, by decide +kernel⟩, by decide +kernel, by decide⟩
theorem vm_X11_269 : jVm RX11 269 yX3_draw cX3_draw 7 (some .int) 3 := ⟨jw_t (i := 837) (by decide +kernel) (by decide +kernel), wm_X3_draw, wv_X3_draw, wi_X3, wd_X3_draw, ⟨by decide +kernel, by decide +kernel⟩, by decide +kernel, by decide⟩
theorem vm_X3_70 : jVm RX3 70 yX3_thin cX3_thin 3 none 2 := ⟨jw_t (i := 842) (by decide +kernel) (by decide +kernel), wm_X3_thin, wv_X3_thin, wi_X3, wd_X3_thin, ⟨by decide +kernel, by decide +kernel⟩, by decide +kernel, by decide⟩
theorem vm_L_102 : jVm RL 102 yX11_go cX11_go 4 (some .int) 2 := ⟨jw_t (i := 843) (by decide +kernel) (by decide +kernel), wm_X11_go, wv_X11_go, wi_X11, wd_X11_go, ⟨by decide +kernel, by decide +kernel⟩, by decide +kernel, by decide⟩
theorem vm_X11_276 : jVm RX11 276 yX4_lead cX4_lead 3 none 2 := ⟨jw_t (i := 847) (by decide +kernel) (by decide +kernel), wm_X4_lead, wv_X4_lead, wi_X4, wd_X4_lead, ⟨by decide +kernel, by decide +kernel⟩, by decide +kernel, by decide⟩
theorem vm_X4_36 : jSm RX4 36 yJ9_max_7cf53 cJ9_max_7cf53 2 (some .int) 2 := ⟨jw_t (i := 851) (by decide +kernel) (by decide +kernel), wz_J9_max_7cf53, wi_J9, wd_J9_max_7cf53, ⟨by decide +kernel, by decide +kernel⟩, by decide +kernel, by decide⟩
theorem vm_L_106 : jVm RL 106 yX11_stay cX11_stay 2 (some .int) 1 := ⟨jw_t (i := 852) (by decide +kernel) (by decide +kernel), wm_X11_stay, wv_X11_stay, wi_X11, wd_X11_stay, ⟨by decide +kernel, by decide +kernel⟩, by decide +kernel, by decide⟩
theorem vm_X11_279 : jVm RX11 279 yX3_pass cX3_pass 5 none 2 := ⟨jw_t (i := 856) (by decide +kernel) (by decide +kernel), wm_X3_pass, wv_X3_pass, wi_X3, wd_X3_pass, ⟨by decide +kernel, by decide +kernel⟩, by decide +kernel, by decide⟩
theorem vm_L_110 : jVm RL 110 yX11_led cX11_led 2 (some .int) 1 := ⟨jw_t (i := 857) (by decide +kernel) (by decide +kernel), wm_X11_led, wv_X11_led, wi_X11, wd_X11_led, ⟨by decide +kernel, by decide +kernel⟩, by decide +kernel, by decide⟩
theorem vm_X11_283 : jVm RX11 283 yX4_told cX4_told 2 (some .int) 1 := ⟨jw_t (i := 861) (by decide +kernel) (by decide +kernel), wm_X4_told, wv_X4_told, wi_X4, wd_X4_told, ⟨by decide +kernel, by decide +kernel⟩, by decide +kernel, by decide⟩
theorem vm_L_114 : jVm RL 114 yX11_image cX11_image 1 (some .int) 0 := ⟨jw_t (i := 865) (by decide +kernel) (by decide +kernel), wm_X11_image, wv_X11_image, wi_X11, wd_X11_image, ⟨by decide +kernel, by decide +kernel⟩, by decide +kernel, by decide⟩
theorem vm_X11_286 : jVm RX11 286 yX4_keepImage cX4_keepImage 1 none 0 := ⟨jw_t (i := 869) (by decide +kernel) (by decide +kernel), wm_X4_keepImage, wv_X4_keepImage, wi_X4, wd_X4_keepImage, ⟨by decide +kernel, by decide +kernel⟩, by decide +kernel, by decide⟩
theorem vm_L_118 : jVm RL 118 yX11_back cX11_back 1 (some .int) 0 := ⟨jw_t (i := 874) (by decide +kernel) (by decide +kernel), wm_X11_back, wv_X11_back, wi_X11, wd_X11_back, ⟨by decide +kernel, by decide +kernel⟩, by decide +kernel, by decide⟩
theorem vm_X11_289 : jVm RX11 289 yX4_layImage cX4_layImage 1 (some .boolean) 0 := ⟨jw_t (i := 878) (by decide +kernel) (by decide +kernel), wm_X4_layImage, wv_X4_layImage, wi_X4, wd_X4_layImage, ⟨by decide +kernel, by decide +kernel⟩, by decide +kernel, by decide⟩
theorem vm_L_122 : jVm RL 122 yX11_undo cX11_undo 1 (some .int) 0 := ⟨jw_t (i := 882) (by decide +kernel) (by decide +kernel), wm_X11_undo, wv_X11_undo, wi_X11, wd_X11_undo, ⟨by decide +kernel, by decide +kernel⟩, by decide +kernel, by decide⟩
theorem vm_X11_293 : jVm RX11 293 yX2_undoIn cX2_undoIn 2 (some .boolean) 1 := ⟨jw_t (i := 886) (by decide +kernel) (by decide +kernel), wm_X2_undoIn, wv_X2_undoIn, wi_X2, wd_X2_undoIn, ⟨by decide +kernel, by decide +kernel⟩, by decide +kernel, by decide⟩
theorem vm_X2_38 : jVm RX2 38 yX7_set cX7_set 4 none 3 := ⟨jw_t (i := 890) (by decide +kernel) (by decide +kernel), wm_X7_set, wv_X7_set, wi_X7, wd_X7_set, ⟨by decide +kernel, by decide +kernel⟩, by decide +kernel, by decide⟩
theorem vm_L_126 : jVm RL 126 yX11_redo cX11_redo 1 (some .int) 0 := ⟨jw_t (i := 891) (by decide +kernel) (by decide +kernel), wm_X11_redo, wv_X11_redo, wi_X11, wd_X11_redo, ⟨by decide +kernel, by decide +kernel⟩, by decide +kernel, by decide⟩
theorem vm_X11_300 : jVm RX11 300 yX2_redoIn cX2_redoIn 2 (some .boolean) 1 := ⟨jw_t (i := 895) (by decide +kernel) (by decide +kernel), wm_X2_redoIn, wv_X2_redoIn, wi_X2, wd_X2_redoIn, ⟨by decide +kernel, by decide +kernel⟩, by decide +kernel, by decide⟩
theorem vm_L_130 : jVm RL 130 yX11_body cX11_body 2 (some .int) 1 := ⟨jw_t (i := 899) (by decide +kernel) (by decide +kernel), wm_X11_body, wv_X11_body, wi_X11, wd_X11_body, ⟨by decide +kernel, by decide +kernel⟩, by decide +kernel, by decide⟩
theorem vm_X11_306 : jSm RX11 306 yX11_isKind cX11_isKind 1 (some .boolean) 1 := ⟨jw_t (i := 903) (by decide +kernel) (by decide +kernel), wz_X11_isKind, wi_X11, wd_X11_isKind, ⟨by decide +kernel, by decide +kernel⟩, by decide +kernel, by decide⟩
theorem vm_X11_309 : jVm RX11 309 yX0_add cX0_add 2 (some .int) 1 := ⟨jw_t (i := 906) (by decide +kernel) (by decide +kernel), wm_X0_add, wv_X0_add, wi_X0, wd_X0_add, ⟨by decide +kernel, by decide +kernel⟩, by decide +kernel, by decide⟩
theorem vm_L_134 : jVm RL 134 yX11_act cX11_act 4 (some .int) 3 := ⟨jw_t (i := 910) (by decide +kernel) (by decide +kernel), wm_X11_act, wv_X11_act, wi_X11, wd_X11_act, ⟨by decide +kernel, by decide +kernel⟩, by decide +kernel, by decide⟩
theorem vm_X11_311 : jVm RX11 311 yX0_start cX0_start 5 (some .int) 3 := ⟨jw_t (i := 914) (by decide +kernel) (by decide +kernel), wm_X0_start, wv_X0_start, wi_X0, wd_X0_start, ⟨by decide +kernel, by decide +kernel⟩, by decide +kernel, by decide⟩
theorem vm_X0_39 : jVm RX0 39 yX0_kindOf cX0_kindOf 2 (some .int) 1 := ⟨jw_t (i := 918) (by decide +kernel) (by decide +kernel), wm_X0_kindOf, wv_X0_kindOf, wi_X0, wd_X0_kindOf, ⟨by decide +kernel, by decide +kernel⟩, by decide +kernel, by decide⟩
theorem vm_X0_42 : jVm RX0 42 yX0_run cX0_run 10 (some .int) 5 := ⟨jw_t (i := 922) (by decide +kernel) (by decide +kernel), wm_X0_run, wv_X0_run, wi_X0, wd_X0_run, ⟨by decide +kernel, by decide +kernel⟩, by decide +kernel, by decide⟩
theorem vm_X0_53 : jSm RX0 53 yX0_homeOf cX0_homeOf 4 (some .int) 2 := ⟨jw_t (i := 926) (by decide +kernel) (by decide +kernel), wz_X0_homeOf, wi_X0, wd_X0_homeOf, ⟨by decide +kernel, by decide +kernel⟩, by decide +kernel, by decide⟩
theorem vm_X0_49 : jSm RX0 49 yX0_bodyOf cX0_bodyOf 2 (some .int) 2 := ⟨jw_t (i := 929) (by decide +kernel) (by decide +kernel), wz_X0_bodyOf, wi_X0, wd_X0_bodyOf, ⟨by decide +kernel, by decide +kernel⟩, by decide +kernel, by decide⟩
theorem vm_X0_35 : jSm RX0 35 yX0_above cX0_above 1 (some .int) 1 := ⟨jw_t (i := 935) (by decide +kernel) (by decide +kernel), wz_X0_above, wi_X0, wd_X0_above, ⟨by decide +kernel, by decide +kernel⟩, by decide +kernel, by decide⟩
theorem vm_X0_56 : jVm RX0 56 yX0_note cX0_note 2 none 1 := ⟨jw_t (i := 940) (by decide +kernel) (by decide +kernel), wm_X0_note, wv_X0_note, wi_X0, wd_X0_note, ⟨by decide +kernel, by decide +kernel⟩, by decide +kernel, by decide⟩
theorem vm_L_138 : jVm RL 138 yX11_trace cX11_trace 2 (some .int) 1 := ⟨jw_t (i := 944) (by decide +kernel) (by decide +kernel), wm_X11_trace, wv_X11_trace, wi_X11, wd_X11_trace, ⟨by decide +kernel, by decide +kernel⟩, by decide +kernel, by decide⟩
theorem vm_X11_314 : jVm RX11 314 yX0_traced cX0_traced 2 (some .int) 1 := ⟨jw_t (i := 948) (by decide +kernel) (by decide +kernel), wm_X0_traced, wv_X0_traced, wi_X0, wd_X0_traced, ⟨by decide +kernel, by decide +kernel⟩, by decide +kernel, by decide⟩
theorem vm_L_142 : jVm RL 142 yX11_keep cX11_keep 3 (some .int) 2 := ⟨jw_t (i := 952) (by decide +kernel) (by decide +kernel), wm_X11_keep, wv_X11_keep, wi_X11, wd_X11_keep, ⟨by decide +kernel, by decide +kernel⟩, by decide +kernel, by decide⟩
theorem vm_X11_320 : jVm RX11 320 yX9_holdBody cX9_holdBody 3 none 2 := ⟨jw_t (i := 956) (by decide +kernel) (by decide +kernel), wm_X9_holdBody, wv_X9_holdBody, wi_X9, wd_X9_holdBody, ⟨by decide +kernel, by decide +kernel⟩, by decide +kernel, by decide⟩
theorem vm_L_146 : jVm RL 146 yX11_row cX11_row 4 (some .int) 3 := ⟨jw_t (i := 960) (by decide +kernel) (by decide +kernel), wm_X11_row, wv_X11_row, wi_X11, wd_X11_row, ⟨by decide +kernel, by decide +kernel⟩, by decide +kernel, by decide⟩
theorem vm_X11_323 : jVm RX11 323 yX9_holdRow cX9_holdRow 4 none 3 := ⟨jw_t (i := 964) (by decide +kernel) (by decide +kernel), wm_X9_holdRow, wv_X9_holdRow, wi_X9, wd_X9_holdRow, ⟨by decide +kernel, by decide +kernel⟩, by decide +kernel, by decide⟩
theorem vm_X9_49 : jSm RX9 49 yJ7_fill_d0a16 cJ7_fill_d0a16 5 none 2 := ⟨jw_t (i := 968) (by decide +kernel) (by decide +kernel), wz_J7_fill_d0a16, wi_J7, wd_J7_fill_d0a16, ⟨by decide +kernel, by decide +kernel⟩, by decide +kernel, by decide⟩
theorem vm_L_152 : jVm RL 152 yX11_put cX11_put 6 (some .int) 3 := ⟨jw_t (i := 971) (by decide +kernel) (by decide +kernel), wm_X11_put, wv_X11_put, wi_X11, wd_X11_put, ⟨by decide +kernel, by decide +kernel⟩, by decide +kernel, by decide⟩
theorem vm_X11_326 : jVm RX11 326 yX9_placeRefusal cX9_placeRefusal 3 (some .int) 2 := ⟨jw_t (i := 975) (by decide +kernel) (by decide +kernel), wm_X9_placeRefusal, wv_X9_placeRefusal, wi_X9, wd_X9_placeRefusal, ⟨by decide +kernel, by decide +kernel⟩, by decide +kernel, by decide⟩
theorem vm_X9_42 : jVm RX9 42 yX9_isRow cX9_isRow 2 (some .boolean) 1 := ⟨jw_t (i := 979) (by decide +kernel) (by decide +kernel), wm_X9_isRow, wv_X9_isRow, wi_X9, wd_X9_isRow, ⟨by decide +kernel, by decide +kernel⟩, by decide +kernel, by decide⟩
theorem vm_X11_329 : jVm RX11 329 yX9_set cX9_set 5 none 3 := ⟨jw_t (i := 983) (by decide +kernel) (by decide +kernel), wm_X9_set, wv_X9_set, wi_X9, wd_X9_set, ⟨by decide +kernel, by decide +kernel⟩, by decide +kernel, by decide⟩
theorem vm_X9_56 : jSm RX9 56 yX9_fitted cX9_fitted 3 (some .long) 2 := ⟨jw_t (i := 987) (by decide +kernel) (by decide +kernel), wz_X9_fitted, wi_X9, wd_X9_fitted, ⟨by decide +kernel, by decide +kernel⟩, by decide +kernel, by decide⟩
theorem vm_L_157 : jVm RL 157 yX11_element cX11_element 3 (some .long) 2 := ⟨jw_t (i := 990) (by decide +kernel) (by decide +kernel), wm_X11_element, wv_X11_element, wi_X11, wd_X11_element, ⟨by decide +kernel, by decide +kernel⟩, by decide +kernel, by decide⟩
theorem vm_X11_332 : jVm RX11 332 yX9_get cX9_get 3 (some .long) 2 := ⟨jw_t (i := 994) (by decide +kernel) (by decide +kernel), wm_X9_get, wv_X9_get, wi_X9, wd_X9_get, ⟨by decide +kernel, by decide +kernel⟩, by decide +kernel, by decide⟩
theorem vm_L_162 : jVm RL 162 yX11_shift cX11_shift 6 (some .int) 5 := ⟨jw_t (i := 995) (by decide +kernel) (by decide +kernel), wm_X11_shift, wv_X11_shift, wi_X11, wd_X11_shift, ⟨by decide +kernel, by decide +kernel⟩, by decide +kernel, by decide⟩
theorem vm_X11_335 : jVm RX11 335 yX9_areAlike cX9_areAlike 3 (some .boolean) 2 := ⟨jw_t (i := 999) (by decide +kernel) (by decide +kernel), wm_X9_areAlike, wv_X9_areAlike, wi_X9, wd_X9_areAlike, ⟨by decide +kernel, by decide +kernel⟩, by decide +kernel, by decide⟩
theorem vm_X11_338 : jVm RX11 338 yX9_move cX9_move 6 none 5 := ⟨jw_t (i := 1003) (by decide +kernel) (by decide +kernel), wm_X9_move, wv_X9_move, wi_X9, wd_X9_move, ⟨by decide +kernel, by decide +kernel⟩, by decide +kernel, by decide⟩
theorem vm_X9_60 : jVm RX9 60 yX9_hasSpan cX9_hasSpan 5 (some .boolean) 3 := ⟨jw_t (i := 1007) (by decide +kernel) (by decide +kernel), wm_X9_hasSpan, wv_X9_hasSpan, wi_X9, wd_X9_hasSpan, ⟨by decide +kernel, by decide +kernel⟩, by decide +kernel, by decide⟩
theorem vm_L_167 : jVm RL 167 yX11_taken cX11_taken 4 (some .int) 2 := ⟨jw_t (i := 1009) (by decide +kernel) (by decide +kernel), wm_X11_taken, wv_X11_taken, wi_X11, wd_X11_taken, ⟨by decide +kernel, by decide +kernel⟩, by decide +kernel, by decide⟩
theorem vm_X11_342 : jVm RX11 342 yX9_bodyOn cX9_bodyOn 2 (some .int) 1 := ⟨jw_t (i := 1013) (by decide +kernel) (by decide +kernel), wm_X9_bodyOn, wv_X9_bodyOn, wi_X9, wd_X9_bodyOn, ⟨by decide +kernel, by decide +kernel⟩, by decide +kernel, by decide⟩
theorem vm_X11_345 : jVm RX11 345 yX0_kindOf cX0_kindOf 2 (some .int) 1 := ⟨jw_t (i := 1017) (by decide +kernel) (by decide +kernel), wm_X0_kindOf, wv_X0_kindOf, wi_X0, wd_X0_kindOf, ⟨by decide +kernel, by decide +kernel⟩, by decide +kernel, by decide⟩
theorem vm_X11_348 : jVm RX11 348 yX0_isUnder cX0_isUnder 5 (some .boolean) 2 := ⟨jw_t (i := 1018) (by decide +kernel) (by decide +kernel), wm_X0_isUnder, wv_X0_isUnder, wi_X0, wd_X0_isUnder, ⟨by decide +kernel, by decide +kernel⟩, by decide +kernel, by decide⟩
theorem vm_L_171 : jVm RL 171 yX11_count cX11_count 2 (some .int) 1 := ⟨jw_t (i := 1022) (by decide +kernel) (by decide +kernel), wm_X11_count, wv_X11_count, wi_X11, wd_X11_count, ⟨by decide +kernel, by decide +kernel⟩, by decide +kernel, by decide⟩
theorem vm_X11_351 : jVm RX11 351 yX5_weakSquares cX5_weakSquares 3 (some .int) 0 := ⟨jw_t (i := 1026) (by decide +kernel) (by decide +kernel), wm_X5_weakSquares, wv_X5_weakSquares, wi_X5, wd_X5_weakSquares, ⟨by decide +kernel, by decide +kernel⟩, by decide +kernel, by decide⟩
theorem lk_L_12 : Cond.methodLink RL 12 yX12_init ∈ jWS := jw_t (i := 1032) (by decide +kernel) (by decide +kernel)
theorem vm_L_125 : jVm RL 125 yX12_undo cX12_undo 1 (some .int) 0 := ⟨jw_t (i := 1197) (by decide +kernel) (by decide +kernel), wm_X12_undo, wv_X12_undo, wi_X12, wd_X12_undo, ⟨by decide +kernel, by decide +kernel⟩, by decide +kernel, by decide⟩
theorem vm_L_129 : jVm RL 129 yX12_redo cX12_redo 1 (some .int) 0 := ⟨jw_t (i := 1201) (by decide +kernel) (by decide +kernel), wm_X12_redo, wv_X12_redo, wi_X12, wd_X12_redo, ⟨by decide +kernel, by decide +kernel⟩, by decide +kernel, by decide⟩
theorem vm_L_17 : jVm RL 17 yX12_goer cX12_goer 3 (some .int) 2 := ⟨jw_t (i := 1205) (by decide +kernel) (by decide +kernel), wm_X12_goer, wv_X12_goer, wi_X12, wd_X12_goer, ⟨by decide +kernel, by decide +kernel⟩, by decide +kernel, by decide⟩
theorem vm_X12_96 : jSm RX12 96 yX12_within cX12_within 6 (some .boolean) 3 := ⟨jw_t (i := 1210) (by decide +kernel) (by decide +kernel), wz_X12_within, wi_X12, wd_X12_within, ⟨by decide +kernel, by decide +kernel⟩, by decide +kernel, by decide⟩
theorem vm_X12_106 : jVm RX12 106 yX12_adds cX12_adds 4 none 3 := ⟨jw_t (i := 1213) (by decide +kernel) (by decide +kernel), wm_X12_adds, wv_X12_adds, wi_X12, wd_X12_adds, ⟨by decide +kernel, by decide +kernel⟩, by decide +kernel, by decide⟩
theorem vm_L_22 : jVm RL 22 yX12_goers cX12_goers 7 (some .int) 3 := ⟨jw_t (i := 1217) (by decide +kernel) (by decide +kernel), wm_X12_goers, wv_X12_goers, wi_X12, wd_X12_goers, ⟨by decide +kernel, by decide +kernel⟩, by decide +kernel, by decide⟩
theorem vm_X12_110 : jSm RX12 110 yX12_isShelf cX12_isShelf 1 (some .boolean) 1 := ⟨jw_t (i := 1221) (by decide +kernel) (by decide +kernel), wz_X12_isShelf, wi_X12, wd_X12_isShelf, ⟨by decide +kernel, by decide +kernel⟩, by decide +kernel, by decide⟩
theorem vm_L_26 : jVm RL 26 yX12_mend cX12_mend 5 (some .int) 3 := ⟨jw_t (i := 1227) (by decide +kernel) (by decide +kernel), wm_X12_mend, wv_X12_mend, wi_X12, wd_X12_mend, ⟨by decide +kernel, by decide +kernel⟩, by decide +kernel, by decide⟩
theorem vm_X12_135 : jVm RX12 135 yX12_placeOf cX12_placeOf 3 (some .int) 2 := ⟨jw_t (i := 1231) (by decide +kernel) (by decide +kernel), wm_X12_placeOf, wv_X12_placeOf, wi_X12, wd_X12_placeOf, ⟨by decide +kernel, by decide +kernel⟩, by decide +kernel, by decide⟩
theorem vm_X12_120 : jSm RX12 120 yX12_isSquare cX12_isSquare 1 (some .boolean) 1 := ⟨jw_t (i := 1236) (by decide +kernel) (by decide +kernel), wz_X12_isSquare, wi_X12, wd_X12_isSquare, ⟨by decide +kernel, by decide +kernel⟩, by decide +kernel, by decide⟩
theorem vm_X12_125 : jVm RX12 125 yX12_isGoer cX12_isGoer 3 (some .boolean) 1 := ⟨jw_t (i := 1241) (by decide +kernel) (by decide +kernel), wm_X12_isGoer, wv_X12_isGoer, wi_X12, wd_X12_isGoer, ⟨by decide +kernel, by decide +kernel⟩, by decide +kernel, by decide⟩
theorem vm_X12_139 : jSm RX12 139 yX12_mayBecome cX12_mayBecome 2 (some .boolean) 2 := ⟨jw_t (i := 1245) (by decide +kernel) (by decide +kernel), wz_X12_mayBecome, wi_X12, wd_X12_mayBecome, ⟨by decide +kernel, by decide +kernel⟩, by decide +kernel, by decide⟩
theorem vm_X12_143 : jVm RX12 143 yX12_becomes cX12_becomes 5 (some .int) 2 := ⟨jw_t (i := 1251) (by decide +kernel) (by decide +kernel), wm_X12_becomes, wv_X12_becomes, wi_X12, wd_X12_becomes, ⟨by decide +kernel, by decide +kernel⟩, by decide +kernel, by decide⟩
theorem vm_L_30 : jVm RL 30 yX12_of cX12_of 4 (some .int) 2 := ⟨jw_t (i := 1255) (by decide +kernel) (by decide +kernel), wm_X12_of, wv_X12_of, wi_X12, wd_X12_of, ⟨by decide +kernel, by decide +kernel⟩, by decide +kernel, by decide⟩
theorem vm_X12_146 : jVm RX12 146 yX12_begins1 cX12_begins1 2 none 0 := ⟨jw_t (i := 1259) (by decide +kernel) (by decide +kernel), wm_X12_begins1, wv_X12_begins1, wi_X12, wd_X12_begins1, ⟨by decide +kernel, by decide +kernel⟩, by decide +kernel, by decide⟩
theorem vm_X12_149 : jVm RX12 149 yX12_bearsAt cX12_bearsAt 4 (some .int) 1 := ⟨jw_t (i := 1263) (by decide +kernel) (by decide +kernel), wm_X12_bearsAt, wv_X12_bearsAt, wi_X12, wd_X12_bearsAt, ⟨by decide +kernel, by decide +kernel⟩, by decide +kernel, by decide⟩
theorem vm_X12_219 : jSm RX12 219 yX12_isIn cX12_isIn 2 (some .boolean) 2 := ⟨jw_t (i := 1267) (by decide +kernel) (by decide +kernel), wz_X12_isIn, wi_X12, wd_X12_isIn, ⟨by decide +kernel, by decide +kernel⟩, by decide +kernel, by decide⟩
theorem vm_X12_222 : jSm RX12 222 yX12_less cX12_less 2 (some .int) 2 := ⟨jw_t (i := 1270) (by decide +kernel) (by decide +kernel), wz_X12_less, wi_X12, wd_X12_less, ⟨by decide +kernel, by decide +kernel⟩, by decide +kernel, by decide⟩
theorem vm_L_35 : jVm RL 35 yX12_feed cX12_feed 2 (some .int) 1 := ⟨jw_t (i := 1273) (by decide +kernel) (by decide +kernel), wm_X12_feed, wv_X12_feed, wi_X12, wd_X12_feed, ⟨by decide +kernel, by decide +kernel⟩, by decide +kernel, by decide⟩
theorem vm_L_40 : jVm RL 40 yX12_law cX12_law 4 (some .int) 0 := ⟨jw_t (i := 1278) (by decide +kernel) (by decide +kernel), wm_X12_law, wv_X12_law, wi_X12, wd_X12_law, ⟨by decide +kernel, by decide +kernel⟩, by decide +kernel, by decide⟩
theorem vm_X12_207 : jVm RX12 207 yX12_workOut cX12_workOut 8 (some .int) 2 := ⟨jw_t (i := 1282) (by decide +kernel) (by decide +kernel), wm_X12_workOut, wv_X12_workOut, wi_X12, wd_X12_workOut, ⟨by decide +kernel, by decide +kernel⟩, by decide +kernel, by decide⟩
theorem vm_X12_201 : jVm RX12 201 yX12_either cX12_either 3 (some .int) 0 := ⟨jw_t (i := 1286) (by decide +kernel) (by decide +kernel), wm_X12_either, wv_X12_either, wi_X12, wd_X12_either, ⟨by decide +kernel, by decide +kernel⟩, by decide +kernel, by decide⟩
theorem vm_X12_177 : jVm RX12 177 yX12_both cX12_both 3 (some .int) 0 := ⟨jw_t (i := 1290) (by decide +kernel) (by decide +kernel), wm_X12_both, wv_X12_both, wi_X12, wd_X12_both, ⟨by decide +kernel, by decide +kernel⟩, by decide +kernel, by decide⟩
theorem vm_X12_183 : jVm RX12 183 yX12_compared cX12_compared 4 (some .int) 0 := ⟨jw_t (i := 1294) (by decide +kernel) (by decide +kernel), wm_X12_compared, wv_X12_compared, wi_X12, wd_X12_compared, ⟨by decide +kernel, by decide +kernel⟩, by decide +kernel, by decide⟩
theorem vm_X12_186 : jVm RX12 186 yX12_sums cX12_sums 4 (some .int) 0 := ⟨jw_t (i := 1298) (by decide +kernel) (by decide +kernel), wm_X12_sums, wv_X12_sums, wi_X12, wd_X12_sums, ⟨by decide +kernel, by decide +kernel⟩, by decide +kernel, by decide⟩
theorem vm_X12_189 : jVm RX12 189 yX12_product cX12_product 4 (some .int) 0 := ⟨jw_t (i := 1302) (by decide +kernel) (by decide +kernel), wm_X12_product, wv_X12_product, wi_X12, wd_X12_product, ⟨by decide +kernel, by decide +kernel⟩, by decide +kernel, by decide⟩
theorem vm_X12_192 : jVm RX12 192 yX12_one cX12_one 5 (some .int) 0 := ⟨jw_t (i := 1306) (by decide +kernel) (by decide +kernel), wm_X12_one, wv_X12_one, wi_X12, wd_X12_one, ⟨by decide +kernel, by decide +kernel⟩, by decide +kernel, by decide⟩
theorem vm_X12_173 : jVm RX12 173 yX12_byteAt cX12_byteAt 1 (some .int) 0 := ⟨jw_t (i := 1310) (by decide +kernel) (by decide +kernel), wm_X12_byteAt, wv_X12_byteAt, wi_X12, wd_X12_byteAt, ⟨by decide +kernel, by decide +kernel⟩, by decide +kernel, by decide⟩
theorem vm_X12_198 : jVm RX12 198 yX12_wrong cX12_wrong 1 (some .int) 0 := ⟨jw_t (i := 1314) (by decide +kernel) (by decide +kernel), wm_X12_wrong, wv_X12_wrong, wi_X12, wd_X12_wrong, ⟨by decide +kernel, by decide +kernel⟩, by decide +kernel, by decide⟩
theorem vm_X12_180 : jVm RX12 180 yX12_takes cX12_takes 2 (some .boolean) 1 := ⟨jw_t (i := 1318) (by decide +kernel) (by decide +kernel), wm_X12_takes, wv_X12_takes, wi_X12, wd_X12_takes, ⟨by decide +kernel, by decide +kernel⟩, by decide +kernel, by decide⟩
theorem vm_X12_204 : jSm RX12 204 yX12_nameOf cX12_nameOf 1 (some .int) 1 := ⟨jw_t (i := 1322) (by decide +kernel) (by decide +kernel), wz_X12_nameOf, wi_X12, wd_X12_nameOf, ⟨by decide +kernel, by decide +kernel⟩, by decide +kernel, by decide⟩
theorem vm_L_44 : jVm RL 44 yX12_over cX12_over 5 (some .int) 3 := ⟨jw_t (i := 1325) (by decide +kernel) (by decide +kernel), wm_X12_over, wv_X12_over, wi_X12, wd_X12_over, ⟨by decide +kernel, by decide +kernel⟩, by decide +kernel, by decide⟩
theorem vm_X12_252 : jVm RX12 252 yX12_bytesIs cX12_bytesIs 2 (some .int) 1 := ⟨jw_t (i := 1329) (by decide +kernel) (by decide +kernel), wm_X12_bytesIs, wv_X12_bytesIs, wi_X12, wd_X12_bytesIs, ⟨by decide +kernel, by decide +kernel⟩, by decide +kernel, by decide⟩
theorem vm_X12_255 : jSm RX12 255 yX12_isWay cX12_isWay 2 (some .boolean) 1 := ⟨jw_t (i := 1333) (by decide +kernel) (by decide +kernel), wz_X12_isWay, wi_X12, wd_X12_isWay, ⟨by decide +kernel, by decide +kernel⟩, by decide +kernel, by decide⟩
theorem vm_X12_258 : jVm RX12 258 yX12_orderedOf cX12_orderedOf 3 (some .int) 1 := ⟨jw_t (i := 1337) (by decide +kernel) (by decide +kernel), wm_X12_orderedOf, wv_X12_orderedOf, wi_X12, wd_X12_orderedOf, ⟨by decide +kernel, by decide +kernel⟩, by decide +kernel, by decide⟩
theorem vm_X12_261 : jVm RX12 261 yX12_overOf cX12_overOf 7 (some .int) 3 := ⟨jw_t (i := 1341) (by decide +kernel) (by decide +kernel), wm_X12_overOf, wv_X12_overOf, wi_X12, wd_X12_overOf, ⟨by decide +kernel, by decide +kernel⟩, by decide +kernel, by decide⟩
theorem vm_X12_246 : jVm RX12 246 yX12_goerAt cX12_goerAt 3 (some .int) 2 := ⟨jw_t (i := 1345) (by decide +kernel) (by decide +kernel), wm_X12_goerAt, wv_X12_goerAt, wi_X12, wd_X12_goerAt, ⟨by decide +kernel, by decide +kernel⟩, by decide +kernel, by decide⟩
theorem vm_X12_249 : jVm RX12 249 yX12_crosses cX12_crosses 3 (some .boolean) 2 := ⟨jw_t (i := 1349) (by decide +kernel) (by decide +kernel), wm_X12_crosses, wv_X12_crosses, wi_X12, wd_X12_crosses, ⟨by decide +kernel, by decide +kernel⟩, by decide +kernel, by decide⟩
theorem vm_X12_239 : jVm RX12 239 yX12_crossesWith cX12_crossesWith 13 (some .boolean) 4 := ⟨jw_t (i := 1353) (by decide +kernel) (by decide +kernel), wm_X12_crossesWith, wv_X12_crossesWith, wi_X12, wd_X12_crossesWith, ⟨by decide +kernel, by decide +kernel⟩, by decide +kernel, by decide⟩
theorem vm_X12_225 : jVm RX12 225 yX12_ofGoer cX12_ofGoer 3 (some .int) 2 := ⟨jw_t (i := 1357) (by decide +kernel) (by decide +kernel), wm_X12_ofGoer, wv_X12_ofGoer, wi_X12, wd_X12_ofGoer, ⟨by decide +kernel, by decide +kernel⟩, by decide +kernel, by decide⟩
theorem vm_X12_228 : jVm RX12 228 yX12_weakerBy cX12_weakerBy 7 (some .int) 5 := ⟨jw_t (i := 1361) (by decide +kernel) (by decide +kernel), wm_X12_weakerBy, wv_X12_weakerBy, wi_X12, wd_X12_weakerBy, ⟨by decide +kernel, by decide +kernel⟩, by decide +kernel, by decide⟩
theorem vm_X12_235 : jVm RX12 235 yX12_passes cX12_passes 3 none 1 := ⟨jw_t (i := 1365) (by decide +kernel) (by decide +kernel), wm_X12_passes, wv_X12_passes, wi_X12, wd_X12_passes, ⟨by decide +kernel, by decide +kernel⟩, by decide +kernel, by decide⟩
theorem vm_L_48 : jVm RL 48 yX12_bears cX12_bears 4 (some .int) 3 := ⟨jw_t (i := 1369) (by decide +kernel) (by decide +kernel), wm_X12_bears, wv_X12_bears, wi_X12, wd_X12_bears, ⟨by decide +kernel, by decide +kernel⟩, by decide +kernel, by decide⟩
theorem vm_L_52 : jVm RL 52 yX12_all cX12_all 3 (some .int) 2 := ⟨jw_t (i := 1373) (by decide +kernel) (by decide +kernel), wm_X12_all, wv_X12_all, wi_X12, wd_X12_all, ⟨by decide +kernel, by decide +kernel⟩, by decide +kernel, by decide⟩
theorem vm_X12_274 : jVm RX12 274 yX12_ordersOn cX12_ordersOn 5 none 3 := ⟨jw_t (i := 1377) (by decide +kernel) (by decide +kernel), wm_X12_ordersOn, wv_X12_ordersOn, wi_X12, wd_X12_ordersOn, ⟨by decide +kernel, by decide +kernel⟩, by decide +kernel, by decide⟩
theorem vm_X12_268 : jVm RX12 268 yX12_overOrder cX12_overOrder 4 (some .int) 1 := ⟨jw_t (i := 1381) (by decide +kernel) (by decide +kernel), wm_X12_overOrder, wv_X12_overOrder, wi_X12, wd_X12_overOrder, ⟨by decide +kernel, by decide +kernel⟩, by decide +kernel, by decide⟩
theorem vm_X12_271 : jVm RX12 271 yX12_keepsOrder cX12_keepsOrder 3 none 1 := ⟨jw_t (i := 1385) (by decide +kernel) (by decide +kernel), wm_X12_keepsOrder, wv_X12_keepsOrder, wi_X12, wd_X12_keepsOrder, ⟨by decide +kernel, by decide +kernel⟩, by decide +kernel, by decide⟩
theorem vm_L_56 : jVm RL 56 yX12_rule cX12_rule 7 (some .int) 2 := ⟨jw_t (i := 1389) (by decide +kernel) (by decide +kernel), wm_X12_rule, wv_X12_rule, wi_X12, wd_X12_rule, ⟨by decide +kernel, by decide +kernel⟩, by decide +kernel, by decide⟩
theorem vm_X12_280 : jVm RX12 280 yX12_overByRule cX12_overByRule 7 (some .int) 2 := ⟨jw_t (i := 1393) (by decide +kernel) (by decide +kernel), wm_X12_overByRule, wv_X12_overByRule, wi_X12, wd_X12_overByRule, ⟨by decide +kernel, by decide +kernel⟩, by decide +kernel, by decide⟩
theorem vm_X12_277 : jVm RX12 277 yX12_rankOf cX12_rankOf 3 (some .int) 2 := ⟨jw_t (i := 1397) (by decide +kernel) (by decide +kernel), wm_X12_rankOf, wv_X12_rankOf, wi_X12, wd_X12_rankOf, ⟨by decide +kernel, by decide +kernel⟩, by decide +kernel, by decide⟩
theorem vm_L_60 : jVm RL 60 yX12_waits cX12_waits 9 (some .int) 3 := ⟨jw_t (i := 1401) (by decide +kernel) (by decide +kernel), wm_X12_waits, wv_X12_waits, wi_X12, wd_X12_waits, ⟨by decide +kernel, by decide +kernel⟩, by decide +kernel, by decide⟩
theorem vm_X12_287 : jVm RX12 287 yX12_waitsFor cX12_waitsFor 6 (some .int) 2 := ⟨jw_t (i := 1405) (by decide +kernel) (by decide +kernel), wm_X12_waitsFor, wv_X12_waitsFor, wi_X12, wd_X12_waitsFor, ⟨by decide +kernel, by decide +kernel⟩, by decide +kernel, by decide⟩
theorem vm_L_64 : jVm RL 64 yX12_soonest cX12_soonest 3 (some .int) 2 := ⟨jw_t (i := 1409) (by decide +kernel) (by decide +kernel), wm_X12_soonest, wv_X12_soonest, wi_X12, wd_X12_soonest, ⟨by decide +kernel, by decide +kernel⟩, by decide +kernel, by decide⟩
theorem vm_X12_293 : jVm RX12 293 yX12_soonestOn cX12_soonestOn 7 none 3 := ⟨jw_t (i := 1413) (by decide +kernel) (by decide +kernel), wm_X12_soonestOn, wv_X12_soonestOn, wi_X12, wd_X12_soonestOn, ⟨by decide +kernel, by decide +kernel⟩, by decide +kernel, by decide⟩
theorem vm_L_68 : jVm RL 68 yX12_strength cX12_strength 7 (some .int) 2 := ⟨jw_t (i := 1417) (by decide +kernel) (by decide +kernel), wm_X12_strength, wv_X12_strength, wi_X12, wd_X12_strength, ⟨by decide +kernel, by decide +kernel⟩, by decide +kernel, by decide⟩
theorem vm_L_72 : jVm RL 72 yX12_load cX12_load 5 (some .int) 3 := ⟨jw_t (i := 1421) (by decide +kernel) (by decide +kernel), wm_X12_load, wv_X12_load, wi_X12, wd_X12_load, ⟨by decide +kernel, by decide +kernel⟩, by decide +kernel, by decide⟩
theorem vm_X12_301 : jVm RX12 301 yX12_loadOf cX12_loadOf 8 (some .int) 4 := ⟨jw_t (i := 1426) (by decide +kernel) (by decide +kernel), wm_X12_loadOf, wv_X12_loadOf, wi_X12, wd_X12_loadOf, ⟨by decide +kernel, by decide +kernel⟩, by decide +kernel, by decide⟩
theorem vm_L_76 : jVm RL 76 yX12_several cX12_several 9 (some .int) 1 := ⟨jw_t (i := 1430) (by decide +kernel) (by decide +kernel), wm_X12_several, wv_X12_several, wi_X12, wd_X12_several, ⟨by decide +kernel, by decide +kernel⟩, by decide +kernel, by decide⟩
theorem vm_L_81 : jVm RL 81 yX12_unsure cX12_unsure 4 (some .long) 3 := ⟨jw_t (i := 1434) (by decide +kernel) (by decide +kernel), wm_X12_unsure, wv_X12_unsure, wi_X12, wd_X12_unsure, ⟨by decide +kernel, by decide +kernel⟩, by decide +kernel, by decide⟩
theorem vm_X12_318 : jVm RX12 318 yX12_asksGoes cX12_asksGoes 2 none 1 := ⟨jw_t (i := 1439) (by decide +kernel) (by decide +kernel), wm_X12_asksGoes, wv_X12_asksGoes, wi_X12, wd_X12_asksGoes, ⟨by decide +kernel, by decide +kernel⟩, by decide +kernel, by decide⟩
theorem vm_X12_321 : jVm RX12 321 yX12_asksThin cX12_asksThin 4 none 1 := ⟨jw_t (i := 1443) (by decide +kernel) (by decide +kernel), wm_X12_asksThin, wv_X12_asksThin, wi_X12, wd_X12_asksThin, ⟨by decide +kernel, by decide +kernel⟩, by decide +kernel, by decide⟩
theorem vm_X12_324 : jVm RX12 324 yX12_likelyWays cX12_likelyWays 6 (some .long) 2 := ⟨jw_t (i := 1447) (by decide +kernel) (by decide +kernel), wm_X12_likelyWays, wv_X12_likelyWays, wi_X12, wd_X12_likelyWays, ⟨by decide +kernel, by decide +kernel⟩, by decide +kernel, by decide⟩
theorem vm_X12_308 : jVm RX12 308 yX12_waysOf cX12_waysOf 8 (some .long) 3 := ⟨jw_t (i := 1451) (by decide +kernel) (by decide +kernel), wm_X12_waysOf, wv_X12_waysOf, wi_X12, wd_X12_waysOf, ⟨by decide +kernel, by decide +kernel⟩, by decide +kernel, by decide⟩
theorem vm_X12_330 : jSm RX12 330 yX12_partOf cX12_partOf 7 (some .long) 3 := ⟨jw_t (i := 1456) (by decide +kernel) (by decide +kernel), wz_X12_partOf, wi_X12, wd_X12_partOf, ⟨by decide +kernel, by decide +kernel⟩, by decide +kernel, by decide⟩
theorem vm_X12_312 : jSm RX12 312 yX12_commonOf cX12_commonOf 10 (some .long) 2 := ⟨jw_t (i := 1459) (by decide +kernel) (by decide +kernel), wz_X12_commonOf, wi_X12, wd_X12_commonOf, ⟨by decide +kernel, by decide +kernel⟩, by decide +kernel, by decide⟩
theorem vm_L_85 : jVm RL 85 yX12_bore cX12_bore 10 (some .long) 3 := ⟨jw_t (i := 1462) (by decide +kernel) (by decide +kernel), wm_X12_bore, wv_X12_bore, wi_X12, wd_X12_bore, ⟨by decide +kernel, by decide +kernel⟩, by decide +kernel, by decide⟩
theorem vm_L_89 : jVm RL 89 yX12_safe cX12_safe 8 (some .int) 1 := ⟨jw_t (i := 1467) (by decide +kernel) (by decide +kernel), wm_X12_safe, wv_X12_safe, wi_X12, wd_X12_safe, ⟨by decide +kernel, by decide +kernel⟩, by decide +kernel, by decide⟩
theorem vm_L_93 : jVm RL 93 yX12_who cX12_who 8 (some .int) 3 := ⟨jw_t (i := 1471) (by decide +kernel) (by decide +kernel), wm_X12_who, wv_X12_who, wi_X12, wd_X12_who, ⟨by decide +kernel, by decide +kernel⟩, by decide +kernel, by decide⟩
theorem vm_X12_336 : jVm RX12 336 yX12_leaves cX12_leaves 6 (some .boolean) 3 := ⟨jw_t (i := 1475) (by decide +kernel) (by decide +kernel), wm_X12_leaves, wv_X12_leaves, wi_X12, wd_X12_leaves, ⟨by decide +kernel, by decide +kernel⟩, by decide +kernel, by decide⟩
theorem vm_L_97 : jVm RL 97 yX12_judge cX12_judge 3 (some .int) 1 := ⟨jw_t (i := 1479) (by decide +kernel) (by decide +kernel), wm_X12_judge, wv_X12_judge, wi_X12, wd_X12_judge, ⟨by decide +kernel, by decide +kernel⟩, by decide +kernel, by decide⟩
theorem vm_X12_340 : jVm RX12 340 yX12_isSo cX12_isSo 4 (some .boolean) 2 := ⟨jw_t (i := 1483) (by decide +kernel) (by decide +kernel), wm_X12_isSo, wv_X12_isSo, wi_X12, wd_X12_isSo, ⟨by decide +kernel, by decide +kernel⟩, by decide +kernel, by decide⟩
theorem vm_L_101 : jVm RL 101 yX12_drawn cX12_drawn 11 (some .int) 3 := ⟨jw_t (i := 1487) (by decide +kernel) (by decide +kernel), wm_X12_drawn, wv_X12_drawn, wi_X12, wd_X12_drawn, ⟨by decide +kernel, by decide +kernel⟩, by decide +kernel, by decide⟩
theorem vm_L_105 : jVm RL 105 yX12_go cX12_go 4 (some .int) 2 := ⟨jw_t (i := 1493) (by decide +kernel) (by decide +kernel), wm_X12_go, wv_X12_go, wi_X12, wd_X12_go, ⟨by decide +kernel, by decide +kernel⟩, by decide +kernel, by decide⟩
theorem vm_X12_346 : jVm RX12 346 yX12_lays cX12_lays 2 none 0 := ⟨jw_t (i := 1497) (by decide +kernel) (by decide +kernel), wm_X12_lays, wv_X12_lays, wi_X12, wd_X12_lays, ⟨by decide +kernel, by decide +kernel⟩, by decide +kernel, by decide⟩
theorem vm_L_109 : jVm RL 109 yX12_stay cX12_stay 2 (some .int) 1 := ⟨jw_t (i := 1501) (by decide +kernel) (by decide +kernel), wm_X12_stay, wv_X12_stay, wi_X12, wd_X12_stay, ⟨by decide +kernel, by decide +kernel⟩, by decide +kernel, by decide⟩
theorem vm_L_113 : jVm RL 113 yX12_led cX12_led 2 (some .int) 1 := ⟨jw_t (i := 1505) (by decide +kernel) (by decide +kernel), wm_X12_led, wv_X12_led, wi_X12, wd_X12_led, ⟨by decide +kernel, by decide +kernel⟩, by decide +kernel, by decide⟩
theorem vm_L_117 : jVm RL 117 yX12_image cX12_image 2 (some .int) 0 := ⟨jw_t (i := 1509) (by decide +kernel) (by decide +kernel), wm_X12_image, wv_X12_image, wi_X12, wd_X12_image, ⟨by decide +kernel, by decide +kernel⟩, by decide +kernel, by decide⟩
theorem vm_X12_364 : jVm RX12 364 yX12_led cX12_led 2 (some .int) 1 := ⟨jw_t (i := 1513) (by decide +kernel) (by decide +kernel), wm_X12_led, wv_X12_led, wi_X12, wd_X12_led, ⟨by decide +kernel, by decide +kernel⟩, by decide +kernel, by decide⟩
theorem vm_L_121 : jVm RL 121 yX12_back cX12_back 2 (some .int) 0 := ⟨jw_t (i := 1514) (by decide +kernel) (by decide +kernel), wm_X12_back, wv_X12_back, wi_X12, wd_X12_back, ⟨by decide +kernel, by decide +kernel⟩, by decide +kernel, by decide⟩
theorem vm_L_133 : jVm RL 133 yX12_body cX12_body 2 (some .int) 1 := ⟨jw_t (i := 1518) (by decide +kernel) (by decide +kernel), wm_X12_body, wv_X12_body, wi_X12, wd_X12_body, ⟨by decide +kernel, by decide +kernel⟩, by decide +kernel, by decide⟩
theorem vm_L_137 : jVm RL 137 yX12_act cX12_act 4 (some .int) 3 := ⟨jw_t (i := 1522) (by decide +kernel) (by decide +kernel), wm_X12_act, wv_X12_act, wi_X12, wd_X12_act, ⟨by decide +kernel, by decide +kernel⟩, by decide +kernel, by decide⟩
theorem vm_X12_394 : jVm RX12 394 yX12_isBody cX12_isBody 2 (some .boolean) 1 := ⟨jw_t (i := 1526) (by decide +kernel) (by decide +kernel), wm_X12_isBody, wv_X12_isBody, wi_X12, wd_X12_isBody, ⟨by decide +kernel, by decide +kernel⟩, by decide +kernel, by decide⟩
theorem vm_X12_376 : jVm RX12 376 yX12_goesAs cX12_goesAs 3 (some .int) 2 := ⟨jw_t (i := 1530) (by decide +kernel) (by decide +kernel), wm_X12_goesAs, wv_X12_goesAs, wi_X12, wd_X12_goesAs, ⟨by decide +kernel, by decide +kernel⟩, by decide +kernel, by decide⟩
theorem vm_X12_373 : jVm RX12 373 yX12_begins cX12_begins 2 none 1 := ⟨jw_t (i := 1534) (by decide +kernel) (by decide +kernel), wm_X12_begins, wv_X12_begins, wi_X12, wd_X12_begins, ⟨by decide +kernel, by decide +kernel⟩, by decide +kernel, by decide⟩
theorem vm_X12_382 : jVm RX12 382 yX12_bearsAs cX12_bearsAs 4 (some .int) 2 := ⟨jw_t (i := 1538) (by decide +kernel) (by decide +kernel), wm_X12_bearsAs, wv_X12_bearsAs, wi_X12, wd_X12_bearsAs, ⟨by decide +kernel, by decide +kernel⟩, by decide +kernel, by decide⟩
theorem vm_X12_388 : jVm RX12 388 yX12_waitsAs cX12_waitsAs 4 (some .int) 2 := ⟨jw_t (i := 1542) (by decide +kernel) (by decide +kernel), wm_X12_waitsAs, wv_X12_waitsAs, wi_X12, wd_X12_waitsAs, ⟨by decide +kernel, by decide +kernel⟩, by decide +kernel, by decide⟩
theorem vm_X12_391 : jVm RX12 391 yX12_tellsAs cX12_tellsAs 4 (some .int) 2 := ⟨jw_t (i := 1546) (by decide +kernel) (by decide +kernel), wm_X12_tellsAs, wv_X12_tellsAs, wi_X12, wd_X12_tellsAs, ⟨by decide +kernel, by decide +kernel⟩, by decide +kernel, by decide⟩
theorem vm_L_141 : jVm RL 141 yX12_trace cX12_trace 2 (some .int) 1 := ⟨jw_t (i := 1550) (by decide +kernel) (by decide +kernel), wm_X12_trace, wv_X12_trace, wi_X12, wd_X12_trace, ⟨by decide +kernel, by decide +kernel⟩, by decide +kernel, by decide⟩
theorem vm_L_145 : jVm RL 145 yX12_keep cX12_keep 3 (some .int) 2 := ⟨jw_t (i := 1554) (by decide +kernel) (by decide +kernel), wm_X12_keep, wv_X12_keep, wi_X12, wd_X12_keep, ⟨by decide +kernel, by decide +kernel⟩, by decide +kernel, by decide⟩
theorem vm_L_149 : jVm RL 149 yX12_row cX12_row 5 (some .int) 3 := ⟨jw_t (i := 1558) (by decide +kernel) (by decide +kernel), wm_X12_row, wv_X12_row, wi_X12, wd_X12_row, ⟨by decide +kernel, by decide +kernel⟩, by decide +kernel, by decide⟩
theorem vm_L_156 : jVm RL 156 yX12_put cX12_put 6 (some .int) 3 := ⟨jw_t (i := 1562) (by decide +kernel) (by decide +kernel), wm_X12_put, wv_X12_put, wi_X12, wd_X12_put, ⟨by decide +kernel, by decide +kernel⟩, by decide +kernel, by decide⟩
theorem vm_X12_399 : jVm RX12 399 yX12_refusal cX12_refusal 3 (some .int) 2 := ⟨jw_t (i := 1566) (by decide +kernel) (by decide +kernel), wm_X12_refusal, wv_X12_refusal, wi_X12, wd_X12_refusal, ⟨by decide +kernel, by decide +kernel⟩, by decide +kernel, by decide⟩
theorem vm_X12_402 : jSm RX12 402 yX12_asSort cX12_asSort 3 (some .long) 2 := ⟨jw_t (i := 1570) (by decide +kernel) (by decide +kernel), wz_X12_asSort, wi_X12, wd_X12_asSort, ⟨by decide +kernel, by decide +kernel⟩, by decide +kernel, by decide⟩
theorem vm_L_161 : jVm RL 161 yX12_element cX12_element 3 (some .long) 2 := ⟨jw_t (i := 1573) (by decide +kernel) (by decide +kernel), wm_X12_element, wv_X12_element, wi_X12, wd_X12_element, ⟨by decide +kernel, by decide +kernel⟩, by decide +kernel, by decide⟩
theorem vm_L_166 : jVm RL 166 yX12_shift cX12_shift 7 (some .int) 5 := ⟨jw_t (i := 1577) (by decide +kernel) (by decide +kernel), wm_X12_shift, wv_X12_shift, wi_X12, wd_X12_shift, ⟨by decide +kernel, by decide +kernel⟩, by decide +kernel, by decide⟩
theorem vm_L_170 : jVm RL 170 yX12_taken cX12_taken 4 (some .int) 2 := ⟨jw_t (i := 1581) (by decide +kernel) (by decide +kernel), wm_X12_taken, wv_X12_taken, wi_X12, wd_X12_taken, ⟨by decide +kernel, by decide +kernel⟩, by decide +kernel, by decide⟩
theorem vm_X12_406 : jVm RX12 406 yX12_kindOf cX12_kindOf 2 (some .int) 1 := ⟨jw_t (i := 1585) (by decide +kernel) (by decide +kernel), wm_X12_kindOf, wv_X12_kindOf, wi_X12, wd_X12_kindOf, ⟨by decide +kernel, by decide +kernel⟩, by decide +kernel, by decide⟩
theorem vm_X12_409 : jSm RX12 409 yX12_above cX12_above 1 (some .int) 1 := ⟨jw_t (i := 1589) (by decide +kernel) (by decide +kernel), wz_X12_above, wi_X12, wd_X12_above, ⟨by decide +kernel, by decide +kernel⟩, by decide +kernel, by decide⟩
theorem vm_L_174 : jVm RL 174 yX12_count cX12_count 2 (some .int) 1 := ⟨jw_t (i := 1592) (by decide +kernel) (by decide +kernel), wm_X12_count, wv_X12_count, wi_X12, wd_X12_count, ⟨by decide +kernel, by decide +kernel⟩, by decide +kernel, by decide⟩
theorem vm_X12_412 : jVm RX12 412 yX12_weakMany cX12_weakMany 3 (some .int) 0 := ⟨jw_t (i := 1596) (by decide +kernel) (by decide +kernel), wm_X12_weakMany, wv_X12_weakMany, wi_X12, wd_X12_weakMany, ⟨by decide +kernel, by decide +kernel⟩, by decide +kernel, by decide⟩
theorem vm_X9_32 : jSn RX9 32 yX11_isShelf "HeaviestLast" cX11_isShelf 1 (some .boolean) 1 := ⟨by decide +kernel, wz_X11_isShelf, wi_X11, wd_X11_isShelf, ⟨by decide +kernel, by decide +kernel⟩, by decide +kernel, by decide⟩
theorem vm_X5_26 : jSn RX5 26 yX11_isSquare "HeaviestLast" cX11_isSquare 1 (some .boolean) 1 := ⟨by decide +kernel, wz_X11_isSquare, wi_X11, wd_X11_isSquare, ⟨by decide +kernel, by decide +kernel⟩, by decide +kernel, by decide⟩
theorem vm_X3_61 : jSn RX3 61 yX11_isSquare "HeaviestLast" cX11_isSquare 1 (some .boolean) 1 := ⟨by decide +kernel, wz_X11_isSquare, wi_X11, wd_X11_isSquare, ⟨by decide +kernel, by decide +kernel⟩, by decide +kernel, by decide⟩
theorem vm_X5_22 : jSn RX5 22 yX11_isWay "HeaviestLast" cX11_isWay 1 (some .boolean) 1 := ⟨by decide +kernel, wz_X11_isWay, wi_X11, wd_X11_isWay, ⟨by decide +kernel, by decide +kernel⟩, by decide +kernel, by decide⟩
theorem vm_X0_28 : jSn RX0 28 yX11_isKind "HeaviestLast" cX11_isKind 1 (some .boolean) 1 := ⟨by decide +kernel, wz_X11_isKind, wi_X11, wd_X11_isKind, ⟨by decide +kernel, by decide +kernel⟩, by decide +kernel, by decide⟩
theorem kl_X11_231 : Cond.constantLong RX11 231 (-9223372036854775808) ∈ jWS := jw_t (i := 752) (by decide +kernel) (by decide +kernel)
theorem kl_X1_79 : Cond.constantLong RX1 79 (429981696) ∈ jWS := jw_t (i := 783) (by decide +kernel) (by decide +kernel)
theorem kl_X11_255 : Cond.constantLong RX11 255 (-1) ∈ jWS := jw_t (i := 804) (by decide +kernel) (by decide +kernel)
theorem kl_X12_104 : Cond.constantLong RX12 104 (60) ∈ jWS := jw_t (i := 1209) (by decide +kernel) (by decide +kernel)
theorem kl_X12_397 : Cond.constantLong RX12 397 (5) ∈ jWS := jw_t (i := 1224) (by decide +kernel) (by decide +kernel)
theorem kl_X12_114 : Cond.constantLong RX12 114 (7) ∈ jWS := jw_t (i := 1225) (by decide +kernel) (by decide +kernel)
theorem kl_X12_116 : Cond.constantLong RX12 116 (9) ∈ jWS := jw_t (i := 1226) (by decide +kernel) (by decide +kernel)
theorem kl_X12_118 : Cond.constantLong RX12 118 (3) ∈ jWS := jw_t (i := 1235) (by decide +kernel) (by decide +kernel)
theorem kl_X12_102 : Cond.constantLong RX12 102 (23) ∈ jWS := jw_t (i := 1239) (by decide +kernel) (by decide +kernel)
theorem kl_X12_123 : Cond.constantLong RX12 123 (4) ∈ jWS := jw_t (i := 1240) (by decide +kernel) (by decide +kernel)
theorem kl_X12_129 : Cond.constantLong RX12 129 (12) ∈ jWS := jw_t (i := 1248) (by decide +kernel) (by decide +kernel)
theorem kl_X12_131 : Cond.constantLong RX12 131 (999) ∈ jWS := jw_t (i := 1249) (by decide +kernel) (by decide +kernel)
theorem kl_X12_133 : Cond.constantLong RX12 133 (99) ∈ jWS := jw_t (i := 1250) (by decide +kernel) (by decide +kernel)
theorem kl_X12_156 : Cond.constantLong RX12 156 (255) ∈ jWS := jw_t (i := 1277) (by decide +kernel) (by decide +kernel)
theorem kl_X12_100 : Cond.constantLong RX12 100 (2) ∈ jWS := jw_t (i := 1336) (by decide +kernel) (by decide +kernel)
theorem kl_X12_299 : Cond.constantLong RX12 299 (200) ∈ jWS := jw_t (i := 1425) (by decide +kernel) (by decide +kernel)
theorem kl_X12_316 : Cond.constantLong RX12 316 (-9223372036854775808) ∈ jWS := jw_t (i := 1438) (by decide +kernel) (by decide +kernel)
theorem kl_X12_328 : Cond.constantLong RX12 328 (429981696) ∈ jWS := jw_t (i := 1455) (by decide +kernel) (by decide +kernel)
theorem kl_X12_334 : Cond.constantLong RX12 334 (-1) ∈ jWS := jw_t (i := 1466) (by decide +kernel) (by decide +kernel)
theorem kl_X12_343 : Cond.constantLong RX12 343 (20) ∈ jWS := jw_t (i := 1491) (by decide +kernel) (by decide +kernel)
theorem kl_L_150 : Cond.constantLong RL 150 (4294967295) ∈ jWS := jw_t (i := 1600) (by decide +kernel) (by decide +kernel)
theorem ki_X8_50 : Cond.constant RX8 50 (1000000000) ∈ jWS := jw_t (i := 700) (by decide +kernel) (by decide +kernel)
theorem ki_X3_69 : Cond.constant RX3 69 (1103515245) ∈ jWS := jw_t (i := 841) (by decide +kernel) (by decide +kernel)
theorem ki_X12_345 : Cond.constant RX12 345 (1103515245) ∈ jWS := jw_t (i := 1492) (by decide +kernel) (by decide +kernel)
