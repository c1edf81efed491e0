def wL_law_18 (G : jG) (l : Launch) (d : Nat) (Q : Option Value → jS → jL → Prop) : Nat → Int32 → jS → jL → Prop
  | 0, _, _, _ => False
  | n18 + 1, x3, I, L => if ((Int32.ofNat (G.2.2.2.2 0).1) - (6 : Int32)) < x3 then (Q (some (.int (1 : Int32))) I L) else (vp_in x3 (G.2.2.2.2 0).1 ∧ (if (((G.2.2.2.2 0).2 x3.toNatClampNeg) &&& (63 : Int32)) = (0 : Int32) then (vp_in (x3 + (1 : Int32)) (G.2.2.2.2 0).1 ∧ (vp_in (x3 + (2 : Int32)) (G.2.2.2.2 0).1 ∧ (cI G l mX11_goer d [.ref 0, .int ((G.2.2.2.2 0).2 ((x3 + (1 : Int32)).toNatClampNeg)), .int ((G.2.2.2.2 0).2 ((x3 + (2 : Int32)).toNatClampNeg))] I L (fun r4 I4 L4 => (cI G l mX12_goer d [.ref 71, .int ((G.2.2.2.2 0).2 ((x3 + (1 : Int32)).toNatClampNeg)), .int ((G.2.2.2.2 0).2 ((x3 + (2 : Int32)).toNatClampNeg))] I4 L4 (fun r5 I5 L5 => (if r4 = r5 then ((wL_law_18 G l d Q n18) (x3 + (6 : Int32)) I5 L5) else (Q (some (.int (0 : Int32))) I5 L5)))))))) else (if (((G.2.2.2.2 0).2 x3.toNatClampNeg) &&& (63 : Int32)) = (1 : Int32) then (vp_in (x3 + (1 : Int32)) (G.2.2.2.2 0).1 ∧ (vp_in (x3 + (2 : Int32)) (G.2.2.2.2 0).1 ∧ (vp_in (x3 + (3 : Int32)) (G.2.2.2.2 0).1 ∧ (cI G l mX11_goers d [.ref 0, .int ((G.2.2.2.2 0).2 ((x3 + (1 : Int32)).toNatClampNeg)), .int ((G.2.2.2.2 0).2 ((x3 + (2 : Int32)).toNatClampNeg)), .int ((G.2.2.2.2 0).2 ((x3 + (3 : Int32)).toNatClampNeg))] I L (fun r9 I9 L9 => (cI G l mX12_goers d [.ref 71, .int ((G.2.2.2.2 0).2 ((x3 + (1 : Int32)).toNatClampNeg)), .int ((G.2.2.2.2 0).2 ((x3 + (2 : Int32)).toNatClampNeg)), .int ((G.2.2.2.2 0).2 ((x3 + (3 : Int32)).toNatClampNeg))] I9 L9 (fun r10 I10 L10 => (if r9 = r10 then ((wL_law_18 G l d Q n18) (x3 + (6 : Int32)) I10 L10) else (Q (some (.int (0 : Int32))) I10 L10))))))))) else (if (((G.2.2.2.2 0).2 x3.toNatClampNeg) &&& (63 : Int32)) = (2 : Int32) then (vp_in (x3 + (1 : Int32)) (G.2.2.2.2 0).1 ∧ (vp_in (x3 + (2 : Int32)) (G.2.2.2.2 0).1 ∧ (vp_in (x3 + (3 : Int32)) (G.2.2.2.2 0).1 ∧ (cI G l mX11_mend d [.ref 0, .int ((G.2.2.2.2 0).2 ((x3 + (1 : Int32)).toNatClampNeg)), .int ((G.2.2.2.2 0).2 ((x3 + (2 : Int32)).toNatClampNeg)), .int ((G.2.2.2.2 0).2 ((x3 + (3 : Int32)).toNatClampNeg))] I L (fun r14 I14 L14 => (cI G l mX12_mend d [.ref 71, .int ((G.2.2.2.2 0).2 ((x3 + (1 : Int32)).toNatClampNeg)), .int ((G.2.2.2.2 0).2 ((x3 + (2 : Int32)).toNatClampNeg)), .int ((G.2.2.2.2 0).2 ((x3 + (3 : Int32)).toNatClampNeg))] I14 L14 (fun r15 I15 L15 => (if r14 = r15 then ((wL_law_18 G l d Q n18) (x3 + (6 : Int32)) I15 L15) else (Q (some (.int (0 : Int32))) I15 L15))))))))) else (if (((G.2.2.2.2 0).2 x3.toNatClampNeg) &&& (63 : Int32)) = (3 : Int32) then (vp_in (x3 + (1 : Int32)) (G.2.2.2.2 0).1 ∧ (vp_in (x3 + (2 : Int32)) (G.2.2.2.2 0).1 ∧ (cI G l mX11_of d [.ref 0, .int ((G.2.2.2.2 0).2 ((x3 + (1 : Int32)).toNatClampNeg)), .int ((G.2.2.2.2 0).2 ((x3 + (2 : Int32)).toNatClampNeg))] I L (fun r18 I18 L18 => (cI G l mX12_of d [.ref 71, .int ((G.2.2.2.2 0).2 ((x3 + (1 : Int32)).toNatClampNeg)), .int ((G.2.2.2.2 0).2 ((x3 + (2 : Int32)).toNatClampNeg))] I18 L18 (fun r19 I19 L19 => (if r18 = r19 then ((wL_law_18 G l d Q n18) (x3 + (6 : Int32)) I19 L19) else (Q (some (.int (0 : Int32))) I19 L19)))))))) else (if (((G.2.2.2.2 0).2 x3.toNatClampNeg) &&& (63 : Int32)) = (4 : Int32) then (vp_in (x3 + (1 : Int32)) (G.2.2.2.2 0).1 ∧ (cI G l mX11_feed d [.ref 0, .int ((G.2.2.2.2 0).2 ((x3 + (1 : Int32)).toNatClampNeg))] I L (fun r21 I21 L21 => (cI G l mX12_feed d [.ref 71, .int ((G.2.2.2.2 0).2 ((x3 + (1 : Int32)).toNatClampNeg))] I21 L21 (fun r22 I22 L22 => (if r21 = r22 then ((wL_law_18 G l d Q n18) (x3 + (6 : Int32)) I22 L22) else (Q (some (.int (0 : Int32))) I22 L22))))))) else (if (((G.2.2.2.2 0).2 x3.toNatClampNeg) &&& (63 : Int32)) = (5 : Int32) then (cI G l mX11_law d [.ref 0] I L (fun r23 I23 L23 => (cI G l mX12_law d [.ref 71] I23 L23 (fun r24 I24 L24 => (if r23 = r24 then ((wL_law_18 G l d Q n18) (x3 + (6 : Int32)) I24 L24) else (Q (some (.int (0 : Int32))) I24 L24)))))) else (if (((G.2.2.2.2 0).2 x3.toNatClampNeg) &&& (63 : Int32)) = (6 : Int32) then (vp_in (x3 + (1 : Int32)) (G.2.2.2.2 0).1 ∧ (vp_in (x3 + (2 : Int32)) (G.2.2.2.2 0).1 ∧ (vp_in (x3 + (3 : Int32)) (G.2.2.2.2 0).1 ∧ (cI G l mX11_over d [.ref 0, .int ((G.2.2.2.2 0).2 ((x3 + (1 : Int32)).toNatClampNeg)), .int ((G.2.2.2.2 0).2 ((x3 + (2 : Int32)).toNatClampNeg)), .int ((G.2.2.2.2 0).2 ((x3 + (3 : Int32)).toNatClampNeg))] I L (fun r28 I28 L28 => (cI G l mX12_over d [.ref 71, .int ((G.2.2.2.2 0).2 ((x3 + (1 : Int32)).toNatClampNeg)), .int ((G.2.2.2.2 0).2 ((x3 + (2 : Int32)).toNatClampNeg)), .int ((G.2.2.2.2 0).2 ((x3 + (3 : Int32)).toNatClampNeg))] I28 L28 (fun r29 I29 L29 => (if r28 = r29 then ((wL_law_18 G l d Q n18) (x3 + (6 : Int32)) I29 L29) else (Q (some (.int (0 : Int32))) I29 L29))))))))) else (if (((G.2.2.2.2 0).2 x3.toNatClampNeg) &&& (63 : Int32)) = (7 : Int32) then (vp_in (x3 + (1 : Int32)) (G.2.2.2.2 0).1 ∧ (vp_in (x3 + (2 : Int32)) (G.2.2.2.2 0).1 ∧ (vp_in (x3 + (3 : Int32)) (G.2.2.2.2 0).1 ∧ (cI G l mX11_bears d [.ref 0, .int ((G.2.2.2.2 0).2 ((x3 + (1 : Int32)).toNatClampNeg)), .int ((G.2.2.2.2 0).2 ((x3 + (2 : Int32)).toNatClampNeg)), .int ((G.2.2.2.2 0).2 ((x3 + (3 : Int32)).toNatClampNeg))] I L (fun r33 I33 L33 => (cI G l mX12_bears d [.ref 71, .int ((G.2.2.2.2 0).2 ((x3 + (1 : Int32)).toNatClampNeg)), .int ((G.2.2.2.2 0).2 ((x3 + (2 : Int32)).toNatClampNeg)), .int ((G.2.2.2.2 0).2 ((x3 + (3 : Int32)).toNatClampNeg))] I33 L33 (fun r34 I34 L34 => (if r33 = r34 then ((wL_law_18 G l d Q n18) (x3 + (6 : Int32)) I34 L34) else (Q (some (.int (0 : Int32))) I34 L34))))))))) else (if (((G.2.2.2.2 0).2 x3.toNatClampNeg) &&& (63 : Int32)) = (8 : Int32) then (vp_in (x3 + (1 : Int32)) (G.2.2.2.2 0).1 ∧ (vp_in (x3 + (2 : Int32)) (G.2.2.2.2 0).1 ∧ (cI G l mX11_all d [.ref 0, .int ((G.2.2.2.2 0).2 ((x3 + (1 : Int32)).toNatClampNeg)), .int ((G.2.2.2.2 0).2 ((x3 + (2 : Int32)).toNatClampNeg))] I L (fun r37 I37 L37 => (cI G l mX12_all d [.ref 71, .int ((G.2.2.2.2 0).2 ((x3 + (1 : Int32)).toNatClampNeg)), .int ((G.2.2.2.2 0).2 ((x3 + (2 : Int32)).toNatClampNeg))] I37 L37 (fun r38 I38 L38 => (if r37 = r38 then ((wL_law_18 G l d Q n18) (x3 + (6 : Int32)) I38 L38) else (Q (some (.int (0 : Int32))) I38 L38)))))))) else (if (((G.2.2.2.2 0).2 x3.toNatClampNeg) &&& (63 : Int32)) = (9 : Int32) then (vp_in (x3 + (1 : Int32)) (G.2.2.2.2 0).1 ∧ (vp_in (x3 + (2 : Int32)) (G.2.2.2.2 0).1 ∧ (cI G l mX11_rule d [.ref 0, .int ((G.2.2.2.2 0).2 ((x3 + (1 : Int32)).toNatClampNeg)), .int ((G.2.2.2.2 0).2 ((x3 + (2 : Int32)).toNatClampNeg))] I L (fun r41 I41 L41 => (cI G l mX12_rule d [.ref 71, .int ((G.2.2.2.2 0).2 ((x3 + (1 : Int32)).toNatClampNeg)), .int ((G.2.2.2.2 0).2 ((x3 + (2 : Int32)).toNatClampNeg))] I41 L41 (fun r42 I42 L42 => (if r41 = r42 then ((wL_law_18 G l d Q n18) (x3 + (6 : Int32)) I42 L42) else (Q (some (.int (0 : Int32))) I42 L42)))))))) else (if (((G.2.2.2.2 0).2 x3.toNatClampNeg) &&& (63 : Int32)) = (10 : Int32) then (vp_in (x3 + (1 : Int32)) (G.2.2.2.2 0).1 ∧ (vp_in (x3 + (2 : Int32)) (G.2.2.2.2 0).1 ∧ (vp_in (x3 + (3 : Int32)) (G.2.2.2.2 0).1 ∧ (cI G l mX11_waits d [.ref 0, .int ((G.2.2.2.2 0).2 ((x3 + (1 : Int32)).toNatClampNeg)), .int ((G.2.2.2.2 0).2 ((x3 + (2 : Int32)).toNatClampNeg)), .int ((G.2.2.2.2 0).2 ((x3 + (3 : Int32)).toNatClampNeg))] I L (fun r46 I46 L46 => (cI G l mX12_waits d [.ref 71, .int ((G.2.2.2.2 0).2 ((x3 + (1 : Int32)).toNatClampNeg)), .int ((G.2.2.2.2 0).2 ((x3 + (2 : Int32)).toNatClampNeg)), .int ((G.2.2.2.2 0).2 ((x3 + (3 : Int32)).toNatClampNeg))] I46 L46 (fun r47 I47 L47 => (if r46 = r47 then ((wL_law_18 G l d Q n18) (x3 + (6 : Int32)) I47 L47) else (Q (some (.int (0 : Int32))) I47 L47))))))))) else (if (((G.2.2.2.2 0).2 x3.toNatClampNeg) &&& (63 : Int32)) = (11 : Int32) then (vp_in (x3 + (1 : Int32)) (G.2.2.2.2 0).1 ∧ (vp_in (x3 + (2 : Int32)) (G.2.2.2.2 0).1 ∧ (cI G l mX11_soonest d [.ref 0, .int ((G.2.2.2.2 0).2 ((x3 + (1 : Int32)).toNatClampNeg)), .int ((G.2.2.2.2 0).2 ((x3 + (2 : Int32)).toNatClampNeg))] I L (fun r50 I50 L50 => (cI G l mX12_soonest d [.ref 71, .int ((G.2.2.2.2 0).2 ((x3 + (1 : Int32)).toNatClampNeg)), .int ((G.2.2.2.2 0).2 ((x3 + (2 : Int32)).toNatClampNeg))] I50 L50 (fun r51 I51 L51 => (if r50 = r51 then ((wL_law_18 G l d Q n18) (x3 + (6 : Int32)) I51 L51) else (Q (some (.int (0 : Int32))) I51 L51)))))))) else (if (((G.2.2.2.2 0).2 x3.toNatClampNeg) &&& (63 : Int32)) = (12 : Int32) then (vp_in (x3 + (1 : Int32)) (G.2.2.2.2 0).1 ∧ (vp_in (x3 + (2 : Int32)) (G.2.2.2.2 0).1 ∧ (cI G l mX11_strength d [.ref 0, .int ((G.2.2.2.2 0).2 ((x3 + (1 : Int32)).toNatClampNeg)), .int ((G.2.2.2.2 0).2 ((x3 + (2 : Int32)).toNatClampNeg))] I L (fun r54 I54 L54 => (cI G l mX12_strength d [.ref 71, .int ((G.2.2.2.2 0).2 ((x3 + (1 : Int32)).toNatClampNeg)), .int ((G.2.2.2.2 0).2 ((x3 + (2 : Int32)).toNatClampNeg))] I54 L54 (fun r55 I55 L55 => (if r54 = r55 then ((wL_law_18 G l d Q n18) (x3 + (6 : Int32)) I55 L55) else (Q (some (.int (0 : Int32))) I55 L55)))))))) else (if (((G.2.2.2.2 0).2 x3.toNatClampNeg) &&& (63 : Int32)) = (13 : Int32) then (vp_in (x3 + (1 : Int32)) (G.2.2.2.2 0).1 ∧ (vp_in (x3 + (2 : Int32)) (G.2.2.2.2 0).1 ∧ (vp_in (x3 + (3 : Int32)) (G.2.2.2.2 0).1 ∧ (cI G l mX11_load d [.ref 0, .int ((G.2.2.2.2 0).2 ((x3 + (1 : Int32)).toNatClampNeg)), .int ((G.2.2.2.2 0).2 ((x3 + (2 : Int32)).toNatClampNeg)), .int ((G.2.2.2.2 0).2 ((x3 + (3 : Int32)).toNatClampNeg))] I L (fun r59 I59 L59 => (cI G l mX12_load d [.ref 71, .int ((G.2.2.2.2 0).2 ((x3 + (1 : Int32)).toNatClampNeg)), .int ((G.2.2.2.2 0).2 ((x3 + (2 : Int32)).toNatClampNeg)), .int ((G.2.2.2.2 0).2 ((x3 + (3 : Int32)).toNatClampNeg))] I59 L59 (fun r60 I60 L60 => (if r59 = r60 then ((wL_law_18 G l d Q n18) (x3 + (6 : Int32)) I60 L60) else (Q (some (.int (0 : Int32))) I60 L60))))))))) else (if (((G.2.2.2.2 0).2 x3.toNatClampNeg) &&& (63 : Int32)) = (14 : Int32) then (vp_in (x3 + (1 : Int32)) (G.2.2.2.2 0).1 ∧ (cI G l mX11_several d [.ref 0, .int ((G.2.2.2.2 0).2 ((x3 + (1 : Int32)).toNatClampNeg))] I L (fun r62 I62 L62 => (cI G l mX12_several d [.ref 71, .int ((G.2.2.2.2 0).2 ((x3 + (1 : Int32)).toNatClampNeg))] I62 L62 (fun r63 I63 L63 => (if r62 = r63 then ((wL_law_18 G l d Q n18) (x3 + (6 : Int32)) I63 L63) else (Q (some (.int (0 : Int32))) I63 L63))))))) else (if (((G.2.2.2.2 0).2 x3.toNatClampNeg) &&& (63 : Int32)) = (15 : Int32) then (vp_in (x3 + (1 : Int32)) (G.2.2.2.2 0).1 ∧ (vp_in (x3 + (2 : Int32)) (G.2.2.2.2 0).1 ∧ (vp_in (x3 + (3 : Int32)) (G.2.2.2.2 0).1 ∧ (cJ G l mX11_unsure d [.ref 0, .int ((G.2.2.2.2 0).2 ((x3 + (1 : Int32)).toNatClampNeg)), .int ((G.2.2.2.2 0).2 ((x3 + (2 : Int32)).toNatClampNeg)), .int ((G.2.2.2.2 0).2 ((x3 + (3 : Int32)).toNatClampNeg))] I L (fun r67 I67 L67 => (cJ G l mX12_unsure d [.ref 71, .int ((G.2.2.2.2 0).2 ((x3 + (1 : Int32)).toNatClampNeg)), .int ((G.2.2.2.2 0).2 ((x3 + (2 : Int32)).toNatClampNeg)), .int ((G.2.2.2.2 0).2 ((x3 + (3 : Int32)).toNatClampNeg))] I67 L67 (fun r68 I68 L68 => (if (lg_cmp r67 r68) = 0 then ((wL_law_18 G l d Q n18) (x3 + (6 : Int32)) I68 L68) else (Q (some (.int (0 : Int32))) I68 L68))))))))) else (if (((G.2.2.2.2 0).2 x3.toNatClampNeg) &&& (63 : Int32)) = (16 : Int32) then (vp_in (x3 + (1 : Int32)) (G.2.2.2.2 0).1 ∧ (vp_in (x3 + (2 : Int32)) (G.2.2.2.2 0).1 ∧ (vp_in (x3 + (3 : Int32)) (G.2.2.2.2 0).1 ∧ (cJ G l mX11_bore d [.ref 0, .int ((G.2.2.2.2 0).2 ((x3 + (1 : Int32)).toNatClampNeg)), .int ((G.2.2.2.2 0).2 ((x3 + (2 : Int32)).toNatClampNeg)), .int ((G.2.2.2.2 0).2 ((x3 + (3 : Int32)).toNatClampNeg))] I L (fun r72 I72 L72 => (cJ G l mX12_bore d [.ref 71, .int ((G.2.2.2.2 0).2 ((x3 + (1 : Int32)).toNatClampNeg)), .int ((G.2.2.2.2 0).2 ((x3 + (2 : Int32)).toNatClampNeg)), .int ((G.2.2.2.2 0).2 ((x3 + (3 : Int32)).toNatClampNeg))] I72 L72 (fun r73 I73 L73 => (if (lg_cmp r72 r73) = 0 then ((wL_law_18 G l d Q n18) (x3 + (6 : Int32)) I73 L73) else (Q (some (.int (0 : Int32))) I73 L73))))))))) else (if (((G.2.2.2.2 0).2 x3.toNatClampNeg) &&& (63 : Int32)) = (17 : Int32) then (vp_in (x3 + (1 : Int32)) (G.2.2.2.2 0).1 ∧ (cI G l mX11_safe d [.ref 0, .int ((G.2.2.2.2 0).2 ((x3 + (1 : Int32)).toNatClampNeg))] I L (fun r75 I75 L75 => (cI G l mX12_safe d [.ref 71, .int ((G.2.2.2.2 0).2 ((x3 + (1 : Int32)).toNatClampNeg))] I75 L75 (fun r76 I76 L76 => (if r75 = r76 then ((wL_law_18 G l d Q n18) (x3 + (6 : Int32)) I76 L76) else (Q (some (.int (0 : Int32))) I76 L76))))))) else (if (((G.2.2.2.2 0).2 x3.toNatClampNeg) &&& (63 : Int32)) = (18 : Int32) then (vp_in (x3 + (1 : Int32)) (G.2.2.2.2 0).1 ∧ (vp_in (x3 + (2 : Int32)) (G.2.2.2.2 0).1 ∧ (vp_in (x3 + (3 : Int32)) (G.2.2.2.2 0).1 ∧ (cI G l mX11_who d [.ref 0, .int ((G.2.2.2.2 0).2 ((x3 + (1 : Int32)).toNatClampNeg)), .int ((G.2.2.2.2 0).2 ((x3 + (2 : Int32)).toNatClampNeg)), .int ((G.2.2.2.2 0).2 ((x3 + (3 : Int32)).toNatClampNeg))] I L (fun r80 I80 L80 => (cI G l mX12_who d [.ref 71, .int ((G.2.2.2.2 0).2 ((x3 + (1 : Int32)).toNatClampNeg)), .int ((G.2.2.2.2 0).2 ((x3 + (2 : Int32)).toNatClampNeg)), .int ((G.2.2.2.2 0).2 ((x3 + (3 : Int32)).toNatClampNeg))] I80 L80 (fun r81 I81 L81 => (if r80 = r81 then ((wL_law_18 G l d Q n18) (x3 + (6 : Int32)) I81 L81) else (Q (some (.int (0 : Int32))) I81 L81))))))))) else (if (((G.2.2.2.2 0).2 x3.toNatClampNeg) &&& (63 : Int32)) = (19 : Int32) then (vp_in (x3 + (1 : Int32)) (G.2.2.2.2 0).1 ∧ (cI G l mX11_judge d [.ref 0, .int ((G.2.2.2.2 0).2 ((x3 + (1 : Int32)).toNatClampNeg))] I L (fun r83 I83 L83 => (cI G l mX12_judge d [.ref 71, .int ((G.2.2.2.2 0).2 ((x3 + (1 : Int32)).toNatClampNeg))] I83 L83 (fun r84 I84 L84 => (if r83 = r84 then ((wL_law_18 G l d Q n18) (x3 + (6 : Int32)) I84 L84) else (Q (some (.int (0 : Int32))) I84 L84))))))) else (if (((G.2.2.2.2 0).2 x3.toNatClampNeg) &&& (63 : Int32)) = (20 : Int32) then (vp_in (x3 + (1 : Int32)) (G.2.2.2.2 0).1 ∧ (vp_in (x3 + (2 : Int32)) (G.2.2.2.2 0).1 ∧ (vp_in (x3 + (3 : Int32)) (G.2.2.2.2 0).1 ∧ (cI G l mX11_drawn d [.ref 0, .int ((G.2.2.2.2 0).2 ((x3 + (1 : Int32)).toNatClampNeg)), .int ((G.2.2.2.2 0).2 ((x3 + (2 : Int32)).toNatClampNeg)), .int ((G.2.2.2.2 0).2 ((x3 + (3 : Int32)).toNatClampNeg))] I L (fun r88 I88 L88 => (cI G l mX12_drawn d [.ref 71, .int ((G.2.2.2.2 0).2 ((x3 + (1 : Int32)).toNatClampNeg)), .int ((G.2.2.2.2 0).2 ((x3 + (2 : Int32)).toNatClampNeg)), .int ((G.2.2.2.2 0).2 ((x3 + (3 : Int32)).toNatClampNeg))] I88 L88 (fun r89 I89 L89 => (if r88 = r89 then ((wL_law_18 G l d Q n18) (x3 + (6 : Int32)) I89 L89) else (Q (some (.int (0 : Int32))) I89 L89))))))))) else (if (((G.2.2.2.2 0).2 x3.toNatClampNeg) &&& (63 : Int32)) = (21 : Int32) then (vp_in (x3 + (1 : Int32)) (G.2.2.2.2 0).1 ∧ (vp_in (x3 + (2 : Int32)) (G.2.2.2.2 0).1 ∧ (cI G l mX11_go d [.ref 0, .int ((G.2.2.2.2 0).2 ((x3 + (1 : Int32)).toNatClampNeg)), .int ((G.2.2.2.2 0).2 ((x3 + (2 : Int32)).toNatClampNeg))] I L (fun r92 I92 L92 => (cI G l mX12_go d [.ref 71, .int ((G.2.2.2.2 0).2 ((x3 + (1 : Int32)).toNatClampNeg)), .int ((G.2.2.2.2 0).2 ((x3 + (2 : Int32)).toNatClampNeg))] I92 L92 (fun r93 I93 L93 => (if r92 = r93 then ((wL_law_18 G l d Q n18) (x3 + (6 : Int32)) I93 L93) else (Q (some (.int (0 : Int32))) I93 L93)))))))) else (if (((G.2.2.2.2 0).2 x3.toNatClampNeg) &&& (63 : Int32)) = (22 : Int32) then (vp_in (x3 + (1 : Int32)) (G.2.2.2.2 0).1 ∧ (cI G l mX11_stay d [.ref 0, .int ((G.2.2.2.2 0).2 ((x3 + (1 : Int32)).toNatClampNeg))] I L (fun r95 I95 L95 => (cI G l mX12_stay d [.ref 71, .int ((G.2.2.2.2 0).2 ((x3 + (1 : Int32)).toNatClampNeg))] I95 L95 (fun r96 I96 L96 => (if r95 = r96 then ((wL_law_18 G l d Q n18) (x3 + (6 : Int32)) I96 L96) else (Q (some (.int (0 : Int32))) I96 L96))))))) else (if (((G.2.2.2.2 0).2 x3.toNatClampNeg) &&& (63 : Int32)) = (23 : Int32) then (vp_in (x3 + (1 : Int32)) (G.2.2.2.2 0).1 ∧ (cI G l mX11_led d [.ref 0, .int ((G.2.2.2.2 0).2 ((x3 + (1 : Int32)).toNatClampNeg))] I L (fun r98 I98 L98 => (cI G l mX12_led d [.ref 71, .int ((G.2.2.2.2 0).2 ((x3 + (1 : Int32)).toNatClampNeg))] I98 L98 (fun r99 I99 L99 => (if r98 = r99 then ((wL_law_18 G l d Q n18) (x3 + (6 : Int32)) I99 L99) else (Q (some (.int (0 : Int32))) I99 L99))))))) else (if (((G.2.2.2.2 0).2 x3.toNatClampNeg) &&& (63 : Int32)) = (24 : Int32) then (cI G l mX11_image d [.ref 0] I L (fun r100 I100 L100 => (cI G l mX12_image d [.ref 71] I100 L100 (fun r101 I101 L101 => (if r100 = r101 then ((wL_law_18 G l d Q n18) (x3 + (6 : Int32)) I101 L101) else (Q (some (.int (0 : Int32))) I101 L101)))))) else (if (((G.2.2.2.2 0).2 x3.toNatClampNeg) &&& (63 : Int32)) = (25 : Int32) then (cI G l mX11_back d [.ref 0] I L (fun r102 I102 L102 => (cI G l mX12_back d [.ref 71] I102 L102 (fun r103 I103 L103 => (if r102 = r103 then ((wL_law_18 G l d Q n18) (x3 + (6 : Int32)) I103 L103) else (Q (some (.int (0 : Int32))) I103 L103)))))) else (if (((G.2.2.2.2 0).2 x3.toNatClampNeg) &&& (63 : Int32)) = (26 : Int32) then (cI G l mX11_undo d [.ref 0] I L (fun r104 I104 L104 => (cI G l mX12_undo d [.ref 71] I104 L104 (fun r105 I105 L105 => (if r104 = r105 then ((wL_law_18 G l d Q n18) (x3 + (6 : Int32)) I105 L105) else (Q (some (.int (0 : Int32))) I105 L105)))))) else (if (((G.2.2.2.2 0).2 x3.toNatClampNeg) &&& (63 : Int32)) = (27 : Int32) then (cI G l mX11_redo d [.ref 0] I L (fun r106 I106 L106 => (cI G l mX12_redo d [.ref 71] I106 L106 (fun r107 I107 L107 => (if r106 = r107 then ((wL_law_18 G l d Q n18) (x3 + (6 : Int32)) I107 L107) else (Q (some (.int (0 : Int32))) I107 L107)))))) else (if (((G.2.2.2.2 0).2 x3.toNatClampNeg) &&& (63 : Int32)) = (28 : Int32) then (vp_in (x3 + (1 : Int32)) (G.2.2.2.2 0).1 ∧ (cI G l mX11_body d [.ref 0, .int ((G.2.2.2.2 0).2 ((x3 + (1 : Int32)).toNatClampNeg))] I L (fun r109 I109 L109 => (cI G l mX12_body d [.ref 71, .int ((G.2.2.2.2 0).2 ((x3 + (1 : Int32)).toNatClampNeg))] I109 L109 (fun r110 I110 L110 => (if r109 = r110 then ((wL_law_18 G l d Q n18) (x3 + (6 : Int32)) I110 L110) else (Q (some (.int (0 : Int32))) I110 L110))))))) else (if (((G.2.2.2.2 0).2 x3.toNatClampNeg) &&& (63 : Int32)) = (29 : Int32) then (vp_in (x3 + (1 : Int32)) (G.2.2.2.2 0).1 ∧ (vp_in (x3 + (2 : Int32)) (G.2.2.2.2 0).1 ∧ (vp_in (x3 + (3 : Int32)) (G.2.2.2.2 0).1 ∧ (cI G l mX11_act d [.ref 0, .int ((G.2.2.2.2 0).2 ((x3 + (1 : Int32)).toNatClampNeg)), .int ((G.2.2.2.2 0).2 ((x3 + (2 : Int32)).toNatClampNeg)), .int ((G.2.2.2.2 0).2 ((x3 + (3 : Int32)).toNatClampNeg))] I L (fun r114 I114 L114 => (cI G l mX12_act d [.ref 71, .int ((G.2.2.2.2 0).2 ((x3 + (1 : Int32)).toNatClampNeg)), .int ((G.2.2.2.2 0).2 ((x3 + (2 : Int32)).toNatClampNeg)), .int ((G.2.2.2.2 0).2 ((x3 + (3 : Int32)).toNatClampNeg))] I114 L114 (fun r115 I115 L115 => (if r114 = r115 then ((wL_law_18 G l d Q n18) (x3 + (6 : Int32)) I115 L115) else (Q (some (.int (0 : Int32))) I115 L115))))))))) else (if (((G.2.2.2.2 0).2 x3.toNatClampNeg) &&& (63 : Int32)) = (30 : Int32) then (vp_in (x3 + (1 : Int32)) (G.2.2.2.2 0).1 ∧ (cI G l mX11_trace d [.ref 0, .int ((G.2.2.2.2 0).2 ((x3 + (1 : Int32)).toNatClampNeg))] I L (fun r117 I117 L117 => (cI G l mX12_trace d [.ref 71, .int ((G.2.2.2.2 0).2 ((x3 + (1 : Int32)).toNatClampNeg))] I117 L117 (fun r118 I118 L118 => (if r117 = r118 then ((wL_law_18 G l d Q n18) (x3 + (6 : Int32)) I118 L118) else (Q (some (.int (0 : Int32))) I118 L118))))))) else (if (((G.2.2.2.2 0).2 x3.toNatClampNeg) &&& (63 : Int32)) = (31 : Int32) then (vp_in (x3 + (1 : Int32)) (G.2.2.2.2 0).1 ∧ (vp_in (x3 + (2 : Int32)) (G.2.2.2.2 0).1 ∧ (cI G l mX11_keep d [.ref 0, .int ((G.2.2.2.2 0).2 ((x3 + (1 : Int32)).toNatClampNeg)), .int ((G.2.2.2.2 0).2 ((x3 + (2 : Int32)).toNatClampNeg))] I L (fun r121 I121 L121 => (cI G l mX12_keep d [.ref 71, .int ((G.2.2.2.2 0).2 ((x3 + (1 : Int32)).toNatClampNeg)), .int ((G.2.2.2.2 0).2 ((x3 + (2 : Int32)).toNatClampNeg))] I121 L121 (fun r122 I122 L122 => (if r121 = r122 then ((wL_law_18 G l d Q n18) (x3 + (6 : Int32)) I122 L122) else (Q (some (.int (0 : Int32))) I122 L122)))))))) else (if (((G.2.2.2.2 0).2 x3.toNatClampNeg) &&& (63 : Int32)) = (32 : Int32) then (vp_in (x3 + (1 : Int32)) (G.2.2.2.2 0).1 ∧ (vp_in (x3 + (2 : Int32)) (G.2.2.2.2 0).1 ∧ (vp_in (x3 + (3 : Int32)) (G.2.2.2.2 0).1 ∧ (cI G l mX11_row d [.ref 0, .int ((G.2.2.2.2 0).2 ((x3 + (1 : Int32)).toNatClampNeg)), .int ((G.2.2.2.2 0).2 ((x3 + (2 : Int32)).toNatClampNeg)), .int ((G.2.2.2.2 0).2 ((x3 + (3 : Int32)).toNatClampNeg))] I L (fun r126 I126 L126 => (cI G l mX12_row d [.ref 71, .int ((G.2.2.2.2 0).2 ((x3 + (1 : Int32)).toNatClampNeg)), .int ((G.2.2.2.2 0).2 ((x3 + (2 : Int32)).toNatClampNeg)), .int ((G.2.2.2.2 0).2 ((x3 + (3 : Int32)).toNatClampNeg))] I126 L126 (fun r127 I127 L127 => (if r126 = r127 then ((wL_law_18 G l d Q n18) (x3 + (6 : Int32)) I127 L127) else (Q (some (.int (0 : Int32))) I127 L127))))))))) else (if (((G.2.2.2.2 0).2 x3.toNatClampNeg) &&& (63 : Int32)) = (33 : Int32) then (vp_in (x3 + (1 : Int32)) (G.2.2.2.2 0).1 ∧ (vp_in (x3 + (2 : Int32)) (G.2.2.2.2 0).1 ∧ (vp_in (x3 + (3 : Int32)) (G.2.2.2.2 0).1 ∧ (vp_in (x3 + (4 : Int32)) (G.2.2.2.2 0).1 ∧ (cI G l mX11_put d [.ref 0, .int ((G.2.2.2.2 0).2 ((x3 + (1 : Int32)).toNatClampNeg)), .int ((G.2.2.2.2 0).2 ((x3 + (2 : Int32)).toNatClampNeg)), .long ((((G.2.2.2.2 0).2 ((x3 + (3 : Int32)).toNatClampNeg)).toInt64 <<< ((32 : Int32).toInt64 &&& 63)) ||| (((G.2.2.2.2 0).2 ((x3 + (4 : Int32)).toNatClampNeg)).toInt64 &&& (4294967295 : Int64)))] I L (fun r132 I132 L132 => (cI G l mX12_put d [.ref 71, .int ((G.2.2.2.2 0).2 ((x3 + (1 : Int32)).toNatClampNeg)), .int ((G.2.2.2.2 0).2 ((x3 + (2 : Int32)).toNatClampNeg)), .long ((((G.2.2.2.2 0).2 ((x3 + (3 : Int32)).toNatClampNeg)).toInt64 <<< ((32 : Int32).toInt64 &&& 63)) ||| (((G.2.2.2.2 0).2 ((x3 + (4 : Int32)).toNatClampNeg)).toInt64 &&& (4294967295 : Int64)))] I132 L132 (fun r133 I133 L133 => (if r132 = r133 then ((wL_law_18 G l d Q n18) (x3 + (6 : Int32)) I133 L133) else (Q (some (.int (0 : Int32))) I133 L133)))))))))) else (if (((G.2.2.2.2 0).2 x3.toNatClampNeg) &&& (63 : Int32)) = (34 : Int32) then (vp_in (x3 + (1 : Int32)) (G.2.2.2.2 0).1 ∧ (vp_in (x3 + (2 : Int32)) (G.2.2.2.2 0).1 ∧ (cJ G l mX11_element d [.ref 0, .int ((G.2.2.2.2 0).2 ((x3 + (1 : Int32)).toNatClampNeg)), .int ((G.2.2.2.2 0).2 ((x3 + (2 : Int32)).toNatClampNeg))] I L (fun r136 I136 L136 => (cJ G l mX12_element d [.ref 71, .int ((G.2.2.2.2 0).2 ((x3 + (1 : Int32)).toNatClampNeg)), .int ((G.2.2.2.2 0).2 ((x3 + (2 : Int32)).toNatClampNeg))] I136 L136 (fun r137 I137 L137 => (if (lg_cmp r136 r137) = 0 then ((wL_law_18 G l d Q n18) (x3 + (6 : Int32)) I137 L137) else (Q (some (.int (0 : Int32))) I137 L137)))))))) else (if (((G.2.2.2.2 0).2 x3.toNatClampNeg) &&& (63 : Int32)) = (35 : Int32) then (vp_in (x3 + (1 : Int32)) (G.2.2.2.2 0).1 ∧ (vp_in (x3 + (2 : Int32)) (G.2.2.2.2 0).1 ∧ (vp_in (x3 + (3 : Int32)) (G.2.2.2.2 0).1 ∧ (vp_in (x3 + (4 : Int32)) (G.2.2.2.2 0).1 ∧ (vp_in (x3 + (5 : Int32)) (G.2.2.2.2 0).1 ∧ (cI G l mX11_shift d [.ref 0, .int ((G.2.2.2.2 0).2 ((x3 + (1 : Int32)).toNatClampNeg)), .int ((G.2.2.2.2 0).2 ((x3 + (2 : Int32)).toNatClampNeg)), .int ((G.2.2.2.2 0).2 ((x3 + (3 : Int32)).toNatClampNeg)), .int ((G.2.2.2.2 0).2 ((x3 + (4 : Int32)).toNatClampNeg)), .int ((G.2.2.2.2 0).2 ((x3 + (5 : Int32)).toNatClampNeg))] I L (fun r143 I143 L143 => (cI G l mX12_shift d [.ref 71, .int ((G.2.2.2.2 0).2 ((x3 + (1 : Int32)).toNatClampNeg)), .int ((G.2.2.2.2 0).2 ((x3 + (2 : Int32)).toNatClampNeg)), .int ((G.2.2.2.2 0).2 ((x3 + (3 : Int32)).toNatClampNeg)), .int ((G.2.2.2.2 0).2 ((x3 + (4 : Int32)).toNatClampNeg)), .int ((G.2.2.2.2 0).2 ((x3 + (5 : Int32)).toNatClampNeg))] I143 L143 (fun r144 I144 L144 => (if r143 = r144 then ((wL_law_18 G l d Q n18) (x3 + (6 : Int32)) I144 L144) else (Q (some (.int (0 : Int32))) I144 L144))))))))))) else (if (((G.2.2.2.2 0).2 x3.toNatClampNeg) &&& (63 : Int32)) = (36 : Int32) then (vp_in (x3 + (1 : Int32)) (G.2.2.2.2 0).1 ∧ (vp_in (x3 + (2 : Int32)) (G.2.2.2.2 0).1 ∧ (cI G l mX11_taken d [.ref 0, .int ((G.2.2.2.2 0).2 ((x3 + (1 : Int32)).toNatClampNeg)), .int ((G.2.2.2.2 0).2 ((x3 + (2 : Int32)).toNatClampNeg))] I L (fun r147 I147 L147 => (cI G l mX12_taken d [.ref 71, .int ((G.2.2.2.2 0).2 ((x3 + (1 : Int32)).toNatClampNeg)), .int ((G.2.2.2.2 0).2 ((x3 + (2 : Int32)).toNatClampNeg))] I147 L147 (fun r148 I148 L148 => (if r147 = r148 then ((wL_law_18 G l d Q n18) (x3 + (6 : Int32)) I148 L148) else (Q (some (.int (0 : Int32))) I148 L148)))))))) else (if (((G.2.2.2.2 0).2 x3.toNatClampNeg) &&& (63 : Int32)) = (37 : Int32) then (vp_in (x3 + (1 : Int32)) (G.2.2.2.2 0).1 ∧ (cI G l mX11_count d [.ref 0, .int ((G.2.2.2.2 0).2 ((x3 + (1 : Int32)).toNatClampNeg))] I L (fun r150 I150 L150 => (cI G l mX12_count d [.ref 71, .int ((G.2.2.2.2 0).2 ((x3 + (1 : Int32)).toNatClampNeg))] I150 L150 (fun r151 I151 L151 => (if r150 = r151 then ((wL_law_18 G l d Q n18) (x3 + (6 : Int32)) I151 L151) else (Q (some (.int (0 : Int32))) I151 L151))))))) else ((wL_law_18 G l d Q n18) (x3 + (6 : Int32)) I L))))))))))))))))))))))))))))))))))))))))
set_option maxRecDepth 100000 in
set_option maxHeartbeats 4000000 in
theorem wL_law_18_ok {G : jG} {l : Launch} {d : Nat} {Q : Option Value → jS → jL → Prop} : ∀ (n : Nat) (x3 : Int32) (I : jS) (L : jL), wL_law_18 G l d Q n x3 I L → J G l yL_law cL_law 4 (d + 1) 0 0 18 [some (.ref 1000), some (.ref 0), some (.ref 71), some (.int x3)] [] (jKS, I, L, jR0) (jQm (some .boolean) Q) := by
  intro n
  induction n with
  | zero => intro x3 I L h; exact h.elim
  | succ n ih =>
    intro x3 I L h
    rw [wL_law_18] at h
    refine jr_iload_n dL_law_18 rfl rfl ?_
    refine jr_aload_n dL_law_19 rfl rfl ?_
    refine jr_oalen (r := 0) (by decide) dL_law_20 ?_
    refine jr_bipush dL_law_21 kbp_6 ?_
    refine jr_isub dL_law_23 ?_
    refine jr_icmp_gt dL_law_24 (tgt := 1463) (by decide) (fun c => ?_) (fun c => ?_)
    · rw [if_pos c] at h
      refine jr_iconst dL_law_1463 kic_1 ?_
      exact jr_ireturn dL_law_1464 ⟨Or.inr (Or.inr (Or.inr ⟨rfl, Or.inr rfl⟩)), _, _, rfl, h⟩
    · rw [if_neg c] at h
      refine jr_aload_n dL_law_27 rfl rfl ?_
      refine jr_iload_n dL_law_28 rfl rfl ?_
      obtain ⟨g1, h⟩ := h
      refine jr_oaload rfl (r := 0) (by decide) dL_law_29 g1 ?_
      refine jr_bipush dL_law_30 kbp_63 ?_
      refine jr_iand dL_law_32 ?_
      by_cases c : (((G.2.2.2.2 0).2 x3.toNatClampNeg) &&& (63 : Int32)) = (0 : Int32)
      · rw [if_pos c] at h
        refine jr_tableIn dL_law_33 (jtl c (by decide)) (jtg c (by decide)) (off := 167) (jtb c (by decide)) (tgt := 200) (by decide) ?_
        refine jr_aload_n dL_law_200 rfl rfl ?_
        refine jr_aload_n dL_law_201 rfl rfl ?_
        refine jr_iload_n dL_law_202 rfl rfl ?_
        refine jr_iconst dL_law_203 kic_1 ?_
        refine jr_iadd dL_law_204 ?_
        obtain ⟨g2, h⟩ := h
        refine jr_oaload rfl (r := 0) (by decide) dL_law_205 g2 ?_
        refine jr_aload_n dL_law_206 rfl rfl ?_
        refine jr_iload_n dL_law_207 rfl rfl ?_
        refine jr_iconst dL_law_208 kic_2 ?_
        refine jr_iadd dL_law_209 ?_
        obtain ⟨g3, h⟩ := h
        refine jr_oaload rfl (r := 0) (by decide) dL_law_210 g3 ?_
        refine jr_callV (mc2 := 0) (mc := 0) (ms2 := 0) (ms := 0) vm_L_13 (av := [.int ((G.2.2.2.2 0).2 ((x3 + (1 : Int32)).toNatClampNeg)), .int ((G.2.2.2.2 0).2 ((x3 + (2 : Int32)).toNatClampNeg))]) (st := []) rfl rfl ks_0 (by decide) rfl (Nat.le_of_ble_eq_true rfl) dL_law_211 (cI_use (M := (yX11_goer, cX11_goer, 3, some .int)) h ?_)
        intro r4 I4 L4 h
        refine jr_aload_n dL_law_214 rfl rfl ?_
        refine jr_aload_n dL_law_215 rfl rfl ?_
        refine jr_iload_n dL_law_216 rfl rfl ?_
        refine jr_iconst dL_law_217 kic_1 ?_
        refine jr_iadd dL_law_218 ?_
        refine jr_oaload rfl (r := 0) (by decide) dL_law_219 g2 ?_
        refine jr_aload_n dL_law_220 rfl rfl ?_
        refine jr_iload_n dL_law_221 rfl rfl ?_
        refine jr_iconst dL_law_222 kic_2 ?_
        refine jr_iadd dL_law_223 ?_
        refine jr_oaload rfl (r := 0) (by decide) dL_law_224 g3 ?_
        refine jr_callV (mc2 := 0) (mc := 0) (ms2 := 0) (ms := 0) vm_L_17 (av := [.int ((G.2.2.2.2 0).2 ((x3 + (1 : Int32)).toNatClampNeg)), .int ((G.2.2.2.2 0).2 ((x3 + (2 : Int32)).toNatClampNeg))]) (st := [.int r4]) rfl rfl ks_71 (by decide) rfl (Nat.le_of_ble_eq_true rfl) dL_law_225 (cI_use (M := (yX12_goer, cX12_goer, 3, some .int)) h ?_)
        intro r5 I5 L5 h
        refine jr_icmp_eq dL_law_228 (tgt := 1457) (by decide) (fun c => ?_) (fun c => ?_)
        · rw [if_pos c] at h
          refine jr_iinc dL_law_1457 rfl (by rw [kic_6]) (by decide) rfl ?_
          refine jr_goto dL_law_1460 (tgt := 18) (by decide) ?_
          exact J.sub (ih _ _ _ h) (jsub_some (jsub_some (jsub_some (jsub_some jsub_nil))))
        · rw [if_neg c] at h
          refine jr_iconst dL_law_231 kic_0 ?_
          exact jr_ireturn dL_law_232 ⟨Or.inr (Or.inr (Or.inr ⟨rfl, Or.inl rfl⟩)), _, _, rfl, h⟩
      · rw [if_neg c] at h
        have c0 := c
        by_cases c : (((G.2.2.2.2 0).2 x3.toNatClampNeg) &&& (63 : Int32)) = (1 : Int32)
        · rw [if_pos c] at h
          refine jr_tableIn dL_law_33 (jtl c (by decide)) (jtg c (by decide)) (off := 200) (jtb c (by decide)) (tgt := 233) (by decide) ?_
          refine jr_aload_n dL_law_233 rfl rfl ?_
          refine jr_aload_n dL_law_234 rfl rfl ?_
          refine jr_iload_n dL_law_235 rfl rfl ?_
          refine jr_iconst dL_law_236 kic_1 ?_
          refine jr_iadd dL_law_237 ?_
          obtain ⟨g6, h⟩ := h
          refine jr_oaload rfl (r := 0) (by decide) dL_law_238 g6 ?_
          refine jr_aload_n dL_law_239 rfl rfl ?_
          refine jr_iload_n dL_law_240 rfl rfl ?_
          refine jr_iconst dL_law_241 kic_2 ?_
          refine jr_iadd dL_law_242 ?_
          obtain ⟨g7, h⟩ := h
          refine jr_oaload rfl (r := 0) (by decide) dL_law_243 g7 ?_
          refine jr_aload_n dL_law_244 rfl rfl ?_
          refine jr_iload_n dL_law_245 rfl rfl ?_
          refine jr_iconst dL_law_246 kic_3 ?_
          refine jr_iadd dL_law_247 ?_
          obtain ⟨g8, h⟩ := h
          refine jr_oaload rfl (r := 0) (by decide) dL_law_248 g8 ?_
          refine jr_callV (mc2 := 0) (mc := 0) (ms2 := 0) (ms := 0) vm_L_18 (av := [.int ((G.2.2.2.2 0).2 ((x3 + (1 : Int32)).toNatClampNeg)), .int ((G.2.2.2.2 0).2 ((x3 + (2 : Int32)).toNatClampNeg)), .int ((G.2.2.2.2 0).2 ((x3 + (3 : Int32)).toNatClampNeg))]) (st := []) rfl rfl ks_0 (by decide) rfl (Nat.le_of_ble_eq_true rfl) dL_law_249 (cI_use (M := (yX11_goers, cX11_goers, 6, some .int)) h ?_)
          intro r9 I9 L9 h
          refine jr_aload_n dL_law_252 rfl rfl ?_
          refine jr_aload_n dL_law_253 rfl rfl ?_
          refine jr_iload_n dL_law_254 rfl rfl ?_
          refine jr_iconst dL_law_255 kic_1 ?_
          refine jr_iadd dL_law_256 ?_
          refine jr_oaload rfl (r := 0) (by decide) dL_law_257 g6 ?_
          refine jr_aload_n dL_law_258 rfl rfl ?_
          refine jr_iload_n dL_law_259 rfl rfl ?_
          refine jr_iconst dL_law_260 kic_2 ?_
          refine jr_iadd dL_law_261 ?_
          refine jr_oaload rfl (r := 0) (by decide) dL_law_262 g7 ?_
          refine jr_aload_n dL_law_263 rfl rfl ?_
          refine jr_iload_n dL_law_264 rfl rfl ?_
          refine jr_iconst dL_law_265 kic_3 ?_
          refine jr_iadd dL_law_266 ?_
          refine jr_oaload rfl (r := 0) (by decide) dL_law_267 g8 ?_
          refine jr_callV (mc2 := 0) (mc := 0) (ms2 := 0) (ms := 0) vm_L_22 (av := [.int ((G.2.2.2.2 0).2 ((x3 + (1 : Int32)).toNatClampNeg)), .int ((G.2.2.2.2 0).2 ((x3 + (2 : Int32)).toNatClampNeg)), .int ((G.2.2.2.2 0).2 ((x3 + (3 : Int32)).toNatClampNeg))]) (st := [.int r9]) rfl rfl ks_71 (by decide) rfl (Nat.le_of_ble_eq_true rfl) dL_law_268 (cI_use (M := (yX12_goers, cX12_goers, 7, some .int)) h ?_)
          intro r10 I10 L10 h
          refine jr_icmp_eq dL_law_271 (tgt := 1457) (by decide) (fun c => ?_) (fun c => ?_)
          · rw [if_pos c] at h
            refine jr_iinc dL_law_1457 rfl (by rw [kic_6]) (by decide) rfl ?_
            refine jr_goto dL_law_1460 (tgt := 18) (by decide) ?_
            exact J.sub (ih _ _ _ h) (jsub_some (jsub_some (jsub_some (jsub_some jsub_nil))))
          · rw [if_neg c] at h
            refine jr_iconst dL_law_274 kic_0 ?_
            exact jr_ireturn dL_law_275 ⟨Or.inr (Or.inr (Or.inr ⟨rfl, Or.inl rfl⟩)), _, _, rfl, h⟩
        · rw [if_neg c] at h
          have c1 := c
          by_cases c : (((G.2.2.2.2 0).2 x3.toNatClampNeg) &&& (63 : Int32)) = (2 : Int32)
          · rw [if_pos c] at h
            refine jr_tableIn dL_law_33 (jtl c (by decide)) (jtg c (by decide)) (off := 243) (jtb c (by decide)) (tgt := 276) (by decide) ?_
            refine jr_aload_n dL_law_276 rfl rfl ?_
            refine jr_aload_n dL_law_277 rfl rfl ?_
            refine jr_iload_n dL_law_278 rfl rfl ?_
            refine jr_iconst dL_law_279 kic_1 ?_
            refine jr_iadd dL_law_280 ?_
            obtain ⟨g11, h⟩ := h
            refine jr_oaload rfl (r := 0) (by decide) dL_law_281 g11 ?_
            refine jr_aload_n dL_law_282 rfl rfl ?_
            refine jr_iload_n dL_law_283 rfl rfl ?_
            refine jr_iconst dL_law_284 kic_2 ?_
            refine jr_iadd dL_law_285 ?_
            obtain ⟨g12, h⟩ := h
            refine jr_oaload rfl (r := 0) (by decide) dL_law_286 g12 ?_
            refine jr_aload_n dL_law_287 rfl rfl ?_
            refine jr_iload_n dL_law_288 rfl rfl ?_
            refine jr_iconst dL_law_289 kic_3 ?_
            refine jr_iadd dL_law_290 ?_
            obtain ⟨g13, h⟩ := h
            refine jr_oaload rfl (r := 0) (by decide) dL_law_291 g13 ?_
            refine jr_callV (mc2 := 0) (mc := 0) (ms2 := 0) (ms := 0) vm_L_23 (av := [.int ((G.2.2.2.2 0).2 ((x3 + (1 : Int32)).toNatClampNeg)), .int ((G.2.2.2.2 0).2 ((x3 + (2 : Int32)).toNatClampNeg)), .int ((G.2.2.2.2 0).2 ((x3 + (3 : Int32)).toNatClampNeg))]) (st := []) rfl rfl ks_0 (by decide) rfl (Nat.le_of_ble_eq_true rfl) dL_law_292 (cI_use (M := (yX11_mend, cX11_mend, 5, some .int)) h ?_)
            intro r14 I14 L14 h
            refine jr_aload_n dL_law_295 rfl rfl ?_
            refine jr_aload_n dL_law_296 rfl rfl ?_
            refine jr_iload_n dL_law_297 rfl rfl ?_
            refine jr_iconst dL_law_298 kic_1 ?_
            refine jr_iadd dL_law_299 ?_
            refine jr_oaload rfl (r := 0) (by decide) dL_law_300 g11 ?_
            refine jr_aload_n dL_law_301 rfl rfl ?_
            refine jr_iload_n dL_law_302 rfl rfl ?_
            refine jr_iconst dL_law_303 kic_2 ?_
            refine jr_iadd dL_law_304 ?_
            refine jr_oaload rfl (r := 0) (by decide) dL_law_305 g12 ?_
            refine jr_aload_n dL_law_306 rfl rfl ?_
            refine jr_iload_n dL_law_307 rfl rfl ?_
            refine jr_iconst dL_law_308 kic_3 ?_
            refine jr_iadd dL_law_309 ?_
            refine jr_oaload rfl (r := 0) (by decide) dL_law_310 g13 ?_
            refine jr_callV (mc2 := 0) (mc := 0) (ms2 := 0) (ms := 0) vm_L_26 (av := [.int ((G.2.2.2.2 0).2 ((x3 + (1 : Int32)).toNatClampNeg)), .int ((G.2.2.2.2 0).2 ((x3 + (2 : Int32)).toNatClampNeg)), .int ((G.2.2.2.2 0).2 ((x3 + (3 : Int32)).toNatClampNeg))]) (st := [.int r14]) rfl rfl ks_71 (by decide) rfl (Nat.le_of_ble_eq_true rfl) dL_law_311 (cI_use (M := (yX12_mend, cX12_mend, 5, some .int)) h ?_)
            intro r15 I15 L15 h
            refine jr_icmp_eq dL_law_314 (tgt := 1457) (by decide) (fun c => ?_) (fun c => ?_)
            · rw [if_pos c] at h
              refine jr_iinc dL_law_1457 rfl (by rw [kic_6]) (by decide) rfl ?_
              refine jr_goto dL_law_1460 (tgt := 18) (by decide) ?_
              exact J.sub (ih _ _ _ h) (jsub_some (jsub_some (jsub_some (jsub_some jsub_nil))))
            · rw [if_neg c] at h
              refine jr_iconst dL_law_317 kic_0 ?_
              exact jr_ireturn dL_law_318 ⟨Or.inr (Or.inr (Or.inr ⟨rfl, Or.inl rfl⟩)), _, _, rfl, h⟩
          · rw [if_neg c] at h
            have c2 := c
            by_cases c : (((G.2.2.2.2 0).2 x3.toNatClampNeg) &&& (63 : Int32)) = (3 : Int32)
            · rw [if_pos c] at h
              refine jr_tableIn dL_law_33 (jtl c (by decide)) (jtg c (by decide)) (off := 286) (jtb c (by decide)) (tgt := 319) (by decide) ?_
              refine jr_aload_n dL_law_319 rfl rfl ?_
              refine jr_aload_n dL_law_320 rfl rfl ?_
              refine jr_iload_n dL_law_321 rfl rfl ?_
              refine jr_iconst dL_law_322 kic_1 ?_
              refine jr_iadd dL_law_323 ?_
              obtain ⟨g16, h⟩ := h
              refine jr_oaload rfl (r := 0) (by decide) dL_law_324 g16 ?_
              refine jr_aload_n dL_law_325 rfl rfl ?_
              refine jr_iload_n dL_law_326 rfl rfl ?_
              refine jr_iconst dL_law_327 kic_2 ?_
              refine jr_iadd dL_law_328 ?_
              obtain ⟨g17, h⟩ := h
              refine jr_oaload rfl (r := 0) (by decide) dL_law_329 g17 ?_
              refine jr_callV (mc2 := 0) (mc := 0) (ms2 := 0) (ms := 0) vm_L_27 (av := [.int ((G.2.2.2.2 0).2 ((x3 + (1 : Int32)).toNatClampNeg)), .int ((G.2.2.2.2 0).2 ((x3 + (2 : Int32)).toNatClampNeg))]) (st := []) rfl rfl ks_0 (by decide) rfl (Nat.le_of_ble_eq_true rfl) dL_law_330 (cI_use (M := (yX11_of, cX11_of, 3, some .int)) h ?_)
              intro r18 I18 L18 h
              refine jr_aload_n dL_law_333 rfl rfl ?_
              refine jr_aload_n dL_law_334 rfl rfl ?_
              refine jr_iload_n dL_law_335 rfl rfl ?_
              refine jr_iconst dL_law_336 kic_1 ?_
              refine jr_iadd dL_law_337 ?_
              refine jr_oaload rfl (r := 0) (by decide) dL_law_338 g16 ?_
              refine jr_aload_n dL_law_339 rfl rfl ?_
              refine jr_iload_n dL_law_340 rfl rfl ?_
              refine jr_iconst dL_law_341 kic_2 ?_
              refine jr_iadd dL_law_342 ?_
              refine jr_oaload rfl (r := 0) (by decide) dL_law_343 g17 ?_
              refine jr_callV (mc2 := 0) (mc := 0) (ms2 := 0) (ms := 0) vm_L_30 (av := [.int ((G.2.2.2.2 0).2 ((x3 + (1 : Int32)).toNatClampNeg)), .int ((G.2.2.2.2 0).2 ((x3 + (2 : Int32)).toNatClampNeg))]) (st := [.int r18]) rfl rfl ks_71 (by decide) rfl (Nat.le_of_ble_eq_true rfl) dL_law_344 (cI_use (M := (yX12_of, cX12_of, 4, some .int)) h ?_)
              intro r19 I19 L19 h
              refine jr_icmp_eq dL_law_347 (tgt := 1457) (by decide) (fun c => ?_) (fun c => ?_)
              · rw [if_pos c] at h
                refine jr_iinc dL_law_1457 rfl (by rw [kic_6]) (by decide) rfl ?_
                refine jr_goto dL_law_1460 (tgt := 18) (by decide) ?_
                exact J.sub (ih _ _ _ h) (jsub_some (jsub_some (jsub_some (jsub_some jsub_nil))))
              · rw [if_neg c] at h
                refine jr_iconst dL_law_350 kic_0 ?_
                exact jr_ireturn dL_law_351 ⟨Or.inr (Or.inr (Or.inr ⟨rfl, Or.inl rfl⟩)), _, _, rfl, h⟩
            · rw [if_neg c] at h
              have c3 := c
              by_cases c : (((G.2.2.2.2 0).2 x3.toNatClampNeg) &&& (63 : Int32)) = (4 : Int32)
              · rw [if_pos c] at h
                refine jr_tableIn dL_law_33 (jtl c (by decide)) (jtg c (by decide)) (off := 319) (jtb c (by decide)) (tgt := 352) (by decide) ?_
                refine jr_aload_n dL_law_352 rfl rfl ?_
                refine jr_aload_n dL_law_353 rfl rfl ?_
                refine jr_iload_n dL_law_354 rfl rfl ?_
                refine jr_iconst dL_law_355 kic_1 ?_
                refine jr_iadd dL_law_356 ?_
                obtain ⟨g20, h⟩ := h
                refine jr_oaload rfl (r := 0) (by decide) dL_law_357 g20 ?_
                refine jr_callV (mc2 := 0) (mc := 0) (ms2 := 0) (ms := 0) vm_L_31 (av := [.int ((G.2.2.2.2 0).2 ((x3 + (1 : Int32)).toNatClampNeg))]) (st := []) rfl rfl ks_0 (by decide) rfl (Nat.le_of_ble_eq_true rfl) dL_law_358 (cI_use (M := (yX11_feed, cX11_feed, 2, some .int)) h ?_)
                intro r21 I21 L21 h
                refine jr_aload_n dL_law_361 rfl rfl ?_
                refine jr_aload_n dL_law_362 rfl rfl ?_
                refine jr_iload_n dL_law_363 rfl rfl ?_
                refine jr_iconst dL_law_364 kic_1 ?_
                refine jr_iadd dL_law_365 ?_
                refine jr_oaload rfl (r := 0) (by decide) dL_law_366 g20 ?_
                refine jr_callV (mc2 := 0) (mc := 0) (ms2 := 0) (ms := 0) vm_L_35 (av := [.int ((G.2.2.2.2 0).2 ((x3 + (1 : Int32)).toNatClampNeg))]) (st := [.int r21]) rfl rfl ks_71 (by decide) rfl (Nat.le_of_ble_eq_true rfl) dL_law_367 (cI_use (M := (yX12_feed, cX12_feed, 2, some .int)) h ?_)
                intro r22 I22 L22 h
                refine jr_icmp_eq dL_law_370 (tgt := 1457) (by decide) (fun c => ?_) (fun c => ?_)
                · rw [if_pos c] at h
                  refine jr_iinc dL_law_1457 rfl (by rw [kic_6]) (by decide) rfl ?_
                  refine jr_goto dL_law_1460 (tgt := 18) (by decide) ?_
                  exact J.sub (ih _ _ _ h) (jsub_some (jsub_some (jsub_some (jsub_some jsub_nil))))
                · rw [if_neg c] at h
                  refine jr_iconst dL_law_373 kic_0 ?_
                  exact jr_ireturn dL_law_374 ⟨Or.inr (Or.inr (Or.inr ⟨rfl, Or.inl rfl⟩)), _, _, rfl, h⟩
              · rw [if_neg c] at h
                have c4 := c
                by_cases c : (((G.2.2.2.2 0).2 x3.toNatClampNeg) &&& (63 : Int32)) = (5 : Int32)
                · rw [if_pos c] at h
                  refine jr_tableIn dL_law_33 (jtl c (by decide)) (jtg c (by decide)) (off := 342) (jtb c (by decide)) (tgt := 375) (by decide) ?_
                  refine jr_aload_n dL_law_375 rfl rfl ?_
                  refine jr_callV (mc2 := 0) (mc := 0) (ms2 := 0) (ms := 0) vm_L_36 (av := []) (st := []) rfl rfl ks_0 (by decide) rfl (Nat.le_of_ble_eq_true rfl) dL_law_376 (cI_use (M := (yX11_law, cX11_law, 2, some .int)) h ?_)
                  intro r23 I23 L23 h
                  refine jr_aload_n dL_law_379 rfl rfl ?_
                  refine jr_callV (mc2 := 0) (mc := 0) (ms2 := 0) (ms := 0) vm_L_40 (av := []) (st := [.int r23]) rfl rfl ks_71 (by decide) rfl (Nat.le_of_ble_eq_true rfl) dL_law_380 (cI_use (M := (yX12_law, cX12_law, 4, some .int)) h ?_)
                  intro r24 I24 L24 h
                  refine jr_icmp_eq dL_law_383 (tgt := 1457) (by decide) (fun c => ?_) (fun c => ?_)
                  · rw [if_pos c] at h
                    refine jr_iinc dL_law_1457 rfl (by rw [kic_6]) (by decide) rfl ?_
                    refine jr_goto dL_law_1460 (tgt := 18) (by decide) ?_
                    exact J.sub (ih _ _ _ h) (jsub_some (jsub_some (jsub_some (jsub_some jsub_nil))))
                  · rw [if_neg c] at h
                    refine jr_iconst dL_law_386 kic_0 ?_
                    exact jr_ireturn dL_law_387 ⟨Or.inr (Or.inr (Or.inr ⟨rfl, Or.inl rfl⟩)), _, _, rfl, h⟩
                · rw [if_neg c] at h
                  have c5 := c
                  by_cases c : (((G.2.2.2.2 0).2 x3.toNatClampNeg) &&& (63 : Int32)) = (6 : Int32)
                  · rw [if_pos c] at h
                    refine jr_tableIn dL_law_33 (jtl c (by decide)) (jtg c (by decide)) (off := 355) (jtb c (by decide)) (tgt := 388) (by decide) ?_
                    refine jr_aload_n dL_law_388 rfl rfl ?_
                    refine jr_aload_n dL_law_389 rfl rfl ?_
                    refine jr_iload_n dL_law_390 rfl rfl ?_
                    refine jr_iconst dL_law_391 kic_1 ?_
                    refine jr_iadd dL_law_392 ?_
                    obtain ⟨g25, h⟩ := h
                    refine jr_oaload rfl (r := 0) (by decide) dL_law_393 g25 ?_
                    refine jr_aload_n dL_law_394 rfl rfl ?_
                    refine jr_iload_n dL_law_395 rfl rfl ?_
                    refine jr_iconst dL_law_396 kic_2 ?_
                    refine jr_iadd dL_law_397 ?_
                    obtain ⟨g26, h⟩ := h
                    refine jr_oaload rfl (r := 0) (by decide) dL_law_398 g26 ?_
                    refine jr_aload_n dL_law_399 rfl rfl ?_
                    refine jr_iload_n dL_law_400 rfl rfl ?_
                    refine jr_iconst dL_law_401 kic_3 ?_
                    refine jr_iadd dL_law_402 ?_
                    obtain ⟨g27, h⟩ := h
                    refine jr_oaload rfl (r := 0) (by decide) dL_law_403 g27 ?_
                    refine jr_callV (mc2 := 0) (mc := 0) (ms2 := 0) (ms := 0) vm_L_41 (av := [.int ((G.2.2.2.2 0).2 ((x3 + (1 : Int32)).toNatClampNeg)), .int ((G.2.2.2.2 0).2 ((x3 + (2 : Int32)).toNatClampNeg)), .int ((G.2.2.2.2 0).2 ((x3 + (3 : Int32)).toNatClampNeg))]) (st := []) rfl rfl ks_0 (by decide) rfl (Nat.le_of_ble_eq_true rfl) dL_law_404 (cI_use (M := (yX11_over, cX11_over, 5, some .int)) h ?_)
                    intro r28 I28 L28 h
                    refine jr_aload_n dL_law_407 rfl rfl ?_
                    refine jr_aload_n dL_law_408 rfl rfl ?_
                    refine jr_iload_n dL_law_409 rfl rfl ?_
                    refine jr_iconst dL_law_410 kic_1 ?_
                    refine jr_iadd dL_law_411 ?_
                    refine jr_oaload rfl (r := 0) (by decide) dL_law_412 g25 ?_
                    refine jr_aload_n dL_law_413 rfl rfl ?_
                    refine jr_iload_n dL_law_414 rfl rfl ?_
                    refine jr_iconst dL_law_415 kic_2 ?_
                    refine jr_iadd dL_law_416 ?_
                    refine jr_oaload rfl (r := 0) (by decide) dL_law_417 g26 ?_
                    refine jr_aload_n dL_law_418 rfl rfl ?_
                    refine jr_iload_n dL_law_419 rfl rfl ?_
                    refine jr_iconst dL_law_420 kic_3 ?_
                    refine jr_iadd dL_law_421 ?_
                    refine jr_oaload rfl (r := 0) (by decide) dL_law_422 g27 ?_
                    refine jr_callV (mc2 := 0) (mc := 0) (ms2 := 0) (ms := 0) vm_L_44 (av := [.int ((G.2.2.2.2 0).2 ((x3 + (1 : Int32)).toNatClampNeg)), .int ((G.2.2.2.2 0).2 ((x3 + (2 : Int32)).toNatClampNeg)), .int ((G.2.2.2.2 0).2 ((x3 + (3 : Int32)).toNatClampNeg))]) (st := [.int r28]) rfl rfl ks_71 (by decide) rfl (Nat.le_of_ble_eq_true rfl) dL_law_423 (cI_use (M := (yX12_over, cX12_over, 5, some .int)) h ?_)
                    intro r29 I29 L29 h
                    refine jr_icmp_eq dL_law_426 (tgt := 1457) (by decide) (fun c => ?_) (fun c => ?_)
                    · rw [if_pos c] at h
                      refine jr_iinc dL_law_1457 rfl (by rw [kic_6]) (by decide) rfl ?_
                      refine jr_goto dL_law_1460 (tgt := 18) (by decide) ?_
                      exact J.sub (ih _ _ _ h) (jsub_some (jsub_some (jsub_some (jsub_some jsub_nil))))
                    · rw [if_neg c] at h
                      refine jr_iconst dL_law_429 kic_0 ?_
                      exact jr_ireturn dL_law_430 ⟨Or.inr (Or.inr (Or.inr ⟨rfl, Or.inl rfl⟩)), _, _, rfl, h⟩
                  · rw [if_neg c] at h
                    have c6 := c
                    by_cases c : (((G.2.2.2.2 0).2 x3.toNatClampNeg) &&& (63 : Int32)) = (7 : Int32)
                    · rw [if_pos c] at h
                      refine jr_tableIn dL_law_33 (jtl c (by decide)) (jtg c (by decide)) (off := 398) (jtb c (by decide)) (tgt := 431) (by decide) ?_
                      refine jr_aload_n dL_law_431 rfl rfl ?_
                      refine jr_aload_n dL_law_432 rfl rfl ?_
                      refine jr_iload_n dL_law_433 rfl rfl ?_
                      refine jr_iconst dL_law_434 kic_1 ?_
                      refine jr_iadd dL_law_435 ?_
                      obtain ⟨g30, h⟩ := h
                      refine jr_oaload rfl (r := 0) (by decide) dL_law_436 g30 ?_
                      refine jr_aload_n dL_law_437 rfl rfl ?_
                      refine jr_iload_n dL_law_438 rfl rfl ?_
                      refine jr_iconst dL_law_439 kic_2 ?_
                      refine jr_iadd dL_law_440 ?_
                      obtain ⟨g31, h⟩ := h
                      refine jr_oaload rfl (r := 0) (by decide) dL_law_441 g31 ?_
                      refine jr_aload_n dL_law_442 rfl rfl ?_
                      refine jr_iload_n dL_law_443 rfl rfl ?_
                      refine jr_iconst dL_law_444 kic_3 ?_
                      refine jr_iadd dL_law_445 ?_
                      obtain ⟨g32, h⟩ := h
                      refine jr_oaload rfl (r := 0) (by decide) dL_law_446 g32 ?_
                      refine jr_callV (mc2 := 0) (mc := 0) (ms2 := 0) (ms := 0) vm_L_45 (av := [.int ((G.2.2.2.2 0).2 ((x3 + (1 : Int32)).toNatClampNeg)), .int ((G.2.2.2.2 0).2 ((x3 + (2 : Int32)).toNatClampNeg)), .int ((G.2.2.2.2 0).2 ((x3 + (3 : Int32)).toNatClampNeg))]) (st := []) rfl rfl ks_0 (by decide) rfl (Nat.le_of_ble_eq_true rfl) dL_law_447 (cI_use (M := (yX11_bears, cX11_bears, 5, some .int)) h ?_)
                      intro r33 I33 L33 h
                      refine jr_aload_n dL_law_450 rfl rfl ?_
                      refine jr_aload_n dL_law_451 rfl rfl ?_
                      refine jr_iload_n dL_law_452 rfl rfl ?_
                      refine jr_iconst dL_law_453 kic_1 ?_
                      refine jr_iadd dL_law_454 ?_
                      refine jr_oaload rfl (r := 0) (by decide) dL_law_455 g30 ?_
                      refine jr_aload_n dL_law_456 rfl rfl ?_
                      refine jr_iload_n dL_law_457 rfl rfl ?_
                      refine jr_iconst dL_law_458 kic_2 ?_
                      refine jr_iadd dL_law_459 ?_
                      refine jr_oaload rfl (r := 0) (by decide) dL_law_460 g31 ?_
                      refine jr_aload_n dL_law_461 rfl rfl ?_
                      refine jr_iload_n dL_law_462 rfl rfl ?_
                      refine jr_iconst dL_law_463 kic_3 ?_
                      refine jr_iadd dL_law_464 ?_
                      refine jr_oaload rfl (r := 0) (by decide) dL_law_465 g32 ?_
                      refine jr_callV (mc2 := 0) (mc := 0) (ms2 := 0) (ms := 0) vm_L_48 (av := [.int ((G.2.2.2.2 0).2 ((x3 + (1 : Int32)).toNatClampNeg)), .int ((G.2.2.2.2 0).2 ((x3 + (2 : Int32)).toNatClampNeg)), .int ((G.2.2.2.2 0).2 ((x3 + (3 : Int32)).toNatClampNeg))]) (st := [.int r33]) rfl rfl ks_71 (by decide) rfl (Nat.le_of_ble_eq_true rfl) dL_law_466 (cI_use (M := (yX12_bears, cX12_bears, 4, some .int)) h ?_)
                      intro r34 I34 L34 h
                      refine jr_icmp_eq dL_law_469 (tgt := 1457) (by decide) (fun c => ?_) (fun c => ?_)
                      · rw [if_pos c] at h
                        refine jr_iinc dL_law_1457 rfl (by rw [kic_6]) (by decide) rfl ?_
                        refine jr_goto dL_law_1460 (tgt := 18) (by decide) ?_
                        exact J.sub (ih _ _ _ h) (jsub_some (jsub_some (jsub_some (jsub_some jsub_nil))))
                      · rw [if_neg c] at h
                        refine jr_iconst dL_law_472 kic_0 ?_
                        exact jr_ireturn dL_law_473 ⟨Or.inr (Or.inr (Or.inr ⟨rfl, Or.inl rfl⟩)), _, _, rfl, h⟩
                    · rw [if_neg c] at h
                      have c7 := c
                      by_cases c : (((G.2.2.2.2 0).2 x3.toNatClampNeg) &&& (63 : Int32)) = (8 : Int32)
                      · rw [if_pos c] at h
                        refine jr_tableIn dL_law_33 (jtl c (by decide)) (jtg c (by decide)) (off := 441) (jtb c (by decide)) (tgt := 474) (by decide) ?_
                        refine jr_aload_n dL_law_474 rfl rfl ?_
                        refine jr_aload_n dL_law_475 rfl rfl ?_
                        refine jr_iload_n dL_law_476 rfl rfl ?_
                        refine jr_iconst dL_law_477 kic_1 ?_
                        refine jr_iadd dL_law_478 ?_
                        obtain ⟨g35, h⟩ := h
                        refine jr_oaload rfl (r := 0) (by decide) dL_law_479 g35 ?_
                        refine jr_aload_n dL_law_480 rfl rfl ?_
                        refine jr_iload_n dL_law_481 rfl rfl ?_
                        refine jr_iconst dL_law_482 kic_2 ?_
                        refine jr_iadd dL_law_483 ?_
                        obtain ⟨g36, h⟩ := h
                        refine jr_oaload rfl (r := 0) (by decide) dL_law_484 g36 ?_
                        refine jr_callV (mc2 := 0) (mc := 0) (ms2 := 0) (ms := 0) vm_L_49 (av := [.int ((G.2.2.2.2 0).2 ((x3 + (1 : Int32)).toNatClampNeg)), .int ((G.2.2.2.2 0).2 ((x3 + (2 : Int32)).toNatClampNeg))]) (st := []) rfl rfl ks_0 (by decide) rfl (Nat.le_of_ble_eq_true rfl) dL_law_485 (cI_use (M := (yX11_all, cX11_all, 4, some .int)) h ?_)
                        intro r37 I37 L37 h
                        refine jr_aload_n dL_law_488 rfl rfl ?_
                        refine jr_aload_n dL_law_489 rfl rfl ?_
                        refine jr_iload_n dL_law_490 rfl rfl ?_
                        refine jr_iconst dL_law_491 kic_1 ?_
                        refine jr_iadd dL_law_492 ?_
                        refine jr_oaload rfl (r := 0) (by decide) dL_law_493 g35 ?_
                        refine jr_aload_n dL_law_494 rfl rfl ?_
                        refine jr_iload_n dL_law_495 rfl rfl ?_
                        refine jr_iconst dL_law_496 kic_2 ?_
                        refine jr_iadd dL_law_497 ?_
                        refine jr_oaload rfl (r := 0) (by decide) dL_law_498 g36 ?_
                        refine jr_callV (mc2 := 0) (mc := 0) (ms2 := 0) (ms := 0) vm_L_52 (av := [.int ((G.2.2.2.2 0).2 ((x3 + (1 : Int32)).toNatClampNeg)), .int ((G.2.2.2.2 0).2 ((x3 + (2 : Int32)).toNatClampNeg))]) (st := [.int r37]) rfl rfl ks_71 (by decide) rfl (Nat.le_of_ble_eq_true rfl) dL_law_499 (cI_use (M := (yX12_all, cX12_all, 3, some .int)) h ?_)
                        intro r38 I38 L38 h
                        refine jr_icmp_eq dL_law_502 (tgt := 1457) (by decide) (fun c => ?_) (fun c => ?_)
                        · rw [if_pos c] at h
                          refine jr_iinc dL_law_1457 rfl (by rw [kic_6]) (by decide) rfl ?_
                          refine jr_goto dL_law_1460 (tgt := 18) (by decide) ?_
                          exact J.sub (ih _ _ _ h) (jsub_some (jsub_some (jsub_some (jsub_some jsub_nil))))
                        · rw [if_neg c] at h
                          refine jr_iconst dL_law_505 kic_0 ?_
                          exact jr_ireturn dL_law_506 ⟨Or.inr (Or.inr (Or.inr ⟨rfl, Or.inl rfl⟩)), _, _, rfl, h⟩
                      · rw [if_neg c] at h
                        have c8 := c
                        by_cases c : (((G.2.2.2.2 0).2 x3.toNatClampNeg) &&& (63 : Int32)) = (9 : Int32)
                        · rw [if_pos c] at h
                          refine jr_tableIn dL_law_33 (jtl c (by decide)) (jtg c (by decide)) (off := 474) (jtb c (by decide)) (tgt := 507) (by decide) ?_
                          refine jr_aload_n dL_law_507 rfl rfl ?_
                          refine jr_aload_n dL_law_508 rfl rfl ?_
                          refine jr_iload_n dL_law_509 rfl rfl ?_
                          refine jr_iconst dL_law_510 kic_1 ?_
                          refine jr_iadd dL_law_511 ?_
                          obtain ⟨g39, h⟩ := h
                          refine jr_oaload rfl (r := 0) (by decide) dL_law_512 g39 ?_
                          refine jr_aload_n dL_law_513 rfl rfl ?_
                          refine jr_iload_n dL_law_514 rfl rfl ?_
                          refine jr_iconst dL_law_515 kic_2 ?_
                          refine jr_iadd dL_law_516 ?_
                          obtain ⟨g40, h⟩ := h
                          refine jr_oaload rfl (r := 0) (by decide) dL_law_517 g40 ?_
                          refine jr_callV (mc2 := 0) (mc := 0) (ms2 := 0) (ms := 0) vm_L_53 (av := [.int ((G.2.2.2.2 0).2 ((x3 + (1 : Int32)).toNatClampNeg)), .int ((G.2.2.2.2 0).2 ((x3 + (2 : Int32)).toNatClampNeg))]) (st := []) rfl rfl ks_0 (by decide) rfl (Nat.le_of_ble_eq_true rfl) dL_law_518 (cI_use (M := (yX11_rule, cX11_rule, 7, some .int)) h ?_)
                          intro r41 I41 L41 h
                          refine jr_aload_n dL_law_521 rfl rfl ?_
                          refine jr_aload_n dL_law_522 rfl rfl ?_
                          refine jr_iload_n dL_law_523 rfl rfl ?_
                          refine jr_iconst dL_law_524 kic_1 ?_
                          refine jr_iadd dL_law_525 ?_
                          refine jr_oaload rfl (r := 0) (by decide) dL_law_526 g39 ?_
                          refine jr_aload_n dL_law_527 rfl rfl ?_
                          refine jr_iload_n dL_law_528 rfl rfl ?_
                          refine jr_iconst dL_law_529 kic_2 ?_
                          refine jr_iadd dL_law_530 ?_
                          refine jr_oaload rfl (r := 0) (by decide) dL_law_531 g40 ?_
                          refine jr_callV (mc2 := 0) (mc := 0) (ms2 := 0) (ms := 0) vm_L_56 (av := [.int ((G.2.2.2.2 0).2 ((x3 + (1 : Int32)).toNatClampNeg)), .int ((G.2.2.2.2 0).2 ((x3 + (2 : Int32)).toNatClampNeg))]) (st := [.int r41]) rfl rfl ks_71 (by decide) rfl (Nat.le_of_ble_eq_true rfl) dL_law_532 (cI_use (M := (yX12_rule, cX12_rule, 7, some .int)) h ?_)
                          intro r42 I42 L42 h
                          refine jr_icmp_eq dL_law_535 (tgt := 1457) (by decide) (fun c => ?_) (fun c => ?_)
                          · rw [if_pos c] at h
                            refine jr_iinc dL_law_1457 rfl (by rw [kic_6]) (by decide) rfl ?_
                            refine jr_goto dL_law_1460 (tgt := 18) (by decide) ?_
                            exact J.sub (ih _ _ _ h) (jsub_some (jsub_some (jsub_some (jsub_some jsub_nil))))
                          · rw [if_neg c] at h
                            refine jr_iconst dL_law_538 kic_0 ?_
                            exact jr_ireturn dL_law_539 ⟨Or.inr (Or.inr (Or.inr ⟨rfl, Or.inl rfl⟩)), _, _, rfl, h⟩
                        · rw [if_neg c] at h
                          have c9 := c
                          by_cases c : (((G.2.2.2.2 0).2 x3.toNatClampNeg) &&& (63 : Int32)) = (10 : Int32)
                          · rw [if_pos c] at h
                            refine jr_tableIn dL_law_33 (jtl c (by decide)) (jtg c (by decide)) (off := 507) (jtb c (by decide)) (tgt := 540) (by decide) ?_
                            refine jr_aload_n dL_law_540 rfl rfl ?_
                            refine jr_aload_n dL_law_541 rfl rfl ?_
                            refine jr_iload_n dL_law_542 rfl rfl ?_
                            refine jr_iconst dL_law_543 kic_1 ?_
                            refine jr_iadd dL_law_544 ?_
                            obtain ⟨g43, h⟩ := h
                            refine jr_oaload rfl (r := 0) (by decide) dL_law_545 g43 ?_
                            refine jr_aload_n dL_law_546 rfl rfl ?_
                            refine jr_iload_n dL_law_547 rfl rfl ?_
                            refine jr_iconst dL_law_548 kic_2 ?_
                            refine jr_iadd dL_law_549 ?_
                            obtain ⟨g44, h⟩ := h
                            refine jr_oaload rfl (r := 0) (by decide) dL_law_550 g44 ?_
                            refine jr_aload_n dL_law_551 rfl rfl ?_
                            refine jr_iload_n dL_law_552 rfl rfl ?_
                            refine jr_iconst dL_law_553 kic_3 ?_
                            refine jr_iadd dL_law_554 ?_
                            obtain ⟨g45, h⟩ := h
                            refine jr_oaload rfl (r := 0) (by decide) dL_law_555 g45 ?_
                            refine jr_callV (mc2 := 0) (mc := 0) (ms2 := 0) (ms := 0) vm_L_57 (av := [.int ((G.2.2.2.2 0).2 ((x3 + (1 : Int32)).toNatClampNeg)), .int ((G.2.2.2.2 0).2 ((x3 + (2 : Int32)).toNatClampNeg)), .int ((G.2.2.2.2 0).2 ((x3 + (3 : Int32)).toNatClampNeg))]) (st := []) rfl rfl ks_0 (by decide) rfl (Nat.le_of_ble_eq_true rfl) dL_law_556 (cI_use (M := (yX11_waits, cX11_waits, 5, some .int)) h ?_)
                            intro r46 I46 L46 h
                            refine jr_aload_n dL_law_559 rfl rfl ?_
                            refine jr_aload_n dL_law_560 rfl rfl ?_
                            refine jr_iload_n dL_law_561 rfl rfl ?_
                            refine jr_iconst dL_law_562 kic_1 ?_
                            refine jr_iadd dL_law_563 ?_
                            refine jr_oaload rfl (r := 0) (by decide) dL_law_564 g43 ?_
                            refine jr_aload_n dL_law_565 rfl rfl ?_
                            refine jr_iload_n dL_law_566 rfl rfl ?_
                            refine jr_iconst dL_law_567 kic_2 ?_
                            refine jr_iadd dL_law_568 ?_
                            refine jr_oaload rfl (r := 0) (by decide) dL_law_569 g44 ?_
                            refine jr_aload_n dL_law_570 rfl rfl ?_
                            refine jr_iload_n dL_law_571 rfl rfl ?_
                            refine jr_iconst dL_law_572 kic_3 ?_
                            refine jr_iadd dL_law_573 ?_
                            refine jr_oaload rfl (r := 0) (by decide) dL_law_574 g45 ?_
                            refine jr_callV (mc2 := 0) (mc := 0) (ms2 := 0) (ms := 0) vm_L_60 (av := [.int ((G.2.2.2.2 0).2 ((x3 + (1 : Int32)).toNatClampNeg)), .int ((G.2.2.2.2 0).2 ((x3 + (2 : Int32)).toNatClampNeg)), .int ((G.2.2.2.2 0).2 ((x3 + (3 : Int32)).toNatClampNeg))]) (st := [.int r46]) rfl rfl ks_71 (by decide) rfl (Nat.le_of_ble_eq_true rfl) dL_law_575 (cI_use (M := (yX12_waits, cX12_waits, 9, some .int)) h ?_)
                            intro r47 I47 L47 h
                            refine jr_icmp_eq dL_law_578 (tgt := 1457) (by decide) (fun c => ?_) (fun c => ?_)
                            · rw [if_pos c] at h
                              refine jr_iinc dL_law_1457 rfl (by rw [kic_6]) (by decide) rfl ?_
                              refine jr_goto dL_law_1460 (tgt := 18) (by decide) ?_
                              exact J.sub (ih _ _ _ h) (jsub_some (jsub_some (jsub_some (jsub_some jsub_nil))))
                            · rw [if_neg c] at h
                              refine jr_iconst dL_law_581 kic_0 ?_
                              exact jr_ireturn dL_law_582 ⟨Or.inr (Or.inr (Or.inr ⟨rfl, Or.inl rfl⟩)), _, _, rfl, h⟩
                          · rw [if_neg c] at h
                            have c10 := c
                            by_cases c : (((G.2.2.2.2 0).2 x3.toNatClampNeg) &&& (63 : Int32)) = (11 : Int32)
                            · rw [if_pos c] at h
                              refine jr_tableIn dL_law_33 (jtl c (by decide)) (jtg c (by decide)) (off := 550) (jtb c (by decide)) (tgt := 583) (by decide) ?_
                              refine jr_aload_n dL_law_583 rfl rfl ?_
                              refine jr_aload_n dL_law_584 rfl rfl ?_
                              refine jr_iload_n dL_law_585 rfl rfl ?_
                              refine jr_iconst dL_law_586 kic_1 ?_
                              refine jr_iadd dL_law_587 ?_
                              obtain ⟨g48, h⟩ := h
                              refine jr_oaload rfl (r := 0) (by decide) dL_law_588 g48 ?_
                              refine jr_aload_n dL_law_589 rfl rfl ?_
                              refine jr_iload_n dL_law_590 rfl rfl ?_
                              refine jr_iconst dL_law_591 kic_2 ?_
                              refine jr_iadd dL_law_592 ?_
                              obtain ⟨g49, h⟩ := h
                              refine jr_oaload rfl (r := 0) (by decide) dL_law_593 g49 ?_
                              refine jr_callV (mc2 := 0) (mc := 0) (ms2 := 0) (ms := 0) vm_L_61 (av := [.int ((G.2.2.2.2 0).2 ((x3 + (1 : Int32)).toNatClampNeg)), .int ((G.2.2.2.2 0).2 ((x3 + (2 : Int32)).toNatClampNeg))]) (st := []) rfl rfl ks_0 (by decide) rfl (Nat.le_of_ble_eq_true rfl) dL_law_594 (cI_use (M := (yX11_soonest, cX11_soonest, 4, some .int)) h ?_)
                              intro r50 I50 L50 h
                              refine jr_aload_n dL_law_597 rfl rfl ?_
                              refine jr_aload_n dL_law_598 rfl rfl ?_
                              refine jr_iload_n dL_law_599 rfl rfl ?_
                              refine jr_iconst dL_law_600 kic_1 ?_
                              refine jr_iadd dL_law_601 ?_
                              refine jr_oaload rfl (r := 0) (by decide) dL_law_602 g48 ?_
                              refine jr_aload_n dL_law_603 rfl rfl ?_
                              refine jr_iload_n dL_law_604 rfl rfl ?_
                              refine jr_iconst dL_law_605 kic_2 ?_
                              refine jr_iadd dL_law_606 ?_
                              refine jr_oaload rfl (r := 0) (by decide) dL_law_607 g49 ?_
                              refine jr_callV (mc2 := 0) (mc := 0) (ms2 := 0) (ms := 0) vm_L_64 (av := [.int ((G.2.2.2.2 0).2 ((x3 + (1 : Int32)).toNatClampNeg)), .int ((G.2.2.2.2 0).2 ((x3 + (2 : Int32)).toNatClampNeg))]) (st := [.int r50]) rfl rfl ks_71 (by decide) rfl (Nat.le_of_ble_eq_true rfl) dL_law_608 (cI_use (M := (yX12_soonest, cX12_soonest, 3, some .int)) h ?_)
                              intro r51 I51 L51 h
                              refine jr_icmp_eq dL_law_611 (tgt := 1457) (by decide) (fun c => ?_) (fun c => ?_)
                              · rw [if_pos c] at h
                                refine jr_iinc dL_law_1457 rfl (by rw [kic_6]) (by decide) rfl ?_
                                refine jr_goto dL_law_1460 (tgt := 18) (by decide) ?_
                                exact J.sub (ih _ _ _ h) (jsub_some (jsub_some (jsub_some (jsub_some jsub_nil))))
                              · rw [if_neg c] at h
                                refine jr_iconst dL_law_614 kic_0 ?_
                                exact jr_ireturn dL_law_615 ⟨Or.inr (Or.inr (Or.inr ⟨rfl, Or.inl rfl⟩)), _, _, rfl, h⟩
                            · rw [if_neg c] at h
                              have c11 := c
                              by_cases c : (((G.2.2.2.2 0).2 x3.toNatClampNeg) &&& (63 : Int32)) = (12 : Int32)
                              · rw [if_pos c] at h
                                refine jr_tableIn dL_law_33 (jtl c (by decide)) (jtg c (by decide)) (off := 583) (jtb c (by decide)) (tgt := 616) (by decide) ?_
                                refine jr_aload_n dL_law_616 rfl rfl ?_
                                refine jr_aload_n dL_law_617 rfl rfl ?_
                                refine jr_iload_n dL_law_618 rfl rfl ?_
                                refine jr_iconst dL_law_619 kic_1 ?_
                                refine jr_iadd dL_law_620 ?_
                                obtain ⟨g52, h⟩ := h
                                refine jr_oaload rfl (r := 0) (by decide) dL_law_621 g52 ?_
                                refine jr_aload_n dL_law_622 rfl rfl ?_
                                refine jr_iload_n dL_law_623 rfl rfl ?_
                                refine jr_iconst dL_law_624 kic_2 ?_
                                refine jr_iadd dL_law_625 ?_
                                obtain ⟨g53, h⟩ := h
                                refine jr_oaload rfl (r := 0) (by decide) dL_law_626 g53 ?_
                                refine jr_callV (mc2 := 0) (mc := 0) (ms2 := 0) (ms := 0) vm_L_65 (av := [.int ((G.2.2.2.2 0).2 ((x3 + (1 : Int32)).toNatClampNeg)), .int ((G.2.2.2.2 0).2 ((x3 + (2 : Int32)).toNatClampNeg))]) (st := []) rfl rfl ks_0 (by decide) rfl (Nat.le_of_ble_eq_true rfl) dL_law_627 (cI_use (M := (yX11_strength, cX11_strength, 5, some .int)) h ?_)
                                intro r54 I54 L54 h
                                refine jr_aload_n dL_law_630 rfl rfl ?_
                                refine jr_aload_n dL_law_631 rfl rfl ?_
                                refine jr_iload_n dL_law_632 rfl rfl ?_
                                refine jr_iconst dL_law_633 kic_1 ?_
                                refine jr_iadd dL_law_634 ?_
                                refine jr_oaload rfl (r := 0) (by decide) dL_law_635 g52 ?_
                                refine jr_aload_n dL_law_636 rfl rfl ?_
                                refine jr_iload_n dL_law_637 rfl rfl ?_
                                refine jr_iconst dL_law_638 kic_2 ?_
                                refine jr_iadd dL_law_639 ?_
                                refine jr_oaload rfl (r := 0) (by decide) dL_law_640 g53 ?_
                                refine jr_callV (mc2 := 0) (mc := 0) (ms2 := 0) (ms := 0) vm_L_68 (av := [.int ((G.2.2.2.2 0).2 ((x3 + (1 : Int32)).toNatClampNeg)), .int ((G.2.2.2.2 0).2 ((x3 + (2 : Int32)).toNatClampNeg))]) (st := [.int r54]) rfl rfl ks_71 (by decide) rfl (Nat.le_of_ble_eq_true rfl) dL_law_641 (cI_use (M := (yX12_strength, cX12_strength, 7, some .int)) h ?_)
                                intro r55 I55 L55 h
                                refine jr_icmp_eq dL_law_644 (tgt := 1457) (by decide) (fun c => ?_) (fun c => ?_)
                                · rw [if_pos c] at h
                                  refine jr_iinc dL_law_1457 rfl (by rw [kic_6]) (by decide) rfl ?_
                                  refine jr_goto dL_law_1460 (tgt := 18) (by decide) ?_
                                  exact J.sub (ih _ _ _ h) (jsub_some (jsub_some (jsub_some (jsub_some jsub_nil))))
                                · rw [if_neg c] at h
                                  refine jr_iconst dL_law_647 kic_0 ?_
                                  exact jr_ireturn dL_law_648 ⟨Or.inr (Or.inr (Or.inr ⟨rfl, Or.inl rfl⟩)), _, _, rfl, h⟩
                              · rw [if_neg c] at h
                                have c12 := c
                                by_cases c : (((G.2.2.2.2 0).2 x3.toNatClampNeg) &&& (63 : Int32)) = (13 : Int32)
                                · rw [if_pos c] at h
                                  refine jr_tableIn dL_law_33 (jtl c (by decide)) (jtg c (by decide)) (off := 616) (jtb c (by decide)) (tgt := 649) (by decide) ?_
                                  refine jr_aload_n dL_law_649 rfl rfl ?_
                                  refine jr_aload_n dL_law_650 rfl rfl ?_
                                  refine jr_iload_n dL_law_651 rfl rfl ?_
                                  refine jr_iconst dL_law_652 kic_1 ?_
                                  refine jr_iadd dL_law_653 ?_
                                  obtain ⟨g56, h⟩ := h
                                  refine jr_oaload rfl (r := 0) (by decide) dL_law_654 g56 ?_
                                  refine jr_aload_n dL_law_655 rfl rfl ?_
                                  refine jr_iload_n dL_law_656 rfl rfl ?_
                                  refine jr_iconst dL_law_657 kic_2 ?_
                                  refine jr_iadd dL_law_658 ?_
                                  obtain ⟨g57, h⟩ := h
                                  refine jr_oaload rfl (r := 0) (by decide) dL_law_659 g57 ?_
                                  refine jr_aload_n dL_law_660 rfl rfl ?_
                                  refine jr_iload_n dL_law_661 rfl rfl ?_
                                  refine jr_iconst dL_law_662 kic_3 ?_
                                  refine jr_iadd dL_law_663 ?_
                                  obtain ⟨g58, h⟩ := h
                                  refine jr_oaload rfl (r := 0) (by decide) dL_law_664 g58 ?_
                                  refine jr_callV (mc2 := 0) (mc := 0) (ms2 := 0) (ms := 0) vm_L_69 (av := [.int ((G.2.2.2.2 0).2 ((x3 + (1 : Int32)).toNatClampNeg)), .int ((G.2.2.2.2 0).2 ((x3 + (2 : Int32)).toNatClampNeg)), .int ((G.2.2.2.2 0).2 ((x3 + (3 : Int32)).toNatClampNeg))]) (st := []) rfl rfl ks_0 (by decide) rfl (Nat.le_of_ble_eq_true rfl) dL_law_665 (cI_use (M := (yX11_load, cX11_load, 7, some .int)) h ?_)
                                  intro r59 I59 L59 h
                                  refine jr_aload_n dL_law_668 rfl rfl ?_
                                  refine jr_aload_n dL_law_669 rfl rfl ?_
                                  refine jr_iload_n dL_law_670 rfl rfl ?_
                                  refine jr_iconst dL_law_671 kic_1 ?_
                                  refine jr_iadd dL_law_672 ?_
                                  refine jr_oaload rfl (r := 0) (by decide) dL_law_673 g56 ?_
                                  refine jr_aload_n dL_law_674 rfl rfl ?_
                                  refine jr_iload_n dL_law_675 rfl rfl ?_
                                  refine jr_iconst dL_law_676 kic_2 ?_
                                  refine jr_iadd dL_law_677 ?_
                                  refine jr_oaload rfl (r := 0) (by decide) dL_law_678 g57 ?_
                                  refine jr_aload_n dL_law_679 rfl rfl ?_
                                  refine jr_iload_n dL_law_680 rfl rfl ?_
                                  refine jr_iconst dL_law_681 kic_3 ?_
                                  refine jr_iadd dL_law_682 ?_
                                  refine jr_oaload rfl (r := 0) (by decide) dL_law_683 g58 ?_
                                  refine jr_callV (mc2 := 0) (mc := 0) (ms2 := 0) (ms := 0) vm_L_72 (av := [.int ((G.2.2.2.2 0).2 ((x3 + (1 : Int32)).toNatClampNeg)), .int ((G.2.2.2.2 0).2 ((x3 + (2 : Int32)).toNatClampNeg)), .int ((G.2.2.2.2 0).2 ((x3 + (3 : Int32)).toNatClampNeg))]) (st := [.int r59]) rfl rfl ks_71 (by decide) rfl (Nat.le_of_ble_eq_true rfl) dL_law_684 (cI_use (M := (yX12_load, cX12_load, 5, some .int)) h ?_)
                                  intro r60 I60 L60 h
                                  refine jr_icmp_eq dL_law_687 (tgt := 1457) (by decide) (fun c => ?_) (fun c => ?_)
                                  · rw [if_pos c] at h
                                    refine jr_iinc dL_law_1457 rfl (by rw [kic_6]) (by decide) rfl ?_
                                    refine jr_goto dL_law_1460 (tgt := 18) (by decide) ?_
                                    exact J.sub (ih _ _ _ h) (jsub_some (jsub_some (jsub_some (jsub_some jsub_nil))))
                                  · rw [if_neg c] at h
                                    refine jr_iconst dL_law_690 kic_0 ?_
                                    exact jr_ireturn dL_law_691 ⟨Or.inr (Or.inr (Or.inr ⟨rfl, Or.inl rfl⟩)), _, _, rfl, h⟩
                                · rw [if_neg c] at h
                                  have c13 := c
                                  by_cases c : (((G.2.2.2.2 0).2 x3.toNatClampNeg) &&& (63 : Int32)) = (14 : Int32)
                                  · rw [if_pos c] at h
                                    refine jr_tableIn dL_law_33 (jtl c (by decide)) (jtg c (by decide)) (off := 659) (jtb c (by decide)) (tgt := 692) (by decide) ?_
                                    refine jr_aload_n dL_law_692 rfl rfl ?_
                                    refine jr_aload_n dL_law_693 rfl rfl ?_
                                    refine jr_iload_n dL_law_694 rfl rfl ?_
                                    refine jr_iconst dL_law_695 kic_1 ?_
                                    refine jr_iadd dL_law_696 ?_
                                    obtain ⟨g61, h⟩ := h
                                    refine jr_oaload rfl (r := 0) (by decide) dL_law_697 g61 ?_
                                    refine jr_callV (mc2 := 0) (mc := 0) (ms2 := 0) (ms := 0) vm_L_73 (av := [.int ((G.2.2.2.2 0).2 ((x3 + (1 : Int32)).toNatClampNeg))]) (st := []) rfl rfl ks_0 (by decide) rfl (Nat.le_of_ble_eq_true rfl) dL_law_698 (cI_use (M := (yX11_several, cX11_several, 3, some .int)) h ?_)
                                    intro r62 I62 L62 h
                                    refine jr_aload_n dL_law_701 rfl rfl ?_
                                    refine jr_aload_n dL_law_702 rfl rfl ?_
                                    refine jr_iload_n dL_law_703 rfl rfl ?_
                                    refine jr_iconst dL_law_704 kic_1 ?_
                                    refine jr_iadd dL_law_705 ?_
                                    refine jr_oaload rfl (r := 0) (by decide) dL_law_706 g61 ?_
                                    refine jr_callV (mc2 := 0) (mc := 0) (ms2 := 0) (ms := 0) vm_L_76 (av := [.int ((G.2.2.2.2 0).2 ((x3 + (1 : Int32)).toNatClampNeg))]) (st := [.int r62]) rfl rfl ks_71 (by decide) rfl (Nat.le_of_ble_eq_true rfl) dL_law_707 (cI_use (M := (yX12_several, cX12_several, 9, some .int)) h ?_)
                                    intro r63 I63 L63 h
                                    refine jr_icmp_eq dL_law_710 (tgt := 1457) (by decide) (fun c => ?_) (fun c => ?_)
                                    · rw [if_pos c] at h
                                      refine jr_iinc dL_law_1457 rfl (by rw [kic_6]) (by decide) rfl ?_
                                      refine jr_goto dL_law_1460 (tgt := 18) (by decide) ?_
                                      exact J.sub (ih _ _ _ h) (jsub_some (jsub_some (jsub_some (jsub_some jsub_nil))))
                                    · rw [if_neg c] at h
                                      refine jr_iconst dL_law_713 kic_0 ?_
                                      exact jr_ireturn dL_law_714 ⟨Or.inr (Or.inr (Or.inr ⟨rfl, Or.inl rfl⟩)), _, _, rfl, h⟩
                                  · rw [if_neg c] at h
                                    have c14 := c
                                    by_cases c : (((G.2.2.2.2 0).2 x3.toNatClampNeg) &&& (63 : Int32)) = (15 : Int32)
                                    · rw [if_pos c] at h
                                      refine jr_tableIn dL_law_33 (jtl c (by decide)) (jtg c (by decide)) (off := 682) (jtb c (by decide)) (tgt := 715) (by decide) ?_
                                      refine jr_aload_n dL_law_715 rfl rfl ?_
                                      refine jr_aload_n dL_law_716 rfl rfl ?_
                                      refine jr_iload_n dL_law_717 rfl rfl ?_
                                      refine jr_iconst dL_law_718 kic_1 ?_
                                      refine jr_iadd dL_law_719 ?_
                                      obtain ⟨g64, h⟩ := h
                                      refine jr_oaload rfl (r := 0) (by decide) dL_law_720 g64 ?_
                                      refine jr_aload_n dL_law_721 rfl rfl ?_
                                      refine jr_iload_n dL_law_722 rfl rfl ?_
                                      refine jr_iconst dL_law_723 kic_2 ?_
                                      refine jr_iadd dL_law_724 ?_
                                      obtain ⟨g65, h⟩ := h
                                      refine jr_oaload rfl (r := 0) (by decide) dL_law_725 g65 ?_
                                      refine jr_aload_n dL_law_726 rfl rfl ?_
                                      refine jr_iload_n dL_law_727 rfl rfl ?_
                                      refine jr_iconst dL_law_728 kic_3 ?_
                                      refine jr_iadd dL_law_729 ?_
                                      obtain ⟨g66, h⟩ := h
                                      refine jr_oaload rfl (r := 0) (by decide) dL_law_730 g66 ?_
                                      refine jr_callV (mc2 := 0) (mc := 0) (ms2 := 0) (ms := 0) vm_L_77 (av := [.int ((G.2.2.2.2 0).2 ((x3 + (1 : Int32)).toNatClampNeg)), .int ((G.2.2.2.2 0).2 ((x3 + (2 : Int32)).toNatClampNeg)), .int ((G.2.2.2.2 0).2 ((x3 + (3 : Int32)).toNatClampNeg))]) (st := []) rfl rfl ks_0 (by decide) rfl (Nat.le_of_ble_eq_true rfl) dL_law_731 (cJ_use (M := (yX11_unsure, cX11_unsure, 4, some .long)) h ?_)
                                      intro r67 I67 L67 h
                                      refine jr_aload_n dL_law_734 rfl rfl ?_
                                      refine jr_aload_n dL_law_735 rfl rfl ?_
                                      refine jr_iload_n dL_law_736 rfl rfl ?_
                                      refine jr_iconst dL_law_737 kic_1 ?_
                                      refine jr_iadd dL_law_738 ?_
                                      refine jr_oaload rfl (r := 0) (by decide) dL_law_739 g64 ?_
                                      refine jr_aload_n dL_law_740 rfl rfl ?_
                                      refine jr_iload_n dL_law_741 rfl rfl ?_
                                      refine jr_iconst dL_law_742 kic_2 ?_
                                      refine jr_iadd dL_law_743 ?_
                                      refine jr_oaload rfl (r := 0) (by decide) dL_law_744 g65 ?_
                                      refine jr_aload_n dL_law_745 rfl rfl ?_
                                      refine jr_iload_n dL_law_746 rfl rfl ?_
                                      refine jr_iconst dL_law_747 kic_3 ?_
                                      refine jr_iadd dL_law_748 ?_
                                      refine jr_oaload rfl (r := 0) (by decide) dL_law_749 g66 ?_
                                      refine jr_callV (mc2 := 0) (mc := 0) (ms2 := 0) (ms := 0) vm_L_81 (av := [.int ((G.2.2.2.2 0).2 ((x3 + (1 : Int32)).toNatClampNeg)), .int ((G.2.2.2.2 0).2 ((x3 + (2 : Int32)).toNatClampNeg)), .int ((G.2.2.2.2 0).2 ((x3 + (3 : Int32)).toNatClampNeg))]) (st := [.long r67]) rfl rfl ks_71 (by decide) rfl (Nat.le_of_ble_eq_true rfl) dL_law_750 (cJ_use (M := (yX12_unsure, cX12_unsure, 4, some .long)) h ?_)
                                      intro r68 I68 L68 h
                                      refine jr_lcmp dL_law_753 ?_
                                      refine jr_if_eq dL_law_754 (tgt := 1457) (by decide) (fun c => ?_) (fun c => ?_)
                                      · rw [if_pos c] at h
                                        refine jr_iinc dL_law_1457 rfl (by rw [kic_6]) (by decide) rfl ?_
                                        refine jr_goto dL_law_1460 (tgt := 18) (by decide) ?_
                                        exact J.sub (ih _ _ _ h) (jsub_some (jsub_some (jsub_some (jsub_some jsub_nil))))
                                      · rw [if_neg c] at h
                                        refine jr_iconst dL_law_757 kic_0 ?_
                                        exact jr_ireturn dL_law_758 ⟨Or.inr (Or.inr (Or.inr ⟨rfl, Or.inl rfl⟩)), _, _, rfl, h⟩
                                    · rw [if_neg c] at h
                                      have c15 := c
                                      by_cases c : (((G.2.2.2.2 0).2 x3.toNatClampNeg) &&& (63 : Int32)) = (16 : Int32)
                                      · rw [if_pos c] at h
                                        refine jr_tableIn dL_law_33 (jtl c (by decide)) (jtg c (by decide)) (off := 726) (jtb c (by decide)) (tgt := 759) (by decide) ?_
                                        refine jr_aload_n dL_law_759 rfl rfl ?_
                                        refine jr_aload_n dL_law_760 rfl rfl ?_
                                        refine jr_iload_n dL_law_761 rfl rfl ?_
                                        refine jr_iconst dL_law_762 kic_1 ?_
                                        refine jr_iadd dL_law_763 ?_
                                        obtain ⟨g69, h⟩ := h
                                        refine jr_oaload rfl (r := 0) (by decide) dL_law_764 g69 ?_
                                        refine jr_aload_n dL_law_765 rfl rfl ?_
                                        refine jr_iload_n dL_law_766 rfl rfl ?_
                                        refine jr_iconst dL_law_767 kic_2 ?_
                                        refine jr_iadd dL_law_768 ?_
                                        obtain ⟨g70, h⟩ := h
                                        refine jr_oaload rfl (r := 0) (by decide) dL_law_769 g70 ?_
                                        refine jr_aload_n dL_law_770 rfl rfl ?_
                                        refine jr_iload_n dL_law_771 rfl rfl ?_
                                        refine jr_iconst dL_law_772 kic_3 ?_
                                        refine jr_iadd dL_law_773 ?_
                                        obtain ⟨g71, h⟩ := h
                                        refine jr_oaload rfl (r := 0) (by decide) dL_law_774 g71 ?_
                                        refine jr_callV (mc2 := 0) (mc := 0) (ms2 := 0) (ms := 0) vm_L_82 (av := [.int ((G.2.2.2.2 0).2 ((x3 + (1 : Int32)).toNatClampNeg)), .int ((G.2.2.2.2 0).2 ((x3 + (2 : Int32)).toNatClampNeg)), .int ((G.2.2.2.2 0).2 ((x3 + (3 : Int32)).toNatClampNeg))]) (st := []) rfl rfl ks_0 (by decide) rfl (Nat.le_of_ble_eq_true rfl) dL_law_775 (cJ_use (M := (yX11_bore, cX11_bore, 5, some .long)) h ?_)
                                        intro r72 I72 L72 h
                                        refine jr_aload_n dL_law_778 rfl rfl ?_
                                        refine jr_aload_n dL_law_779 rfl rfl ?_
                                        refine jr_iload_n dL_law_780 rfl rfl ?_
                                        refine jr_iconst dL_law_781 kic_1 ?_
                                        refine jr_iadd dL_law_782 ?_
                                        refine jr_oaload rfl (r := 0) (by decide) dL_law_783 g69 ?_
                                        refine jr_aload_n dL_law_784 rfl rfl ?_
                                        refine jr_iload_n dL_law_785 rfl rfl ?_
                                        refine jr_iconst dL_law_786 kic_2 ?_
                                        refine jr_iadd dL_law_787 ?_
                                        refine jr_oaload rfl (r := 0) (by decide) dL_law_788 g70 ?_
                                        refine jr_aload_n dL_law_789 rfl rfl ?_
                                        refine jr_iload_n dL_law_790 rfl rfl ?_
                                        refine jr_iconst dL_law_791 kic_3 ?_
                                        refine jr_iadd dL_law_792 ?_
                                        refine jr_oaload rfl (r := 0) (by decide) dL_law_793 g71 ?_
                                        refine jr_callV (mc2 := 0) (mc := 0) (ms2 := 0) (ms := 0) vm_L_85 (av := [.int ((G.2.2.2.2 0).2 ((x3 + (1 : Int32)).toNatClampNeg)), .int ((G.2.2.2.2 0).2 ((x3 + (2 : Int32)).toNatClampNeg)), .int ((G.2.2.2.2 0).2 ((x3 + (3 : Int32)).toNatClampNeg))]) (st := [.long r72]) rfl rfl ks_71 (by decide) rfl (Nat.le_of_ble_eq_true rfl) dL_law_794 (cJ_use (M := (yX12_bore, cX12_bore, 10, some .long)) h ?_)
                                        intro r73 I73 L73 h
                                        refine jr_lcmp dL_law_797 ?_
                                        refine jr_if_eq dL_law_798 (tgt := 1457) (by decide) (fun c => ?_) (fun c => ?_)
                                        · rw [if_pos c] at h
                                          refine jr_iinc dL_law_1457 rfl (by rw [kic_6]) (by decide) rfl ?_
                                          refine jr_goto dL_law_1460 (tgt := 18) (by decide) ?_
                                          exact J.sub (ih _ _ _ h) (jsub_some (jsub_some (jsub_some (jsub_some jsub_nil))))
                                        · rw [if_neg c] at h
                                          refine jr_iconst dL_law_801 kic_0 ?_
                                          exact jr_ireturn dL_law_802 ⟨Or.inr (Or.inr (Or.inr ⟨rfl, Or.inl rfl⟩)), _, _, rfl, h⟩
                                      · rw [if_neg c] at h
                                        have c16 := c
                                        by_cases c : (((G.2.2.2.2 0).2 x3.toNatClampNeg) &&& (63 : Int32)) = (17 : Int32)
                                        · rw [if_pos c] at h
                                          refine jr_tableIn dL_law_33 (jtl c (by decide)) (jtg c (by decide)) (off := 770) (jtb c (by decide)) (tgt := 803) (by decide) ?_
                                          refine jr_aload_n dL_law_803 rfl rfl ?_
                                          refine jr_aload_n dL_law_804 rfl rfl ?_
                                          refine jr_iload_n dL_law_805 rfl rfl ?_
                                          refine jr_iconst dL_law_806 kic_1 ?_
                                          refine jr_iadd dL_law_807 ?_
                                          obtain ⟨g74, h⟩ := h
                                          refine jr_oaload rfl (r := 0) (by decide) dL_law_808 g74 ?_
                                          refine jr_callV (mc2 := 0) (mc := 0) (ms2 := 0) (ms := 0) vm_L_86 (av := [.int ((G.2.2.2.2 0).2 ((x3 + (1 : Int32)).toNatClampNeg))]) (st := []) rfl rfl ks_0 (by decide) rfl (Nat.le_of_ble_eq_true rfl) dL_law_809 (cI_use (M := (yX11_safe, cX11_safe, 8, some .int)) h ?_)
                                          intro r75 I75 L75 h
                                          refine jr_aload_n dL_law_812 rfl rfl ?_
                                          refine jr_aload_n dL_law_813 rfl rfl ?_
                                          refine jr_iload_n dL_law_814 rfl rfl ?_
                                          refine jr_iconst dL_law_815 kic_1 ?_
                                          refine jr_iadd dL_law_816 ?_
                                          refine jr_oaload rfl (r := 0) (by decide) dL_law_817 g74 ?_
                                          refine jr_callV (mc2 := 0) (mc := 0) (ms2 := 0) (ms := 0) vm_L_89 (av := [.int ((G.2.2.2.2 0).2 ((x3 + (1 : Int32)).toNatClampNeg))]) (st := [.int r75]) rfl rfl ks_71 (by decide) rfl (Nat.le_of_ble_eq_true rfl) dL_law_818 (cI_use (M := (yX12_safe, cX12_safe, 8, some .int)) h ?_)
                                          intro r76 I76 L76 h
                                          refine jr_icmp_eq dL_law_821 (tgt := 1457) (by decide) (fun c => ?_) (fun c => ?_)
                                          · rw [if_pos c] at h
                                            refine jr_iinc dL_law_1457 rfl (by rw [kic_6]) (by decide) rfl ?_
                                            refine jr_goto dL_law_1460 (tgt := 18) (by decide) ?_
                                            exact J.sub (ih _ _ _ h) (jsub_some (jsub_some (jsub_some (jsub_some jsub_nil))))
                                          · rw [if_neg c] at h
                                            refine jr_iconst dL_law_824 kic_0 ?_
                                            exact jr_ireturn dL_law_825 ⟨Or.inr (Or.inr (Or.inr ⟨rfl, Or.inl rfl⟩)), _, _, rfl, h⟩
                                        · rw [if_neg c] at h
                                          have c17 := c
                                          by_cases c : (((G.2.2.2.2 0).2 x3.toNatClampNeg) &&& (63 : Int32)) = (18 : Int32)
                                          · rw [if_pos c] at h
                                            refine jr_tableIn dL_law_33 (jtl c (by decide)) (jtg c (by decide)) (off := 793) (jtb c (by decide)) (tgt := 826) (by decide) ?_
                                            refine jr_aload_n dL_law_826 rfl rfl ?_
                                            refine jr_aload_n dL_law_827 rfl rfl ?_
                                            refine jr_iload_n dL_law_828 rfl rfl ?_
                                            refine jr_iconst dL_law_829 kic_1 ?_
                                            refine jr_iadd dL_law_830 ?_
                                            obtain ⟨g77, h⟩ := h
                                            refine jr_oaload rfl (r := 0) (by decide) dL_law_831 g77 ?_
                                            refine jr_aload_n dL_law_832 rfl rfl ?_
                                            refine jr_iload_n dL_law_833 rfl rfl ?_
                                            refine jr_iconst dL_law_834 kic_2 ?_
                                            refine jr_iadd dL_law_835 ?_
                                            obtain ⟨g78, h⟩ := h
                                            refine jr_oaload rfl (r := 0) (by decide) dL_law_836 g78 ?_
                                            refine jr_aload_n dL_law_837 rfl rfl ?_
                                            refine jr_iload_n dL_law_838 rfl rfl ?_
                                            refine jr_iconst dL_law_839 kic_3 ?_
                                            refine jr_iadd dL_law_840 ?_
                                            obtain ⟨g79, h⟩ := h
                                            refine jr_oaload rfl (r := 0) (by decide) dL_law_841 g79 ?_
                                            refine jr_callV (mc2 := 0) (mc := 0) (ms2 := 0) (ms := 0) vm_L_90 (av := [.int ((G.2.2.2.2 0).2 ((x3 + (1 : Int32)).toNatClampNeg)), .int ((G.2.2.2.2 0).2 ((x3 + (2 : Int32)).toNatClampNeg)), .int ((G.2.2.2.2 0).2 ((x3 + (3 : Int32)).toNatClampNeg))]) (st := []) rfl rfl ks_0 (by decide) rfl (Nat.le_of_ble_eq_true rfl) dL_law_842 (cI_use (M := (yX11_who, cX11_who, 10, some .int)) h ?_)
                                            intro r80 I80 L80 h
                                            refine jr_aload_n dL_law_845 rfl rfl ?_
                                            refine jr_aload_n dL_law_846 rfl rfl ?_
                                            refine jr_iload_n dL_law_847 rfl rfl ?_
                                            refine jr_iconst dL_law_848 kic_1 ?_
                                            refine jr_iadd dL_law_849 ?_
                                            refine jr_oaload rfl (r := 0) (by decide) dL_law_850 g77 ?_
                                            refine jr_aload_n dL_law_851 rfl rfl ?_
                                            refine jr_iload_n dL_law_852 rfl rfl ?_
                                            refine jr_iconst dL_law_853 kic_2 ?_
                                            refine jr_iadd dL_law_854 ?_
                                            refine jr_oaload rfl (r := 0) (by decide) dL_law_855 g78 ?_
                                            refine jr_aload_n dL_law_856 rfl rfl ?_
                                            refine jr_iload_n dL_law_857 rfl rfl ?_
                                            refine jr_iconst dL_law_858 kic_3 ?_
                                            refine jr_iadd dL_law_859 ?_
                                            refine jr_oaload rfl (r := 0) (by decide) dL_law_860 g79 ?_
                                            refine jr_callV (mc2 := 0) (mc := 0) (ms2 := 0) (ms := 0) vm_L_93 (av := [.int ((G.2.2.2.2 0).2 ((x3 + (1 : Int32)).toNatClampNeg)), .int ((G.2.2.2.2 0).2 ((x3 + (2 : Int32)).toNatClampNeg)), .int ((G.2.2.2.2 0).2 ((x3 + (3 : Int32)).toNatClampNeg))]) (st := [.int r80]) rfl rfl ks_71 (by decide) rfl (Nat.le_of_ble_eq_true rfl) dL_law_861 (cI_use (M := (yX12_who, cX12_who, 8, some .int)) h ?_)
                                            intro r81 I81 L81 h
                                            refine jr_icmp_eq dL_law_864 (tgt := 1457) (by decide) (fun c => ?_) (fun c => ?_)
                                            · rw [if_pos c] at h
                                              refine jr_iinc dL_law_1457 rfl (by rw [kic_6]) (by decide) rfl ?_
                                              refine jr_goto dL_law_1460 (tgt := 18) (by decide) ?_
                                              exact J.sub (ih _ _ _ h) (jsub_some (jsub_some (jsub_some (jsub_some jsub_nil))))
                                            · rw [if_neg c] at h
                                              refine jr_iconst dL_law_867 kic_0 ?_
                                              exact jr_ireturn dL_law_868 ⟨Or.inr (Or.inr (Or.inr ⟨rfl, Or.inl rfl⟩)), _, _, rfl, h⟩
                                          · rw [if_neg c] at h
                                            have c18 := c
                                            by_cases c : (((G.2.2.2.2 0).2 x3.toNatClampNeg) &&& (63 : Int32)) = (19 : Int32)
                                            · rw [if_pos c] at h
                                              refine jr_tableIn dL_law_33 (jtl c (by decide)) (jtg c (by decide)) (off := 836) (jtb c (by decide)) (tgt := 869) (by decide) ?_
                                              refine jr_aload_n dL_law_869 rfl rfl ?_
                                              refine jr_aload_n dL_law_870 rfl rfl ?_
                                              refine jr_iload_n dL_law_871 rfl rfl ?_
                                              refine jr_iconst dL_law_872 kic_1 ?_
                                              refine jr_iadd dL_law_873 ?_
                                              obtain ⟨g82, h⟩ := h
                                              refine jr_oaload rfl (r := 0) (by decide) dL_law_874 g82 ?_
                                              refine jr_callV (mc2 := 0) (mc := 0) (ms2 := 0) (ms := 0) vm_L_94 (av := [.int ((G.2.2.2.2 0).2 ((x3 + (1 : Int32)).toNatClampNeg))]) (st := []) rfl rfl ks_0 (by decide) rfl (Nat.le_of_ble_eq_true rfl) dL_law_875 (cI_use (M := (yX11_judge, cX11_judge, 5, some .int)) h ?_)
                                              intro r83 I83 L83 h
                                              refine jr_aload_n dL_law_878 rfl rfl ?_
                                              refine jr_aload_n dL_law_879 rfl rfl ?_
                                              refine jr_iload_n dL_law_880 rfl rfl ?_
                                              refine jr_iconst dL_law_881 kic_1 ?_
                                              refine jr_iadd dL_law_882 ?_
                                              refine jr_oaload rfl (r := 0) (by decide) dL_law_883 g82 ?_
                                              refine jr_callV (mc2 := 0) (mc := 0) (ms2 := 0) (ms := 0) vm_L_97 (av := [.int ((G.2.2.2.2 0).2 ((x3 + (1 : Int32)).toNatClampNeg))]) (st := [.int r83]) rfl rfl ks_71 (by decide) rfl (Nat.le_of_ble_eq_true rfl) dL_law_884 (cI_use (M := (yX12_judge, cX12_judge, 3, some .int)) h ?_)
                                              intro r84 I84 L84 h
                                              refine jr_icmp_eq dL_law_887 (tgt := 1457) (by decide) (fun c => ?_) (fun c => ?_)
                                              · rw [if_pos c] at h
                                                refine jr_iinc dL_law_1457 rfl (by rw [kic_6]) (by decide) rfl ?_
                                                refine jr_goto dL_law_1460 (tgt := 18) (by decide) ?_
                                                exact J.sub (ih _ _ _ h) (jsub_some (jsub_some (jsub_some (jsub_some jsub_nil))))
                                              · rw [if_neg c] at h
                                                refine jr_iconst dL_law_890 kic_0 ?_
                                                exact jr_ireturn dL_law_891 ⟨Or.inr (Or.inr (Or.inr ⟨rfl, Or.inl rfl⟩)), _, _, rfl, h⟩
                                            · rw [if_neg c] at h
                                              have c19 := c
                                              by_cases c : (((G.2.2.2.2 0).2 x3.toNatClampNeg) &&& (63 : Int32)) = (20 : Int32)
                                              · rw [if_pos c] at h
                                                refine jr_tableIn dL_law_33 (jtl c (by decide)) (jtg c (by decide)) (off := 859) (jtb c (by decide)) (tgt := 892) (by decide) ?_
                                                refine jr_aload_n dL_law_892 rfl rfl ?_
                                                refine jr_aload_n dL_law_893 rfl rfl ?_
                                                refine jr_iload_n dL_law_894 rfl rfl ?_
                                                refine jr_iconst dL_law_895 kic_1 ?_
                                                refine jr_iadd dL_law_896 ?_
                                                obtain ⟨g85, h⟩ := h
                                                refine jr_oaload rfl (r := 0) (by decide) dL_law_897 g85 ?_
                                                refine jr_aload_n dL_law_898 rfl rfl ?_
                                                refine jr_iload_n dL_law_899 rfl rfl ?_
                                                refine jr_iconst dL_law_900 kic_2 ?_
                                                refine jr_iadd dL_law_901 ?_
                                                obtain ⟨g86, h⟩ := h
                                                refine jr_oaload rfl (r := 0) (by decide) dL_law_902 g86 ?_
                                                refine jr_aload_n dL_law_903 rfl rfl ?_
                                                refine jr_iload_n dL_law_904 rfl rfl ?_
                                                refine jr_iconst dL_law_905 kic_3 ?_
                                                refine jr_iadd dL_law_906 ?_
                                                obtain ⟨g87, h⟩ := h
                                                refine jr_oaload rfl (r := 0) (by decide) dL_law_907 g87 ?_
                                                refine jr_callV (mc2 := 0) (mc := 0) (ms2 := 0) (ms := 0) vm_L_98 (av := [.int ((G.2.2.2.2 0).2 ((x3 + (1 : Int32)).toNatClampNeg)), .int ((G.2.2.2.2 0).2 ((x3 + (2 : Int32)).toNatClampNeg)), .int ((G.2.2.2.2 0).2 ((x3 + (3 : Int32)).toNatClampNeg))]) (st := []) rfl rfl ks_0 (by decide) rfl (Nat.le_of_ble_eq_true rfl) dL_law_908 (cI_use (M := (yX11_drawn, cX11_drawn, 10, some .int)) h ?_)
                                                intro r88 I88 L88 h
                                                refine jr_aload_n dL_law_911 rfl rfl ?_
                                                refine jr_aload_n dL_law_912 rfl rfl ?_
                                                refine jr_iload_n dL_law_913 rfl rfl ?_
                                                refine jr_iconst dL_law_914 kic_1 ?_
                                                refine jr_iadd dL_law_915 ?_
                                                refine jr_oaload rfl (r := 0) (by decide) dL_law_916 g85 ?_
                                                refine jr_aload_n dL_law_917 rfl rfl ?_
                                                refine jr_iload_n dL_law_918 rfl rfl ?_
                                                refine jr_iconst dL_law_919 kic_2 ?_
                                                refine jr_iadd dL_law_920 ?_
                                                refine jr_oaload rfl (r := 0) (by decide) dL_law_921 g86 ?_
                                                refine jr_aload_n dL_law_922 rfl rfl ?_
                                                refine jr_iload_n dL_law_923 rfl rfl ?_
                                                refine jr_iconst dL_law_924 kic_3 ?_
                                                refine jr_iadd dL_law_925 ?_
                                                refine jr_oaload rfl (r := 0) (by decide) dL_law_926 g87 ?_
                                                refine jr_callV (mc2 := 0) (mc := 0) (ms2 := 0) (ms := 0) vm_L_101 (av := [.int ((G.2.2.2.2 0).2 ((x3 + (1 : Int32)).toNatClampNeg)), .int ((G.2.2.2.2 0).2 ((x3 + (2 : Int32)).toNatClampNeg)), .int ((G.2.2.2.2 0).2 ((x3 + (3 : Int32)).toNatClampNeg))]) (st := [.int r88]) rfl rfl ks_71 (by decide) rfl (Nat.le_of_ble_eq_true rfl) dL_law_927 (cI_use (M := (yX12_drawn, cX12_drawn, 11, some .int)) h ?_)
                                                intro r89 I89 L89 h
                                                refine jr_icmp_eq dL_law_930 (tgt := 1457) (by decide) (fun c => ?_) (fun c => ?_)
                                                · rw [if_pos c] at h
                                                  refine jr_iinc dL_law_1457 rfl (by rw [kic_6]) (by decide) rfl ?_
                                                  refine jr_goto dL_law_1460 (tgt := 18) (by decide) ?_
                                                  exact J.sub (ih _ _ _ h) (jsub_some (jsub_some (jsub_some (jsub_some jsub_nil))))
                                                · rw [if_neg c] at h
                                                  refine jr_iconst dL_law_933 kic_0 ?_
                                                  exact jr_ireturn dL_law_934 ⟨Or.inr (Or.inr (Or.inr ⟨rfl, Or.inl rfl⟩)), _, _, rfl, h⟩
                                              · rw [if_neg c] at h
                                                have c20 := c
                                                by_cases c : (((G.2.2.2.2 0).2 x3.toNatClampNeg) &&& (63 : Int32)) = (21 : Int32)
                                                · rw [if_pos c] at h
                                                  refine jr_tableIn dL_law_33 (jtl c (by decide)) (jtg c (by decide)) (off := 902) (jtb c (by decide)) (tgt := 935) (by decide) ?_
                                                  refine jr_aload_n dL_law_935 rfl rfl ?_
                                                  refine jr_aload_n dL_law_936 rfl rfl ?_
                                                  refine jr_iload_n dL_law_937 rfl rfl ?_
                                                  refine jr_iconst dL_law_938 kic_1 ?_
                                                  refine jr_iadd dL_law_939 ?_
                                                  obtain ⟨g90, h⟩ := h
                                                  refine jr_oaload rfl (r := 0) (by decide) dL_law_940 g90 ?_
                                                  refine jr_aload_n dL_law_941 rfl rfl ?_
                                                  refine jr_iload_n dL_law_942 rfl rfl ?_
                                                  refine jr_iconst dL_law_943 kic_2 ?_
                                                  refine jr_iadd dL_law_944 ?_
                                                  obtain ⟨g91, h⟩ := h
                                                  refine jr_oaload rfl (r := 0) (by decide) dL_law_945 g91 ?_
                                                  refine jr_callV (mc2 := 0) (mc := 0) (ms2 := 0) (ms := 0) vm_L_102 (av := [.int ((G.2.2.2.2 0).2 ((x3 + (1 : Int32)).toNatClampNeg)), .int ((G.2.2.2.2 0).2 ((x3 + (2 : Int32)).toNatClampNeg))]) (st := []) rfl rfl ks_0 (by decide) rfl (Nat.le_of_ble_eq_true rfl) dL_law_946 (cI_use (M := (yX11_go, cX11_go, 4, some .int)) h ?_)
                                                  intro r92 I92 L92 h
                                                  refine jr_aload_n dL_law_949 rfl rfl ?_
                                                  refine jr_aload_n dL_law_950 rfl rfl ?_
                                                  refine jr_iload_n dL_law_951 rfl rfl ?_
                                                  refine jr_iconst dL_law_952 kic_1 ?_
                                                  refine jr_iadd dL_law_953 ?_
                                                  refine jr_oaload rfl (r := 0) (by decide) dL_law_954 g90 ?_
                                                  refine jr_aload_n dL_law_955 rfl rfl ?_
                                                  refine jr_iload_n dL_law_956 rfl rfl ?_
                                                  refine jr_iconst dL_law_957 kic_2 ?_
                                                  refine jr_iadd dL_law_958 ?_
                                                  refine jr_oaload rfl (r := 0) (by decide) dL_law_959 g91 ?_
                                                  refine jr_callV (mc2 := 0) (mc := 0) (ms2 := 0) (ms := 0) vm_L_105 (av := [.int ((G.2.2.2.2 0).2 ((x3 + (1 : Int32)).toNatClampNeg)), .int ((G.2.2.2.2 0).2 ((x3 + (2 : Int32)).toNatClampNeg))]) (st := [.int r92]) rfl rfl ks_71 (by decide) rfl (Nat.le_of_ble_eq_true rfl) dL_law_960 (cI_use (M := (yX12_go, cX12_go, 4, some .int)) h ?_)
                                                  intro r93 I93 L93 h
                                                  refine jr_icmp_eq dL_law_963 (tgt := 1457) (by decide) (fun c => ?_) (fun c => ?_)
                                                  · rw [if_pos c] at h
                                                    refine jr_iinc dL_law_1457 rfl (by rw [kic_6]) (by decide) rfl ?_
                                                    refine jr_goto dL_law_1460 (tgt := 18) (by decide) ?_
                                                    exact J.sub (ih _ _ _ h) (jsub_some (jsub_some (jsub_some (jsub_some jsub_nil))))
                                                  · rw [if_neg c] at h
                                                    refine jr_iconst dL_law_966 kic_0 ?_
                                                    exact jr_ireturn dL_law_967 ⟨Or.inr (Or.inr (Or.inr ⟨rfl, Or.inl rfl⟩)), _, _, rfl, h⟩
                                                · rw [if_neg c] at h
                                                  have c21 := c
                                                  by_cases c : (((G.2.2.2.2 0).2 x3.toNatClampNeg) &&& (63 : Int32)) = (22 : Int32)
                                                  · rw [if_pos c] at h
                                                    refine jr_tableIn dL_law_33 (jtl c (by decide)) (jtg c (by decide)) (off := 935) (jtb c (by decide)) (tgt := 968) (by decide) ?_
                                                    refine jr_aload_n dL_law_968 rfl rfl ?_
                                                    refine jr_aload_n dL_law_969 rfl rfl ?_
                                                    refine jr_iload_n dL_law_970 rfl rfl ?_
                                                    refine jr_iconst dL_law_971 kic_1 ?_
                                                    refine jr_iadd dL_law_972 ?_
                                                    obtain ⟨g94, h⟩ := h
                                                    refine jr_oaload rfl (r := 0) (by decide) dL_law_973 g94 ?_
                                                    refine jr_callV (mc2 := 0) (mc := 0) (ms2 := 0) (ms := 0) vm_L_106 (av := [.int ((G.2.2.2.2 0).2 ((x3 + (1 : Int32)).toNatClampNeg))]) (st := []) rfl rfl ks_0 (by decide) rfl (Nat.le_of_ble_eq_true rfl) dL_law_974 (cI_use (M := (yX11_stay, cX11_stay, 2, some .int)) h ?_)
                                                    intro r95 I95 L95 h
                                                    refine jr_aload_n dL_law_977 rfl rfl ?_
                                                    refine jr_aload_n dL_law_978 rfl rfl ?_
                                                    refine jr_iload_n dL_law_979 rfl rfl ?_
                                                    refine jr_iconst dL_law_980 kic_1 ?_
                                                    refine jr_iadd dL_law_981 ?_
                                                    refine jr_oaload rfl (r := 0) (by decide) dL_law_982 g94 ?_
                                                    refine jr_callV (mc2 := 0) (mc := 0) (ms2 := 0) (ms := 0) vm_L_109 (av := [.int ((G.2.2.2.2 0).2 ((x3 + (1 : Int32)).toNatClampNeg))]) (st := [.int r95]) rfl rfl ks_71 (by decide) rfl (Nat.le_of_ble_eq_true rfl) dL_law_983 (cI_use (M := (yX12_stay, cX12_stay, 2, some .int)) h ?_)
                                                    intro r96 I96 L96 h
                                                    refine jr_icmp_eq dL_law_986 (tgt := 1457) (by decide) (fun c => ?_) (fun c => ?_)
                                                    · rw [if_pos c] at h
                                                      refine jr_iinc dL_law_1457 rfl (by rw [kic_6]) (by decide) rfl ?_
                                                      refine jr_goto dL_law_1460 (tgt := 18) (by decide) ?_
                                                      exact J.sub (ih _ _ _ h) (jsub_some (jsub_some (jsub_some (jsub_some jsub_nil))))
                                                    · rw [if_neg c] at h
                                                      refine jr_iconst dL_law_989 kic_0 ?_
                                                      exact jr_ireturn dL_law_990 ⟨Or.inr (Or.inr (Or.inr ⟨rfl, Or.inl rfl⟩)), _, _, rfl, h⟩
                                                  · rw [if_neg c] at h
                                                    have c22 := c
                                                    by_cases c : (((G.2.2.2.2 0).2 x3.toNatClampNeg) &&& (63 : Int32)) = (23 : Int32)
                                                    · rw [if_pos c] at h
                                                      refine jr_tableIn dL_law_33 (jtl c (by decide)) (jtg c (by decide)) (off := 958) (jtb c (by decide)) (tgt := 991) (by decide) ?_
                                                      refine jr_aload_n dL_law_991 rfl rfl ?_
                                                      refine jr_aload_n dL_law_992 rfl rfl ?_
                                                      refine jr_iload_n dL_law_993 rfl rfl ?_
                                                      refine jr_iconst dL_law_994 kic_1 ?_
                                                      refine jr_iadd dL_law_995 ?_
                                                      obtain ⟨g97, h⟩ := h
                                                      refine jr_oaload rfl (r := 0) (by decide) dL_law_996 g97 ?_
                                                      refine jr_callV (mc2 := 0) (mc := 0) (ms2 := 0) (ms := 0) vm_L_110 (av := [.int ((G.2.2.2.2 0).2 ((x3 + (1 : Int32)).toNatClampNeg))]) (st := []) rfl rfl ks_0 (by decide) rfl (Nat.le_of_ble_eq_true rfl) dL_law_997 (cI_use (M := (yX11_led, cX11_led, 2, some .int)) h ?_)
                                                      intro r98 I98 L98 h
                                                      refine jr_aload_n dL_law_1000 rfl rfl ?_
                                                      refine jr_aload_n dL_law_1001 rfl rfl ?_
                                                      refine jr_iload_n dL_law_1002 rfl rfl ?_
                                                      refine jr_iconst dL_law_1003 kic_1 ?_
                                                      refine jr_iadd dL_law_1004 ?_
                                                      refine jr_oaload rfl (r := 0) (by decide) dL_law_1005 g97 ?_
                                                      refine jr_callV (mc2 := 0) (mc := 0) (ms2 := 0) (ms := 0) vm_L_113 (av := [.int ((G.2.2.2.2 0).2 ((x3 + (1 : Int32)).toNatClampNeg))]) (st := [.int r98]) rfl rfl ks_71 (by decide) rfl (Nat.le_of_ble_eq_true rfl) dL_law_1006 (cI_use (M := (yX12_led, cX12_led, 2, some .int)) h ?_)
                                                      intro r99 I99 L99 h
                                                      refine jr_icmp_eq dL_law_1009 (tgt := 1457) (by decide) (fun c => ?_) (fun c => ?_)
                                                      · rw [if_pos c] at h
                                                        refine jr_iinc dL_law_1457 rfl (by rw [kic_6]) (by decide) rfl ?_
                                                        refine jr_goto dL_law_1460 (tgt := 18) (by decide) ?_
                                                        exact J.sub (ih _ _ _ h) (jsub_some (jsub_some (jsub_some (jsub_some jsub_nil))))
                                                      · rw [if_neg c] at h
                                                        refine jr_iconst dL_law_1012 kic_0 ?_
                                                        exact jr_ireturn dL_law_1013 ⟨Or.inr (Or.inr (Or.inr ⟨rfl, Or.inl rfl⟩)), _, _, rfl, h⟩
                                                    · rw [if_neg c] at h
                                                      have c23 := c
                                                      by_cases c : (((G.2.2.2.2 0).2 x3.toNatClampNeg) &&& (63 : Int32)) = (24 : Int32)
                                                      · rw [if_pos c] at h
                                                        refine jr_tableIn dL_law_33 (jtl c (by decide)) (jtg c (by decide)) (off := 981) (jtb c (by decide)) (tgt := 1014) (by decide) ?_
                                                        refine jr_aload_n dL_law_1014 rfl rfl ?_
                                                        refine jr_callV (mc2 := 0) (mc := 0) (ms2 := 0) (ms := 0) vm_L_114 (av := []) (st := []) rfl rfl ks_0 (by decide) rfl (Nat.le_of_ble_eq_true rfl) dL_law_1015 (cI_use (M := (yX11_image, cX11_image, 1, some .int)) h ?_)
                                                        intro r100 I100 L100 h
                                                        refine jr_aload_n dL_law_1018 rfl rfl ?_
                                                        refine jr_callV (mc2 := 0) (mc := 0) (ms2 := 0) (ms := 0) vm_L_117 (av := []) (st := [.int r100]) rfl rfl ks_71 (by decide) rfl (Nat.le_of_ble_eq_true rfl) dL_law_1019 (cI_use (M := (yX12_image, cX12_image, 2, some .int)) h ?_)
                                                        intro r101 I101 L101 h
                                                        refine jr_icmp_eq dL_law_1022 (tgt := 1457) (by decide) (fun c => ?_) (fun c => ?_)
                                                        · rw [if_pos c] at h
                                                          refine jr_iinc dL_law_1457 rfl (by rw [kic_6]) (by decide) rfl ?_
                                                          refine jr_goto dL_law_1460 (tgt := 18) (by decide) ?_
                                                          exact J.sub (ih _ _ _ h) (jsub_some (jsub_some (jsub_some (jsub_some jsub_nil))))
                                                        · rw [if_neg c] at h
                                                          refine jr_iconst dL_law_1025 kic_0 ?_
                                                          exact jr_ireturn dL_law_1026 ⟨Or.inr (Or.inr (Or.inr ⟨rfl, Or.inl rfl⟩)), _, _, rfl, h⟩
                                                      · rw [if_neg c] at h
                                                        have c24 := c
                                                        by_cases c : (((G.2.2.2.2 0).2 x3.toNatClampNeg) &&& (63 : Int32)) = (25 : Int32)
                                                        · rw [if_pos c] at h
                                                          refine jr_tableIn dL_law_33 (jtl c (by decide)) (jtg c (by decide)) (off := 994) (jtb c (by decide)) (tgt := 1027) (by decide) ?_
                                                          refine jr_aload_n dL_law_1027 rfl rfl ?_
                                                          refine jr_callV (mc2 := 0) (mc := 0) (ms2 := 0) (ms := 0) vm_L_118 (av := []) (st := []) rfl rfl ks_0 (by decide) rfl (Nat.le_of_ble_eq_true rfl) dL_law_1028 (cI_use (M := (yX11_back, cX11_back, 1, some .int)) h ?_)
                                                          intro r102 I102 L102 h
                                                          refine jr_aload_n dL_law_1031 rfl rfl ?_
                                                          refine jr_callV (mc2 := 0) (mc := 0) (ms2 := 0) (ms := 0) vm_L_121 (av := []) (st := [.int r102]) rfl rfl ks_71 (by decide) rfl (Nat.le_of_ble_eq_true rfl) dL_law_1032 (cI_use (M := (yX12_back, cX12_back, 2, some .int)) h ?_)
                                                          intro r103 I103 L103 h
                                                          refine jr_icmp_eq dL_law_1035 (tgt := 1457) (by decide) (fun c => ?_) (fun c => ?_)
                                                          · rw [if_pos c] at h
                                                            refine jr_iinc dL_law_1457 rfl (by rw [kic_6]) (by decide) rfl ?_
                                                            refine jr_goto dL_law_1460 (tgt := 18) (by decide) ?_
                                                            exact J.sub (ih _ _ _ h) (jsub_some (jsub_some (jsub_some (jsub_some jsub_nil))))
                                                          · rw [if_neg c] at h
                                                            refine jr_iconst dL_law_1038 kic_0 ?_
                                                            exact jr_ireturn dL_law_1039 ⟨Or.inr (Or.inr (Or.inr ⟨rfl, Or.inl rfl⟩)), _, _, rfl, h⟩
                                                        · rw [if_neg c] at h
                                                          have c25 := c
                                                          by_cases c : (((G.2.2.2.2 0).2 x3.toNatClampNeg) &&& (63 : Int32)) = (26 : Int32)
                                                          · rw [if_pos c] at h
                                                            refine jr_tableIn dL_law_33 (jtl c (by decide)) (jtg c (by decide)) (off := 1007) (jtb c (by decide)) (tgt := 1040) (by decide) ?_
                                                            refine jr_aload_n dL_law_1040 rfl rfl ?_
                                                            refine jr_callV (mc2 := 0) (mc := 0) (ms2 := 0) (ms := 0) vm_L_122 (av := []) (st := []) rfl rfl ks_0 (by decide) rfl (Nat.le_of_ble_eq_true rfl) dL_law_1041 (cI_use (M := (yX11_undo, cX11_undo, 1, some .int)) h ?_)
                                                            intro r104 I104 L104 h
                                                            refine jr_aload_n dL_law_1044 rfl rfl ?_
                                                            refine jr_callV (mc2 := 0) (mc := 0) (ms2 := 0) (ms := 0) vm_L_125 (av := []) (st := [.int r104]) rfl rfl ks_71 (by decide) rfl (Nat.le_of_ble_eq_true rfl) dL_law_1045 (cI_use (M := (yX12_undo, cX12_undo, 1, some .int)) h ?_)
                                                            intro r105 I105 L105 h
                                                            refine jr_icmp_eq dL_law_1048 (tgt := 1457) (by decide) (fun c => ?_) (fun c => ?_)
                                                            · rw [if_pos c] at h
                                                              refine jr_iinc dL_law_1457 rfl (by rw [kic_6]) (by decide) rfl ?_
                                                              refine jr_goto dL_law_1460 (tgt := 18) (by decide) ?_
                                                              exact J.sub (ih _ _ _ h) (jsub_some (jsub_some (jsub_some (jsub_some jsub_nil))))
                                                            · rw [if_neg c] at h
                                                              refine jr_iconst dL_law_1051 kic_0 ?_
                                                              exact jr_ireturn dL_law_1052 ⟨Or.inr (Or.inr (Or.inr ⟨rfl, Or.inl rfl⟩)), _, _, rfl, h⟩
                                                          · rw [if_neg c] at h
                                                            have c26 := c
                                                            by_cases c : (((G.2.2.2.2 0).2 x3.toNatClampNeg) &&& (63 : Int32)) = (27 : Int32)
                                                            · rw [if_pos c] at h
                                                              refine jr_tableIn dL_law_33 (jtl c (by decide)) (jtg c (by decide)) (off := 1020) (jtb c (by decide)) (tgt := 1053) (by decide) ?_
                                                              refine jr_aload_n dL_law_1053 rfl rfl ?_
                                                              refine jr_callV (mc2 := 0) (mc := 0) (ms2 := 0) (ms := 0) vm_L_126 (av := []) (st := []) rfl rfl ks_0 (by decide) rfl (Nat.le_of_ble_eq_true rfl) dL_law_1054 (cI_use (M := (yX11_redo, cX11_redo, 1, some .int)) h ?_)
                                                              intro r106 I106 L106 h
                                                              refine jr_aload_n dL_law_1057 rfl rfl ?_
                                                              refine jr_callV (mc2 := 0) (mc := 0) (ms2 := 0) (ms := 0) vm_L_129 (av := []) (st := [.int r106]) rfl rfl ks_71 (by decide) rfl (Nat.le_of_ble_eq_true rfl) dL_law_1058 (cI_use (M := (yX12_redo, cX12_redo, 1, some .int)) h ?_)
                                                              intro r107 I107 L107 h
                                                              refine jr_icmp_eq dL_law_1061 (tgt := 1457) (by decide) (fun c => ?_) (fun c => ?_)
                                                              · rw [if_pos c] at h
                                                                refine jr_iinc dL_law_1457 rfl (by rw [kic_6]) (by decide) rfl ?_
                                                                refine jr_goto dL_law_1460 (tgt := 18) (by decide) ?_
                                                                exact J.sub (ih _ _ _ h) (jsub_some (jsub_some (jsub_some (jsub_some jsub_nil))))
                                                              · rw [if_neg c] at h
                                                                refine jr_iconst dL_law_1064 kic_0 ?_
                                                                exact jr_ireturn dL_law_1065 ⟨Or.inr (Or.inr (Or.inr ⟨rfl, Or.inl rfl⟩)), _, _, rfl, h⟩
                                                            · rw [if_neg c] at h
                                                              have c27 := c
                                                              by_cases c : (((G.2.2.2.2 0).2 x3.toNatClampNeg) &&& (63 : Int32)) = (28 : Int32)
                                                              · rw [if_pos c] at h
                                                                refine jr_tableIn dL_law_33 (jtl c (by decide)) (jtg c (by decide)) (off := 1033) (jtb c (by decide)) (tgt := 1066) (by decide) ?_
                                                                refine jr_aload_n dL_law_1066 rfl rfl ?_
                                                                refine jr_aload_n dL_law_1067 rfl rfl ?_
                                                                refine jr_iload_n dL_law_1068 rfl rfl ?_
                                                                refine jr_iconst dL_law_1069 kic_1 ?_
                                                                refine jr_iadd dL_law_1070 ?_
                                                                obtain ⟨g108, h⟩ := h
                                                                refine jr_oaload rfl (r := 0) (by decide) dL_law_1071 g108 ?_
                                                                refine jr_callV (mc2 := 0) (mc := 0) (ms2 := 0) (ms := 0) vm_L_130 (av := [.int ((G.2.2.2.2 0).2 ((x3 + (1 : Int32)).toNatClampNeg))]) (st := []) rfl rfl ks_0 (by decide) rfl (Nat.le_of_ble_eq_true rfl) dL_law_1072 (cI_use (M := (yX11_body, cX11_body, 2, some .int)) h ?_)
                                                                intro r109 I109 L109 h
                                                                refine jr_aload_n dL_law_1075 rfl rfl ?_
                                                                refine jr_aload_n dL_law_1076 rfl rfl ?_
                                                                refine jr_iload_n dL_law_1077 rfl rfl ?_
                                                                refine jr_iconst dL_law_1078 kic_1 ?_
                                                                refine jr_iadd dL_law_1079 ?_
                                                                refine jr_oaload rfl (r := 0) (by decide) dL_law_1080 g108 ?_
                                                                refine jr_callV (mc2 := 0) (mc := 0) (ms2 := 0) (ms := 0) vm_L_133 (av := [.int ((G.2.2.2.2 0).2 ((x3 + (1 : Int32)).toNatClampNeg))]) (st := [.int r109]) rfl rfl ks_71 (by decide) rfl (Nat.le_of_ble_eq_true rfl) dL_law_1081 (cI_use (M := (yX12_body, cX12_body, 2, some .int)) h ?_)
                                                                intro r110 I110 L110 h
                                                                refine jr_icmp_eq dL_law_1084 (tgt := 1457) (by decide) (fun c => ?_) (fun c => ?_)
                                                                · rw [if_pos c] at h
                                                                  refine jr_iinc dL_law_1457 rfl (by rw [kic_6]) (by decide) rfl ?_
                                                                  refine jr_goto dL_law_1460 (tgt := 18) (by decide) ?_
                                                                  exact J.sub (ih _ _ _ h) (jsub_some (jsub_some (jsub_some (jsub_some jsub_nil))))
                                                                · rw [if_neg c] at h
                                                                  refine jr_iconst dL_law_1087 kic_0 ?_
                                                                  exact jr_ireturn dL_law_1088 ⟨Or.inr (Or.inr (Or.inr ⟨rfl, Or.inl rfl⟩)), _, _, rfl, h⟩
                                                              · rw [if_neg c] at h
                                                                have c28 := c
                                                                by_cases c : (((G.2.2.2.2 0).2 x3.toNatClampNeg) &&& (63 : Int32)) = (29 : Int32)
                                                                · rw [if_pos c] at h
                                                                  refine jr_tableIn dL_law_33 (jtl c (by decide)) (jtg c (by decide)) (off := 1056) (jtb c (by decide)) (tgt := 1089) (by decide) ?_
                                                                  refine jr_aload_n dL_law_1089 rfl rfl ?_
                                                                  refine jr_aload_n dL_law_1090 rfl rfl ?_
                                                                  refine jr_iload_n dL_law_1091 rfl rfl ?_
                                                                  refine jr_iconst dL_law_1092 kic_1 ?_
                                                                  refine jr_iadd dL_law_1093 ?_
                                                                  obtain ⟨g111, h⟩ := h
                                                                  refine jr_oaload rfl (r := 0) (by decide) dL_law_1094 g111 ?_
                                                                  refine jr_aload_n dL_law_1095 rfl rfl ?_
                                                                  refine jr_iload_n dL_law_1096 rfl rfl ?_
                                                                  refine jr_iconst dL_law_1097 kic_2 ?_
                                                                  refine jr_iadd dL_law_1098 ?_
                                                                  obtain ⟨g112, h⟩ := h
                                                                  refine jr_oaload rfl (r := 0) (by decide) dL_law_1099 g112 ?_
                                                                  refine jr_aload_n dL_law_1100 rfl rfl ?_
                                                                  refine jr_iload_n dL_law_1101 rfl rfl ?_
                                                                  refine jr_iconst dL_law_1102 kic_3 ?_
                                                                  refine jr_iadd dL_law_1103 ?_
                                                                  obtain ⟨g113, h⟩ := h
                                                                  refine jr_oaload rfl (r := 0) (by decide) dL_law_1104 g113 ?_
                                                                  refine jr_callV (mc2 := 0) (mc := 0) (ms2 := 0) (ms := 0) vm_L_134 (av := [.int ((G.2.2.2.2 0).2 ((x3 + (1 : Int32)).toNatClampNeg)), .int ((G.2.2.2.2 0).2 ((x3 + (2 : Int32)).toNatClampNeg)), .int ((G.2.2.2.2 0).2 ((x3 + (3 : Int32)).toNatClampNeg))]) (st := []) rfl rfl ks_0 (by decide) rfl (Nat.le_of_ble_eq_true rfl) dL_law_1105 (cI_use (M := (yX11_act, cX11_act, 4, some .int)) h ?_)
                                                                  intro r114 I114 L114 h
                                                                  refine jr_aload_n dL_law_1108 rfl rfl ?_
                                                                  refine jr_aload_n dL_law_1109 rfl rfl ?_
                                                                  refine jr_iload_n dL_law_1110 rfl rfl ?_
                                                                  refine jr_iconst dL_law_1111 kic_1 ?_
                                                                  refine jr_iadd dL_law_1112 ?_
                                                                  refine jr_oaload rfl (r := 0) (by decide) dL_law_1113 g111 ?_
                                                                  refine jr_aload_n dL_law_1114 rfl rfl ?_
                                                                  refine jr_iload_n dL_law_1115 rfl rfl ?_
                                                                  refine jr_iconst dL_law_1116 kic_2 ?_
                                                                  refine jr_iadd dL_law_1117 ?_
                                                                  refine jr_oaload rfl (r := 0) (by decide) dL_law_1118 g112 ?_
                                                                  refine jr_aload_n dL_law_1119 rfl rfl ?_
                                                                  refine jr_iload_n dL_law_1120 rfl rfl ?_
                                                                  refine jr_iconst dL_law_1121 kic_3 ?_
                                                                  refine jr_iadd dL_law_1122 ?_
                                                                  refine jr_oaload rfl (r := 0) (by decide) dL_law_1123 g113 ?_
                                                                  refine jr_callV (mc2 := 0) (mc := 0) (ms2 := 0) (ms := 0) vm_L_137 (av := [.int ((G.2.2.2.2 0).2 ((x3 + (1 : Int32)).toNatClampNeg)), .int ((G.2.2.2.2 0).2 ((x3 + (2 : Int32)).toNatClampNeg)), .int ((G.2.2.2.2 0).2 ((x3 + (3 : Int32)).toNatClampNeg))]) (st := [.int r114]) rfl rfl ks_71 (by decide) rfl (Nat.le_of_ble_eq_true rfl) dL_law_1124 (cI_use (M := (yX12_act, cX12_act, 4, some .int)) h ?_)
                                                                  intro r115 I115 L115 h
                                                                  refine jr_icmp_eq dL_law_1127 (tgt := 1457) (by decide) (fun c => ?_) (fun c => ?_)
                                                                  · rw [if_pos c] at h
                                                                    refine jr_iinc dL_law_1457 rfl (by rw [kic_6]) (by decide) rfl ?_
                                                                    refine jr_goto dL_law_1460 (tgt := 18) (by decide) ?_
                                                                    exact J.sub (ih _ _ _ h) (jsub_some (jsub_some (jsub_some (jsub_some jsub_nil))))
                                                                  · rw [if_neg c] at h
                                                                    refine jr_iconst dL_law_1130 kic_0 ?_
                                                                    exact jr_ireturn dL_law_1131 ⟨Or.inr (Or.inr (Or.inr ⟨rfl, Or.inl rfl⟩)), _, _, rfl, h⟩
                                                                · rw [if_neg c] at h
                                                                  have c29 := c
                                                                  by_cases c : (((G.2.2.2.2 0).2 x3.toNatClampNeg) &&& (63 : Int32)) = (30 : Int32)
                                                                  · rw [if_pos c] at h
                                                                    refine jr_tableIn dL_law_33 (jtl c (by decide)) (jtg c (by decide)) (off := 1099) (jtb c (by decide)) (tgt := 1132) (by decide) ?_
                                                                    refine jr_aload_n dL_law_1132 rfl rfl ?_
                                                                    refine jr_aload_n dL_law_1133 rfl rfl ?_
                                                                    refine jr_iload_n dL_law_1134 rfl rfl ?_
                                                                    refine jr_iconst dL_law_1135 kic_1 ?_
                                                                    refine jr_iadd dL_law_1136 ?_
                                                                    obtain ⟨g116, h⟩ := h
                                                                    refine jr_oaload rfl (r := 0) (by decide) dL_law_1137 g116 ?_
                                                                    refine jr_callV (mc2 := 0) (mc := 0) (ms2 := 0) (ms := 0) vm_L_138 (av := [.int ((G.2.2.2.2 0).2 ((x3 + (1 : Int32)).toNatClampNeg))]) (st := []) rfl rfl ks_0 (by decide) rfl (Nat.le_of_ble_eq_true rfl) dL_law_1138 (cI_use (M := (yX11_trace, cX11_trace, 2, some .int)) h ?_)
                                                                    intro r117 I117 L117 h
                                                                    refine jr_aload_n dL_law_1141 rfl rfl ?_
                                                                    refine jr_aload_n dL_law_1142 rfl rfl ?_
                                                                    refine jr_iload_n dL_law_1143 rfl rfl ?_
                                                                    refine jr_iconst dL_law_1144 kic_1 ?_
                                                                    refine jr_iadd dL_law_1145 ?_
                                                                    refine jr_oaload rfl (r := 0) (by decide) dL_law_1146 g116 ?_
                                                                    refine jr_callV (mc2 := 0) (mc := 0) (ms2 := 0) (ms := 0) vm_L_141 (av := [.int ((G.2.2.2.2 0).2 ((x3 + (1 : Int32)).toNatClampNeg))]) (st := [.int r117]) rfl rfl ks_71 (by decide) rfl (Nat.le_of_ble_eq_true rfl) dL_law_1147 (cI_use (M := (yX12_trace, cX12_trace, 2, some .int)) h ?_)
                                                                    intro r118 I118 L118 h
                                                                    refine jr_icmp_eq dL_law_1150 (tgt := 1457) (by decide) (fun c => ?_) (fun c => ?_)
                                                                    · rw [if_pos c] at h
                                                                      refine jr_iinc dL_law_1457 rfl (by rw [kic_6]) (by decide) rfl ?_
                                                                      refine jr_goto dL_law_1460 (tgt := 18) (by decide) ?_
                                                                      exact J.sub (ih _ _ _ h) (jsub_some (jsub_some (jsub_some (jsub_some jsub_nil))))
                                                                    · rw [if_neg c] at h
                                                                      refine jr_iconst dL_law_1153 kic_0 ?_
                                                                      exact jr_ireturn dL_law_1154 ⟨Or.inr (Or.inr (Or.inr ⟨rfl, Or.inl rfl⟩)), _, _, rfl, h⟩
                                                                  · rw [if_neg c] at h
                                                                    have c30 := c
                                                                    by_cases c : (((G.2.2.2.2 0).2 x3.toNatClampNeg) &&& (63 : Int32)) = (31 : Int32)
                                                                    · rw [if_pos c] at h
                                                                      refine jr_tableIn dL_law_33 (jtl c (by decide)) (jtg c (by decide)) (off := 1122) (jtb c (by decide)) (tgt := 1155) (by decide) ?_
                                                                      refine jr_aload_n dL_law_1155 rfl rfl ?_
                                                                      refine jr_aload_n dL_law_1156 rfl rfl ?_
                                                                      refine jr_iload_n dL_law_1157 rfl rfl ?_
                                                                      refine jr_iconst dL_law_1158 kic_1 ?_
                                                                      refine jr_iadd dL_law_1159 ?_
                                                                      obtain ⟨g119, h⟩ := h
                                                                      refine jr_oaload rfl (r := 0) (by decide) dL_law_1160 g119 ?_
                                                                      refine jr_aload_n dL_law_1161 rfl rfl ?_
                                                                      refine jr_iload_n dL_law_1162 rfl rfl ?_
                                                                      refine jr_iconst dL_law_1163 kic_2 ?_
                                                                      refine jr_iadd dL_law_1164 ?_
                                                                      obtain ⟨g120, h⟩ := h
                                                                      refine jr_oaload rfl (r := 0) (by decide) dL_law_1165 g120 ?_
                                                                      refine jr_callV (mc2 := 0) (mc := 0) (ms2 := 0) (ms := 0) vm_L_142 (av := [.int ((G.2.2.2.2 0).2 ((x3 + (1 : Int32)).toNatClampNeg)), .int ((G.2.2.2.2 0).2 ((x3 + (2 : Int32)).toNatClampNeg))]) (st := []) rfl rfl ks_0 (by decide) rfl (Nat.le_of_ble_eq_true rfl) dL_law_1166 (cI_use (M := (yX11_keep, cX11_keep, 3, some .int)) h ?_)
                                                                      intro r121 I121 L121 h
                                                                      refine jr_aload_n dL_law_1169 rfl rfl ?_
                                                                      refine jr_aload_n dL_law_1170 rfl rfl ?_
                                                                      refine jr_iload_n dL_law_1171 rfl rfl ?_
                                                                      refine jr_iconst dL_law_1172 kic_1 ?_
                                                                      refine jr_iadd dL_law_1173 ?_
                                                                      refine jr_oaload rfl (r := 0) (by decide) dL_law_1174 g119 ?_
                                                                      refine jr_aload_n dL_law_1175 rfl rfl ?_
                                                                      refine jr_iload_n dL_law_1176 rfl rfl ?_
                                                                      refine jr_iconst dL_law_1177 kic_2 ?_
                                                                      refine jr_iadd dL_law_1178 ?_
                                                                      refine jr_oaload rfl (r := 0) (by decide) dL_law_1179 g120 ?_
                                                                      refine jr_callV (mc2 := 0) (mc := 0) (ms2 := 0) (ms := 0) vm_L_145 (av := [.int ((G.2.2.2.2 0).2 ((x3 + (1 : Int32)).toNatClampNeg)), .int ((G.2.2.2.2 0).2 ((x3 + (2 : Int32)).toNatClampNeg))]) (st := [.int r121]) rfl rfl ks_71 (by decide) rfl (Nat.le_of_ble_eq_true rfl) dL_law_1180 (cI_use (M := (yX12_keep, cX12_keep, 3, some .int)) h ?_)
                                                                      intro r122 I122 L122 h
                                                                      refine jr_icmp_eq dL_law_1183 (tgt := 1457) (by decide) (fun c => ?_) (fun c => ?_)
                                                                      · rw [if_pos c] at h
                                                                        refine jr_iinc dL_law_1457 rfl (by rw [kic_6]) (by decide) rfl ?_
                                                                        refine jr_goto dL_law_1460 (tgt := 18) (by decide) ?_
                                                                        exact J.sub (ih _ _ _ h) (jsub_some (jsub_some (jsub_some (jsub_some jsub_nil))))
                                                                      · rw [if_neg c] at h
                                                                        refine jr_iconst dL_law_1186 kic_0 ?_
                                                                        exact jr_ireturn dL_law_1187 ⟨Or.inr (Or.inr (Or.inr ⟨rfl, Or.inl rfl⟩)), _, _, rfl, h⟩
                                                                    · rw [if_neg c] at h
                                                                      have c31 := c
                                                                      by_cases c : (((G.2.2.2.2 0).2 x3.toNatClampNeg) &&& (63 : Int32)) = (32 : Int32)
                                                                      · rw [if_pos c] at h
                                                                        refine jr_tableIn dL_law_33 (jtl c (by decide)) (jtg c (by decide)) (off := 1155) (jtb c (by decide)) (tgt := 1188) (by decide) ?_
                                                                        refine jr_aload_n dL_law_1188 rfl rfl ?_
                                                                        refine jr_aload_n dL_law_1189 rfl rfl ?_
                                                                        refine jr_iload_n dL_law_1190 rfl rfl ?_
                                                                        refine jr_iconst dL_law_1191 kic_1 ?_
                                                                        refine jr_iadd dL_law_1192 ?_
                                                                        obtain ⟨g123, h⟩ := h
                                                                        refine jr_oaload rfl (r := 0) (by decide) dL_law_1193 g123 ?_
                                                                        refine jr_aload_n dL_law_1194 rfl rfl ?_
                                                                        refine jr_iload_n dL_law_1195 rfl rfl ?_
                                                                        refine jr_iconst dL_law_1196 kic_2 ?_
                                                                        refine jr_iadd dL_law_1197 ?_
                                                                        obtain ⟨g124, h⟩ := h
                                                                        refine jr_oaload rfl (r := 0) (by decide) dL_law_1198 g124 ?_
                                                                        refine jr_aload_n dL_law_1199 rfl rfl ?_
                                                                        refine jr_iload_n dL_law_1200 rfl rfl ?_
                                                                        refine jr_iconst dL_law_1201 kic_3 ?_
                                                                        refine jr_iadd dL_law_1202 ?_
                                                                        obtain ⟨g125, h⟩ := h
                                                                        refine jr_oaload rfl (r := 0) (by decide) dL_law_1203 g125 ?_
                                                                        refine jr_callV (mc2 := 0) (mc := 0) (ms2 := 0) (ms := 0) vm_L_146 (av := [.int ((G.2.2.2.2 0).2 ((x3 + (1 : Int32)).toNatClampNeg)), .int ((G.2.2.2.2 0).2 ((x3 + (2 : Int32)).toNatClampNeg)), .int ((G.2.2.2.2 0).2 ((x3 + (3 : Int32)).toNatClampNeg))]) (st := []) rfl rfl ks_0 (by decide) rfl (Nat.le_of_ble_eq_true rfl) dL_law_1204 (cI_use (M := (yX11_row, cX11_row, 4, some .int)) h ?_)
                                                                        intro r126 I126 L126 h
                                                                        refine jr_aload_n dL_law_1207 rfl rfl ?_
                                                                        refine jr_aload_n dL_law_1208 rfl rfl ?_
                                                                        refine jr_iload_n dL_law_1209 rfl rfl ?_
                                                                        refine jr_iconst dL_law_1210 kic_1 ?_
                                                                        refine jr_iadd dL_law_1211 ?_
                                                                        refine jr_oaload rfl (r := 0) (by decide) dL_law_1212 g123 ?_
                                                                        refine jr_aload_n dL_law_1213 rfl rfl ?_
                                                                        refine jr_iload_n dL_law_1214 rfl rfl ?_
                                                                        refine jr_iconst dL_law_1215 kic_2 ?_
                                                                        refine jr_iadd dL_law_1216 ?_
                                                                        refine jr_oaload rfl (r := 0) (by decide) dL_law_1217 g124 ?_
                                                                        refine jr_aload_n dL_law_1218 rfl rfl ?_
                                                                        refine jr_iload_n dL_law_1219 rfl rfl ?_
                                                                        refine jr_iconst dL_law_1220 kic_3 ?_
                                                                        refine jr_iadd dL_law_1221 ?_
                                                                        refine jr_oaload rfl (r := 0) (by decide) dL_law_1222 g125 ?_
                                                                        refine jr_callV (mc2 := 0) (mc := 0) (ms2 := 0) (ms := 0) vm_L_149 (av := [.int ((G.2.2.2.2 0).2 ((x3 + (1 : Int32)).toNatClampNeg)), .int ((G.2.2.2.2 0).2 ((x3 + (2 : Int32)).toNatClampNeg)), .int ((G.2.2.2.2 0).2 ((x3 + (3 : Int32)).toNatClampNeg))]) (st := [.int r126]) rfl rfl ks_71 (by decide) rfl (Nat.le_of_ble_eq_true rfl) dL_law_1223 (cI_use (M := (yX12_row, cX12_row, 5, some .int)) h ?_)
                                                                        intro r127 I127 L127 h
                                                                        refine jr_icmp_eq dL_law_1226 (tgt := 1457) (by decide) (fun c => ?_) (fun c => ?_)
                                                                        · rw [if_pos c] at h
                                                                          refine jr_iinc dL_law_1457 rfl (by rw [kic_6]) (by decide) rfl ?_
                                                                          refine jr_goto dL_law_1460 (tgt := 18) (by decide) ?_
                                                                          exact J.sub (ih _ _ _ h) (jsub_some (jsub_some (jsub_some (jsub_some jsub_nil))))
                                                                        · rw [if_neg c] at h
                                                                          refine jr_iconst dL_law_1229 kic_0 ?_
                                                                          exact jr_ireturn dL_law_1230 ⟨Or.inr (Or.inr (Or.inr ⟨rfl, Or.inl rfl⟩)), _, _, rfl, h⟩
                                                                      · rw [if_neg c] at h
                                                                        have c32 := c
                                                                        by_cases c : (((G.2.2.2.2 0).2 x3.toNatClampNeg) &&& (63 : Int32)) = (33 : Int32)
                                                                        · rw [if_pos c] at h
                                                                          refine jr_tableIn dL_law_33 (jtl c (by decide)) (jtg c (by decide)) (off := 1198) (jtb c (by decide)) (tgt := 1231) (by decide) ?_
                                                                          refine jr_aload_n dL_law_1231 rfl rfl ?_
                                                                          refine jr_aload_n dL_law_1232 rfl rfl ?_
                                                                          refine jr_iload_n dL_law_1233 rfl rfl ?_
                                                                          refine jr_iconst dL_law_1234 kic_1 ?_
                                                                          refine jr_iadd dL_law_1235 ?_
                                                                          obtain ⟨g128, h⟩ := h
                                                                          refine jr_oaload rfl (r := 0) (by decide) dL_law_1236 g128 ?_
                                                                          refine jr_aload_n dL_law_1237 rfl rfl ?_
                                                                          refine jr_iload_n dL_law_1238 rfl rfl ?_
                                                                          refine jr_iconst dL_law_1239 kic_2 ?_
                                                                          refine jr_iadd dL_law_1240 ?_
                                                                          obtain ⟨g129, h⟩ := h
                                                                          refine jr_oaload rfl (r := 0) (by decide) dL_law_1241 g129 ?_
                                                                          refine jr_aload_n dL_law_1242 rfl rfl ?_
                                                                          refine jr_iload_n dL_law_1243 rfl rfl ?_
                                                                          refine jr_iconst dL_law_1244 kic_3 ?_
                                                                          refine jr_iadd dL_law_1245 ?_
                                                                          obtain ⟨g130, h⟩ := h
                                                                          refine jr_oaload rfl (r := 0) (by decide) dL_law_1246 g130 ?_
                                                                          refine jr_i2l dL_law_1247 ?_
                                                                          refine jr_bipush dL_law_1248 kbp_32 ?_
                                                                          refine jr_lshl dL_law_1250 rfl ?_
                                                                          refine jr_aload_n dL_law_1251 rfl rfl ?_
                                                                          refine jr_iload_n dL_law_1252 rfl rfl ?_
                                                                          refine jr_iconst dL_law_1253 kic_4 ?_
                                                                          refine jr_iadd dL_law_1254 ?_
                                                                          obtain ⟨g131, h⟩ := h
                                                                          refine jr_oaload rfl (r := 0) (by decide) dL_law_1255 g131 ?_
                                                                          refine jr_i2l dL_law_1256 ?_
                                                                          refine jr_ldc2 kl_L_150 dL_law_1257 ?_
                                                                          refine jr_land dL_law_1260 ?_
                                                                          refine jr_lor dL_law_1261 ?_
                                                                          refine jr_callV (mc2 := 0) (mc := 0) (ms2 := 0) (ms := 0) vm_L_152 (av := [.int ((G.2.2.2.2 0).2 ((x3 + (1 : Int32)).toNatClampNeg)), .int ((G.2.2.2.2 0).2 ((x3 + (2 : Int32)).toNatClampNeg)), .long ((((G.2.2.2.2 0).2 ((x3 + (3 : Int32)).toNatClampNeg)).toInt64 <<< ((32 : Int32).toInt64 &&& 63)) ||| (((G.2.2.2.2 0).2 ((x3 + (4 : Int32)).toNatClampNeg)).toInt64 &&& (4294967295 : Int64)))]) (st := []) rfl rfl ks_0 (by decide) rfl (Nat.le_of_ble_eq_true rfl) dL_law_1262 (cI_use (M := (yX11_put, cX11_put, 6, some .int)) h ?_)
                                                                          intro r132 I132 L132 h
                                                                          refine jr_aload_n dL_law_1265 rfl rfl ?_
                                                                          refine jr_aload_n dL_law_1266 rfl rfl ?_
                                                                          refine jr_iload_n dL_law_1267 rfl rfl ?_
                                                                          refine jr_iconst dL_law_1268 kic_1 ?_
                                                                          refine jr_iadd dL_law_1269 ?_
                                                                          refine jr_oaload rfl (r := 0) (by decide) dL_law_1270 g128 ?_
                                                                          refine jr_aload_n dL_law_1271 rfl rfl ?_
                                                                          refine jr_iload_n dL_law_1272 rfl rfl ?_
                                                                          refine jr_iconst dL_law_1273 kic_2 ?_
                                                                          refine jr_iadd dL_law_1274 ?_
                                                                          refine jr_oaload rfl (r := 0) (by decide) dL_law_1275 g129 ?_
                                                                          refine jr_aload_n dL_law_1276 rfl rfl ?_
                                                                          refine jr_iload_n dL_law_1277 rfl rfl ?_
                                                                          refine jr_iconst dL_law_1278 kic_3 ?_
                                                                          refine jr_iadd dL_law_1279 ?_
                                                                          refine jr_oaload rfl (r := 0) (by decide) dL_law_1280 g130 ?_
                                                                          refine jr_i2l dL_law_1281 ?_
                                                                          refine jr_bipush dL_law_1282 kbp_32 ?_
                                                                          refine jr_lshl dL_law_1284 rfl ?_
                                                                          refine jr_aload_n dL_law_1285 rfl rfl ?_
                                                                          refine jr_iload_n dL_law_1286 rfl rfl ?_
                                                                          refine jr_iconst dL_law_1287 kic_4 ?_
                                                                          refine jr_iadd dL_law_1288 ?_
                                                                          refine jr_oaload rfl (r := 0) (by decide) dL_law_1289 g131 ?_
                                                                          refine jr_i2l dL_law_1290 ?_
                                                                          refine jr_ldc2 kl_L_150 dL_law_1291 ?_
                                                                          refine jr_land dL_law_1294 ?_
                                                                          refine jr_lor dL_law_1295 ?_
                                                                          refine jr_callV (mc2 := 0) (mc := 0) (ms2 := 0) (ms := 0) vm_L_156 (av := [.int ((G.2.2.2.2 0).2 ((x3 + (1 : Int32)).toNatClampNeg)), .int ((G.2.2.2.2 0).2 ((x3 + (2 : Int32)).toNatClampNeg)), .long ((((G.2.2.2.2 0).2 ((x3 + (3 : Int32)).toNatClampNeg)).toInt64 <<< ((32 : Int32).toInt64 &&& 63)) ||| (((G.2.2.2.2 0).2 ((x3 + (4 : Int32)).toNatClampNeg)).toInt64 &&& (4294967295 : Int64)))]) (st := [.int r132]) rfl rfl ks_71 (by decide) rfl (Nat.le_of_ble_eq_true rfl) dL_law_1296 (cI_use (M := (yX12_put, cX12_put, 6, some .int)) h ?_)
                                                                          intro r133 I133 L133 h
                                                                          refine jr_icmp_eq dL_law_1299 (tgt := 1457) (by decide) (fun c => ?_) (fun c => ?_)
                                                                          · rw [if_pos c] at h
                                                                            refine jr_iinc dL_law_1457 rfl (by rw [kic_6]) (by decide) rfl ?_
                                                                            refine jr_goto dL_law_1460 (tgt := 18) (by decide) ?_
                                                                            exact J.sub (ih _ _ _ h) (jsub_some (jsub_some (jsub_some (jsub_some jsub_nil))))
                                                                          · rw [if_neg c] at h
                                                                            refine jr_iconst dL_law_1302 kic_0 ?_
                                                                            exact jr_ireturn dL_law_1303 ⟨Or.inr (Or.inr (Or.inr ⟨rfl, Or.inl rfl⟩)), _, _, rfl, h⟩
                                                                        · rw [if_neg c] at h
                                                                          have c33 := c
                                                                          by_cases c : (((G.2.2.2.2 0).2 x3.toNatClampNeg) &&& (63 : Int32)) = (34 : Int32)
                                                                          · rw [if_pos c] at h
                                                                            refine jr_tableIn dL_law_33 (jtl c (by decide)) (jtg c (by decide)) (off := 1271) (jtb c (by decide)) (tgt := 1304) (by decide) ?_
                                                                            refine jr_aload_n dL_law_1304 rfl rfl ?_
                                                                            refine jr_aload_n dL_law_1305 rfl rfl ?_
                                                                            refine jr_iload_n dL_law_1306 rfl rfl ?_
                                                                            refine jr_iconst dL_law_1307 kic_1 ?_
                                                                            refine jr_iadd dL_law_1308 ?_
                                                                            obtain ⟨g134, h⟩ := h
                                                                            refine jr_oaload rfl (r := 0) (by decide) dL_law_1309 g134 ?_
                                                                            refine jr_aload_n dL_law_1310 rfl rfl ?_
                                                                            refine jr_iload_n dL_law_1311 rfl rfl ?_
                                                                            refine jr_iconst dL_law_1312 kic_2 ?_
                                                                            refine jr_iadd dL_law_1313 ?_
                                                                            obtain ⟨g135, h⟩ := h
                                                                            refine jr_oaload rfl (r := 0) (by decide) dL_law_1314 g135 ?_
                                                                            refine jr_callV (mc2 := 0) (mc := 0) (ms2 := 0) (ms := 0) vm_L_157 (av := [.int ((G.2.2.2.2 0).2 ((x3 + (1 : Int32)).toNatClampNeg)), .int ((G.2.2.2.2 0).2 ((x3 + (2 : Int32)).toNatClampNeg))]) (st := []) rfl rfl ks_0 (by decide) rfl (Nat.le_of_ble_eq_true rfl) dL_law_1315 (cJ_use (M := (yX11_element, cX11_element, 3, some .long)) h ?_)
                                                                            intro r136 I136 L136 h
                                                                            refine jr_aload_n dL_law_1318 rfl rfl ?_
                                                                            refine jr_aload_n dL_law_1319 rfl rfl ?_
                                                                            refine jr_iload_n dL_law_1320 rfl rfl ?_
                                                                            refine jr_iconst dL_law_1321 kic_1 ?_
                                                                            refine jr_iadd dL_law_1322 ?_
                                                                            refine jr_oaload rfl (r := 0) (by decide) dL_law_1323 g134 ?_
                                                                            refine jr_aload_n dL_law_1324 rfl rfl ?_
                                                                            refine jr_iload_n dL_law_1325 rfl rfl ?_
                                                                            refine jr_iconst dL_law_1326 kic_2 ?_
                                                                            refine jr_iadd dL_law_1327 ?_
                                                                            refine jr_oaload rfl (r := 0) (by decide) dL_law_1328 g135 ?_
                                                                            refine jr_callV (mc2 := 0) (mc := 0) (ms2 := 0) (ms := 0) vm_L_161 (av := [.int ((G.2.2.2.2 0).2 ((x3 + (1 : Int32)).toNatClampNeg)), .int ((G.2.2.2.2 0).2 ((x3 + (2 : Int32)).toNatClampNeg))]) (st := [.long r136]) rfl rfl ks_71 (by decide) rfl (Nat.le_of_ble_eq_true rfl) dL_law_1329 (cJ_use (M := (yX12_element, cX12_element, 3, some .long)) h ?_)
                                                                            intro r137 I137 L137 h
                                                                            refine jr_lcmp dL_law_1332 ?_
                                                                            refine jr_if_eq dL_law_1333 (tgt := 1457) (by decide) (fun c => ?_) (fun c => ?_)
                                                                            · rw [if_pos c] at h
                                                                              refine jr_iinc dL_law_1457 rfl (by rw [kic_6]) (by decide) rfl ?_
                                                                              refine jr_goto dL_law_1460 (tgt := 18) (by decide) ?_
                                                                              exact J.sub (ih _ _ _ h) (jsub_some (jsub_some (jsub_some (jsub_some jsub_nil))))
                                                                            · rw [if_neg c] at h
                                                                              refine jr_iconst dL_law_1336 kic_0 ?_
                                                                              exact jr_ireturn dL_law_1337 ⟨Or.inr (Or.inr (Or.inr ⟨rfl, Or.inl rfl⟩)), _, _, rfl, h⟩
                                                                          · rw [if_neg c] at h
                                                                            have c34 := c
                                                                            by_cases c : (((G.2.2.2.2 0).2 x3.toNatClampNeg) &&& (63 : Int32)) = (35 : Int32)
                                                                            · rw [if_pos c] at h
                                                                              refine jr_tableIn dL_law_33 (jtl c (by decide)) (jtg c (by decide)) (off := 1305) (jtb c (by decide)) (tgt := 1338) (by decide) ?_
                                                                              refine jr_aload_n dL_law_1338 rfl rfl ?_
                                                                              refine jr_aload_n dL_law_1339 rfl rfl ?_
                                                                              refine jr_iload_n dL_law_1340 rfl rfl ?_
                                                                              refine jr_iconst dL_law_1341 kic_1 ?_
                                                                              refine jr_iadd dL_law_1342 ?_
                                                                              obtain ⟨g138, h⟩ := h
                                                                              refine jr_oaload rfl (r := 0) (by decide) dL_law_1343 g138 ?_
                                                                              refine jr_aload_n dL_law_1344 rfl rfl ?_
                                                                              refine jr_iload_n dL_law_1345 rfl rfl ?_
                                                                              refine jr_iconst dL_law_1346 kic_2 ?_
                                                                              refine jr_iadd dL_law_1347 ?_
                                                                              obtain ⟨g139, h⟩ := h
                                                                              refine jr_oaload rfl (r := 0) (by decide) dL_law_1348 g139 ?_
                                                                              refine jr_aload_n dL_law_1349 rfl rfl ?_
                                                                              refine jr_iload_n dL_law_1350 rfl rfl ?_
                                                                              refine jr_iconst dL_law_1351 kic_3 ?_
                                                                              refine jr_iadd dL_law_1352 ?_
                                                                              obtain ⟨g140, h⟩ := h
                                                                              refine jr_oaload rfl (r := 0) (by decide) dL_law_1353 g140 ?_
                                                                              refine jr_aload_n dL_law_1354 rfl rfl ?_
                                                                              refine jr_iload_n dL_law_1355 rfl rfl ?_
                                                                              refine jr_iconst dL_law_1356 kic_4 ?_
                                                                              refine jr_iadd dL_law_1357 ?_
                                                                              obtain ⟨g141, h⟩ := h
                                                                              refine jr_oaload rfl (r := 0) (by decide) dL_law_1358 g141 ?_
                                                                              refine jr_aload_n dL_law_1359 rfl rfl ?_
                                                                              refine jr_iload_n dL_law_1360 rfl rfl ?_
                                                                              refine jr_iconst dL_law_1361 kic_5 ?_
                                                                              refine jr_iadd dL_law_1362 ?_
                                                                              obtain ⟨g142, h⟩ := h
                                                                              refine jr_oaload rfl (r := 0) (by decide) dL_law_1363 g142 ?_
                                                                              refine jr_callV (mc2 := 0) (mc := 0) (ms2 := 0) (ms := 0) vm_L_162 (av := [.int ((G.2.2.2.2 0).2 ((x3 + (1 : Int32)).toNatClampNeg)), .int ((G.2.2.2.2 0).2 ((x3 + (2 : Int32)).toNatClampNeg)), .int ((G.2.2.2.2 0).2 ((x3 + (3 : Int32)).toNatClampNeg)), .int ((G.2.2.2.2 0).2 ((x3 + (4 : Int32)).toNatClampNeg)), .int ((G.2.2.2.2 0).2 ((x3 + (5 : Int32)).toNatClampNeg))]) (st := []) rfl rfl ks_0 (by decide) rfl (Nat.le_of_ble_eq_true rfl) dL_law_1364 (cI_use (M := (yX11_shift, cX11_shift, 6, some .int)) h ?_)
                                                                              intro r143 I143 L143 h
                                                                              refine jr_aload_n dL_law_1367 rfl rfl ?_
                                                                              refine jr_aload_n dL_law_1368 rfl rfl ?_
                                                                              refine jr_iload_n dL_law_1369 rfl rfl ?_
                                                                              refine jr_iconst dL_law_1370 kic_1 ?_
                                                                              refine jr_iadd dL_law_1371 ?_
                                                                              refine jr_oaload rfl (r := 0) (by decide) dL_law_1372 g138 ?_
                                                                              refine jr_aload_n dL_law_1373 rfl rfl ?_
                                                                              refine jr_iload_n dL_law_1374 rfl rfl ?_
                                                                              refine jr_iconst dL_law_1375 kic_2 ?_
                                                                              refine jr_iadd dL_law_1376 ?_
                                                                              refine jr_oaload rfl (r := 0) (by decide) dL_law_1377 g139 ?_
                                                                              refine jr_aload_n dL_law_1378 rfl rfl ?_
                                                                              refine jr_iload_n dL_law_1379 rfl rfl ?_
                                                                              refine jr_iconst dL_law_1380 kic_3 ?_
                                                                              refine jr_iadd dL_law_1381 ?_
                                                                              refine jr_oaload rfl (r := 0) (by decide) dL_law_1382 g140 ?_
                                                                              refine jr_aload_n dL_law_1383 rfl rfl ?_
                                                                              refine jr_iload_n dL_law_1384 rfl rfl ?_
                                                                              refine jr_iconst dL_law_1385 kic_4 ?_
                                                                              refine jr_iadd dL_law_1386 ?_
                                                                              refine jr_oaload rfl (r := 0) (by decide) dL_law_1387 g141 ?_
                                                                              refine jr_aload_n dL_law_1388 rfl rfl ?_
                                                                              refine jr_iload_n dL_law_1389 rfl rfl ?_
                                                                              refine jr_iconst dL_law_1390 kic_5 ?_
                                                                              refine jr_iadd dL_law_1391 ?_
                                                                              refine jr_oaload rfl (r := 0) (by decide) dL_law_1392 g142 ?_
                                                                              refine jr_callV (mc2 := 0) (mc := 0) (ms2 := 0) (ms := 0) vm_L_166 (av := [.int ((G.2.2.2.2 0).2 ((x3 + (1 : Int32)).toNatClampNeg)), .int ((G.2.2.2.2 0).2 ((x3 + (2 : Int32)).toNatClampNeg)), .int ((G.2.2.2.2 0).2 ((x3 + (3 : Int32)).toNatClampNeg)), .int ((G.2.2.2.2 0).2 ((x3 + (4 : Int32)).toNatClampNeg)), .int ((G.2.2.2.2 0).2 ((x3 + (5 : Int32)).toNatClampNeg))]) (st := [.int r143]) rfl rfl ks_71 (by decide) rfl (Nat.le_of_ble_eq_true rfl) dL_law_1393 (cI_use (M := (yX12_shift, cX12_shift, 7, some .int)) h ?_)
                                                                              intro r144 I144 L144 h
                                                                              refine jr_icmp_eq dL_law_1396 (tgt := 1457) (by decide) (fun c => ?_) (fun c => ?_)
                                                                              · rw [if_pos c] at h
                                                                                refine jr_iinc dL_law_1457 rfl (by rw [kic_6]) (by decide) rfl ?_
                                                                                refine jr_goto dL_law_1460 (tgt := 18) (by decide) ?_
                                                                                exact J.sub (ih _ _ _ h) (jsub_some (jsub_some (jsub_some (jsub_some jsub_nil))))
                                                                              · rw [if_neg c] at h
                                                                                refine jr_iconst dL_law_1399 kic_0 ?_
                                                                                exact jr_ireturn dL_law_1400 ⟨Or.inr (Or.inr (Or.inr ⟨rfl, Or.inl rfl⟩)), _, _, rfl, h⟩
                                                                            · rw [if_neg c] at h
                                                                              have c35 := c
                                                                              by_cases c : (((G.2.2.2.2 0).2 x3.toNatClampNeg) &&& (63 : Int32)) = (36 : Int32)
                                                                              · rw [if_pos c] at h
                                                                                refine jr_tableIn dL_law_33 (jtl c (by decide)) (jtg c (by decide)) (off := 1368) (jtb c (by decide)) (tgt := 1401) (by decide) ?_
                                                                                refine jr_aload_n dL_law_1401 rfl rfl ?_
                                                                                refine jr_aload_n dL_law_1402 rfl rfl ?_
                                                                                refine jr_iload_n dL_law_1403 rfl rfl ?_
                                                                                refine jr_iconst dL_law_1404 kic_1 ?_
                                                                                refine jr_iadd dL_law_1405 ?_
                                                                                obtain ⟨g145, h⟩ := h
                                                                                refine jr_oaload rfl (r := 0) (by decide) dL_law_1406 g145 ?_
                                                                                refine jr_aload_n dL_law_1407 rfl rfl ?_
                                                                                refine jr_iload_n dL_law_1408 rfl rfl ?_
                                                                                refine jr_iconst dL_law_1409 kic_2 ?_
                                                                                refine jr_iadd dL_law_1410 ?_
                                                                                obtain ⟨g146, h⟩ := h
                                                                                refine jr_oaload rfl (r := 0) (by decide) dL_law_1411 g146 ?_
                                                                                refine jr_callV (mc2 := 0) (mc := 0) (ms2 := 0) (ms := 0) vm_L_167 (av := [.int ((G.2.2.2.2 0).2 ((x3 + (1 : Int32)).toNatClampNeg)), .int ((G.2.2.2.2 0).2 ((x3 + (2 : Int32)).toNatClampNeg))]) (st := []) rfl rfl ks_0 (by decide) rfl (Nat.le_of_ble_eq_true rfl) dL_law_1412 (cI_use (M := (yX11_taken, cX11_taken, 4, some .int)) h ?_)
                                                                                intro r147 I147 L147 h
                                                                                refine jr_aload_n dL_law_1415 rfl rfl ?_
                                                                                refine jr_aload_n dL_law_1416 rfl rfl ?_
                                                                                refine jr_iload_n dL_law_1417 rfl rfl ?_
                                                                                refine jr_iconst dL_law_1418 kic_1 ?_
                                                                                refine jr_iadd dL_law_1419 ?_
                                                                                refine jr_oaload rfl (r := 0) (by decide) dL_law_1420 g145 ?_
                                                                                refine jr_aload_n dL_law_1421 rfl rfl ?_
                                                                                refine jr_iload_n dL_law_1422 rfl rfl ?_
                                                                                refine jr_iconst dL_law_1423 kic_2 ?_
                                                                                refine jr_iadd dL_law_1424 ?_
                                                                                refine jr_oaload rfl (r := 0) (by decide) dL_law_1425 g146 ?_
                                                                                refine jr_callV (mc2 := 0) (mc := 0) (ms2 := 0) (ms := 0) vm_L_170 (av := [.int ((G.2.2.2.2 0).2 ((x3 + (1 : Int32)).toNatClampNeg)), .int ((G.2.2.2.2 0).2 ((x3 + (2 : Int32)).toNatClampNeg))]) (st := [.int r147]) rfl rfl ks_71 (by decide) rfl (Nat.le_of_ble_eq_true rfl) dL_law_1426 (cI_use (M := (yX12_taken, cX12_taken, 4, some .int)) h ?_)
                                                                                intro r148 I148 L148 h
                                                                                refine jr_icmp_eq dL_law_1429 (tgt := 1457) (by decide) (fun c => ?_) (fun c => ?_)
                                                                                · rw [if_pos c] at h
                                                                                  refine jr_iinc dL_law_1457 rfl (by rw [kic_6]) (by decide) rfl ?_
                                                                                  refine jr_goto dL_law_1460 (tgt := 18) (by decide) ?_
                                                                                  exact J.sub (ih _ _ _ h) (jsub_some (jsub_some (jsub_some (jsub_some jsub_nil))))
                                                                                · rw [if_neg c] at h
                                                                                  refine jr_iconst dL_law_1432 kic_0 ?_
                                                                                  exact jr_ireturn dL_law_1433 ⟨Or.inr (Or.inr (Or.inr ⟨rfl, Or.inl rfl⟩)), _, _, rfl, h⟩
                                                                              · rw [if_neg c] at h
                                                                                have c36 := c
                                                                                by_cases c : (((G.2.2.2.2 0).2 x3.toNatClampNeg) &&& (63 : Int32)) = (37 : Int32)
                                                                                · rw [if_pos c] at h
                                                                                  refine jr_tableIn dL_law_33 (jtl c (by decide)) (jtg c (by decide)) (off := 1401) (jtb c (by decide)) (tgt := 1434) (by decide) ?_
                                                                                  refine jr_aload_n dL_law_1434 rfl rfl ?_
                                                                                  refine jr_aload_n dL_law_1435 rfl rfl ?_
                                                                                  refine jr_iload_n dL_law_1436 rfl rfl ?_
                                                                                  refine jr_iconst dL_law_1437 kic_1 ?_
                                                                                  refine jr_iadd dL_law_1438 ?_
                                                                                  obtain ⟨g149, h⟩ := h
                                                                                  refine jr_oaload rfl (r := 0) (by decide) dL_law_1439 g149 ?_
                                                                                  refine jr_callV (mc2 := 0) (mc := 0) (ms2 := 0) (ms := 0) vm_L_171 (av := [.int ((G.2.2.2.2 0).2 ((x3 + (1 : Int32)).toNatClampNeg))]) (st := []) rfl rfl ks_0 (by decide) rfl (Nat.le_of_ble_eq_true rfl) dL_law_1440 (cI_use (M := (yX11_count, cX11_count, 2, some .int)) h ?_)
                                                                                  intro r150 I150 L150 h
                                                                                  refine jr_aload_n dL_law_1443 rfl rfl ?_
                                                                                  refine jr_aload_n dL_law_1444 rfl rfl ?_
                                                                                  refine jr_iload_n dL_law_1445 rfl rfl ?_
                                                                                  refine jr_iconst dL_law_1446 kic_1 ?_
                                                                                  refine jr_iadd dL_law_1447 ?_
                                                                                  refine jr_oaload rfl (r := 0) (by decide) dL_law_1448 g149 ?_
                                                                                  refine jr_callV (mc2 := 0) (mc := 0) (ms2 := 0) (ms := 0) vm_L_174 (av := [.int ((G.2.2.2.2 0).2 ((x3 + (1 : Int32)).toNatClampNeg))]) (st := [.int r150]) rfl rfl ks_71 (by decide) rfl (Nat.le_of_ble_eq_true rfl) dL_law_1449 (cI_use (M := (yX12_count, cX12_count, 2, some .int)) h ?_)
                                                                                  intro r151 I151 L151 h
                                                                                  refine jr_icmp_eq dL_law_1452 (tgt := 1457) (by decide) (fun c => ?_) (fun c => ?_)
                                                                                  · rw [if_pos c] at h
                                                                                    refine jr_iinc dL_law_1457 rfl (by rw [kic_6]) (by decide) rfl ?_
                                                                                    refine jr_goto dL_law_1460 (tgt := 18) (by decide) ?_
                                                                                    exact J.sub (ih _ _ _ h) (jsub_some (jsub_some (jsub_some (jsub_some jsub_nil))))
                                                                                  · rw [if_neg c] at h
                                                                                    refine jr_iconst dL_law_1455 kic_0 ?_
                                                                                    exact jr_ireturn dL_law_1456 ⟨Or.inr (Or.inr (Or.inr ⟨rfl, Or.inl rfl⟩)), _, _, rfl, h⟩
                                                                                · rw [if_neg c] at h
                                                                                  have c37 := c
                                                                                  refine jr_tableOut dL_law_33 (by
                                                                                    rcases Int.lt_or_le ((((G.2.2.2.2 0).2 x3.toNatClampNeg) &&& (63 : Int32))).toInt (0) with q | q
                                                                                    · exact Or.inl q
                                                                                    · rcases Int.lt_or_le (37) ((((G.2.2.2.2 0).2 x3.toNatClampNeg) &&& (63 : Int32))).toInt with q2 | q2
                                                                                      · exact Or.inr q2
                                                                                      · exfalso
                                                                                        have ec0 := lv_neT c0 (a := 0) rfl
                                                                                        have ec1 := lv_neT c1 (a := 1) rfl
                                                                                        have ec2 := lv_neT c2 (a := 2) rfl
                                                                                        have ec3 := lv_neT c3 (a := 3) rfl
                                                                                        have ec4 := lv_neT c4 (a := 4) rfl
                                                                                        have ec5 := lv_neT c5 (a := 5) rfl
                                                                                        have ec6 := lv_neT c6 (a := 6) rfl
                                                                                        have ec7 := lv_neT c7 (a := 7) rfl
                                                                                        have ec8 := lv_neT c8 (a := 8) rfl
                                                                                        have ec9 := lv_neT c9 (a := 9) rfl
                                                                                        have ec10 := lv_neT c10 (a := 10) rfl
                                                                                        have ec11 := lv_neT c11 (a := 11) rfl
                                                                                        have ec12 := lv_neT c12 (a := 12) rfl
                                                                                        have ec13 := lv_neT c13 (a := 13) rfl
                                                                                        have ec14 := lv_neT c14 (a := 14) rfl
                                                                                        have ec15 := lv_neT c15 (a := 15) rfl
                                                                                        have ec16 := lv_neT c16 (a := 16) rfl
                                                                                        have ec17 := lv_neT c17 (a := 17) rfl
                                                                                        have ec18 := lv_neT c18 (a := 18) rfl
                                                                                        have ec19 := lv_neT c19 (a := 19) rfl
                                                                                        have ec20 := lv_neT c20 (a := 20) rfl
                                                                                        have ec21 := lv_neT c21 (a := 21) rfl
                                                                                        have ec22 := lv_neT c22 (a := 22) rfl
                                                                                        have ec23 := lv_neT c23 (a := 23) rfl
                                                                                        have ec24 := lv_neT c24 (a := 24) rfl
                                                                                        have ec25 := lv_neT c25 (a := 25) rfl
                                                                                        have ec26 := lv_neT c26 (a := 26) rfl
                                                                                        have ec27 := lv_neT c27 (a := 27) rfl
                                                                                        have ec28 := lv_neT c28 (a := 28) rfl
                                                                                        have ec29 := lv_neT c29 (a := 29) rfl
                                                                                        have ec30 := lv_neT c30 (a := 30) rfl
                                                                                        have ec31 := lv_neT c31 (a := 31) rfl
                                                                                        have ec32 := lv_neT c32 (a := 32) rfl
                                                                                        have ec33 := lv_neT c33 (a := 33) rfl
                                                                                        have ec34 := lv_neT c34 (a := 34) rfl
                                                                                        have ec35 := lv_neT c35 (a := 35) rfl
                                                                                        have ec36 := lv_neT c36 (a := 36) rfl
                                                                                        have ec37 := lv_neT c37 (a := 37) rfl
                                                                                        omega) (tgt := 1457) (by decide) ?_
                                                                                  refine jr_iinc dL_law_1457 rfl (by rw [kic_6]) (by decide) rfl ?_
                                                                                  refine jr_goto dL_law_1460 (tgt := 18) (by decide) ?_
                                                                                  exact J.sub (ih _ _ _ h) (jsub_some (jsub_some (jsub_some (jsub_some jsub_nil))))
