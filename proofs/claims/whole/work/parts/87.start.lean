/-! THE LAW: the machine-side of the claim, out of one statement of the logic. -/
set_option maxRecDepth 100000 in
theorem xm_okall0 : ∀ inf ∈ xm_T, xe_ik inf ≤ 3 → xe_ok xm_T inf := List.forall_mem_cons.mpr ⟨fun _ => xm_ok0, List.forall_mem_cons.mpr ⟨fun _ => xm_ok1, List.forall_mem_cons.mpr ⟨fun _ => xm_ok2, List.forall_mem_cons.mpr ⟨fun _ => xm_ok3, List.forall_mem_cons.mpr ⟨fun _ => xm_ok4, List.forall_mem_cons.mpr ⟨fun _ => xm_ok5, List.forall_mem_cons.mpr ⟨fun _ => xm_ok6, List.forall_mem_cons.mpr ⟨fun _ => xm_ok7, List.forall_mem_cons.mpr ⟨fun _ => xm_ok8, List.forall_mem_cons.mpr ⟨fun _ => xm_ok9, List.forall_mem_cons.mpr ⟨fun _ => xm_ok10, List.forall_mem_cons.mpr ⟨fun _ => xm_ok11, List.forall_mem_cons.mpr ⟨fun _ => xm_ok12, List.forall_mem_cons.mpr ⟨fun _ => xm_ok13, List.forall_mem_cons.mpr ⟨fun _ => xm_ok14, List.forall_mem_cons.mpr ⟨fun _ => xm_ok15, List.forall_mem_cons.mpr ⟨fun _ => xm_ok16, List.forall_mem_cons.mpr ⟨fun _ => xm_ok17, List.forall_mem_cons.mpr ⟨fun _ => xm_ok18, List.forall_mem_cons.mpr ⟨fun _ => xm_ok19, List.forall_mem_cons.mpr ⟨fun _ => xm_ok20, List.forall_mem_cons.mpr ⟨fun _ => xm_ok21, List.forall_mem_cons.mpr ⟨fun _ => xm_ok22, List.forall_mem_cons.mpr ⟨fun _ => xm_ok23, List.forall_mem_cons.mpr ⟨fun _ => xm_ok24, List.forall_mem_cons.mpr ⟨fun _ => xm_ok25, List.forall_mem_cons.mpr ⟨fun _ => xm_ok26, List.forall_mem_cons.mpr ⟨fun _ => xm_ok27, List.forall_mem_cons.mpr ⟨fun _ => xm_ok28, List.forall_mem_cons.mpr ⟨fun _ => xm_ok29, List.forall_mem_cons.mpr ⟨fun _ => xm_ok30, List.forall_mem_cons.mpr ⟨fun _ => xm_ok31, List.forall_mem_cons.mpr ⟨fun _ => xm_ok32, List.forall_mem_cons.mpr ⟨fun _ => xm_ok33, List.forall_mem_cons.mpr ⟨fun _ => xm_ok34, List.forall_mem_cons.mpr ⟨fun _ => xm_ok35, List.forall_mem_cons.mpr ⟨fun _ => xm_ok36, List.forall_mem_cons.mpr ⟨fun _ => xm_ok37, List.forall_mem_cons.mpr ⟨fun _ => xm_ok38, List.forall_mem_cons.mpr ⟨fun _ => xm_ok39, List.forall_mem_cons.mpr ⟨fun _ => xm_ok40, List.forall_mem_cons.mpr ⟨fun _ => xm_ok41, List.forall_mem_cons.mpr ⟨fun _ => xm_ok42, List.forall_mem_cons.mpr ⟨fun _ => xm_ok43, List.forall_mem_cons.mpr ⟨fun _ => xm_ok44, List.forall_mem_cons.mpr ⟨fun _ => xm_ok45, List.forall_mem_cons.mpr ⟨fun _ => xm_ok46, List.forall_mem_cons.mpr ⟨fun _ => xm_ok47, List.forall_mem_cons.mpr ⟨fun _ => xm_ok48, List.forall_mem_cons.mpr ⟨fun _ => xm_ok49, List.forall_mem_cons.mpr ⟨fun _ => xm_ok50, List.forall_mem_cons.mpr ⟨fun _ => xm_ok51, List.forall_mem_cons.mpr ⟨fun _ => xm_ok52, List.forall_mem_cons.mpr ⟨fun _ => xm_ok53, List.forall_mem_cons.mpr ⟨fun _ => xm_ok54, List.forall_mem_cons.mpr ⟨fun _ => xm_ok55, List.forall_mem_cons.mpr ⟨fun _ => xm_ok56, List.forall_mem_cons.mpr ⟨fun _ => xm_ok57, List.forall_mem_cons.mpr ⟨fun _ => xm_ok58, List.forall_mem_cons.mpr ⟨fun _ => xm_ok59, List.forall_mem_cons.mpr ⟨fun _ => xm_ok60, List.forall_mem_cons.mpr ⟨fun _ => xm_ok61, List.forall_mem_cons.mpr ⟨fun _ => xm_ok62, List.forall_mem_cons.mpr ⟨fun _ => xm_ok63, List.forall_mem_cons.mpr ⟨fun _ => xm_ok64, List.forall_mem_cons.mpr ⟨fun _ => xm_ok65, List.forall_mem_cons.mpr ⟨fun _ => xm_ok66, List.forall_mem_cons.mpr ⟨fun _ => xm_ok67, List.forall_mem_cons.mpr ⟨fun _ => xm_ok68, List.forall_mem_cons.mpr ⟨fun _ => xm_ok69, List.forall_mem_cons.mpr ⟨fun _ => xm_ok70, List.forall_mem_cons.mpr ⟨fun _ => xm_ok71, List.forall_mem_cons.mpr ⟨fun _ => xm_ok72, List.forall_mem_cons.mpr ⟨fun _ => xm_ok73, List.forall_mem_cons.mpr ⟨fun _ => xm_ok74, List.forall_mem_cons.mpr ⟨fun _ => xm_ok75, List.forall_mem_cons.mpr ⟨fun _ => xm_ok76, List.forall_mem_cons.mpr ⟨fun _ => xm_ok77, List.forall_mem_cons.mpr ⟨fun _ => xm_ok78, List.forall_mem_cons.mpr ⟨fun _ => xm_ok79, List.forall_mem_cons.mpr ⟨fun _ => xm_ok80, List.forall_mem_cons.mpr ⟨fun _ => xm_ok81, List.forall_mem_cons.mpr ⟨fun _ => xm_ok82, List.forall_mem_cons.mpr ⟨fun _ => xm_ok83, List.forall_mem_cons.mpr ⟨fun _ => xm_ok84, List.forall_mem_cons.mpr ⟨fun _ => xm_ok85, List.forall_mem_cons.mpr ⟨fun _ => xm_ok86, List.forall_mem_cons.mpr ⟨fun _ => xm_ok87, List.forall_mem_cons.mpr ⟨fun _ => xm_ok88, List.forall_mem_cons.mpr ⟨fun _ => xm_ok89, List.forall_mem_cons.mpr ⟨fun _ => xm_ok90, List.forall_mem_cons.mpr ⟨fun _ => xm_ok91, List.forall_mem_cons.mpr ⟨fun _ => xm_ok92, List.forall_mem_cons.mpr ⟨fun _ => xm_ok93, List.forall_mem_cons.mpr ⟨fun _ => xm_ok94, List.forall_mem_cons.mpr ⟨fun _ => xm_ok95, List.forall_mem_cons.mpr ⟨fun _ => xm_ok96, List.forall_mem_cons.mpr ⟨fun _ => xm_ok97, List.forall_mem_cons.mpr ⟨fun _ => xm_ok98, List.forall_mem_cons.mpr ⟨fun _ => xm_ok99, List.forall_mem_cons.mpr ⟨fun _ => xm_ok100, List.forall_mem_cons.mpr ⟨fun _ => xm_ok101, List.forall_mem_cons.mpr ⟨fun _ => xm_ok102, List.forall_mem_cons.mpr ⟨fun _ => xm_ok103, List.forall_mem_cons.mpr ⟨fun _ => xm_ok104, List.forall_mem_cons.mpr ⟨fun _ => xm_ok105, List.forall_mem_cons.mpr ⟨fun _ => xm_ok106, List.forall_mem_cons.mpr ⟨fun _ => xm_ok107, List.forall_mem_cons.mpr ⟨fun _ => xm_ok108, List.forall_mem_cons.mpr ⟨fun _ => xm_ok109, List.forall_mem_cons.mpr ⟨fun _ => xm_ok110, List.forall_mem_cons.mpr ⟨fun _ => xm_ok111, List.forall_mem_cons.mpr ⟨fun _ => xm_ok112, List.forall_mem_cons.mpr ⟨fun _ => xm_ok113, List.forall_mem_cons.mpr ⟨fun _ => xm_ok114, List.forall_mem_cons.mpr ⟨fun _ => xm_ok115, List.forall_mem_cons.mpr ⟨fun _ => xm_ok116, List.forall_mem_cons.mpr ⟨fun _ => xm_ok117, List.forall_mem_cons.mpr ⟨fun _ => xm_ok118, List.forall_mem_cons.mpr ⟨fun _ => xm_ok119, List.forall_mem_cons.mpr ⟨fun _ => xm_ok120, List.forall_mem_cons.mpr ⟨fun _ => xm_ok121, List.forall_mem_cons.mpr ⟨fun _ => xm_ok122, List.forall_mem_cons.mpr ⟨fun _ => xm_ok123, List.forall_mem_cons.mpr ⟨fun _ => xm_ok124, List.forall_mem_cons.mpr ⟨fun _ => xm_ok125, List.forall_mem_cons.mpr ⟨fun _ => xm_ok126, List.forall_mem_cons.mpr ⟨fun _ => xm_ok127, List.forall_mem_cons.mpr ⟨fun _ => xm_ok128, List.forall_mem_cons.mpr ⟨fun _ => xm_ok129, List.forall_mem_cons.mpr ⟨fun _ => xm_ok130, List.forall_mem_cons.mpr ⟨fun _ => xm_ok131, List.forall_mem_cons.mpr ⟨fun _ => xm_ok132, List.forall_mem_cons.mpr ⟨fun _ => xm_ok133, List.forall_mem_cons.mpr ⟨fun _ => xm_ok134, List.forall_mem_cons.mpr ⟨fun _ => xm_ok135, List.forall_mem_cons.mpr ⟨fun _ => xm_ok136, List.forall_mem_cons.mpr ⟨fun _ => xm_ok137, List.forall_mem_cons.mpr ⟨fun _ => xm_ok138, List.forall_mem_cons.mpr ⟨fun _ => xm_ok139, List.forall_mem_cons.mpr ⟨fun _ => xm_ok140, List.forall_mem_cons.mpr ⟨fun _ => xm_ok141, List.forall_mem_cons.mpr ⟨fun _ => xm_ok142, List.forall_mem_cons.mpr ⟨fun _ => xm_ok143, List.forall_mem_cons.mpr ⟨fun _ => xm_ok144, List.forall_mem_cons.mpr ⟨fun _ => xm_ok145, List.forall_mem_cons.mpr ⟨fun _ => xm_ok146, List.forall_mem_cons.mpr ⟨fun _ => xm_ok147, List.forall_mem_cons.mpr ⟨fun _ => xm_ok148, List.forall_mem_cons.mpr ⟨fun _ => xm_ok149, List.forall_mem_cons.mpr ⟨fun _ => xm_ok150, List.forall_mem_cons.mpr ⟨fun _ => xm_ok151, List.forall_mem_cons.mpr ⟨fun _ => xm_ok152, List.forall_mem_cons.mpr ⟨fun _ => xm_ok153, List.forall_mem_cons.mpr ⟨fun _ => xm_ok154, List.forall_mem_cons.mpr ⟨fun _ => xm_ok155, List.forall_mem_cons.mpr ⟨fun _ => xm_ok156, List.forall_mem_cons.mpr ⟨fun _ => xm_ok157, List.forall_mem_cons.mpr ⟨fun _ => xm_ok158, List.forall_mem_cons.mpr ⟨fun _ => xm_ok159, List.forall_mem_cons.mpr ⟨fun _ => xm_ok160, List.forall_mem_cons.mpr ⟨fun _ => xm_ok161, List.forall_mem_cons.mpr ⟨fun _ => xm_ok162, List.forall_mem_cons.mpr ⟨fun _ => xm_ok163, List.forall_mem_cons.mpr ⟨fun _ => xm_ok164, List.forall_mem_cons.mpr ⟨fun _ => xm_ok165, List.forall_mem_cons.mpr ⟨fun _ => xm_ok166, List.forall_mem_cons.mpr ⟨fun _ => xm_ok167, List.forall_mem_cons.mpr ⟨fun _ => xm_ok168, List.forall_mem_cons.mpr ⟨fun _ => xm_ok169, List.forall_mem_cons.mpr ⟨fun _ => xm_ok170, List.forall_mem_cons.mpr ⟨fun _ => xm_ok171, List.forall_mem_cons.mpr ⟨fun _ => xm_ok172, List.forall_mem_cons.mpr ⟨fun _ => xm_ok173, List.forall_mem_cons.mpr ⟨fun _ => xm_ok174, List.forall_mem_cons.mpr ⟨fun _ => xm_ok175, List.forall_mem_cons.mpr ⟨fun _ => xm_ok176, List.forall_mem_cons.mpr ⟨fun _ => xm_ok177, List.forall_mem_cons.mpr ⟨fun _ => xm_ok178, List.forall_mem_cons.mpr ⟨fun _ => xm_ok179, List.forall_mem_cons.mpr ⟨fun _ => xm_ok180, List.forall_mem_cons.mpr ⟨fun _ => xm_ok181, List.forall_mem_cons.mpr ⟨fun _ => xm_ok182, List.forall_mem_cons.mpr ⟨fun _ => xm_ok183, List.forall_mem_cons.mpr ⟨fun _ => xm_ok184, List.forall_mem_cons.mpr ⟨fun _ => xm_ok185, List.forall_mem_cons.mpr ⟨fun _ => xm_ok186, List.forall_mem_cons.mpr ⟨fun _ => xm_ok187, List.forall_mem_cons.mpr ⟨fun _ => xm_ok188, List.forall_mem_cons.mpr ⟨fun _ => xm_ok189, List.forall_mem_cons.mpr ⟨fun _ => xm_ok190, List.forall_mem_cons.mpr ⟨fun _ => xm_ok191, List.forall_mem_cons.mpr ⟨fun _ => xm_ok192, List.forall_mem_cons.mpr ⟨fun _ => xm_ok193, List.forall_mem_cons.mpr ⟨fun _ => xm_ok194, List.forall_mem_cons.mpr ⟨fun _ => xm_ok195, List.forall_mem_cons.mpr ⟨fun _ => xm_ok196, List.forall_mem_cons.mpr ⟨fun _ => xm_ok197, List.forall_mem_cons.mpr ⟨fun _ => xm_ok198, List.forall_mem_cons.mpr ⟨fun _ => xm_ok199, List.forall_mem_cons.mpr ⟨fun _ => xm_ok200, List.forall_mem_cons.mpr ⟨fun _ => xm_ok201, List.forall_mem_cons.mpr ⟨fun _ => xm_ok202, List.forall_mem_cons.mpr ⟨fun _ => xm_ok203, List.forall_mem_cons.mpr ⟨fun _ => xm_ok204, List.forall_mem_cons.mpr ⟨fun _ => xm_ok205, List.forall_mem_cons.mpr ⟨fun _ => xm_ok206, List.forall_mem_cons.mpr ⟨fun _ => xm_ok207, List.forall_mem_cons.mpr ⟨fun _ => xm_ok208, List.forall_mem_cons.mpr ⟨fun _ => xm_ok209, List.forall_mem_cons.mpr ⟨fun _ => xm_ok210, List.forall_mem_cons.mpr ⟨fun _ => xm_ok211, List.forall_mem_cons.mpr ⟨fun _ => xm_ok212, List.forall_mem_cons.mpr ⟨fun _ => xm_ok213, List.forall_mem_cons.mpr ⟨fun _ => xm_ok214, List.forall_mem_cons.mpr ⟨fun _ => xm_ok215, List.forall_mem_cons.mpr ⟨fun _ => xm_ok216, List.forall_mem_cons.mpr ⟨fun _ => xm_ok217, List.forall_mem_cons.mpr ⟨fun _ => xm_ok218, List.forall_mem_cons.mpr ⟨fun _ => xm_ok219, List.forall_mem_cons.mpr ⟨fun _ => xm_ok220, List.forall_mem_cons.mpr ⟨fun _ => xm_ok221, List.forall_mem_cons.mpr ⟨fun _ => xm_ok222, List.forall_mem_cons.mpr ⟨fun _ => xm_ok223, List.forall_mem_cons.mpr ⟨fun _ => xm_ok224, List.forall_mem_cons.mpr ⟨fun _ => xm_ok225, List.forall_mem_cons.mpr ⟨fun _ => xm_ok226, List.forall_mem_cons.mpr ⟨fun _ => xm_ok227, List.forall_mem_cons.mpr ⟨fun _ => xm_ok228, List.forall_mem_cons.mpr ⟨fun _ => xm_ok229, List.forall_mem_cons.mpr ⟨fun _ => xm_ok230, List.forall_mem_cons.mpr ⟨fun _ => xm_ok231, List.forall_mem_cons.mpr ⟨fun _ => xm_ok232, List.forall_mem_cons.mpr ⟨fun _ => xm_ok233, List.forall_mem_cons.mpr ⟨fun _ => xm_ok234, List.forall_mem_cons.mpr ⟨fun _ => xm_ok235, List.forall_mem_cons.mpr ⟨fun _ => xm_ok236, List.forall_mem_cons.mpr ⟨fun _ => xm_ok237, List.forall_mem_cons.mpr ⟨fun _ => xm_ok238, List.forall_mem_cons.mpr ⟨fun _ => xm_ok239, List.forall_mem_cons.mpr ⟨fun _ => xm_ok240, List.forall_mem_cons.mpr ⟨fun _ => xm_ok241, List.forall_mem_cons.mpr ⟨fun _ => xm_ok242, List.forall_mem_cons.mpr ⟨fun _ => xm_ok243, List.forall_mem_cons.mpr ⟨fun _ => xm_ok244, List.forall_mem_cons.mpr ⟨fun _ => xm_ok245, List.forall_mem_cons.mpr ⟨fun _ => xm_ok246, List.forall_mem_cons.mpr ⟨fun _ => xm_ok247, List.forall_mem_cons.mpr ⟨fun _ => xm_ok248, List.forall_mem_cons.mpr ⟨fun _ => xm_ok249, List.forall_mem_cons.mpr ⟨fun _ => xm_ok250, List.forall_mem_cons.mpr ⟨fun _ => xm_ok251, List.forall_mem_cons.mpr ⟨fun _ => xm_ok252, List.forall_mem_cons.mpr ⟨fun _ => xm_ok253, List.forall_mem_cons.mpr ⟨fun _ => xm_ok254, List.forall_mem_cons.mpr ⟨fun _ => xm_ok255, List.forall_mem_cons.mpr ⟨fun _ => xm_ok256, List.forall_mem_cons.mpr ⟨fun _ => xm_ok257, List.forall_mem_cons.mpr ⟨fun _ => xm_ok258, List.forall_mem_cons.mpr ⟨fun _ => xm_ok259, List.forall_mem_cons.mpr ⟨fun _ => xm_ok260, List.forall_mem_cons.mpr ⟨fun _ => xm_ok261, List.forall_mem_cons.mpr ⟨fun _ => xm_ok262, List.forall_mem_cons.mpr ⟨fun _ => xm_ok263, List.forall_mem_cons.mpr ⟨fun _ => xm_ok264, List.forall_mem_cons.mpr ⟨fun _ => xm_ok265, List.forall_mem_cons.mpr ⟨fun _ => xm_ok266, List.forall_mem_cons.mpr ⟨fun _ => xm_ok267, List.forall_mem_cons.mpr ⟨fun _ => xm_ok268, List.forall_mem_cons.mpr ⟨fun _ => xm_ok269, List.forall_mem_cons.mpr ⟨fun _ => xm_ok270, List.forall_mem_cons.mpr ⟨fun _ => xm_ok271, List.forall_mem_cons.mpr ⟨fun _ => xm_ok272, List.forall_mem_cons.mpr ⟨fun _ => xm_ok273, List.forall_mem_cons.mpr ⟨fun _ => xm_ok274, List.forall_mem_cons.mpr ⟨fun _ => xm_ok275, List.forall_mem_cons.mpr ⟨fun _ => xm_ok276, List.forall_mem_cons.mpr ⟨fun _ => xm_ok277, List.forall_mem_cons.mpr ⟨fun _ => xm_ok278, List.forall_mem_cons.mpr ⟨fun _ => xm_ok279, List.forall_mem_cons.mpr ⟨fun _ => xm_ok280, List.forall_mem_cons.mpr ⟨fun _ => xm_ok281, List.forall_mem_cons.mpr ⟨fun _ => xm_ok282, List.forall_mem_cons.mpr ⟨fun _ => xm_ok283, List.forall_mem_cons.mpr ⟨fun _ => xm_ok284, List.forall_mem_cons.mpr ⟨fun _ => xm_ok285, List.forall_mem_cons.mpr ⟨fun _ => xm_ok286, List.forall_mem_cons.mpr ⟨fun _ => xm_ok287, List.forall_mem_cons.mpr ⟨fun h => absurd h (by decide), List.forall_mem_cons.mpr ⟨fun h => absurd h (by decide), List.forall_mem_cons.mpr ⟨fun h => absurd h (by decide), List.forall_mem_cons.mpr ⟨fun h => absurd h (by decide), List.forall_mem_cons.mpr ⟨fun _ => xm_ok292, fun _ h => absurd h List.not_mem_nil⟩⟩⟩⟩⟩⟩⟩⟩⟩⟩⟩⟩⟩⟩⟩⟩⟩⟩⟩⟩⟩⟩⟩⟩⟩⟩⟩⟩⟩⟩⟩⟩⟩⟩⟩⟩⟩⟩⟩⟩⟩⟩⟩⟩⟩⟩⟩⟩⟩⟩⟩⟩⟩⟩⟩⟩⟩⟩⟩⟩⟩⟩⟩⟩⟩⟩⟩⟩⟩⟩⟩⟩⟩⟩⟩⟩⟩⟩⟩⟩⟩⟩⟩⟩⟩⟩⟩⟩⟩⟩⟩⟩⟩⟩⟩⟩⟩⟩⟩⟩⟩⟩⟩⟩⟩⟩⟩⟩⟩⟩⟩⟩⟩⟩⟩⟩⟩⟩⟩⟩⟩⟩⟩⟩⟩⟩⟩⟩⟩⟩⟩⟩⟩⟩⟩⟩⟩⟩⟩⟩⟩⟩⟩⟩⟩⟩⟩⟩⟩⟩⟩⟩⟩⟩⟩⟩⟩⟩⟩⟩⟩⟩⟩⟩⟩⟩⟩⟩⟩⟩⟩⟩⟩⟩⟩⟩⟩⟩⟩⟩⟩⟩⟩⟩⟩⟩⟩⟩⟩⟩⟩⟩⟩⟩⟩⟩⟩⟩⟩⟩⟩⟩⟩⟩⟩⟩⟩⟩⟩⟩⟩⟩⟩⟩⟩⟩⟩⟩⟩⟩⟩⟩⟩⟩⟩⟩⟩⟩⟩⟩⟩⟩⟩⟩⟩⟩⟩⟩⟩⟩⟩⟩⟩⟩⟩⟩⟩⟩⟩⟩⟩⟩⟩⟩⟩⟩⟩⟩⟩⟩⟩⟩⟩⟩⟩⟩⟩⟩⟩⟩⟩⟩⟩⟩⟩⟩⟩⟩⟩⟩⟩⟩⟩⟩⟩⟩⟩⟩⟩⟩⟩⟩⟩
theorem xm_okall (g : Nat) (inf : xe_I) (h : xm_T[g]? = some inf) (hk : xe_ik inf ≤ 3) : xe_ok xm_T inf := xm_okall0 inf (List.mem_of_getElem? h) hk
theorem xm_no1 : xm_T.all (fun inf => decide (3 < xe_ik inf) || (xe_code inf).all (fun ins => match ins with | .invokestatic h => decide (h < 288) | _ => true)) = true := by decide +kernel
theorem xm_no2 : (List.range 288).all (fun h => match xm_T[h]? with | some f => decide (xe_ik f ≠ 4) | none => true) = true := by decide +kernel
theorem xm_no (g : Nat) (inf : xe_I) (h : xm_T[g]? = some inf) (hk : xe_ik inf ≤ 3) (i q : Nat) (hc : (xe_code inf)[i]? = some (Instr.invokestatic q)) (inf' : xe_I) (h' : xm_T[q]? = some inf') : xe_ik inf' ≠ 4 := by
  have h1 := List.all_eq_true.mp xm_no1 inf (List.mem_of_getElem? h)
  rw [Bool.or_eq_true, decide_eq_true_eq] at h1
  rcases h1 with h1 | h1
  · omega
  · have h2 := of_decide_eq_true (List.all_eq_true.mp h1 _ (List.mem_of_getElem? hc))
    have h3 := List.all_eq_true.mp xm_no2 q (List.mem_range.mpr h2)
    rw [h'] at h3
    exact of_decide_eq_true h3
theorem xm_cls3a : xm_T.all (fun inf => decide (xe_ik inf ≠ 3) || (decide ((xe_iy inf).cls = "NinthDayHooded") && plainName (xe_iy inf).cls && decide (xe_im inf = 1) && decide (xe_is inf = 6))) = true := by decide +kernel
theorem xm_cls3 (g : Nat) (inf : xe_I) (h : xm_T[g]? = some inf) (hk : xe_ik inf = 3) : (xe_iy inf).cls = "NinthDayHooded" ∧ plainName (xe_iy inf).cls = true ∧ xe_im inf = 1 ∧ xe_is inf = 6 := by
  have h1 := List.all_eq_true.mp xm_cls3a inf (List.mem_of_getElem? h)
  simp only [Bool.or_eq_true, Bool.and_eq_true, decide_eq_true_eq] at h1
  rcases h1 with h1 | ⟨⟨⟨h1, h2⟩, h3⟩, h4⟩
  · exact absurd hk h1
  · exact ⟨h1, h2, h3, h4⟩
theorem xm_sys : xe_sys := by
  refine ⟨⟨xm_w_good (j := 662) (by decide +kernel) rfl, xm_w_good (j := 661) (by decide +kernel) rfl, xm_w_good (j := 150) (by decide +kernel) rfl⟩, ⟨xm_w_good (j := 163) (by decide +kernel) rfl, xm_w_good (j := 164) (by decide +kernel) rfl⟩, ?_⟩
  intro t ht
  rcases ht with rfl | rfl | rfl | rfl
  · exact xm_w_good (j := 1481) (by decide +kernel) rfl
  · exact xm_w_good (j := 180) (by decide +kernel) rfl
  · exact xm_w_good (j := 264) (by decide +kernel) rfl
  · exact xm_w_good (j := 336) (by decide +kernel) rfl
theorem xm_w4_0 : xe_ok4 xm_T xm_i288 [(0, 10, 13, 13)] := by
  refine ⟨xm_w_good (j := 1196) (by decide +kernel) rfl, xm_w_good (j := 135) (by decide +kernel) rfl, by decide +kernel, by decide +kernel, by decide, by decide, xm_w_good (j := 1195) (by decide +kernel) rfl, rfl, rfl, rfl, rfl, ⟨xm_cp xm_L14, xm_cpok xm_K14, fun i ins hi => ?_⟩, 0, 10, 13, 4, 7, rfl, by decide, fun i g hi => ?_⟩
  · have h1 : (xe_code xm_i288).zipIdx.all (fun q => xe_chk (xm_cp xm_L14) (xe_ib xm_i288) (xe_ik xm_i288) (xe_iy xm_i288).cls (xe_ir xm_i288) (xe_pcs xm_i288) q.2 q.1) = true := by decide +kernel
    exact List.all_eq_true.mp h1 (ins, i) (List.mem_zipIdx_iff_getElem?.mpr hi)
  · have h1 : (xe_code xm_i288).zipIdx.all (fun q => match q.1 with | .invokedynamic h => decide (q.2 = 5) && decide (h = 108) | _ => true) = true := by decide +kernel
    have h2 := List.all_eq_true.mp h1 (_, i) (List.mem_zipIdx_iff_getElem?.mpr hi)
    simp only [Bool.and_eq_true, decide_eq_true_eq] at h2
    obtain ⟨rfl, rfl⟩ := h2
    refine ⟨by decide, by decide, rfl, rfl, by decide +kernel, rfl, fun inf3 h3 => ?_⟩
    obtain rfl : xm_i108 = inf3 := Option.some.inj h3
    exact xm_w_good (j := 1198) (by decide +kernel) rfl
theorem xm_w4n_0 : ∀ (i h : Nat), (xe_code xm_i288)[i]? ≠ some (Instr.invokestatic h) := by
  intro i h hi
  have h1 : (xe_code xm_i288).all (fun q => match q with | .invokestatic _ => false | _ => true) = true := by decide +kernel
  have h2 := List.all_eq_true.mp h1 _ (List.mem_of_getElem? hi)
  cases h2
theorem xm_w4_1 : xe_ok4 xm_T xm_i289 [(0, 10, 13, 13)] := by
  refine ⟨xm_w_good (j := 1270) (by decide +kernel) rfl, xm_w_good (j := 135) (by decide +kernel) rfl, by decide +kernel, by decide +kernel, by decide, by decide, xm_w_good (j := 1269) (by decide +kernel) rfl, rfl, rfl, rfl, rfl, ⟨xm_cp xm_L14, xm_cpok xm_K14, fun i ins hi => ?_⟩, 0, 10, 13, 4, 15, rfl, by decide, fun i g hi => ?_⟩
  · have h1 : (xe_code xm_i289).zipIdx.all (fun q => xe_chk (xm_cp xm_L14) (xe_ib xm_i289) (xe_ik xm_i289) (xe_iy xm_i289).cls (xe_ir xm_i289) (xe_pcs xm_i289) q.2 q.1) = true := by decide +kernel
    exact List.all_eq_true.mp h1 (ins, i) (List.mem_zipIdx_iff_getElem?.mpr hi)
  · have h1 : (xe_code xm_i289).zipIdx.all (fun q => match q.1 with | .invokedynamic h => decide (q.2 = 5) && decide (h = 114) | _ => true) = true := by decide +kernel
    have h2 := List.all_eq_true.mp h1 (_, i) (List.mem_zipIdx_iff_getElem?.mpr hi)
    simp only [Bool.and_eq_true, decide_eq_true_eq] at h2
    obtain ⟨rfl, rfl⟩ := h2
    refine ⟨by decide, by decide, rfl, rfl, by decide +kernel, rfl, fun inf3 h3 => ?_⟩
    obtain rfl : xm_i114 = inf3 := Option.some.inj h3
    exact xm_w_good (j := 1271) (by decide +kernel) rfl
theorem xm_w4n_1 : ∀ (i h : Nat), (xe_code xm_i289)[i]? ≠ some (Instr.invokestatic h) := by
  intro i h hi
  have h1 : (xe_code xm_i289).all (fun q => match q with | .invokestatic _ => false | _ => true) = true := by decide +kernel
  have h2 := List.all_eq_true.mp h1 _ (List.mem_of_getElem? hi)
  cases h2
theorem xm_w4_2 : xe_ok4 xm_T xm_i290 [(0, 10, 13, 13)] := by
  refine ⟨xm_w_good (j := 1279) (by decide +kernel) rfl, xm_w_good (j := 135) (by decide +kernel) rfl, by decide +kernel, by decide +kernel, by decide, by decide, xm_w_good (j := 1278) (by decide +kernel) rfl, rfl, rfl, rfl, rfl, ⟨xm_cp xm_L14, xm_cpok xm_K14, fun i ins hi => ?_⟩, 0, 10, 13, 4, 18, rfl, by decide, fun i g hi => ?_⟩
  · have h1 : (xe_code xm_i290).zipIdx.all (fun q => xe_chk (xm_cp xm_L14) (xe_ib xm_i290) (xe_ik xm_i290) (xe_iy xm_i290).cls (xe_ir xm_i290) (xe_pcs xm_i290) q.2 q.1) = true := by decide +kernel
    exact List.all_eq_true.mp h1 (ins, i) (List.mem_zipIdx_iff_getElem?.mpr hi)
  · have h1 : (xe_code xm_i290).zipIdx.all (fun q => match q.1 with | .invokedynamic h => decide (q.2 = 5) && decide (h = 142) | _ => true) = true := by decide +kernel
    have h2 := List.all_eq_true.mp h1 (_, i) (List.mem_zipIdx_iff_getElem?.mpr hi)
    simp only [Bool.and_eq_true, decide_eq_true_eq] at h2
    obtain ⟨rfl, rfl⟩ := h2
    refine ⟨by decide, by decide, rfl, rfl, by decide +kernel, rfl, fun inf3 h3 => ?_⟩
    obtain rfl : xm_i142 = inf3 := Option.some.inj h3
    exact xm_w_good (j := 1280) (by decide +kernel) rfl
theorem xm_w4n_2 : ∀ (i h : Nat), (xe_code xm_i290)[i]? ≠ some (Instr.invokestatic h) := by
  intro i h hi
  have h1 : (xe_code xm_i290).all (fun q => match q with | .invokestatic _ => false | _ => true) = true := by decide +kernel
  have h2 := List.all_eq_true.mp h1 _ (List.mem_of_getElem? hi)
  cases h2
theorem xm_w4_3 : xe_ok4 xm_T xm_i291 [(0, 9, 12, 13)] := by
  refine ⟨xm_w_good (j := 1286) (by decide +kernel) rfl, xm_w_good (j := 135) (by decide +kernel) rfl, by decide +kernel, by decide +kernel, by decide, by decide, xm_w_good (j := 1285) (by decide +kernel) rfl, rfl, rfl, rfl, rfl, ⟨xm_cp xm_L14, xm_cpok xm_K14, fun i ins hi => ?_⟩, 0, 9, 12, 3, 21, rfl, by decide, fun i g hi => ?_⟩
  · have h1 : (xe_code xm_i291).zipIdx.all (fun q => xe_chk (xm_cp xm_L14) (xe_ib xm_i291) (xe_ik xm_i291) (xe_iy xm_i291).cls (xe_ir xm_i291) (xe_pcs xm_i291) q.2 q.1) = true := by decide +kernel
    exact List.all_eq_true.mp h1 (ins, i) (List.mem_zipIdx_iff_getElem?.mpr hi)
  · have h1 : (xe_code xm_i291).zipIdx.all (fun q => match q.1 with | .invokedynamic h => decide (q.2 = 4) && decide (h = 169) | _ => true) = true := by decide +kernel
    have h2 := List.all_eq_true.mp h1 (_, i) (List.mem_zipIdx_iff_getElem?.mpr hi)
    simp only [Bool.and_eq_true, decide_eq_true_eq] at h2
    obtain ⟨rfl, rfl⟩ := h2
    refine ⟨by decide, by decide, rfl, rfl, by decide +kernel, rfl, fun inf3 h3 => ?_⟩
    obtain rfl : xm_i169 = inf3 := Option.some.inj h3
    exact xm_w_good (j := 1287) (by decide +kernel) rfl
theorem xm_w4n_3 : ∀ (i h : Nat), (xe_code xm_i291)[i]? ≠ some (Instr.invokestatic h) := by
  intro i h hi
  have h1 : (xe_code xm_i291).all (fun q => match q with | .invokestatic _ => false | _ => true) = true := by decide +kernel
  have h2 := List.all_eq_true.mp h1 _ (List.mem_of_getElem? hi)
  cases h2
theorem xm_only4 : xm_T.zipIdx.all (fun q => decide (xe_ik q.1 ≠ 4) || (decide (288 ≤ q.2) && decide (q.2 < 292))) = true := by decide +kernel
/-- the law's calls of the methods that catch -/
theorem xm_w4 (g : Nat) (inf : xe_I) (h : xm_T[g]? = some inf) (hk : xe_ik inf = 4) : ∃ hh, xe_ok4 xm_T inf hh ∧ ∀ (i h : Nat), (xe_code inf)[i]? ≠ some (Instr.invokestatic h) := by
  have h1 := List.all_eq_true.mp xm_only4 (inf, g) (List.mem_zipIdx_iff_getElem?.mpr h)
  simp only [Bool.or_eq_true, Bool.and_eq_true, decide_eq_true_eq] at h1
  have h2 : 288 ≤ g ∧ g < 292 := h1.elim (fun q => absurd hk q) id
  rcases (show g = 288 ∨ g = 289 ∨ g = 290 ∨ g = 291 by omega) with rfl | rfl | rfl | rfl
  · obtain rfl : xm_i288 = inf := Option.some.inj h
    exact ⟨_, xm_w4_0, xm_w4n_0⟩
  · obtain rfl : xm_i289 = inf := Option.some.inj h
    exact ⟨_, xm_w4_1, xm_w4n_1⟩
  · obtain rfl : xm_i290 = inf := Option.some.inj h
    exact ⟨_, xm_w4_2, xm_w4n_2⟩
  · obtain rfl : xm_i291 = inf := Option.some.inj h
    exact ⟨_, xm_w4_3, xm_w4n_3⟩
theorem xm_nn : tables_1.all (fun w => match w with | .methodLinkNest o _ _ _ => decide (o ≠ "NinthDayHoodedLaw") | _ => true) = true := by decide +kernel
section XEH
variable {p : Program} {e : Env} {s : State} {m : MethodId} {below : List Frame} {meth : Method} {c : Code}
theorem xe_classes {args : Array Value} {s : State} (hg : ∀ w ∈ xe_good, w.before args s = true) : ∃ w : Nat → ClassId × (Nat → Nat), ∀ (k : Nat) (q : vw_C), xe_cl[k]? = some q → u_Kn s q.1 q.2.1 q.2.2 (w k).1 (w k).2 := by
  have hex : ∀ k : Nat, ∃ w : ClassId × (Nat → Nat), ∀ q : vw_C, xe_cl[k]? = some q → u_Kn s q.1 q.2.1 q.2.2 w.1 w.2 := by
    intro k
    match k with
    | 0 =>
      obtain ⟨cC, iS, h⟩ := u_known (C := RX0) (T := TX0) (N := 9) (n := 9) hg (xm_u 0 _ rfl) (hg _ (xm_w_good (w := .instantiable RX0 9) (j := 344) (by decide +kernel) rfl))
      exact ⟨(cC, iS), fun q hq => by cases hq; exact h⟩
    | 1 =>
      obtain ⟨cC, iS, h⟩ := u_known (C := RX1) (T := TX1) (N := 5) (n := 5) hg (xm_u 1 _ rfl) (hg _ (xm_w_good (w := .instantiable RX1 5) (j := 266) (by decide +kernel) rfl))
      exact ⟨(cC, iS), fun q hq => by cases hq; exact h⟩
    | 2 =>
      obtain ⟨cC, iS, h⟩ := u_known (C := RX2) (T := TX2) (N := 5) (n := 5) hg (xm_u 2 _ rfl) (hg _ (xm_w_good (w := .instantiable RX2 5) (j := 197) (by decide +kernel) rfl))
      exact ⟨(cC, iS), fun q hq => by cases hq; exact h⟩
    | 3 =>
      obtain ⟨cC, iS, h⟩ := u_known (C := RX3) (T := TX3) (N := 2) (n := 2) hg (xm_u 3 _ rfl) (hg _ (xm_w_good (w := .instantiable RX3 2) (j := 182) (by decide +kernel) rfl))
      exact ⟨(cC, iS), fun q hq => by cases hq; exact h⟩
    | 4 =>
      obtain ⟨cC, iS, h⟩ := u_known (C := RX4) (T := TX4) (N := 12) (n := 12) hg (xm_u 4 _ rfl) (hg _ (xm_w_good (w := .instantiable RX4 12) (j := 294) (by decide +kernel) rfl))
      exact ⟨(cC, iS), fun q hq => by cases hq; exact h⟩
    | 5 =>
      obtain ⟨cC, iS, h⟩ := u_known (C := RX5) (T := TX5) (N := 6) (n := 6) hg (xm_u 5 _ rfl) (hg _ (xm_w_good (w := .instantiable RX5 6) (j := 229) (by decide +kernel) rfl))
      exact ⟨(cC, iS), fun q hq => by cases hq; exact h⟩
    | 6 =>
      obtain ⟨cC, iS, h⟩ := u_known (C := RX6) (T := TX6) (N := 11) (n := 11) hg (xm_u 6 _ rfl) (hg _ (xm_w_good (w := .instantiable RX6 11) (j := 405) (by decide +kernel) rfl))
      exact ⟨(cC, iS), fun q hq => by cases hq; exact h⟩
    | 7 =>
      obtain ⟨cC, iS, h⟩ := u_known (C := RX7) (T := TX7) (N := 2) (n := 2) hg (xm_u 7 _ rfl) (hg _ (xm_w_good (w := .instantiable RX7 2) (j := 166) (by decide +kernel) rfl))
      exact ⟨(cC, iS), fun q hq => by cases hq; exact h⟩
    | 8 =>
      obtain ⟨cC, iS, h⟩ := u_known (C := RX8) (T := TX8) (N := 4) (n := 4) hg (xm_u 8 _ rfl) (hg _ (xm_w_good (w := .instantiable RX8 4) (j := 476) (by decide +kernel) rfl))
      exact ⟨(cC, iS), fun q hq => by cases hq; exact h⟩
    | 9 =>
      obtain ⟨cC, iS, h⟩ := u_known (C := RX9) (T := TX9) (N := 5) (n := 5) hg (xm_u 9 _ rfl) (hg _ (xm_w_good (w := .instantiable RX9 5) (j := 338) (by decide +kernel) rfl))
      exact ⟨(cC, iS), fun q hq => by cases hq; exact h⟩
    | 10 =>
      obtain ⟨cC, iS, h⟩ := u_known (C := RX10) (T := TX10) (N := 6) (n := 6) hg (xm_u 10 _ rfl) (hg _ (xm_w_good (w := .instantiable RX10 6) (j := 449) (by decide +kernel) rfl))
      exact ⟨(cC, iS), fun q hq => by cases hq; exact h⟩
    | 11 =>
      obtain ⟨cC, iS, h⟩ := u_known (C := RX11) (T := TX11) (N := 11) (n := 11) hg (xm_u 11 _ rfl) (hg _ (xm_w_good (w := .instantiable RX11 11) (j := 158) (by decide +kernel) rfl))
      exact ⟨(cC, iS), fun q hq => by cases hq; exact h⟩
    | 12 =>
      obtain ⟨cC, iS, h⟩ := u_known (C := RX12) (T := TX12) (N := 61) (n := 61) hg (xm_u 12 _ rfl) (hg _ (xm_w_good (w := .instantiable RX12 61) (j := 1292) (by decide +kernel) rfl))
      exact ⟨(cC, iS), fun q hq => by cases hq; exact h⟩
    | n + 13 => exact ⟨(0, fun _ => 0), fun q hq => by simp [xe_cl] at hq⟩
  exact Classical.axiomOfChoice hex
theorem xe_arrs {args : Array Value} {s : State} (hg : ∀ w ∈ xe_good, w.before args s = true) (hAO : va_AO RX5 s) : ∃ ty : Nat → ClassId, ∀ (k : Nat) (q : ClassId × FieldType), (xe_T ty)[k]? = some q → ArrOfT s q.1 q.2 ∧ va_RA s q.1 q.2 := by
  obtain ⟨cB, kB, qB, b1, b2, b3⟩ := Cond.arrayClass_spec (hg _ (xm_sys.2.2 .byte (Or.inl rfl)))
  obtain ⟨cI, kI, qI, i1, i2, i3⟩ := Cond.arrayClass_spec (hg _ (xm_sys.2.2 .int (Or.inr (Or.inl rfl))))
  obtain ⟨cJ, kJ, qJ, j1, j2, j3⟩ := Cond.arrayClass_spec (hg _ (xm_sys.2.2 .long (Or.inr (Or.inr (Or.inl rfl)))))
  obtain ⟨cZ, kZ, qZ, z1, z2, z3⟩ := Cond.arrayClass_spec (hg _ (xm_sys.2.2 .boolean (Or.inr (Or.inr (Or.inr rfl)))))
  obtain ⟨comp, cS, kS, s1, -, s2, s3, s4⟩ := Cond.arrayOver_spec hAO
  refine ⟨fun k => match k with | 0 => cB | 1 => cI | 2 => cJ | 3 => cZ | _ => cS, fun k q hq => ?_⟩
  match k, hq with
  | 0, hq => cases hq; exact ⟨fun n z => ⟨fun k h => (by cases h), kB, b2, qB, b3⟩, b1⟩
  | 1, hq => cases hq; exact ⟨fun n z => ⟨fun k h => (by cases h), kI, i2, qI, i3⟩, i1⟩
  | 2, hq => cases hq; exact ⟨fun n z => ⟨fun k h => (by cases h), kJ, j2, qJ, j3⟩, j1⟩
  | 3, hq => cases hq; exact ⟨fun n z => ⟨fun k h => (by cases h), kZ, z2, qZ, z3⟩, z1⟩
  | 4, hq => cases hq; exact ⟨fun n z => ⟨fun k h => (by cases h), kS, s2, comp, s3⟩, kS, comp, s2, s3, s1, s4⟩
  | n + 5, hq => simp [xe_T] at hq
/-- what the logic owes: from its entry the law comes to an end with 1 -/
def xe_pure : Prop := ∀ (L : Nat) (xs : Nat → Int32), L ≤ 2560 → xe_Ev xm_T (xe_Call xm_T 200) xm_law (fun v _ _ => v = some (.int 1)) 0 (xe_entry 7 [.ref 0]) [] 601024 7293034 1 (xe_M0 L xs)
set_option maxHeartbeats 8000000 in
theorem xe_start (hpure : xe_pure) (l : Launch) (hflags : l.flags = flags0) {b L : Nat} {xs : Nat → Int32} (hL : L ≤ 2560) (C0 : lw_At p s m meth c b L xs) : W p l e room_1 s m #[Value.ref b] below meth c s.heap [] 0 0 (lw_Z below #[Value.ref b] s) (entryFrame m ([Value.ref b] : List Value).toArray 7) := by
  obtain ⟨hx, hb, hr, hml, hown, hts, hX, hbl, hlocks, hgv⟩ := id C0
  have hg : ∀ w ∈ xe_good, w.before #[Value.ref b] s = true := fun w hw => hts w (List.mem_filter.mp hw).1
  have hAO : va_AO RX5 s := va_AO.of (hts (.arrayOver (.object RX5)) (List.mem_of_getElem? (i := 272) (by decide +kernel)))
  obtain ⟨w, hw⟩ := xe_classes hg
  obtain ⟨ty, hty⟩ := xe_arrs hg hAO
  have hE : xe_E (fun k => (w k).1, fun k => (w k).2) ty s := by
    refine ⟨⟨hw, hty⟩, fun v hv => ?_, hAO, ?_⟩
    · have h2 := List.mem_filter.mp hv
      have h3 := hts v (List.mem_append_right _ h2.1)
      have h4 := h2.2
      cases v <;> first | exact va_Nw.of rfl h3 | cases h4
    · simp only [xe_exw, List.forall_mem_cons]
      exact ⟨va_Nw.of rfl (hts _ (List.mem_of_getElem? (i := 1204) (by decide +kernel))), va_Nw.of rfl (hts _ (List.mem_of_getElem? (i := 1205) (by decide +kernel))), va_Nw.of rfl (hts _ (List.mem_of_getElem? (i := 1207) (by decide +kernel))), va_Nw.of rfl (hts _ (List.mem_of_getElem? (i := 1209) (by decide +kernel))), fun _ h => by cases h⟩
  have hs := flat_of_before _ hgv
  have hnA : ∀ a : Nat, a < s.heap.size → ¬ xe_A s.heap.size a := fun a h => Nat.not_le.mpr h
  have hUx : xe_Ux s.heap.size s s.heap := ⟨vx_Zqof (hts _ (List.mem_of_getElem? (i := 1229) (by decide +kernel))) (hts _ (List.mem_of_getElem? (i := 152) (by decide +kernel))) (hs _ (by decide +kernel)) hnA, vx_Zqof (hts _ (List.mem_of_getElem? (i := 1231) (by decide +kernel))) (hts _ (List.mem_of_getElem? (i := 152) (by decide +kernel))) (hs _ (by decide +kernel)) hnA⟩
  have hl : l.stackTraces = false := by
    unfold Launch.stackTraces
    rw [hflags]
    decide +kernel
  have hok2 : ∀ (g : Nat) (inf : xe_I), xm_T[g]? = some inf → xe_ik inf ≤ 2 → xe_ok xm_T inf := fun g inf h1 h2 => xm_okall g inf h1 (by omega)
  have IH : xe_Mets l (fun k => (w k).1, fun k => (w k).2) ty b s.heap.size L xs xm_T 200 := xe_met hok2 (fun g inf h1 h2 => xm_no g inf h1 (by omega)) xm_sys 200
  have hRf : 200 + 9 ≤ room_1.frames := by decide
  have hRl : 64 * 200 + 464 ≤ room_1.locals := by decide
  have hl0 := lv_entry ([.ref b]) (n := 7) (Nat.le_of_ble_eq_true rfl)
  rw [lg_entry_eq]
  generalize (lg_sl ([.ref b]) ++ List.replicate (7 - (lg_sl ([.ref b])).length) Slot.unset).toArray = ls at hl0 ⊢
  have hl2 : lv_has ls 7 (xe_l b s.heap.size (xe_entry 7 [.ref 0])) := xe_entry_l (a := [.ref 0]) (by decide) hl0
  have key := hpure L xs hL (xe_X p l e room_1 s m #[Value.ref b] below meth c (lw_Z below #[Value.ref b] s) (fun k => (w k).1, fun k => (w k).2) ty b s.heap.size L xs 7 xm_lawp)
    (xe_sound (own := "NinthDayHoodedLaw") (kind := 5) (ret := ret) (cp := xm_cp xm_L14) hx hb hml hown hg hE hX hbl (Nat.le_refl _) (fun q => absurd q (by decide)) (xm_cpok xm_K14) (by decide) (by decide) xm_sys.1 xm_sys.2.1 xm_sys.2.2
      (xe_callV hx hb hml hown hg hE hUx hX hbl (Nat.le_refl _) hok2 hRf hRl IH)
      (xe_callN hx hb hml hown hg hE hUx hX hbl (Nat.le_refl _) hok2 hRf hRl IH)
      (fun i2 g2 inf2 As z2 M2 P2 idx q0 q1 q2 q3 q4 q5 q6 => ?_)
      (fun x z2 M2 H locs ls cells slots pc hr => absurd hr (by decide))
      (fun x z2 M2 H locs ls cells slots pc hrr hx1 hdg hq hS hH hc hs => ?_)
      (fun z2 M2 H locs ls cells slots pc hr => absurd hr (by decide))
      (fun i2 st2 z2 M2 H locs ls cells slots q7 => absurd q7 (by decide))
      (fun i2 g2 dl2 st2 kc2 ks2 z2 M2 q7 => absurd q7 (by decide))
      xm_lawchk)
    s.heap [] ls 0 0 va_S.rf ⟨fun k q h => by simp [xe_W] at h, rfl, Nat.le_refl _, fun _ => rfl⟩ hl2 rfl (Nat.le_of_ble_eq_true rfl) (Nat.le_of_ble_eq_true rfl)
  · exact key
  · rcases q2 with q2 | q2
    · exact xe_callS hx hb hml hown hg hE hUx hX hbl (Nat.le_refl _) hok2 hRf hRl IH g2 inf2 As z2 M2 P2 idx q1 q2 q3 q4 q5 q6
    · obtain ⟨hh, ok4, hnst⟩ := xm_w4 g2 inf2 q1 q2
      obtain ⟨o1, o2, o3, o4, o5, o6, o7, o8, o9, o10, o11, o12, o13⟩ := id ok4
      have hMet := xe_wmet (l := l) (D := (fun k => (w k).1, fun k => (w k).2)) (ty := ty) (b := b) (base := s.heap.size) (L := L) (xs := xs) xm_okall xm_no xm_sys hl xm_cls3 198 g2 inf2 hh As z2 M2 P2 q1 q2 ok4 hnst q3 q4 q6
      intro H locs ls cells slots pc rest hS hH hls hcl hsl hcat hdg
      refine ⟨(As.map (xe_v b s.heap.size)).toArray, ?_⟩
      have hsig : ∀ sig, parseMethodDescriptor (xe_iy inf2).desc = some sig → xe_in inf2 = sig.parameters.length := fun sig h => by
        have h2 := o4.2.2
        rw [h] at h2
        exact (Option.some.inj h2).symm
      have hG : GoodIn xe_good (xe_ws4 inf2 hh) := fun w hw => by
        rcases List.mem_cons.mp hw with rfl | hw
        · exact ⟨o1, xe_good_w o1⟩
        · exact xe_good_in w hw
      have hp : PreS s H (xe_Pc (fun k => (w k).1, fun k => (w k).2) ty b s.heap.size L xs As z2 M2) (As.map (xe_v b s.heap.size)) := ⟨xe_blind, fun U hU hW => xe_pcU hE hUx hX hbl (Nat.le_refl _) hS hH U hU hW⟩
      rcases q5 with q5 | ⟨host, q5⟩
      · exact vx_runSW (n := xe_in inf2) (hh := hh) ⟨hx, hb, hml, hown, hg⟩ hMet ⟨⟨rfl, rfl, (by show 200 + 8 + 1 ≤ 2048; decide), (by show 8 + (xe_iL inf2 + 11) + (64 * 200 + 400) ≤ 84000; omega), pay_in hg hG, List.mem_cons_self⟩, hg _ o1, hg _ o2, ⟨o4.1, o4.2.1⟩, hsig, hg _ q5, hg _ o7⟩ hp rfl (by rw [List.length_map]; exact q3) hls rfl (by show 2 * 0 + _ ≤ 8; omega) hdg ⟨hcl, hsl⟩
      · exact absurd rfl (of_decide_eq_true (List.all_eq_true.mp xm_nn _ (List.mem_filter.mp q5).1))
  · have hq : some (Value.int x) = some (.int 1) := hq
    cases hq
    refine va_forget (fun q hq => hS.2.2 q hq) (W.widen hc hs ?_)
    exact lw_ret hx hb hr hlocks hdg
end XEH
