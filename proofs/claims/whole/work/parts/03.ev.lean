theorem zz_methodLink : lw_tbl.all (fun w => match w with | .methodLink _ _ _ => goodWord w | _ => true) = true := by decide +kernel
theorem zz_code : lw_tbl.all (fun w => match w with | .code _ _ _ _ => goodWord w | _ => true) = true := by decide +kernel
theorem zz_instanceMethod : lw_tbl.all (fun w => match w with | .instanceMethod _ => goodWord w | _ => true) = true := by decide +kernel
theorem zz_selects : lw_tbl.all (fun w => match w with | .selects _ _ _ => goodWord w | _ => true) = true := by decide +kernel
theorem zz_fieldLink : lw_tbl.all (fun w => match w with | .fieldLink _ _ _ _ _ => goodWord w | _ => true) = true := by decide +kernel
theorem zz_static : lw_tbl.all (fun w => match w with | .static _ => goodWord w | _ => true) = true := by decide +kernel
theorem zz_lays : lw_tbl.all (fun w => match w with | .lays _ _ _ _ => goodWord w | _ => true) = true := by decide +kernel
theorem zz_soleField : lw_tbl.all (fun w => match w with | .soleField _ _ => goodWord w | _ => true) = true := by decide +kernel
theorem zz_privateMethod : lw_tbl.all (fun w => match w with | .privateMethod _ => goodWord w | _ => true) = true := by decide +kernel
theorem zz_laysFinal : lw_tbl.all (fun w => match w with | .laysFinal _ _ _ _ => goodWord w | _ => true) = true := by decide +kernel
theorem zz_initialized : lw_tbl.all (fun w => match w with | .initialized _ => goodWord w | _ => true) = true := by decide +kernel
theorem zz_codeWith : lw_tbl.all (fun w => match w with | .codeWith _ _ _ _ _ => goodWord w | _ => true) = true := by decide +kernel
theorem zz_castable : lw_tbl.all (fun w => match w with | .castable _ _ => goodWord w | _ => true) = true := by decide +kernel
theorem zz_classLink : lw_tbl.all (fun w => match w with | .classLink _ _ _ => goodWord w | _ => true) = true := by decide +kernel
theorem zz_instantiable : lw_tbl.all (fun w => match w with | .instantiable _ _ => goodWord w | _ => true) = true := by decide +kernel
theorem zz_superclass : lw_tbl.all (fun w => match w with | .superclass _ _ => goodWord w | _ => true) = true := by decide +kernel
theorem zz_laysStatic : lw_tbl.all (fun w => match w with | .laysStatic _ _ _ => goodWord w | _ => true) = true := by decide +kernel
theorem zz_constantLong : lw_tbl.all (fun w => match w with | .constantLong _ _ _ => goodWord w | _ => true) = true := by decide +kernel
theorem zz_methodLinkNest : lw_tbl.all (fun w => match w with | .methodLinkNest _ _ _ _ => goodWord w | _ => true) = true := by decide +kernel
theorem zz_declares : lw_tbl.all (fun w => match w with | .declares _ => goodWord w | _ => true) = true := by decide +kernel
theorem zz_constant : lw_tbl.all (fun w => match w with | .constant _ _ _ => goodWord w | _ => true) = true := by decide +kernel
theorem zz_arrayClass : lw_tbl.all (fun w => match w with | .arrayClass _ => goodWord w | _ => true) = true := by decide +kernel
theorem zz_stringRef : lw_tbl.all (fun w => match w with | .stringRef _ _ _ => goodWord w | _ => true) = true := by decide +kernel
theorem zz_sameMethod : lw_tbl.all (fun w => match w with | .sameMethod _ _ _ _ => goodWord w | _ => true) = true := by decide +kernel
theorem zz_native : lw_tbl.all (fun w => match w with | .native _ => goodWord w | _ => true) = true := by decide +kernel
theorem zz_arrayOver : lw_tbl.all (fun w => match w with | .arrayOver _ => goodWord w | _ => true) = true := by decide +kernel
theorem zz_codeSync : lw_tbl.all (fun w => match w with | .codeSync _ _ _ _ => goodWord w | _ => true) = true := by decide +kernel
theorem zz_len : k2_sels lw_privs ++ tables_1 = lw_tbl ∧ lw_tbl.length = 1862 ∧ (k2_sels lw_privs).length = 65 := by decide +kernel
