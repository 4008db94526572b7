section RS
set_option maxRecDepth 16384 in
theorem r_c_3_4 : ((tables_1_3.drop 160).take 40).all (fun c => su_isCode c || c.before start1.args0 r_about) = true := by decide +kernel
set_option maxRecDepth 16384 in
theorem r_c_3_5 : (tables_1_3.drop 200).all (fun c => su_isCode c || c.before start1.args0 r_about) = true := by decide +kernel
set_option maxRecDepth 16384 in
theorem r_c_4_0 : (tables_1_4.take 40).all (fun c => su_isCode c || c.before start1.args0 r_about) = true := by decide +kernel
set_option maxRecDepth 16384 in
theorem r_c_4_1 : ((tables_1_4.drop 40).take 40).all (fun c => su_isCode c || c.before start1.args0 r_about) = true := by decide +kernel
set_option maxRecDepth 16384 in
theorem r_c_4_2 : ((tables_1_4.drop 80).take 40).all (fun c => su_isCode c || c.before start1.args0 r_about) = true := by decide +kernel
set_option maxRecDepth 16384 in
theorem r_c_4_3 : ((tables_1_4.drop 120).take 40).all (fun c => su_isCode c || c.before start1.args0 r_about) = true := by decide +kernel
set_option maxRecDepth 16384 in
theorem r_c_4_4 : ((tables_1_4.drop 160).take 40).all (fun c => su_isCode c || c.before start1.args0 r_about) = true := by decide +kernel
set_option maxRecDepth 16384 in
theorem r_c_4_5 : (tables_1_4.drop 200).all (fun c => su_isCode c || c.before start1.args0 r_about) = true := by decide +kernel
end RS
