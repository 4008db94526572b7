section RS
set_option maxRecDepth 16384 in
theorem r_c_11_4 : ((tables_1_11.drop 160).take 40).all (fun c => su_isCode c || c.before start1.args0 r_about) = true := by decide +kernel
set_option maxRecDepth 16384 in
theorem r_c_11_5 : (tables_1_11.drop 200).all (fun c => su_isCode c || c.before start1.args0 r_about) = true := by decide +kernel
set_option maxRecDepth 16384 in
theorem r_c_12_0 : (tables_1_12.take 40).all (fun c => su_isCode c || c.before start1.args0 r_about) = true := by decide +kernel
set_option maxRecDepth 16384 in
theorem r_c_12_1 : ((tables_1_12.drop 40).take 40).all (fun c => su_isCode c || c.before start1.args0 r_about) = true := by decide +kernel
set_option maxRecDepth 16384 in
theorem r_c_12_2 : ((tables_1_12.drop 80).take 40).all (fun c => su_isCode c || c.before start1.args0 r_about) = true := by decide +kernel
set_option maxRecDepth 16384 in
theorem r_c_12_3 : ((tables_1_12.drop 120).take 40).all (fun c => su_isCode c || c.before start1.args0 r_about) = true := by decide +kernel
set_option maxRecDepth 16384 in
theorem r_c_12_4 : ((tables_1_12.drop 160).take 40).all (fun c => su_isCode c || c.before start1.args0 r_about) = true := by decide +kernel
set_option maxRecDepth 16384 in
theorem r_c_12_5 : (tables_1_12.drop 200).all (fun c => su_isCode c || c.before start1.args0 r_about) = true := by decide +kernel
end RS
