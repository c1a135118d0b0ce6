/** Section 3 of the document, WHAT IS WORKED: operators, words, parts, iters, targets, calls and points at their edges. */
public final class WorkEdges extends Checks {
    /** One value of each kind, in variables. */
    private static final String KINDS = "var o, t, w, a, s, u, e, m; t := true; w := 5; a := newat; s := \"ab\"; u := [7, 8]; e := {1, 2}; m := {[1, 2]}; ";
    private static final String[] ALL = {"o", "t", "w", "a", "s", "u", "e", "m"};

    /** An exp with @ for a variable: it errs with 1 for those of all kinds but these. */
    private static void onlyFor(String exp, String... kinds) {
        String able = " " + String.join(" ", kinds) + " ";
        for (String kind : ALL) {
            String answer = worked(exp.replace("@", kind));
            due(12, exp + " of " + kind, answer.equals("!1"), !able.contains(" " + kind + " "));
        }
    }

    // ------------------------------------------------ operators

    private static void kindsOfOperators() {
        ended(KINDS);
        onlyFor("w + @", "w");
        onlyFor("s + @", "s");
        onlyFor("u + @", "u");
        onlyFor("e + @", "e", "m");
        onlyFor("o + @");
        onlyFor("t + @");
        onlyFor("a + @");
        onlyFor("w - @", "w");
        onlyFor("e - @", "e", "m");
        onlyFor("s - @");
        onlyFor("u - @");
        onlyFor("w * @", "w");
        onlyFor("e * @", "e", "m");
        onlyFor("s * @", "w");
        onlyFor("u * @", "w");
        onlyFor("@ * w", "w", "s", "u");
        onlyFor("@ div w", "w");
        onlyFor("w div @", "w");
        onlyFor("@ mod w", "w");
        onlyFor("w mod @", "w");
        onlyFor("@ ** w", "w");
        onlyFor("w ** @", "w");
        for (String sign : new String[] {"<", "<=", ">", ">="}) {
            onlyFor("w " + sign + " @", "w");
            onlyFor("s " + sign + " @", "s");
            onlyFor("e " + sign + " @");
            onlyFor("a " + sign + " @");
            onlyFor("t " + sign + " @");
        }
        onlyFor("@ = @", ALL);
        onlyFor("@ /= w", ALL);
        onlyFor("w in @", "u", "e", "m");
        onlyFor("s in @", "s", "u", "e", "m");
        onlyFor("@ in s", "s");
        onlyFor("@ notin s", "s");
        onlyFor("@ in u", ALL);
        onlyFor("@ in e", ALL);
        onlyFor("@ notin e", ALL);
        onlyFor("@ subset e", "e", "m");
        onlyFor("e subset @", "e", "m");
        onlyFor("- @", "w");
        onlyFor("# @", "s", "u", "e", "m");
        for (String way : new String[] {"+", "*", "max", "min"}) {
            onlyFor(way + " / @", "u", "e", "m");
        }
    }

    private static void kindsOfWords() {
        ended(KINDS);
        onlyFor("abs(@)", "w");
        onlyFor("arb(@)", "e", "m");
        onlyFor("domain(@)", "m");
        onlyFor("range(@)", "m");
        onlyFor("pow(@)", "e", "m");
        onlyFor("type(@)", ALL);
        onlyFor("str(@)", ALL);
        onlyFor("char(@)", "w");
        onlyFor("code(@)", "s");
        onlyFor("rev(@)", "s", "u");
        onlyFor("random(@)", "w", "s", "u", "e", "m");
        onlyFor("{w .. @}", "w");
        onlyFor("[@ .. w]", "w");
        onlyFor("{1, @ .. w}", "w");
        onlyFor("[@, 2 .. w]", "w");
        onlyFor("[1, 2 .. @]", "w");
        onlyFor("@(1)", "s", "u", "m");
        onlyFor("u(@)", "w");
        onlyFor("s(@)", "w");
        onlyFor("m(@)", ALL);
        onlyFor("@{1}", "m");
        onlyFor("m{@}", ALL);
        onlyFor("@(1 .. 1)", "s", "u");
        onlyFor("u(@ .. 2)", "w");
        onlyFor("u(1 .. @)", "w");
        onlyFor("s(1 .. @)", "w");
        onlyFor("{for x in @ : 1}", "s", "u", "e", "m");
        onlyFor("exists x in @ | true", "s", "u", "e", "m");
        onlyFor("{for [x, y] in [@] : 1}", "o", "u");
        exps(12, "{}(1)", "om", "{}{1}", "{}", "domain({})", "{}", "range({})", "{}", "{[1, 2], [1]}(1)", "!1", "{[1, 2], [1, 2, 3]}(1)", "!1", "domain({[1, 2], 3})", "!1", "range({[1, 2, 3]})", "!1",
            "[type(o), type(t), type(w), type(a), type(s), type(u), type(e)]", "[\"om\", \"truth\", \"whole\", \"atom\", \"string\", \"tuple\", \"set\"]");
    }

    private static void truthsAreWanted() {
        ended(KINDS);
        for (String kind : ALL) {
            String answer = kind.equals("t") ? "true" : "!9";
            exps(12, kind + " and true", answer, "true and " + kind, answer, kind + " or false", answer, "false or " + kind, answer, "not not " + kind, answer,
                "if " + kind + " then true else false end", answer, "exists x in {1} | " + kind, answer, "forall x in {1} | " + kind, answer,
                "{for x in {1} | " + kind + " : x} = {1}", answer, "if false then 1 elseif " + kind + " then true else 1 end", answer);
            exps(12, "false and " + kind, "false", "true or " + kind, "true", "exists x in {} | " + kind, "false", "forall x in {} | " + kind, "true", "{for x in {} | " + kind + " : x}", "{}");
        }
        exps(12, "false and 1 div 0 = 1", "false", "true or 1 div 0 = 1", "true", "true and 1 div 0 = 1", "!2", "false or 1 div 0 = 1", "!2", "1 and 1 div 0 = 1", "!9", "1 or 1 div 0 = 1", "!9",
            "false and 1 div 0 = 1 and 1", "false", "true or false and 1", "true", "(false and 1) or true", "true", "1 div 0 = 1 and false", "!2");
        errs(7, KINDS + "if t then end; @if w then end;", "", 9);
        errs(7, KINDS + "@if false then elseif w then end;", "", 9);
        errs(7, KINDS + "while not t do end; @while o do end;", "", 9);
        errs(7, KINDS + "@for x in {1} | w do end;", "", 9);
        errs(7, KINDS + "assert t; @assert w;", "", 9);
        errs(7, KINDS + "assert t; @assert not t;", "", 8);
    }

    private static void wholesAndTheirEdges() {
        started("var a;");
        exps(12, "7 div 0", "!2", "7 mod 0", "!2", "0 div 0", "!2", "0 div 5", "0", "0 mod -5", "0", "6 div 3", "2", "-6 div 3", "-2", "-6 mod 3", "0", "6 mod -3", "0",
            "5 mod 3", "2", "-5 mod 3", "1", "5 mod -3", "2", "-5 mod -3", "1", "5 div 3", "1", "-5 div 3", "-2", "5 div -3", "-1", "-5 div -3", "2", "1 div 5", "0", "-1 div 5", "-1", "-1 div -5", "1",
            "2 ** 0", "1", "0 ** 0", "1", "0 ** 1", "0", "0 ** 5", "0", "(-3) ** 0", "1", "(-3) ** 3", "-27", "2 ** -1", "!4", "0 ** -1", "!4", "1 ** -1", "!4", "1 ** (- 10 ** 30)", "1", "1 ** - (10 ** 31)", "!4",
            "\"x\" ** -1", "!1", "2 ** \"x\"", "!1", "\"x\" div 0", "!1", "0 div \"x\"", "!1", "om mod 0", "!1");
        exps(12, "\"ab\" * 0", "\"\"", "\"ab\" * 1", "\"ab\"", "\"ab\" * -1", "!4", "\"\" * -1", "!4", "[1] * -1", "!4", "[] * - (10 ** 50)", "!4", "[] * 0", "[]", "[] * 10 ** 50", "[]", "\"\" * 2 ** 64", "\"\"",
            "[1, om, 2] * 2", "[1, om, 2, 1, om, 2]", "2 * \"ab\"", "!1", "\"\" + \"\"", "\"\"", "[] + []", "[]", "{} + {}", "{}", "{} - {1}", "{}", "{1} - {}", "{1}", "{} * {1}", "{}", "{1} * {2}", "{}");
        exps(12, "1 < 1", "false", "1 <= 1", "true", "1 > 1", "false", "1 >= 1", "true", "\"\" < \"a\"", "true", "\"a\" < \"\"", "false", "\"a\" <= \"a\"", "true", "\"a\" < \"a\"", "false", "\"ab\" > \"a\"", "true",
            "\"Z\" < \"a\"", "true", "char(255) > char(127)", "true", "-1 < 0", "true", "- (10 ** 20) < -1", "true");
        exps(12, "\"\" in \"\"", "true", "\"\" in \"a\"", "true", "\"a\" in \"\"", "false", "\"abc\" in \"abc\"", "true", "\"abcd\" in \"abc\"", "false", "\"bc\" in \"abc\"", "true", "\"aab\" in \"aaab\"", "true",
            "\"ac\" in \"abc\"", "false", "\"\" notin \"\"", "false", "om in \"a\"", "!1", "om in [1, om, 2]", "false", "om notin [1, om, 2]", "true", "om in {}", "false", "om in {1}", "false", "om in []", "false",
            "2 in [1, om, 2]", "true", "1 in []", "false", "[] in [[]]", "true", "{} in {{}}", "true", "{} subset {}", "true", "{1} subset {}", "false", "{} subset {1}", "true", "{1, 2} subset {1, 2}", "true",
            "{1, 3} subset {1, 2}", "false", "# \"\"", "0", "# []", "0", "# {}", "0", "- 0", "0");
    }

    private static void broughtTogether() {
        started("var a;");
        exps(12, "+ / {}", "om", "+ / []", "om", "* / {}", "om", "max / []", "om", "min / {}", "om", "+ / [5]", "5", "+ / [true]", "true", "* / [\"a\"]", "\"a\"", "max / [{}]", "{}", "min / [[]]", "[]", "max / {true}", "true",
            "+ / [om, 5]", "!1", "max / [om, 5]", "!1", "+ / [5, om, 5]", "!1", "max / [true, false]", "!1", "max / [[], []]", "!1", "+ / [1, \"a\"]", "!1", "+ / [\"a\", \"b\", \"\"]", "\"ab\"", "+ / [[1], [om, 2]]", "[1, om, 2]",
            "+ / {{1}, {2}}", "{1, 2}", "* / [{1, 2}, {2}]", "{2}", "* / [\"a\", 3]", "\"aaa\"", "* / [3, \"a\"]", "!1", "* / [\"a\", 2, 2]", "\"aaaa\"", "* / [\"a\", -1]", "!4", "max / [2, 9, 9, 3]", "9",
            "min / [\"b\", \"\", \"a\"]", "\"\"", "max / {\"a\", \"ab\"}", "\"ab\"", "min / [1, om, 3]", "!1", "+ / \"ab\"", "!1", "+ / 5", "!1", "+ / {[1, 2], [3]}", "[1, 2, 3]", "+ / {[3], [1, 2]}", "[1, 2, 3]");
    }

    private static void wordsAndTheirEdges() {
        started("var a;");
        exps(12, "abs(0)", "0", "abs(-1)", "1", "arb({})", "om", "arb({5})", "5", "domain({[om, 1]})", "!3", "domain({[1, 2], [om, 1]})", "!3", "range({[om, 1]})", "{1}", "range({[1, 1], [2, 1]})", "{1}",
            "pow({})", "{{}}", "pow({1})", "{{}, {1}}", "# pow({{}, [], \"\", 0, true, false, {0}})", "128", "pow({{}, [], \"\", 0, true, false, {0}, {true}})", "!5", "pow({1 .. 9})", "!5", "pow({1 .. 499})", "!5", "# pow({1 .. 6})", "64", "# pow({1 .. 7})", "!5",
            "char(0) = \"\"", "false", "# char(0)", "1", "code(char(0))", "0", "code(char(255))", "255", "char(256)", "!4", "char(-1)", "!4", "char(10 ** 30)", "!4", "char(- (10 ** 30))", "!4", "char(2 ** 32)", "!4",
            "code(\"\")", "!4", "code(\"ab\")", "!4", "code(\"a\" * 3000)", "!4", "rev(\"\")", "\"\"", "rev([])", "[]", "rev(\"a\")", "\"a\"", "rev([om, om, 3])", "[3]", "str(\"\")", "\"\"\"\"", "str(om)", "\"om\"", "str({})", "\"{}\"",
            "str([])", "\"[]\"", "str([om, 1])", "\"[om, 1]\"", "str(- 12)", "\"-12\"", "str(str(1))", "\"\"1\"\"", "str({true, false})", "\"{false, true}\"");
    }

    private static void rowsOfWholes() {
        started("var a;");
        exps(12, "{1 .. 0}", "{}", "{1 .. 1}", "{1}", "{1 .. 2}", "{1, 2}", "[3 .. 1]", "[]", "[-1 .. 1]", "[-1, 0, 1]", "{1, 2 .. 1}", "{1}", "{1, 2 .. 0}", "{}", "[1, 3 .. 5]", "[1, 3, 5]", "[1, 3 .. 6]", "[1, 3, 5]",
            "[1, 3 .. 4]", "[1, 3]", "[1, 3 .. 2]", "[1]", "[1, 3 .. 1]", "[1]", "[1, 3 .. 0]", "[]", "[5, 3 .. 1]", "[5, 3, 1]", "[5, 3 .. 2]", "[5, 3]", "[5, 3 .. 5]", "[5]", "[5, 3 .. 6]", "[]", "[1, 1 .. 1]", "[]", "{1, 1 .. 9}", "{}",
            "[1, 1 .. 0]", "[]", "[0, 10 ** 40 .. 10 ** 40]", "[0, 1" + repeated("0", 40) + "]", "[10 ** 20 .. 10 ** 20 + 1]", "[1" + repeated("0", 20) + ", 1" + repeated("0", 19) + "1]", "[1, 0 .. -1]", "[1, 0, -1]",
            "# [1, 10 ** 9 .. 10 ** 11]", "101", "[0 .. -(10 ** 300)]", "[]", "{10 ** 300 .. 5}", "{}", "[5, 4 .. 10 ** 300]", "[]");
    }

    /** Rows that go down: a tuple as they come, a set in order. */
    private static void rowsThatGoDown() {
        started("var a;");
        exps(12, "{5, 4 .. 1}", "{1, 2, 3, 4, 5}", "{6, 5 .. 1}", "{1, 2, 3, 4, 5, 6}", "{2, 1 .. 1}", "{1, 2}", "{2, 1 .. 2}", "{2}", "{2, 1 .. 3}", "{}", "{9, 6 .. -7}", "{-6, -3, 0, 3, 6, 9}", "[9, 6 .. -7]", "[9, 6, 3, 0, -3, -6]",
            "{1, 0 .. -2}", "{-2, -1, 0, 1}", "{-1, -2 .. -4}", "{-4, -3, -2, -1}", "{10 ** 20 + 2, 10 ** 20 + 1 .. 10 ** 20}", "{1" + repeated("0", 20) + ", 1" + repeated("0", 19) + "1, 1" + repeated("0", 19) + "2}",
            "{2 ** 27 + 1, 2 ** 27 .. 2 ** 27 - 2}", "{134217726, 134217727, 134217728, 134217729}", "{- (2 ** 27) + 1, - (2 ** 27) .. - (2 ** 27) - 2}", "{-134217730, -134217729, -134217728, -134217727}",
            "{2 ** 40, 0 .. - (2 ** 41)}", "{-2199023255552, -1099511627776, 0, 1099511627776}", "{7, 5 .. 0} = {1, 3 .. 7}", "true", "{400, 399 .. 1} = {1 .. 400}", "true", "{399, 397 .. 1} = {1, 3 .. 400}", "true", "rev([9, 8 .. 1]) = [1 .. 9]", "true",
            "[for x in {9, 7 .. 1} : x]", "[1, 3, 5, 7, 9]", "arb({9, 8 .. 3})", "3", "7 in {9, 8 .. 3}", "true", "2 in {9, 8 .. 3}", "false", "{9, 8 .. 3} + {1, 10}", "{1, 3, 4, 5, 6, 7, 8, 9, 10}");
        for (int n = 1; n <= 12; n++) {
            StringBuilder want = new StringBuilder("{1");
            for (int i = 2; i <= n; i++) {
                want.append(", ").append(i);
            }
            exps(12, "{" + n + ", " + (n - 1) + " .. 1}", want + "}", "{1 .. " + n + "}", want + "}");
        }
    }

    // ------------------------------------------------ parts

    private static void partsOfStringsAndTuples() {
        ended("var w, t, f; w := \"abc\"; t := [7, om, 9]; f := {[1, 2], [1, 3], [2, 5], [om, 6]};");
        for (String v : new String[] {"w", "t"}) {
            err(12, 4, v + "(0)", v + "(-1)", v + "(- (10 ** 30))", v + "(0 .. 0)", v + "(0 .. 1)", v + "(-1 .. 1)", v + "(1 .. 4)", v + "(2 .. 0)", v + "(3 .. 1)", v + "(4 .. 4)", v + "(5 .. 4)", v + "(5 .. 3)",
                v + "(1 .. -1)", v + "(1 .. 10 ** 30)", v + "(10 ** 30 .. 10 ** 30)", v + "(2 ** 32 + 1 .. 2 ** 32 + 1)", v + "(- (10 ** 30) .. 1)", v + "(1 .. - (10 ** 30))");
            err(12, 1, v + "(om)", v + "(\"1\")", v + "(1 .. om)", v + "(om .. 1)", v + "(0 .. om)", v + "(\"a\" .. -5)", v + "{1}");
            exps(12, v + "(4)", "om", v + "(10 ** 30)", "om", v + "(2 ** 32 + 1)", "om", v + "(2 ** 31)", "om");
        }
        exps(12, "w(1)", "\"a\"", "w(3)", "\"c\"", "t(1)", "7", "t(2)", "om", "t(3)", "9", "w(1 .. 3)", "\"abc\"", "w(1 .. 0)", "\"\"", "w(4 .. 3)", "\"\"", "w(3 .. 3)", "\"c\"", "w(2 .. 3)", "\"bc\"", "t(1 .. 0)", "[]", "t(4 .. 3)", "[]",
            "t(2 .. 3)", "[om, 9]", "t(1 .. 2)", "[7]", "t(2 .. 2)", "[]", "\"\"(1)", "om", "[](1)", "om", "\"\"(1 .. 0)", "\"\"", "[](1 .. 0)", "[]", "\"\"(0)", "!4", "\"\"(1 .. 1)", "!4", "[](2 .. 1)", "!4");
        exps(12, "f(1)", "om", "f(2)", "5", "f(3)", "om", "f(om)", "6", "f{1}", "{2, 3}", "f{2}", "{5}", "f{3}", "{}", "f{om}", "{6}", "f(0)", "om", "f(-1)", "om", "f(\"x\")", "om", "f(1 .. 2)", "!1", "{1}(1)", "!1", "{1}{1}", "!1", "{[1]}(1)", "!1");
    }

    private static void writingTuples() {
        prints(7, "var t; t := []; t(1) := 1; t(3) := 3; print(t); t(2) := 2; t(3) := om; print(t); t(2) := om; t(1) := om; print(t); t(5) := om; print(t);", "[1, om, 3]/[1, 2]/[]/[]/");
        errs(7, "var t; t := [1]; @t(0) := 1;", "", 4);
        errs(7, "var t; t := [1]; @t(-1) := om;", "", 4);
        errs(7, "var t; t := [1]; @t(- (10 ** 30)) := om;", "", 4);
        errs(7, "var t; t := [1]; @t(om) := 1;", "", 1);
        errs(7, "var t; t := [1]; @t(\"1\") := 1;", "", 1);
        errs(7, "var t; t := [1]; @t{1} := {1};", "", 1);
        errs(7, "var t; @t(1) := 1;", "", 1);
        errs(7, "var t; @t(0) := 1;", "", 1);
        errs(7, "var t; t := 5; @t(1) := 1;", "", 1);
        errs(7, "var t; t := true; @t(1 .. 1) := [];", "", 1);
        errs(7, "var t; t := {1}; @t(1) := 1;", "", 1);
        errs(7, "var t; t := {[1, 2], 1}; @t{1} := {};", "", 1);
        errs(7, "var t; t := [[1], 2]; t(1)(2) := 3; print(t); @t(3)(1) := 1;", "[[1, 3], 2]/", 1);
        errs(7, "var t; t := [[1], 2]; @t(2)(1) := 1;", "", 1);
        errs(7, "var t; t := [[1], 2]; @t(0)(1) := 1;", "", 4);
        errs(7, "var t; t := [[1], 2]; @t(1)(0) := 1;", "", 4);
        errs(7, "var t; t := [1, 2, 3]; t(1 .. 0) := [0]; print(t); t(5 .. 4) := [4]; print(t); t(2 .. 4) := []; print(t); t(1 .. 2) := [9, 8, 7]; print(t); t(2 .. 2) := [om, om]; print(t); @t(3 .. 3) := [om];",
            "[0, 1, 2, 3]/[0, 1, 2, 3, 4]/[0, 4]/[9, 8, 7]/[9, 7]/", 4);
    }

    private static void writingRows() {
        errs(7, "var t; t := [1, 2]; @t(0 .. 1) := [];", "", 4);
        errs(7, "var t; t := [1, 2]; @t(1 .. 3) := [];", "", 4);
        errs(7, "var t; t := [1, 2]; @t(2 .. 0) := [];", "", 4);
        errs(7, "var t; t := [1, 2]; @t(4 .. 3) := [];", "", 4);
        errs(7, "var t; t := [1, 2]; @t(1 .. 2) := \"ab\";", "", 1);
        errs(7, "var t; t := [1, 2]; @t(9 .. 2) := \"ab\";", "", 1);
        errs(7, "var t; t := [1, 2]; @t(9 .. 2) := om;", "", 1);
        errs(7, "var t; t := \"ab\"; @t(1 .. 2) := [];", "", 1);
        errs(7, "var t; t := \"ab\"; @t(om .. 2) := \"\";", "", 1);
        errs(7, "var t; t := \"ab\"; @t(0 .. 2) := \"\";", "", 4);
        errs(7, "var t; t := \"ab\"; @t(1 .. 3) := \"\";", "", 4);
        errs(7, "var t; t := {}; @t(1 .. 0) := {};", "", 1);
        prints(7, "var w; w := \"\"; w(1 .. 0) := \"abc\"; print(w); w(2 .. 2) := \"\"; print(w); w(1 .. 2) := \"xyz\"; print(w); w(4 .. 3) := \"!\"; print(w);", "abc/ac/xyz/xyz!/");
        prints(7, "var w; w := \"\"; w(1) := \"a\"; w(2) := \"b\"; w(1) := \"c\"; print(w);", "cb/");
        errs(7, "var w; w := \"ab\"; w(3) := \"c\"; @w(5) := \"d\";", "", 4);
        errs(7, "var w; w := \"ab\"; @w(0) := \"d\";", "", 4);
        errs(7, "var w; w := \"ab\"; @w(10 ** 30) := \"d\";", "", 4);
        errs(7, "var w; w := \"ab\"; @w(9) := \"\";", "", 1);
        errs(7, "var w; w := \"ab\"; @w(9) := \"cd\";", "", 1);
        errs(7, "var w; w := \"ab\"; @w(9) := om;", "", 1);
        errs(7, "var w; w := \"ab\"; @w(0) := 5;", "", 1);
        errs(7, "var w; w := \"ab\"; @w(\"x\") := \"a\";", "", 1);
        errs(7, "var w; w := \"ab\"; @w{1} := \"a\";", "", 1);
    }

    /** Rows among the parts of a target, read and written. */
    private static void rowsAmongParts() {
        prints(7, "var t; t := [1, 2, 3]; t(1 .. 2) + := [9]; print(t); t(2 .. 3) * := 2; print(t); t(1 .. 0) + := [7]; print(t); t(7 .. 6) + := [8]; print(t);",
            "[1, 2, 9, 3]/[1, 2, 9, 2, 9, 3]/[7, 1, 2, 9, 2, 9, 3]/[7, 1, 2, 9, 2, 9, 8, 3]/");
        prints(7, "var a, t; t := [1, 2, 3, 4]; a fromb t(2 .. 3); print(a, t); a frome t(1 .. 2); print(a, t); a frome t(1 .. 0); print(a, t); a fromb t(2 .. 2); print(a, t);", "2 [1, 3, 4]/3 [1, 4]/om [1, 4]/4 [1]/");
        prints(7, "var t; t := [1, 2, 3]; t(1 .. 2)(1) := 5; print(t); t(2 .. 3)(4) := 6; print(t); t(1 .. 5)(2 .. 3)(1 .. 1) := []; print(t);", "[5, 2, 3]/[5, 2, 3, om, 6]/[5, 3, om, 6]/");
        prints(7, "var t; t := [[\"abc\", 1], 2]; t(1)(1)(2 .. 3) := \"xyz\"; t(1)(1)(1) := \"-\"; print(t); t(1)(1)(2 .. 2) + := \"!\"; print(t); t(1)(1 .. 2)(3) := 0; print(t);",
            "[[\"-xyz\", 1], 2]/[[\"-x!yz\", 1], 2]/[[\"-x!yz\", 1, 0], 2]/");
        errs(7, "var t; t := [1, 2, 3]; @t(2 .. 4)(1) := 5;", "", 4);
        errs(7, "var t; t := [1, 2, 3]; @t(1 .. 2)(1)(1) := 5;", "", 1);
        errs(7, "var t; t := [1, 2, 3]; @t(3 .. 5) + := [1];", "", 4);
        errs(7, "var t; t := [1, 2, 3]; @t(1 .. 2) + := 1;", "", 1);
        errs(7, "var t; t := [1, 2, 3]; @t(1 .. 2) - := [1];", "", 1);
        prints(7, "proc p(rw a, wr b); a := a + [0]; b := \"q\"; end; var t, w; t := [1, 2, 3]; w := \"abc\"; p(t(2 .. 3), w(2)); print(t, w); p(t(1 .. 0), w(4)); print(t, w);", "[1, 2, 3, 0] aqc/[0, 1, 2, 3, 0] aqcq/");
        prints(7, "proc p(rw a); end; proc q(rw a); a := []; return [5, 6]; end; var t; t := [1, 2, 3]; p(t(1 .. 2)); print(t); t(1 .. 1) := q(t(2 .. 3)); print(t);", "[1, 2, 3]/[5, 6]/");
    }

    /** What comes first: exps from the left, then what is done with them. */
    private static void whatComesFirst() {
        errs(7, "@print(1, 1 div 0);", "", 2);
        errs(7, "print(1); @print(2, om + 1, 1 div 0);", "1/", 1);
        errs(7, "@print({om}, 1 div 0);", "", 3);
        started("var a;");
        err(12, 2, "[1 div 0, om + 1]", "{1 div 0, om}", "1 div 0 + om", "om + 1 div 0", "(1 div 0)(om + 1)", "[1](1 div 0)", "[1 div 0 .. om + 1]", "{om .. 1 div 0}", "[1, om .. 1 div 0]", "# (1 div 0)", "om < 1 div 0",
            "om in 1 div 0", "om(1 div 0)", "om{1 div 0}", "om(om .. 1 div 0)", "om ** (1 div 0)", "om div (1 div 0)", "[for x in {1 div 0}, y in om : x]", "exists x in [1 div 0] | om");
        err(12, 1, "[om + 1, 1 div 0]", "om + 1 + 1 div 0", "(om + 1)(1 div 0)", "[for x in om, y in {1 div 0} : x]", "[for x in {1}, y in om : 1 div 0]");
        err(12, 9, "om and 1 div 0 = 1", "not om and 1 div 0 = 1", "if om then 1 div 0 else 1 end", "{for x in {1} | om : 1 div 0}");
    }

    /** Of statements: exps of targets, then the exp, then what is read, then what is written. */
    private static void whatComesFirstInStatements() {
        String head = "var a, b, s; s := {1}; ";
        // 2 or 1, by which of 1 div 0 and om + 1 is worked first; 4 or 1, where it is only read or written.
        errs(7, head + "@a(1 div 0) := om + 1;", "", 2);
        errs(7, head + "@a(om + 1) := 1 div 0;", "", 1);
        errs(7, head + "@a(0) := 1 div 0;", "", 2);
        errs(7, head + "@a(1 div 0) + := om + 1;", "", 2);
        errs(7, head + "@a(om + 1) + := 1 div 0;", "", 1);
        errs(7, head + "@a(1) + := 1 div 0;", "", 2);
        errs(7, head + "a := [1]; @a(0) + := om;", "", 4);
        errs(7, head + "a := [1]; @a(1) + := om;", "", 1);
        errs(7, head + "@[a(1 div 0), a(om + 1)] := 5;", "", 2);
        errs(7, head + "@[a(om + 1), a(1 div 0)] := 5;", "", 1);
        errs(7, head + "@[a(1), b] := 1 div 0;", "", 2);
        errs(7, head + "@[a(1)] := 5;", "", 1);
        errs(7, head + "@a(1 div 0) from s(om + 1);", "", 2);
        errs(7, head + "@a(om + 1) from s(1 div 0);", "", 1);
        errs(7, head + "@a(0) from s(1 div 0);", "", 2);
        errs(7, head + "b := [1]; @a(1) from b(0);", "", 4);
        errs(7, head + "@a(1) fromb s;", "", 1);
        errs(7, "var a; proc p(x, wr y); end; @p(1 div 0, a(om + 1));", "", 2);
        errs(7, "var a; proc p(x, rw y); end; @p(om + 1, a(1 div 0));", "", 1);
        errs(7, "var a; proc p(wr x, y); end; @p(a(om + 1), 1 div 0);", "", 2);
        errs(7, "var a; proc p(wr x, wr y); end; @p(a(om + 1), a(1 div 0));", "", 1);
        errs(7, "var a; proc p(wr x); end; @a(1 div 0) := p(a(om + 1));", "", 1);
        errs(7, "var a; proc p(); @return 1 div 0; end; a(om + 1) := p();", "", 2);
        started("var a, b, c; a := 1; b := 2; [a, b(1), c] := [7, 8, 9];");
        x.step(9);
        due(7, "member after member", x.state(2) + " " + value("a") + value("b") + value("c"), "1 72om");
        started("var a, b; proc p(wr x, wr y); x := 5; y := 6; end; a := 1; b := 2; p(a, b(1));");
        x.step(9);
        due(7, "target after target", x.state(2) + " " + value("a") + value("b") + " " + x.state(4), "1 52 0");
        prints(7, "var f; func g(x) = x; f := [3, 2, 1]; f(f(3)) := f(f(1)); print(f); f(f(2)) + := f(f(2)); print(f); [f(f(2)), f(1)] := [0, f(2)]; print(f);", "[1, 2, 1]/[1, 4, 1]/[4, 4, 1, 0]/");
    }

    private static void writingMaps() {
        prints(7, "var f; f := {}; f(1) := 2; print(f); f(1) := 3; print(f); f(1) := om; print(f); f(1) := om; print(f); f(om) := 1; print(f); f(\"x\") := {}; print(f);",
            "{[1, 2]}/{[1, 3]}/{}/{}/{[om, 1]}/{[om, 1], [\"x\", {}]}/");
        prints(7, "var f; f := {[1, 2], [1, 3], [2, 4]}; f(1) := 5; print(f); f{1} := {6, 7}; print(f); f{1} := {}; print(f); f{3} := {}; print(f); f{om} := {om = 1}; print(f); f{2} := {4}; print(f);",
            "{[1, 5], [2, 4]}/{[1, 6], [1, 7], [2, 4]}/{[2, 4]}/{[2, 4]}/{[om, false], [2, 4]}/{[om, false], [2, 4]}/");
        for (String value : new String[] {"om", "1", "true", "\"a\"", "[1]", "[]"}) {
            errs(7, "var f; f := {}; @f{1} := " + value + ";", "", 1);
        }
        prints(7, "var f; f := {[1, [5]]}; f(1)(2) := 6; print(f); f{2} := {[9, 8]}; f{2}(9) := 7; print(f); f(1)(1 .. 1) := []; print(f);", "{[1, [5, 6]]}/{[1, [5, 6]], [2, [9, 7]]}/{[1, [6]], [2, [9, 7]]}/");
        errs(7, "var f; f := {[1, 2], [1, 3]}; @f(1)(1) := 2;", "", 1);
        errs(7, "var f; f := {[1, 2]}; @f{1}(1) := 2;", "", 1);
        prints(7, "var f; f := {}; f{1}(2) := 3; print(f); f{1}{2} := {4, 5}; print(f);", "{[1, [2, 3]]}/{[1, [2, 4]], [1, [2, 5]]}/");
    }

    // ------------------------------------------------ iters

    private static void iters() {
        ended("var t; t := [[1, 2], [3], []];");
        exps(12, "[for [x] in [[1], [], [2]] : x]", "[1, om, 2]", "[for [x, y] in t : [y, x]]", "[[2, 1], [om, 3], []]", "[for [x, y, z] in t : z]", "[]", "[for [x] in t : x]", "!1", "[for [x] in [om, [1]] : x]", "!1", "[for [x] in {1} : x]", "!1",
            "[for [x] in [\"a\"] : x]", "!1", "[for [x] in [{1}] : x]", "!1", "[for [x] in \"a\" : x]", "!1", "[for x in [1, om, 2] : x = om]", "[false, true, false]", "[for x in \"\" : x]", "[]", "[for x in \"ab\" : x]", "[\"a\", \"b\"]",
            "[for x in {} : 1 div 0]", "[]", "[for x in {2, 1} : x]", "[1, 2]", "[for x in [1, 2, 3], y in [1 .. x] : y]", "[1, 1, 2, 1, 2, 3]", "[for x in [], y in 5 : 1]", "[]", "[for x in [1], y in 5 : 1]", "!1", "[for x in [1], y in [] : 1]", "[]",
            "{for x in [1, om] : x}", "{1}", "{for x in [om, 1] : if x = om then om else 1 div 0 end}", "!3", "{for x in [om, 1 div 0] : x}", "!2", "{om, 1 div 0}", "!2", "{om}", "!3", "{1, om, 2}", "!3", "{[om]}", "{[]}",
            "exists x in [1, 0] | 1 div x = 1", "true", "exists x in [0, 1] | 1 div x = 1", "!2", "exists x in [2, 0] | 1 div x = 1", "!2", "forall x in [2, 0] | 1 div x = 1", "false", "forall x in [1, 0] | 1 div x = 1", "!2",
            "exists x in [], y in 5 | true", "false", "forall x in [1], y in [] | false", "true", "exists x in [1, 2], y in [2] | x = y", "true", "forall x in [1, 2], y in [2] | x = y", "false");
    }

    private static void forsOverWhatIsThere() {
        prints(7, "for x in [om, 1] do print(x); end; for x in \"\" do print(x); end; for [x, y] in {[1, 2], [3]} do print(x, y); end;", "om/1/1 2/3 om/");
        prints(7, "var s; s := {1, 2}; for x in s do s := {}; print(x, s); end;", "1 {}/2 {}/");
        prints(7, "var s; s := [1, 2]; for x in s, y in s do s := [7]; print(x, y, s); end;", "1 1 [7]/1 2 [7]/2 7 [7]/");
        errs(7, "@for x in 5 do end;", "", 1);
        errs(7, "@for x in om do end;", "", 1);
        errs(7, "@for [x] in {[1, 2]} do end;", "", 1);
        errs(7, "@for x in [1], y in x do end;", "", 1);
        prints(7, "for x in [1, 2, 3] | x /= 2 do if x = 1 then continue; end; print(x); end; for x in [1, 2, 3] do if x = 2 then quit; end; print(x); end;", "3/1/");
        prints(7, "for x in [1, 2], y in [1, 2] do if y = 1 then continue; end; print(x, y); end; for x in [1, 2], y in [1, 2] do if y = 2 then quit; end; print(x, y); end;", "1 2/2 2/1 1/");
        prints(7, "for x in {1} do while true do quit; end; while x < 3 do x + := 1; if x = 2 then continue; end; print(x); end; end;", "3/");
        started("var a; for x in {1 .. 3} do a := x; if x = 2 then quit; end; end; a := 9;");
        StringBuilder totals = new StringBuilder();
        for (int i = 0; i < 6; i++) {
            x.step(1);
            totals.append(x.state(6)).append(' ');
        }
        // a and x; in the for x and a set of size 7 besides; behind quit x is om again.
        due(9, "names of a for have om again when it is over", totals.toString(), "10 11 11 11 11 3 ");
    }

    // ------------------------------------------------ targets

    private static void assignments() {
        prints(7, "var a, t; t := [1, 2]; [a, t(a)] := [1, 5]; print(a, t);", "!1 at 23");
        prints(7, "var a, b, t; a := 1; t := [0, 0]; [a, t(a)] := [2, 5]; print(a, t); [-, -] := []; [-] := [1, 2, 3]; [a, b] := []; print(a, b);", "2 [5, 0]/om om/");
        prints(7, "var t; t := [1, 2]; [t(1), t(2), t(4)] := [t(2), t(1)]; print(t); [t(1)] := [om]; print(t);", "[2, 1]/[om, 1]/");
        for (String exp : new String[] {"om", "1", "{1}", "\"ab\"", "true"}) {
            errs(7, "var a; @[a] := " + exp + ";", "", 1);
        }
        errs(7, "var a; a := [1]; @[a(1 div 0)] := 5;", "", 2);
        errs(7, "var a; a := [1]; @a(1 div 0) := om div 1;", "", 2);
        errs(7, "var a; @a(1) := 1 div 0;", "", 2);
        errs(7, "var a, b; a := 1; @[a, b(1)] := [7, 8];", "", 1);
        prints(7, "var a; a := {1}; a + := {2}; a - := {1}; a * := {2, 3}; print(a); a := [[1]]; a(1) + := [2]; a(1) * := 2; print(a); a(1)(1) - := 5; print(a);", "{2}/[[1, 2, 1, 2]]/[[-4, 2, 1, 2]]/");
        errs(7, "var a; a := [1]; @a(5) + := 1;", "", 1);
        errs(7, "var a; a := [1]; @a(0) + := 1;", "", 4);
        errs(7, "var a; a := {[1, 2], [1, 3]}; @a(1) + := 1;", "", 1);
        prints(7, "var a; a := {[1, 2], [1, 3]}; a{1} + := {4}; a{1} - := {2}; print(a); a{7} + := {0}; print(a);", "{[1, 3], [1, 4]}/{[1, 3], [1, 4], [7, 0]}/");
    }

    private static void takings() {
        prints(7, "var a, s; s := {}; a := 1; a from s; print(a, s); s := []; a := 1; a fromb s; print(a, s); a := 1; a frome s; print(a, s); s := \"\"; a := 1; a fromb s; print(a, s); a := 1; a frome s; print(a, s);",
            "om {}/om []/om []/om /om /");
        prints(7, "var a, s; s := {2, 1}; a from s; print(a, s); a from s; print(a, s); s := [1, om, 2]; a frome s; print(a, s); a frome s; print(a, s); s := \"a\"; a frome s; print(a, s);", "1 {2}/2 {}/2 [1]/1 []/a /");
        prints(7, "var s; s := {1, 2}; s from s; print(s); s := [[5, 6], 7]; s fromb s; print(s); s(1) frome s; print(s);", "1/[5, 6]/[6]/");
        prints(7, "var t; t := [{1, 2}, 0]; t(2) from t(1); print(t); t(1) from t(1); print(t);", "[{2}, 1]/[2, 1]/");
        prints(7, "var a, f; f := {[1, 2], [1, 3]}; a from f{1}; print(a, f); a from f; print(a, f);", "2 {[1, 3]}/[1, 3] {}/");
        for (String kind : new String[] {"om", "1", "true", "newat"}) {
            errs(7, "var a, s; s := " + kind + "; @a from s;", "", 1);
            errs(7, "var a, s; s := " + kind + "; @a fromb s;", "", 1);
            errs(7, "var a, s; s := " + kind + "; @a frome s;", "", 1);
        }
        errs(7, "var a, s; s := [1]; @a from s;", "", 1);
        errs(7, "var a, s; s := \"a\"; @a from s;", "", 1);
        errs(7, "var a, s; s := {1}; @a fromb s;", "", 1);
        errs(7, "var a, s; s := {1}; @a frome s;", "", 1);
        errs(7, "var a, s; s := [1]; @a from s(2);", "", 1);
        // b is written before a, which errs then.
        started("var a, s; s := {1, 2}; a(1) from s;");
        x.step(2);
        due(7, "b is written first", x.state(2) + " " + value("s"), "1 {2}");
    }

    /** Parts ( i .. j ), which have two exps, before, behind and among others. */
    private static void rowsInTargets() {
        prints(7, "var u, v, a; u := [1, 2, 3]; v := [4, 5, 6]; [u(1 .. 2), a] := [[7], 8]; print(u, v, a); [a, u(2 .. 1), v(1)] := [1, [2, 2], 3]; print(u, v, a); [v(2 .. 3), u(1), -, a] := [[], 9, 9, 9]; print(u, v, a);",
            "[7, 3] [4, 5, 6] 8/[7, 2, 2, 3] [3, 5, 6] 1/[9, 2, 2, 3] [3] 9/");
        prints(7, "var u, a; u := [[1, 2, 3], [4, 5, 6]]; [u(1)(2 .. 3), u(2)(1 .. 1), u(2)(2)] := [[7], [8, 9], om]; print(u); [u(1 .. 1)(1)(1 .. 1), a, u(2)(1 .. 2)(2)] := [[0, 0], 5, 6]; print(u, a);",
            "[[1, 7], [8, om, 5, 6]]/[[0, 0, 7], [8, 6, 5, 6]] 5/");
        errs(7, "var u, v, a; u := [1, 2, 3, 4]; v := [[5], [6], [7]]; u(1 .. 0) fromb v; print(u, v); u(2 .. 3) frome v; print(u, v); a fromb u(2 .. 3); print(a, u); @v(1 .. 1) fromb v;",
            "[5, 1, 2, 3, 4] [[6], [7]]/[5, 7, 3, 4] [[6]]/7 [5, 3, 4]/", 4);
        prints(7, "var u, v; u := [[1, 2], [3, 4]]; v := [[[5], 6], 7]; u(1)(1 .. 1) fromb v(1 .. 1)(1); print(u, v); u(2)(2) frome u(1 .. 1)(1)(1 .. 2); print(u, v);",
            "[[5, 2], [3, 4]] [[6], 7]/[[5], [3, 2]] [[6], 7]/");
        prints(7, "var u, w; u := [[1, 2], [3, 4], [5, 6]]; u(2 .. 3)(1)(2) + := 10; print(u); u(1 .. 2)(2 .. 2)(1)(1) * := 2; print(u); u(1)(1 .. 1) + := [0]; print(u); u(3 .. 3) * := 2; print(u); w := \"abcdef\"; w(2 .. 5)(2 .. 3) + := \"!\"; print(w); w(3 .. 3)(1 .. 0) + := \"?\"; print(w);",
            "[[1, 2], [3, 14], [5, 6]]/[[1, 2], [6, 14], [5, 6]]/[[1, 0, 2], [6, 14], [5, 6]]/[[1, 0, 2], [6, 14], [5, 6], [5, 6]]/abcd!ef/ab?cd!ef/");
        prints(7, "var u, f; f := {[1, [[1, 2], 3]]}; f(1)(1 .. 1)(1)(1) := 9; print(f); f{1} + := {[7]}; print(f); u := [f]; u(1 .. 1)(1){1} - := {[7]}; print(u);", "{[1, [[9, 2], 3]]}/{[1, [7]], [1, [[9, 2], 3]]}/[{[1, [[9, 2], 3]]}]/");
        prints(7, "var u, a; proc p(wr x, rw y, rw z); x := [0]; y := y + [1]; z := z + z; return [8]; end; u := [1, 2, 3]; a := [[4, 5], [6]]; u(1 .. 2) := p(a(1)(1 .. 1), a(2)(1 .. 0), a(1 .. 2)(2)); print(u, a);", "[8, 3] [[0, 5], [6, 6]]/");
    }

    // ------------------------------------------------ calls and points

    /** Targets of calls that stand in procs: the program's variables, params and variables of their own, names of fors. */
    private static void callsWithinProcs() {
        prints(7, "var g, h, k; proc p(wr x, rw y, rd z); x := z; y := [y]; return z * 10; end; proc q(a, rw b); var c, d; p(g, h, 1); print(g, h, a, b, c, d); p(a, b, 2); print(g, h, a, b, c, d); p(c, d, 3); print(g, h, a, b, c, d); "
            + "g := p(a, d, 4); print(g, h, a, b, c, d); c := p(h, g, 5); print(g, h, a, b, c, d); for i in [0] do i := p(k, i, 6); print(i, k); p(i, k, 7); print(i, k); end; end; k := 0; q(8, k); print(g, h, k);",
            "1 [] 8 0 om om/1 [] 2 [0] om om/1 [] 2 [0] 3 []/40 [] 4 [0] 3 [[]]/[40] 5 4 [0] 50 [[]]/60 6/7 [6]/[40] 5 [0]/");
        prints(7, "var t, u; proc p(wr x, rw y); x := 5; y := y + 1; return 9; end; proc q(i, rw s); var v; v := [1, 2, 3]; p(t(i), v(i + 1)); print(t, v); p(v(1), t(1)); print(t, v); s(i) := p(s(2), t(2)); print(t, s); t(3) := p(u, v(2)); print(t, u, v); end; "
            + "t := [0, 0]; u := [7, 7]; q(1, u); print(t, u);", "[5, 0] [1, 3, 3]/[6, 0] [5, 3, 3]/[6, 1] [9, 5]/[6, 1, 9] 5 [5, 4, 3]/[6, 1, 9] [9, 5]/");
        prints(7, "proc p(rw n, wr m); if n < 4 then n + := 1; p(n, m); m + := 1; else m := 100; end; end; var a, b; a := 0; p(a, b); print(a, b);", "4 104/");
    }

    private static void procedures() {
        prints(7, "proc p(rd a, wr b, rw c, d); var v; print(a, b, c, d, v); a := 1; b := 2; c := 3; d := 4; end; var q, r, s, t; q := \"q\"; r := \"r\"; s := \"s\"; t := \"t\"; p(q, r, s, t); print(q, r, s, t);", "q om s t om/q 2 3 t/");
        prints(7, "proc p(); return; end; proc q(); return 5; end; proc r(); end; var a; a := 1; a := p(); print(a); a := q(); print(a); a := r(); print(a); q(); print(a);", "om/5/om/om/");
        prints(7, "proc p(wr a, wr b); a := 1; b := 2; return 3; end; var x; p(x, x); print(x); x := p(x, x); print(x);", "2/3/");
        prints(7, "proc p(rw i, rw e); i := 2; e := 9; return 7; end; var i, t; i := 1; t := [5, 6, 7]; t(i) := p(i, t(i)); print(i, t);", "2 [5, 7, 7]/");
        errs(7, "proc p(rd a, wr b); @return; end; var t; t := [1]; p(t(1), t(0));", "", 4);
        errs(7, "proc p(rd a, rw b); end; var t; t := [1]; @p(1 div 0, t(0));", "", 2);
        errs(7, "proc p(rd a, rw b); end; var t; t := [1]; @p(1, t(0));", "", 4);
        errs(7, "proc p(wr b); end; var t; t := [1]; @p(t(1 div 0));", "", 2);
        prints(7, "proc p(wr b); b := 5; end; var t; t := [1]; p(t(3)); print(t);", "[1, om, 5]/");
        prints(7, "proc p(n); if n > 0 then p(n - 1); end; end; p(49); print(1);", "1/");
        prints(7, "proc p(n); if n > 0 then p(n - 1); end; end; p(50); print(1);", "!7 at 25");
        started("proc p(n); if n > 0 then p(n - 1); end; end; p(60);");
        x.step(20000);
        due(9, "50 calls are open", x.state(4) + " " + x.state(2), "50 7");
        // The params' exps are worked before it is looked at.
        errs(7, "proc p(n); if n > 0 then @p(if n = 1 then 1 div 0 else n - 1 end); end; end; p(50);", "", 2);
        prints(7, "var k; proc p(n); k := n; if n > 0 then p(n - 1); end; end; for i in {1, 2} do p(49); end; print(k);", "0/");
    }

    private static void functions() {
        ended("var a; func f(n) = if n > 0 then f(n - 1) else 0 end; func g(n) = if n > 0 then (g(n - 1)) else 0 end; func h(n) = if n > 0 then ((h(n - 1))) else 0 end; func k(n) = n > 0 and k(n - 1); "
            + "func z(x) = 1 div 0; func two(x, y) = [x, y]; func none() = 7; a := 3;");
        // if and ( : a DEPTH of 2 for each within; the first call's is 1.
        exps(12, "f(19)", "0", "f(20)", "!7", "(f(19))", "0", "((((((((((((((((((f(19)))))))))))))))))))", "0", "1 + f(19) * 2", "1", "f(f(19))", "0", "[f(19), f(19)]", "[0, 0]");
        // if ( and ( : 3 each, 1 + 19 * 3 = 58; one bracket more 59, two 60, three 61.
        exps(12, "g(19)", "0", "(g(19))", "0", "((g(19)))", "0", "(((g(19))))", "!7", "- - g(19)", "0", "- - - g(19)", "!7", "g(20)", "!7", "if true then g(19) else 1 end", "0", "[[g(19)]]", "[[0]]", "[[[g(19)]]]", "!7");
        // 4 each: 1 + 14 * 4 = 57, 61 with fifteen.
        exps(12, "h(14)", "0", "(((h(14))))", "0", "((((h(14)))))", "!7", "h(15)", "!7", "k(19)", "false", "k(20)", "!7");
        exps(12, "f(1 div 0)", "!2", "two(1 div 0, om + 1)", "!2", "two(om + 1, 1 div 0)", "!1", "none()", "7", "two(om, om)", "[]", "two(1, om)", "[1]", "z(1)", "!2", "if false then z(1) else 2 end", "2");
        // Statements that are open count, too.
        prints(7, "func g(n) = if n > 0 then (g(n - 1)) else 0 end; print(g(19));", "0/");
        prints(7, "func g(n) = if n > 0 then (g(n - 1)) else 0 end; if true then print(g(19)); end;", "0/");
        errs(7, "func g(n) = if n > 0 then (g(n - 1)) else 0 end; if true then if true then @print(g(19)); end; end;", "", 7);
        prints(7, "var a; func g(n) = if n > 0 then (g(n - 1)) else 0 end; if true then if true then a := g(19); end; end; print(a);", "0/");
        errs(7, "var a; func g(n) = if n > 0 then (g(n - 1)) else 0 end; if true then if true then if true then @a := g(19); end; end; end; print(a);", "", 7);
        // The exps are worked before it is looked at.
        prints(7, "func f(n) = if n > 0 then f(n - 1) else 1 div n end; print(f(19));", "!2 at 53");
        prints(7, "func f(n, d) = if n > 0 then f(n - 1, 1 div d) else 0 end; print(f(20, 0));", "!2 at 59");
        prints(7, "func f(n, d) = if n > 0 then f(n - 1, d div (n - 1)) else 0 end; print(f(20, 0));", "!2 at 65");
    }

    private static void points() {
        prints(7, "var a, n; n := 0; a := ok; n + := 1; print(a, n); if a then n := 5; fail; end; print(\"end\", n);", "true 1/false 1/end 1/");
        StringBuilder many = new StringBuilder("var a; ");
        for (int i = 0; i < 20; i++) {
            many.append("a := ok; ");
        }
        started(many + "a := 1;");
        due(9, "twenty points", x.step(100) + " " + x.state(5), "1 20");
        errs(7, many + "@a := ok;", "", 6);
        errs(7, many + "@if ok then end;", "", 6);
        prints(7, many + "succeed; a := ok; print(a);", "true/");
        prints(7, many + "if a then fail; end; a := ok; print(a);", "true/");
        for (String word : new String[] {"succeed", "fail"}) {
            errs(7, "@" + word + ";", "", 10);
            errs(7, "if ok then succeed; @" + word + "; end;", "", 10);
            errs(7, "if ok then fail; else @" + word + "; end;", "", 10);
        }
        prints(7, "var s; proc p(); for i in {1 .. 3} do if ok then return i; end; end; return om; end; var a; s := 0; a := p(); s := 1; print(a, s); if a /= om then fail; end; print(s);",
            "1 1/2 1/3 1/om 1/1/");
        prints(7, "if ok then print(newat, random(1000)); fail; end; print(newat, random(1000));", run("print(newat, random(1000)); print(newat, random(1000));"));
        started("var a; a := 1; if ok then a := 2; fail; elseif a = 1 then a := 3; end;");
        x.step(4);
        due(9, "begun, the place of the one begun last stay", x.state(0) + " " + x.state(3) + " " + x.state(5) + " " + value("a"), "4 34 0 1");
        due(9, "WORK since fail was begun: the elseif's", x.state(9), 3);
        started("if ok then fail; elseif 1 then end;");
        x.step(2);
        due(9, "an error behind fail is at fail", x.state(2) + " " + x.state(3), "9 11");
        prints(7, "var a; a := [1, 2]; for i in a do if ok then a := i; fail; end; print(i, a); end;", "1 [1, 2]/2 [1, 2]/");
    }

    /** begun, open calls, points, TOTAL behind each statement. */
    private static String rowOfStates(String text, int n) {
        started(text);
        StringBuilder b = new StringBuilder();
        for (int i = 0; i < n && x.state(8) == 0; i++) {
            x.step(1);
            b.append(x.state(4)).append(' ').append(x.state(5)).append(' ').append(x.state(6)).append('/');
        }
        return b.append(x.state(2)).toString();
    }

    /** fail goes back into calls that are over, and out of calls that are open; TOTAL is as it was. */
    private static void failsAndCalls() {
        // a and g; in each call of p n and v, which gets a size of 3.
        due(9, "out of open calls", rowOfStates("var a, g; proc p(n); var v; v := [0, 0]; if n > 0 then p(n - 1); else fail; end; end; g := {0}; if ok then p(2); else a := 1; end;", 20),
            "0 0 3/0 1 6/1 1 9/1 1 11/1 1 11/2 1 14/2 1 16/2 1 16/3 1 18/3 1 20/3 1 20/0 0 3/0 0 4/0");
        due(9, "back into a call that is over", rowOfStates("var a; proc p(); var v; v := [0, 0]; if ok then return v; end; v := 0; return 1; end; a := p(); if a = [0, 0] then fail; end; a := 2;", 20),
            "1 0 2/1 0 4/1 1 8/0 1 7/0 1 7/1 0 4/1 0 2/0 0 2/0 0 2/0 0 2/0");
        due(9, "out of fors, and back into them", rowOfStates("var a; for i in [0, 0] do if ok then a := [i, 0, 0]; for j in {0} do fail; end; end; end; a := 0;", 20),
            "0 0 6/0 1 12/0 1 15/0 1 17/0 0 6/0 1 12/0 1 15/0 1 17/0 0 3/0 0 3/0");
        prints(7, "var k; proc p(n); if n > 0 then p(n - 1); else k := n; fail; end; end; proc q(n); if n > 0 then q(n - 1); else print(\"in\"); end; end; for i in {1 .. 3} do if ok then p(40); else print(i, k); end; end; q(49); print(\"out\");",
            "1 om/2 om/3 om/in/out/");
        errs(7, "proc p(n); if n > 0 then @p(n - 1); else fail; end; end; if ok then p(40); end; p(50);", "", 7);
        errs(7, "var s; proc p(n); var v; v := n; if ok then if n > 0 then p(n - 1); end; return v; else v := [v]; s := s + v; return v; end; end; s := []; p(3); print(s); if # s < 3 then s := [7]; @fail; end;",
            "[]/[0]/[1]/[2]/[3]/", 10);
        prints(7, "proc p(wr a, rw b); for i in [1, 2, 3] do if ok then a := i; b := b + [i]; return i * 10; end; end; a := 0; return 0; end; var x, y, z; y := [9]; z := p(x, y); print(x, y, z); if z > 0 then fail; end; print(\"end\", x, y, z);",
            "1 [9, 1] 10/2 [9, 2] 20/3 [9, 3] 30/0 [9] 0/end 0 [9] 0/");
        prints(7, "var a, b; a := ok; b := [a]; if a then if # b > 0 then fail; end; end; print(a, b); a := ok; if a then b := 2; succeed; end; print(a, b);", "false [false]/true 2/");
        prints(7, "var a; for i in {1, 2}, j in [i, 7] do a := ok; if a then fail; end; print(i, j, a); end; while true do if ok then quit; end; end; succeed; print(a);", "1 1 false/1 7 false/2 2 false/2 7 false/false/");
    }

    public static void main(String[] args) {
        kindsOfOperators();
        kindsOfWords();
        truthsAreWanted();
        wholesAndTheirEdges();
        broughtTogether();
        wordsAndTheirEdges();
        rowsOfWholes();
        rowsThatGoDown();
        partsOfStringsAndTuples();
        writingTuples();
        writingRows();
        rowsAmongParts();
        whatComesFirst();
        whatComesFirstInStatements();
        writingMaps();
        iters();
        forsOverWhatIsThere();
        assignments();
        takings();
        rowsInTargets();
        callsWithinProcs();
        procedures();
        functions();
        points();
        failsAndCalls();
        finish();
    }
}
