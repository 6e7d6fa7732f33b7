import java.util.ArrayList;
import java.util.List;
import java.util.Random;
import java.util.function.ToIntFunction;

/**
 * The boundary cases of the document, each sentence that names one by a test of its own, on both
 * sides of the boundary where it has two. The topic of a test is that sentence.
 */
public final class BoundaryTest {
    private static final int OK = GradualDesk.OK, SYNTAX = GradualDesk.SYNTAX, ILL = GradualDesk.ILL;
    private static final int LARGE = GradualDesk.LARGE, BLAME = GradualDesk.BLAME;
    private static final int LONG = GradualDesk.LONG, BAD = GradualDesk.BAD;
    private static final int NUM = 0, TRUTH = 1, VAR = 2, LAM = 3, AS = 11;
    private static final int MIN = Integer.MIN_VALUE, MAX = Integer.MAX_VALUE;

    // Outside of every range, and 0 or 1 if only their lowest bits are looked at.
    private static final int[] FAR = {MIN, MIN + 1, MIN / 2, -65536, -256, -255, -64, -8, -2,
        64, 65, 256, 257, 65536, 1 << 30, MAX - 1, MAX};

    // A call of a body of 16 tokens, twice: 38 steps, and 3 more tokens of it would be too many.
    private static final String STEPS_38 =
        "APP LAM:1 APP VAR:0 APP VAR:0 NUM:1 LAM:0 " + "AS:0 ".repeat(14) + "VAR:0";
    private static final String ENDLESS = "APP LAM:9 APP VAR:0 VAR:0 LAM:9 APP VAR:0 VAR:0";

    private static void due(String what, long got, long want) {
        Bench.due(what, got, want);
    }

    private static void due(String what, boolean got, boolean want) {
        Bench.due(what, got, want);
    }

    private static Bench topic(String sentence, String... types) {
        Bench.topic(sentence);
        return new Bench(types);
    }

    // What it is

    /** A desk with a value, a place and two drafts, used up to one call before the last. */
    private static Bench nearlyUsedUp() {
        Bench x = new Bench("INT", "PAIR INT BOOL");
        x.draft("ADD NUM:1");
        x.run();
        x.draft("AS:1 AS:9 BOTH ADD NUM:2 NUM:3 TRUTH:1");
        x.run();
        x.draftType("FUN INT");
        for (int k = 0; x.calls() < Bench.CALLS - 1; k++) {
            switch (k % 6) {
                case 0 -> due("run, call " + x.calls(), x.run(), OK);
                case 1 -> due("look, call " + x.calls(), x.look(1, 1), 5);
                case 2 -> due("check, call " + x.calls(), x.check(), OK);
                case 3 -> due("name(10), call " + x.calls(), x.name(10), BAD);
                case 4 -> due("token(12, 0), call " + x.calls(), x.token(12, 0), false);
                default -> due("typeAt(2), call " + x.calls(), x.typeAt(2), 1);
            }
        }
        return x;
    }

    private static void lastCall(String what, ToIntFunction<Bench> call, int want) {
        Bench x = nearlyUsedUp();
        due(what + " as call 512", call.applyAsInt(x), want);
        due("the calls", x.calls(), 512);
    }

    private static void theLastCall() {
        topic("An object is used for at most 512 calls after it has been made");
        lastCall("part(0)", x -> x.part(0) ? 1 : 0, 1);
        lastCall("part(5)", x -> x.part(5) ? 1 : 0, 0);
        lastCall("name(0)", x -> x.name(0), SYNTAX);
        lastCall("name(-1)", x -> x.name(-1), BAD);
        lastCall("token(0, 1)", x -> x.token(0, 1) ? 1 : 0, 1);
        lastCall("token(1, 2)", x -> x.token(1, 2) ? 1 : 0, 0);
        lastCall("wipe()", x -> x.wipe(), 7);
        lastCall("check()", x -> x.check(), OK);
        lastCall("place()", x -> x.place(), 2);
        lastCall("typeAt(0)", x -> x.typeAt(0), 4);
        lastCall("run()", x -> x.run(), OK);
        lastCall("blamed()", x -> x.blamed(), 0);
        lastCall("steps()", x -> x.steps(), 7);
        lastCall("look(2, 0)", x -> x.look(2, 0), 2);
    }

    private static void allCallsOfOneSort() {
        Bench runs = topic("An object is used for at most 512 calls, runs above all",
            "FUN FUN INT INT FUN INT INT", "FUN ANY FUN ANY INT", "INT");
        runs.draft("APP APP AS:0 AS:1 AS:9 LAM:9 LAM:2 APP VAR:1 VAR:0 LAM:2 ADD VAR:0 VAR:0 NUM:21");
        while (runs.calls() < Bench.CALLS - 1) {
            due("run, call " + runs.calls(), runs.run(), OK);
        }
        due("look(0, 1)", runs.look(0, 1), 42);

        Bench looks = topic("An object is used for at most 512 calls, looks above all", "PAIR PAIR INT INT ANY");
        looks.draft("AS:0 AS:9 BOTH BOTH NUM:1 TRUTH:1 NUM:3");
        due("run()", looks.run(), OK);
        while (looks.calls() < Bench.CALLS - 1) {
            due("look(9, 0), call " + looks.calls(), looks.look(1 + 4 * 2, 0), -2);
            due("look(5, 1), call " + looks.calls(), looks.look(1 + 4 * 1, 1), 1);
        }

        // Each of these looks goes through 30 casts, and casts a pair in each of them.
        Bench deep = new Bench("PAIR PAIR INT INT ANY");
        deep.draft("AS:9 AS:0 ".repeat(15) + "BOTH BOTH NUM:1 NUM:2 NUM:3");
        due("run()", deep.run(), OK);
        while (deep.calls() < Bench.CALLS) {
            due("look(9, 1), call " + deep.calls(), deep.look(1 + 4 * 2, 1), 2);
        }

        Bench names = topic("An object is used for at most 512 calls, names above all");
        String function = "FUN FUN FUN INT BOOL ANY INT";
        String pair = "PAIR ANY PAIR INT PAIR BOOL INT";
        for (int k = 0; k < 60; k++) {
            names.define(k % 9, k % 2 == 0 ? function : pair);
        }
        names.hasType("AS:8 AS:9 NUM:1", pair);
        names.hasType("AS:0 AS:9 NUM:1", function);
    }

    // Terms

    private static void tenNamedTypes() {
        String[] types = {"INT", "BOOL", "ANY", "FUN INT INT", "PAIR INT INT", "FUN BOOL ANY", "PAIR ANY BOOL",
            "FUN FUN INT INT INT", "PAIR INT PAIR BOOL ANY", "FUN INT FUN BOOL FUN INT ANY"};
        Bench x = topic("There are ten NAMED types 0..9 of at most 7 tokens", types);
        x.draftType("FUN INT BOOL");
        due("name(-1)", x.name(-1), BAD);
        due("name(10)", x.name(10), BAD);
        for (int n = 0; n < types.length; n++) {
            x.hasType("AS:" + n + " AS:2 NUM:1", types[n]);
        }
        due("name(9)", x.name(9), OK);
        x.hasType("AS:9 AS:2 NUM:1", "FUN INT BOOL");
        x.hasType("AS:8 AS:2 NUM:1", types[8]);
        x.draftType("FUN INT FUN INT FUN INT INT");
        due("an eighth token", x.part(0), false);
        due("name(0)", x.name(0), OK);
        x.hasType("AS:0 AS:2 NUM:1", "FUN INT FUN INT FUN INT INT");
    }

    private static int behind(String[] type, int from) {
        if (!type[from].equals("FUN") && !type[from].equals("PAIR")) {
            return from + 1;
        }
        return behind(type, behind(type, from + 1));
    }

    private static boolean consistent(String[] s, int i, String[] t, int j) {
        if (s[i].equals("ANY") || t[j].equals("ANY")) {
            return true;
        }
        if (!s[i].equals(t[j])) {
            return false;
        }
        boolean hasParts = s[i].equals("FUN") || s[i].equals("PAIR");
        return !hasParts
            || consistent(s, i + 1, t, j + 1) && consistent(s, behind(s, i + 1), t, behind(t, j + 1));
    }

    private static void consistency() {
        topic("Two types are CONSISTENT if one is ANY, or both are the same of INT and BOOL, or both are FUN, "
            + "or both PAIR, with consistent parts");
        List<String> types = new ArrayList<>(List.of("INT", "BOOL", "ANY"));
        for (String head : new String[] {"FUN ", "PAIR "}) {
            for (int pair = 0; pair < 9; pair++) {
                types.add(head + types.get(pair / 3) + " " + types.get(pair % 3));
            }
        }
        types.addAll(List.of("FUN PAIR INT INT INT", "FUN PAIR ANY BOOL INT", "FUN PAIR INT INT BOOL",
            "FUN FUN FUN INT INT INT INT", "FUN FUN FUN INT INT INT BOOL", "FUN FUN FUN ANY INT INT INT",
            "FUN FUN PAIR INT INT INT INT", "FUN FUN ANY INT BOOL", "PAIR PAIR INT BOOL PAIR BOOL INT",
            "PAIR PAIR INT BOOL PAIR BOOL BOOL", "PAIR ANY PAIR BOOL INT", "PAIR PAIR INT BOOL ANY",
            "FUN INT FUN INT FUN INT BOOL", "FUN INT FUN ANY FUN INT INT"));
        for (String s : types) {
            for (String t : types) {
                Bench x = new Bench(s, t);
                x.draft("AS:1 AS:0 AS:9 NUM:1");
                boolean fits = consistent(s.split(" "), 0, t.split(" "), 0);
                due("check of a cast from " + s + " to " + t, x.check(), fits ? OK : ILL);
                due("place of it", x.place(), fits ? -1 : 0);
            }
        }
    }

    private static void thirtySixTokens() {
        Bench x = topic("TERMS, in prefix notation, at most 36 tokens (kind, value)");
        x.append("AS:9 ".repeat(35));
        due("check of 35 that are too few", x.check(), SYNTAX);
        due("place", x.place(), 35);
        due("the 36th token", x.token(NUM, 8), true);
        due("check of 36", x.check(), OK);
        for (int kind = 0; kind <= 11; kind++) {
            due("a 37th token of kind " + kind, x.token(kind, 0), false);
        }
        due("run", x.run(), OK);
        due("steps", x.steps(), 36);
        due("look(0, 1)", x.look(0, 1), 8);
        due("wipe()", x.wipe(), 36);
        due("a token after wipe", x.token(NUM, 1), true);
        due("check", x.check(), OK);
    }

    private static void valuesOfTokens() {
        topic("0 NUM (any int)   1 TRUTH (0, 1)   2 VAR (0..9)   3 LAM (a named type) E");
        int[] numbers = {-1, 0, 1, 9, 10};
        for (int value : numbers) {
            number(value);
        }
        for (int value : FAR) {
            number(value);
        }
        int[] kinds = {TRUTH, VAR, LAM, AS};
        for (int kind : kinds) {
            Bench x = new Bench();
            int greatest = kind == TRUTH ? 1 : 9;
            for (int value = -3; value <= 13; value++) {
                due("token(" + kind + ", " + value + ")", x.token(kind, value), value >= 0 && value <= greatest);
            }
            for (int value : FAR) {
                due("token(" + kind + ", " + value + ")", x.token(kind, value), false);
            }
            due("wipe()", x.wipe(), greatest + 1);
        }
    }

    private static void number(int value) {
        Bench x = new Bench();
        due("token(0, " + value + ")", x.token(NUM, value), true);
        due("run", x.run(), OK);
        x.sees(0, 1, value, 0);
    }

    /** VAR n in as many LAMs, each called; the k-th around it is given 100 + k, or the truth of k / 2. */
    private static String variableIn(int lams, int n) {
        String term = "VAR:" + n;
        for (int k = 0; k < lams; k++) {
            term = k % 2 == 0 ? "APP LAM:0 " + term + " NUM:" + (100 + k) : "APP LAM:1 " + term + " TRUTH:" + k / 2 % 2;
        }
        return term;
    }

    private static void variables() {
        topic("VAR n: the named type of the n-th LAM around it (0 the innermost)");
        for (int lams = 0; lams <= 10; lams++) {
            for (int n = 0; n <= 9; n++) {
                Bench x = new Bench("INT", "BOOL");
                String term = variableIn(lams, n);
                if (n >= lams) {
                    x.isWrong(term, ILL, 2 * lams);
                } else if (n % 2 == 0) {
                    x.hasType(term, "INT");
                    x.gives(term, 3 * lams + 1, 1, 100 + n, 0);
                } else {
                    x.hasType(term, "BOOL");
                    x.gives(term, 3 * lams + 1, 2, n / 2 % 2, 0);
                }
            }
        }
        Bench x = topic("ILL TYPED is what has no type by this (also a VAR without such a LAM)");
        x.isWrong("VAR:0", ILL, 0);
        x.isWrong("APP LAM:9 VAR:0 VAR:0", ILL, 3);
        x.isWrong("APP LAM:9 VAR:0 LAM:9 VAR:1", ILL, 4);
        x.isWrong("BOTH LAM:9 LAM:9 VAR:1 LAM:9 VAR:1", ILL, 5);
        x.isWrong("BOTH VAR:0 LAM:9 VAR:0", ILL, 1);
        x.hasType("BOTH LAM:9 VAR:0 LAM:9 VAR:0", "PAIR FUN ANY ANY FUN ANY ANY");
    }

    private static void labels() {
        topic("some of its operands are CAST from their types (0 the first operand) to other types with labels "
            + "3 i + 0, 1, 2");
        for (int i = 0; i <= 33; i++) {
            String before = "AS:9 ".repeat(i);
            new Bench("INT", "BOOL").blames(before + "AS:1 AS:9 NUM:1", 3 * i + 1, i + 3);
            if (i <= 32) {
                new Bench("INT", "BOOL").blames(before + "ADD NUM:1 AS:9 TRUTH:1", 3 * i + 2, i + 4);
            }
            if (i <= 31) {
                new Bench("INT", "BOOL").blames(before + "IF TRUTH:0 NUM:1 AS:9 TRUTH:1", 3 * i + 3, i + 4);
            }
        }
        // The greatest label there is, 3 * 34: behind the last token but one only one token stands.
        Bench x = new Bench("INT", "BOOL", "FUN INT INT", "FUN ANY INT", "FUN FUN INT INT INT");
        x.blames("APP LAM:9 APP VAR:0 NUM:1 LAM:9 " + "AS:9 ".repeat(28) + "AS:1 VAR:0", 103, 36);

        Bench.topic("Labels are positive or, where they are TURNED, negative");
        x.blames("APP LAM:4 APP VAR:0 LAM:0 VAR:0 LAM:2 APP LAM:3 APP VAR:0 AS:9 TRUTH:1 " + "AS:3 ".repeat(22)
            + "VAR:0", -103, 35);
        x.blames("APP LAM:3 APP VAR:0 TRUTH:1 LAM:0 VAR:0", -2, 6);
        x.blames("APP LAM:3 APP VAR:0 TRUTH:1 LAM:9 AS:9 TRUTH:1", 2, 8);
        x.blames("APP AS:9 AS:4 LAM:9 APP VAR:0 TRUTH:1 LAM:0 VAR:0", 7, 8);
    }

    private static Bench illBench() {
        return new Bench("INT", "BOOL", "FUN INT INT", "PAIR INT INT");
    }

    private static final String FUNCTION = "AS:2 AS:9 NUM:1", PAIR = "AS:3 AS:9 NUM:1", UNKNOWN = "AS:9 NUM:1";
    private static final String[] OPERANDS = {"NUM:1", "TRUTH:1", FUNCTION, PAIR, UNKNOWN};

    /** Puts each sort of operand in the place of the question mark; the digits tell which of them are well typed. */
    private static void fitting(String term, String well) {
        for (int k = 0; k < OPERANDS.length; k++) {
            Bench x = illBench();
            String whole = term.replace("?", OPERANDS[k]);
            if (well.charAt(k) == '0') {
                x.isWrong(whole, ILL, 0);
            } else {
                x.draft(whole);
                due("check of " + whole, x.check(), OK);
                due("place of " + whole, x.place(), -1);
            }
        }
    }

    private static void illTyped() {
        topic("ILL TYPED is what has no type by this, and a cast between types that are not consistent");
        fitting("APP ? NUM:1", "00101");
        fitting("FIRST ?", "00011");
        fitting("SECOND ?", "00011");
        fitting("APP " + FUNCTION + " ?", "10001");
        fitting("APP " + UNKNOWN + " ?", "11111");
        fitting("IF ? NUM:1 NUM:1", "01001");
        fitting("IF TRUTH:1 NUM:1 ?", "10001");
        fitting("IF TRUTH:1 TRUTH:1 ?", "01001");
        fitting("IF TRUTH:1 " + FUNCTION + " ?", "00101");
        fitting("IF TRUTH:1 " + PAIR + " ?", "00011");
        fitting("IF TRUTH:1 " + UNKNOWN + " ?", "11111");
        fitting("ADD ? NUM:1", "10001");
        fitting("ADD NUM:1 ?", "10001");
        fitting("LESS ? NUM:1", "10001");
        fitting("LESS NUM:1 ?", "10001");
        fitting("AS:0 ?", "10001");
        fitting("AS:1 ?", "01001");
        fitting("AS:2 ?", "00101");
        fitting("AS:3 ?", "00011");
        fitting("AS:9 ?", "11111");
        fitting("BOTH ? NUM:1", "11111");
        fitting("BOTH NUM:1 ?", "11111");
        fitting("LAM:0 ?", "11111");
    }

    private static void large() {
        topic("A type of more than 7 tokens is LARGE");
        String[] types = {"INT", "FUN INT INT", "PAIR INT PAIR INT INT", "FUN FUN INT INT PAIR INT INT"};
        for (int a = 0; a < types.length; a++) {
            for (int b = 0; b < types.length; b++) {
                int tokens = 1 + (1 + 2 * a) + (1 + 2 * b);
                String unknown = " AS:9 NUM:1";
                String function = "LAM:" + a + " AS:" + b + unknown;
                String pair = "BOTH AS:" + a + unknown + " AS:" + b + unknown;
                Bench x = new Bench(types);
                if (tokens <= 7) {
                    x.hasType(function, "FUN " + types[a] + " " + types[b]);
                    x.hasType(pair, "PAIR " + types[a] + " " + types[b]);
                } else {
                    x.isWrong(function, LARGE, 0);
                    x.isWrong(pair, LARGE, 0);
                    x.isWrong("ADD NUM:1 " + function, LARGE, 2);
                    x.isWrong("FIRST " + pair, LARGE, 1);
                    x.isWrong("AS:9 " + pair, LARGE, 1);
                }
            }
        }
        Bench x = new Bench(types);
        x.hasType("AS:3 AS:9 NUM:1", types[3]);
        x.hasType("IF TRUTH:1 AS:3 AS:9 NUM:1 AS:9 NUM:1", types[3]);
        x.hasType("APP LAM:1 AS:9 VAR:0 AS:9 NUM:1", "ANY");
        x.hasType("APP AS:3 AS:9 NUM:1 AS:1 AS:9 NUM:1", "PAIR INT INT");
    }

    private static void theFirstThingWrong() {
        Bench x = topic("the first thing wrong counts", "INT", "BOOL", "FUN INT INT");
        String large = "BOTH LAM:2 NUM:1 LAM:2 NUM:1";
        x.isWrong("VAR:0 NUM:1", SYNTAX, 1);
        x.isWrong("ADD VAR:0", SYNTAX, 2);
        x.isWrong("LAM:2 LAM:2 LAM:2", SYNTAX, 3);
        x.isWrong("ADD VAR:0 VAR:0", ILL, 1);
        x.isWrong("ADD NUM:1 VAR:0", ILL, 2);
        x.isWrong("ADD TRUTH:1 VAR:0", ILL, 2);
        x.isWrong("IF NUM:1 NUM:1 VAR:0", ILL, 3);
        x.isWrong("IF NUM:1 VAR:0 TRUTH:1", ILL, 2);
        x.isWrong("IF FIRST NUM:1 VAR:0 VAR:0", ILL, 1);
        x.isWrong("APP NUM:1 ADD NUM:1 TRUTH:1", ILL, 2);
        x.isWrong("AS:1 ADD NUM:1 TRUTH:1", ILL, 1);
        x = new Bench("INT", "BOOL", "FUN INT INT");
        x.isWrong(large, LARGE, 0);
        x.isWrong("ADD " + large + " VAR:0", LARGE, 1);
        x.isWrong("ADD VAR:0 " + large, ILL, 1);
        x.isWrong("ADD NUM:1 " + large, LARGE, 2);
        x.isWrong("BOTH LAM:2 NUM:1 LAM:2 VAR:1", ILL, 4);
        x.isWrong("LAM:2 LAM:2 ADD NUM:1 TRUTH:1", ILL, 2);
        x.isWrong("LAM:2 LAM:2 LAM:2 LAM:2 NUM:1", LARGE, 2);
        x.isWrong("BOTH NUM:1 BOTH " + large + " VAR:0", LARGE, 3);
    }

    private static void whatStays() {
        Bench x = topic("S = T = INT, BOOL or ANY: it stays", "INT", "BOOL", "FUN ANY ANY", "PAIR ANY ANY");
        x.gives("AS:0 NUM:5", 2, 1, 5, 0);
        x.gives("AS:1 TRUTH:1", 2, 2, 1, 0);
        x.gives("AS:9 AS:9 NUM:5", 3, 1, 5, 1);
        x.gives("AS:0 AS:9 AS:9 NUM:5", 4, 1, 5, 0);
        x.gives("AS:9 AS:9 TRUTH:0", 3, 2, 0, 1);
        x.gives("AS:9 AS:9 LAM:9 VAR:0", 3, 3, 0, 1);
        x.gives("AS:2 AS:9 AS:9 LAM:9 VAR:0", 4, 3, 0, 0);
        x.gives("AS:9 AS:9 BOTH NUM:1 NUM:2", 5, 4, 0, 1);
        x.gives("AS:3 AS:9 AS:9 BOTH NUM:1 NUM:2", 6, 4, 0, 0);
        x.sees(1, 1, 1, 1);
    }

    private static void tags() {
        topic("if the tag is not G: BLAME p");
        String[] values = {"NUM:5", "TRUTH:1", "LAM:9 VAR:0", "BOTH NUM:1 NUM:1"};
        int[] steps = {1, 1, 1, 3};
        for (int v = 0; v < values.length; v++) {
            for (int t = 0; t < 7; t++) {
                Bench x = new Bench("INT", "BOOL", "FUN ANY ANY", "PAIR ANY ANY", "INT", "BOOL", "FUN INT BOOL",
                    "PAIR BOOL INT");
                String term = "BOTH NUM:1 AS:" + t + " AS:9 " + values[v];
                if (t % 4 == v) {
                    x.ends(term, OK, 0, steps[v] + 4);
                    due("look(2, 0)", x.look(2, 0), v + 1);
                    due("look(2, 2)", x.look(2, 2), 0);
                } else {
                    x.blames(term, 7, steps[v] + 4);
                }
            }
        }
    }

    private static void onlyWhatIsNeeded() {
        Bench x = topic("of IF only those needed; LAM is a function", "INT", "BOOL");
        x.gives("IF TRUTH:1 NUM:1 AS:0 AS:9 TRUTH:1", 3, 1, 1, 0);
        x.gives("IF TRUTH:0 AS:0 AS:9 TRUTH:1 NUM:2", 3, 1, 2, 0);
        x.blames("IF TRUTH:1 AS:0 AS:9 TRUTH:1 NUM:2", 7, 5);
        x.blames("IF TRUTH:0 NUM:1 AS:0 AS:9 TRUTH:1", 10, 5);
        x.gives("IF TRUTH:1 AS:9 NUM:1 " + ENDLESS, 4, 1, 1, 1);
        x.gives("IF LESS NUM:1 NUM:1 NUM:1 NUM:2", 5, 1, 2, 0);
        x.gives("LAM:9 AS:0 AS:9 TRUTH:1", 1, 3, 0, 0);
        x.gives("AS:9 LAM:9 " + ENDLESS, 2, 3, 0, 1);
        x.blames("APP LAM:9 AS:0 AS:9 TRUTH:1 NUM:1", 7, 6);

        Bench.topic("each one is cast, if it is, before the next one is worked out");
        x.blames("ADD AS:9 TRUTH:1 AS:0 AS:9 TRUTH:1", 1, 3);
        x.blames("ADD NUM:1 AS:0 AS:9 TRUTH:1", 7, 5);
        x.blames("APP AS:9 NUM:1 AS:0 AS:9 TRUTH:1", 1, 3);
        x.blames("APP LAM:0 AS:1 AS:9 VAR:0 AS:9 TRUTH:1", 2, 4);
        x.blames("IF AS:9 NUM:1 AS:0 AS:9 TRUTH:1 NUM:1", 1, 3);
    }

    private static void wrapAround() {
        Bench x = topic("ADD wraps");
        x.gives("ADD NUM:2147483647 NUM:0", 3, 1, MAX, 0);
        x.gives("ADD NUM:2147483647 NUM:1", 3, 1, MIN, 0);
        x.gives("ADD NUM:2147483647 NUM:2147483647", 3, 1, -2, 0);
        x.gives("ADD NUM:-2147483648 NUM:0", 3, 1, MIN, 0);
        x.gives("ADD NUM:-2147483648 NUM:-1", 3, 1, MAX, 0);
        x.gives("ADD NUM:-2147483648 NUM:-2147483648", 3, 1, 0, 0);
        x.gives("ADD NUM:-2147483648 NUM:2147483647", 3, 1, -1, 0);

        Bench.topic("LESS: a truth");
        x.gives("LESS NUM:-2147483648 NUM:2147483647", 3, 2, 1, 0);
        x.gives("LESS NUM:2147483647 NUM:-2147483648", 3, 2, 0, 0);
        x.gives("LESS NUM:-2147483648 NUM:-2147483648", 3, 2, 0, 0);
        x.gives("LESS NUM:-2147483648 NUM:-2147483647", 3, 2, 1, 0);
        x.gives("LESS NUM:-1 NUM:0", 3, 2, 1, 0);
        x.gives("LESS NUM:0 NUM:0", 3, 2, 0, 0);
        x.gives("LESS NUM:0 NUM:-1", 3, 2, 0, 0);
    }

    private static Bench stepsBench() {
        return new Bench("INT", "FUN INT INT", "BOOL");
    }

    private static void fortySteps() {
        Bench x = topic("Each token that is begun takes one of 40 STEPS: LONG if none is left",
            "INT", "FUN INT INT", "BOOL");
        x.gives(STEPS_38, 38, 1, 1, 0);
        x.gives("AS:0 AS:0 " + STEPS_38, 40, 1, 1, 0);
        x.ends("AS:0 AS:0 AS:0 " + STEPS_38, LONG, 0, 40);
        x.ends(ENDLESS, LONG, 0, 40);
        String[] lastTokens = {"NUM:1", "TRUTH:1", "LAM:0 VAR:0"};
        for (String last : lastTokens) {
            Bench y = stepsBench();
            y.gives("BOTH " + STEPS_38 + " " + last, 40, 4, 0, 0);
            y.ends("AS:9 BOTH " + STEPS_38 + " " + last, LONG, 0, 40);
            y.gives("SECOND BOTH " + STEPS_38.replaceFirst("AS:0 ", "") + " " + last, 39,
                last.startsWith("N") ? 1 : last.startsWith("T") ? 2 : 3, last.startsWith("L") ? 0 : 1, 0);
        }
        Bench y = stepsBench();
        y.ends("BOTH " + STEPS_38 + " ADD NUM:1 NUM:2", LONG, 0, 40);
        y.ends("APP LAM:0 VAR:0 " + STEPS_38, LONG, 0, 40);
        y.ends("APP LAM:0 VAR:0 " + STEPS_38.replaceFirst("AS:0 ", ""), OK, 0, 39);
    }

    private static void theEndOfEverything() {
        Bench x = topic("BLAME and LONG end everything", "INT", "FUN INT INT", "BOOL");
        x.blames("BOTH AS:2 AS:9 NUM:1 " + ENDLESS, 4, 4);
        x.ends("BOTH " + ENDLESS + " AS:2 AS:9 NUM:1", LONG, 0, 40);
        x.blames("ADD AS:0 AS:9 TRUTH:1 AS:0 AS:9 TRUTH:0", 4, 4);
        x.blames("ADD APP LAM:9 AS:0 VAR:0 TRUTH:1 ADD NUM:1 NUM:2", 10, 6);
        x.blames("AS:2 AS:9 " + STEPS_38, 1, 40);
        x.ends("AS:2 AS:9 AS:9 " + STEPS_38, LONG, 0, 40);
        x.ends("AS:2 AS:9 " + ENDLESS, LONG, 0, 40);
        // An argument that cannot be cast is blamed before the body is begun.
        x.blames("APP AS:9 LAM:0 ADD VAR:0 NUM:1 TRUTH:1", -4, 4);
        due("a run after BLAME", x.run(), BLAME);
        x.gives("NUM:3", 1, 1, 3, 0);
    }

    // Promises 1 to 5

    private static void aNewObject() {
        topic("All named types are ANY, both drafts are empty");
        for (int n = 0; n <= 9; n++) {
            Bench x = new Bench();
            x.hasType("AS:" + n + " NUM:1", "ANY");
            x.hasType("LAM:" + n + " VAR:0", "FUN ANY ANY");
        }
        due("wipe()", new Bench().wipe(), 0);
        due("name(0)", new Bench().name(0), SYNTAX);
        due("check()", new Bench().check(), SYNTAX);
        due("run()", new Bench().run(), SYNTAX);
        due("place()", new Bench().place(), -1);
        due("typeAt(0)", new Bench().typeAt(0), -1);
        due("blamed()", new Bench().blamed(), 0);
        due("steps()", new Bench().steps(), 0);
        new Bench().sees(0, -1, -1, -1);
        new Bench().sees(1, -1, -1, -1);
        Bench x = new Bench();
        x.append("AS:0 ".repeat(35) + "NUM:1");
        due("check of 36 tokens", x.check(), OK);
        x.define(0, "FUN FUN FUN INT INT INT INT");
    }

    private static void partOutside() {
        Bench x = topic("False if it is outside 0..4 or there are 7");
        for (int code = -3; code <= 8; code++) {
            Bench one = new Bench();
            due("part(" + code + ")", one.part(code), code >= 0 && code <= 4);
            due("name after part(" + code + ")", one.name(0), code >= 0 && code <= 2 ? OK : SYNTAX);
        }
        for (int code : FAR) {
            due("part(" + code + ")", x.part(code), false);
        }
        x.draftType("FUN FUN FUN INT BOOL ANY");
        due("part(5) as the seventh", x.part(5), false);
        due("the seventh", x.part(1), true);
        for (int code = -1; code <= 5; code++) {
            due("part(" + code + ") as the eighth", x.part(code), false);
        }
        due("name", x.name(0), OK);
        x.hasType("AS:0 AS:9 NUM:1", "FUN FUN FUN INT BOOL ANY BOOL");
        for (int k = 0; k < 7; k++) {
            due("part " + k + " after name", x.part(0), true);
        }
        due("part 7 after name", x.part(0), false);
    }

    private static void nameOfNoType() {
        topic("SYNTAX if the draft is no type (the named type stays). The draft is empty then");
        String[] noTypes = {"FUN", "PAIR", "FUN INT", "PAIR ANY", "INT INT", "ANY ANY", "BOOL FUN", "FUN INT INT INT",
            "PAIR INT FUN INT", "FUN FUN INT INT", "FUN FUN FUN INT INT INT", "FUN INT INT INT INT INT INT",
            "FUN FUN FUN FUN INT INT INT", "PAIR INT PAIR INT PAIR INT PAIR", "INT INT INT INT INT INT INT",
            "FUN FUN FUN FUN FUN FUN FUN"};
        for (String draft : noTypes) {
            Bench x = new Bench("PAIR BOOL INT");
            x.draftType(draft);
            due("name of " + draft, x.name(0), SYNTAX);
            x.hasType("AS:0 AS:9 NUM:1", "PAIR BOOL INT");
            due("name of an empty draft", x.name(0), SYNTAX);
            x.define(0, "FUN INT FUN INT FUN INT INT");
            due("name of an empty draft", x.name(0), SYNTAX);
            x.hasType("AS:0 AS:9 NUM:1", "FUN INT FUN INT FUN INT INT");
        }
        String[] types = {"INT", "BOOL", "ANY", "FUN INT INT", "PAIR ANY BOOL", "FUN INT FUN INT INT",
            "PAIR PAIR INT INT INT", "PAIR PAIR PAIR INT INT INT INT", "FUN FUN INT INT FUN INT INT"};
        for (String type : types) {
            Bench x = new Bench(type);
            x.hasType("AS:0 AS:9 NUM:1", type);
        }
    }

    private static void nameOutside() {
        Bench x = topic("BAD, and the draft stays, if n is outside 0..9");
        due("name(-1) of an empty draft", x.name(-1), BAD);
        due("name(10) of an empty draft", x.name(10), BAD);
        x.draftType("PAIR INT FUN INT PAIR INT");
        for (int n : FAR) {
            due("name(" + n + ")", x.name(n), BAD);
        }
        due("name(-1)", x.name(-1), BAD);
        due("name(10)", x.name(10), BAD);
        due("the seventh part", x.part(1), true);
        due("name(10) of a full draft", x.name(10), BAD);
        due("an eighth part", x.part(1), false);
        due("name(9)", x.name(9), OK);
        x.hasType("AS:9 AS:0 NUM:1", "PAIR INT FUN INT PAIR INT BOOL");
        x.define(0, "BOOL");
        x.hasType("AS:0 AS:1 NUM:1", "BOOL");
    }

    private static void nameForDraftedTerms() {
        Bench x = topic("Named type n is the drafted one from now on (for all terms, those that are drafted too)");
        x.draft("AS:3 NUM:1");
        due("check()", x.check(), OK);
        x.define(3, "BOOL");
        due("check() after BOOL", x.check(), ILL);
        due("run() after BOOL", x.run(), ILL);
        x.define(3, "INT");
        due("run() after INT", x.run(), OK);
        due("look(0, 2)", x.look(0, 2), 0);
        x.define(3, "ANY");
        due("look(0, 2) of the value that was", x.look(0, 2), 0);
        due("typeAt(0)", x.typeAt(0), 2);
        due("run() after ANY", x.run(), OK);
        due("look(0, 2)", x.look(0, 2), 1);
    }

    private static void tokenRefused() {
        Bench x = topic("False if kind is outside 0..11, the value of TRUTH, VAR, LAM or AS not as said, "
            + "or there are 36");
        for (int kind = -3; kind <= 15; kind++) {
            due("token(" + kind + ", 0)", x.token(kind, 0), kind >= 0 && kind <= 11);
        }
        due("wipe()", x.wipe(), 12);
        for (int kind : FAR) {
            due("token(" + kind + ", 0)", x.token(kind, 0), false);
            due("token(" + kind + ", 99)", x.token(kind, 99), false);
        }
        due("wipe()", x.wipe(), 0);
        // The other kinds have no value that counts.
        int[] withoutValue = {4, 5, 6, 7, 8, 9, 10};
        for (int kind : withoutValue) {
            due("token(" + kind + ", -1)", x.token(kind, -1), true);
            due("token(" + kind + ", MIN)", x.token(kind, MIN), true);
            due("token(" + kind + ", MAX)", x.token(kind, MAX), true);
        }
        due("wipe()", x.wipe(), 21);
        x.gives("ADD:-7 NUM:1 FIRST:99 BOTH:12 NUM:2 NUM:3", 6, 1, 3, 0);
        // A refused token changes nothing.
        x.draft("ADD NUM:1");
        due("token(1, 2)", x.token(TRUTH, 2), false);
        due("token(12, 0)", x.token(12, 0), false);
        due("token(2, 10)", x.token(VAR, 10), false);
        due("token(0, 4)", x.token(NUM, 4), true);
        due("run()", x.run(), OK);
        due("look(0, 1)", x.look(0, 1), 5);
        due("wipe()", x.wipe(), 3);
    }

    private static void wipeCounts() {
        topic("Empties the draft of the term; how many tokens it had");
        for (int tokens = 0; tokens <= 36; tokens++) {
            Bench x = new Bench();
            for (int k = 0; k < tokens; k++) {
                x.append("NUM:1");
            }
            due("wipe()", x.wipe(), tokens);
            due("wipe() of an empty draft", x.wipe(), 0);
            due("check() of an empty draft", x.check(), SYNTAX);
            due("place()", x.place(), 0);
        }
        Bench x = new Bench("INT", "BOOL");
        x.append("AS:9 ".repeat(36));
        due("a 37th token", x.token(NUM, 1), false);
        due("wipe()", x.wipe(), 36);
        x.append("AS:9 ".repeat(36));
        due("a 37th token after wipe", x.token(NUM, 1), false);
        x.blames("AS:1 AS:9 NUM:1", 1, 3);
        x.draftType("FUN INT");
        due("wipe()", x.wipe(), 3);
        due("blamed()", x.blamed(), 1);
        due("steps()", x.steps(), 3);
        x.define(1, "BOOL");
        x.hasType("AS:1 AS:9 NUM:1", "FUN INT BOOL");
    }

    // Promises 6 to 8

    private static void checkAnswers() {
        Bench x = topic("SYNTAX if the draft is no term, ILL, LARGE, or OK", "INT", "FUN INT INT");
        String[] terms = {"NUM:1", "NUM:1 NUM:1", "ADD NUM:1", "VAR:0", "AS:0 TRUTH:1", "LAM:1 NUM:1",
            "LAM:1 LAM:1 NUM:1", "AS:9 NUM:1"};
        int[] verdicts = {OK, SYNTAX, SYNTAX, ILL, ILL, OK, LARGE, OK};
        due("check() of an empty draft", x.check(), SYNTAX);
        x.blames("AS:0 AS:9 TRUTH:1", 1, 3);
        for (int k = 0; k < terms.length; k++) {
            x.draft(terms[k]);
            due("check of " + terms[k], x.check(), verdicts[k]);
            due("check again of " + terms[k], x.check(), verdicts[k]);
            due("blamed() of the run before", x.blamed(), 1);
            due("steps() of the run before", x.steps(), 3);
        }
        x.gives("NUM:7", 1, 1, 7, 0);
        for (int k = 0; k < terms.length; k++) {
            x.draft(terms[k]);
            due("check of " + terms[k], x.check(), verdicts[k]);
            due("look(0, 1) of the run before", x.look(0, 1), 7);
        }
        // A term that would not end, and one that blames, are well typed.
        x.draft(ENDLESS);
        due("check of an endless term", x.check(), OK);
        x.draft("AS:0 AS:9 TRUTH:1");
        due("check of a term that blames", x.check(), OK);
    }

    private static void syntaxPlace(int place, String term) {
        Bench x = new Bench();
        x.append(term);
        due("check of " + term, x.check(), SYNTAX);
        due("place of " + term, x.place(), place);
        Bench y = new Bench();
        y.append(term);
        due("run of " + term, y.run(), SYNTAX);
        due("place of " + term, y.place(), place);
    }

    private static void placeOfSyntax() {
        topic("SYNTAX: the first one behind a whole term, or their number if something is missing");
        syntaxPlace(1, "NUM:1 NUM:1");
        syntaxPlace(1, "NUM:1 ADD NUM:1 NUM:1");
        syntaxPlace(1, "TRUTH:1" + " NUM:1".repeat(35));
        syntaxPlace(3, "BOTH NUM:1 NUM:1 NUM:1");
        syntaxPlace(4, "IF NUM:1 NUM:1 NUM:1 NUM:1 NUM:1");
        syntaxPlace(35, "AS:9 ".repeat(34) + "NUM:1 NUM:1");
        syntaxPlace(1, "LAM:9");
        syntaxPlace(2, "APP NUM:1");
        syntaxPlace(3, "IF TRUTH:1 NUM:1");
        syntaxPlace(35, "AS:9 ".repeat(35));
        syntaxPlace(36, "AS:9 ".repeat(36));
        syntaxPlace(36, "IF ".repeat(36));
        Bench x = new Bench();
        due("check of nothing", x.check(), SYNTAX);
        due("place of nothing", x.place(), 0);
        Bench y = new Bench();
        due("run of nothing", y.run(), SYNTAX);
        due("place of nothing", y.place(), 0);
    }

    private static void placeOfTheLatest() {
        Bench x = topic("Of the latest check or run that was SYNTAX, ILL or LARGE: the token where it is so; "
            + "-1 if none was", "INT", "FUN INT INT");
        due("place()", x.place(), -1);
        x.gives("NUM:1", 1, 1, 1, 0);
        due("place() after OK", x.place(), -1);
        x.hasType("NUM:1", "INT");
        due("place() after OK", x.place(), -1);
        x.blames("AS:0 AS:9 TRUTH:1", 1, 3);
        due("place() after BLAME", x.place(), -1);
        x.ends(ENDLESS, LONG, 0, 40);
        due("place() after LONG", x.place(), -1);
        String[] wrong = {"NUM:1 NUM:1", "ADD NUM:1 ADD NUM:1 TRUTH:1", "BOTH NUM:1 AS:0 AS:9 LAM:1 LAM:1 LAM:1 NUM:1",
            "ADD NUM:1 ADD NUM:1 ADD NUM:1 VAR:0", "ADD"};
        int[] places = {1, 2, 5, 6, 1};
        for (int k = 0; k < wrong.length; k++) {
            x.draft(wrong[k]);
            due("is " + wrong[k] + " well", (k % 2 == 0 ? x.check() : x.run()) == OK, false);
            due("place of " + wrong[k], x.place(), places[k]);
            x.wipe();
            due("place() after wipe", x.place(), places[k]);
            x.gives("NUM:1", 1, 1, 1, 0);
            due("check()", x.check(), OK);
            due("place() after OK", x.place(), places[k]);
        }
        x.blames("AS:0 AS:9 TRUTH:1", 1, 3);
        due("place() after BLAME", x.place(), 1);
        x.ends(ENDLESS, LONG, 0, 40);
        due("place() after LONG", x.place(), 1);
        // The greatest place of what is ill typed: the last of 36 tokens.
        x.isWrong("AS:9 ".repeat(35) + "VAR:0", ILL, 35);
    }

    private static void typeAtOutside() {
        topic("Token k of the type of the draft; -1 if check() is not OK or there is none");
        int[][] types = {{0}, {1}, {2}, {3, 0, 1}, {4, 2, 3, 1, 0}, {3, 3, 4, 0, 0, 0, 0}, {4, 4, 1, 1, 3, 1, 1}};
        for (int[] type : types) {
            Bench x = new Bench();
            for (int code : type) {
                x.part(code);
            }
            x.name(0);
            x.append("AS:0 AS:9 NUM:1");
            for (int k = -3; k <= 12; k++) {
                due("typeAt(" + k + ")", x.typeAt(k), k >= 0 && k < type.length ? type[k] : -1);
            }
            for (int k : FAR) {
                due("typeAt(" + k + ")", x.typeAt(k), -1);
            }
        }
        Bench x = new Bench("INT", "FUN INT INT");
        String[] wrong = {"NUM:1 NUM:1", "ADD NUM:1", "VAR:0", "AS:0 TRUTH:1", "LAM:1 LAM:1 LAM:1 NUM:1"};
        for (String term : wrong) {
            x.hasType("NUM:1", "INT");
            x.draft(term);
            due("typeAt(0) of " + term, x.typeAt(0), -1);
            due("typeAt(1) of " + term, x.typeAt(1), -1);
        }
        x.wipe();
        due("typeAt(0) of nothing", x.typeAt(0), -1);
        // A term whose run does not end well has a type all the same.
        x.blames("AS:0 AS:9 TRUTH:1", 1, 3);
        due("typeAt(0)", x.typeAt(0), 0);
    }

    // Promises 9 to 12

    private static void runChecks() {
        Bench x = topic("Checks and, if that is OK, works out the draft", "INT", "FUN INT INT");
        String[] terms = {"NUM:1", "NUM:1 NUM:1", "ADD NUM:1", "VAR:0", "BOTH NUM:1 AS:0 TRUTH:1",
            "LAM:1 LAM:1 LAM:1 NUM:1", "AS:0 AS:9 TRUTH:1", ENDLESS, "ADD NUM:1 NUM:1"};
        int[] verdicts = {OK, SYNTAX, SYNTAX, ILL, ILL, LARGE, BLAME, LONG, OK};
        int[] steps = {1, 0, 0, 0, 0, 0, 3, 40, 3};
        due("run() of nothing", x.run(), SYNTAX);
        for (int k = 0; k < terms.length; k++) {
            x.draft(terms[k]);
            for (int again = 0; again < 2; again++) {
                due("run of " + terms[k], x.run(), verdicts[k]);
                due("steps of " + terms[k], x.steps(), steps[k]);
                due("blamed of " + terms[k], x.blamed(), verdicts[k] == BLAME ? 1 : 0);
                due("look(0, 0) of " + terms[k], x.look(0, 0), verdicts[k] == OK ? 1 : -1);
            }
        }
        // What is ill typed in a place that is not needed is ill typed.
        x.isWrong("IF TRUTH:1 NUM:1 ADD NUM:1 TRUTH:1", ILL, 3);
        x.isWrong("LAM:9 ADD NUM:1 TRUTH:1", ILL, 1);
        due("wipe()", x.wipe(), 4);
    }

    private static void blamedOrNot() {
        Bench x = topic("the label plus 1, or minus that if it was turned; else 0", "INT", "FUN INT INT");
        String[] others = {"NUM:1", "NUM:1 NUM:1", "ADD NUM:1", "VAR:0", "LAM:1 LAM:1 LAM:1 NUM:1", ENDLESS};
        due("blamed()", x.blamed(), 0);
        for (String other : others) {
            Bench y = new Bench("INT", "FUN INT INT");
            y.blames("AS:0 AS:9 TRUTH:1", 1, 3);
            y.draft(other);
            y.check();
            due("blamed() before the run of " + other, y.blamed(), 1);
            y.run();
            due("blamed() after the run of " + other, y.blamed(), 0);
        }
        x.blames("APP AS:9 LAM:0 VAR:0 TRUTH:1", -4, 4);
        x.wipe();
        x.define(0, "BOOL");
        due("blamed() after wipe and name", x.blamed(), -4);
    }

    private static void stepsOrNone() {
        Bench x = topic("How many STEPS the latest run took (0 if it was SYNTAX, ILL or LARGE)", "INT", "FUN INT INT");
        due("steps()", x.steps(), 0);
        String[] wrong = {"NUM:1 NUM:1", "ADD NUM:1", "VAR:0", "ADD NUM:1 TRUTH:1", "LAM:1 LAM:1 LAM:1 NUM:1"};
        for (String term : wrong) {
            x.gives("ADD NUM:1 NUM:2", 3, 1, 3, 0);
            x.draft(term);
            due("check of " + term, x.check() == OK, false);
            due("steps() before the run of " + term, x.steps(), 3);
            x.run();
            due("steps() after the run of " + term, x.steps(), 0);
        }
        x.gives("NUM:1", 1, 1, 1, 0);
        x.blames("ADD NUM:1 AS:9 TRUTH:1", 2, 4);
        x.ends(ENDLESS, LONG, 0, 40);
    }

    private static void lookIfItWasOk() {
        topic("A part of the value of the latest run, if it was OK");
        String[] terms = {"NUM:1 NUM:1", "ADD NUM:1", "VAR:0", "LAM:1 LAM:1 LAM:1 NUM:1", "AS:0 AS:9 TRUTH:1", ENDLESS};
        for (String term : terms) {
            Bench x = new Bench("INT", "FUN INT INT");
            x.sees(0, -1, -1, -1);
            x.gives("BOTH NUM:5 NUM:6", 3, 4, 0, 0);
            x.draft(term);
            x.check();
            x.sees(1, 1, 5, 0);
            due("run of " + term, x.run() == OK, false);
            x.sees(0, -1, -1, -1);
            x.sees(1, -1, -1, -1);
            x.wipe();
            x.sees(0, -1, -1, -1);
        }
        Bench x = new Bench();
        x.gives("NUM:-1", 1, 1, -1, 0);
        x.gives("NUM:-2", 1, 1, -2, 0);
        x.gives("AS:9 NUM:-2147483648", 2, 1, MIN, 1);
        x.gives("AS:9 TRUTH:0", 2, 2, 0, 1);
        x.gives("AS:9 LAM:0 VAR:0", 2, 3, 0, 1);
        x.gives("AS:9 BOTH NUM:1 NUM:2", 4, 4, 0, 1);
    }

    private static void lookOutside() {
        Bench x = topic("-1 if there is no such part, digit or what", "INT");
        x.gives("BOTH BOTH NUM:7 TRUTH:1 AS:9 LAM:0 VAR:0", 6, 4, 0, 0);
        for (int what = -3; what <= 6; what++) {
            due("look(5, " + what + ")", x.look(1 + 4 * 1, what), what == 0 ? 1 : what == 1 ? 7 : what == 2 ? 0 : -1);
        }
        for (int what : FAR) {
            due("look(0, " + what + ")", x.look(0, what), -1);
        }
        int[] ways = {0, 1, 2, 3, 4, 5, 6, 7, 8, 9, 10, 11, 12, 16, 21, 25, 37, 57, 48};
        int[] shapes = {4, 4, 3, -1, 4, 1, -1, -1, 4, 2, -1, -1, 4, 4, -1, -1, -1, -1, 4};
        for (int k = 0; k < ways.length; k++) {
            due("look(" + ways[k] + ", 0)", x.look(ways[k], 0), shapes[k]);
        }
        int[] noWays = {-1, -2, -3, -5, MIN + 1, MAX, MAX - 4};
        for (int way : noWays) {
            x.sees(way, -1, -1, -1);
        }
        String[] withoutParts = {"NUM:1", "TRUTH:1", "LAM:0 VAR:0", "AS:9 NUM:1", "AS:9 TRUTH:1", "AS:9 LAM:0 VAR:0"};
        for (String term : withoutParts) {
            x.ends(term, OK, 0, term.startsWith("AS") ? 2 : 1);
            due("look(1, 0) of " + term, x.look(1, 0), -1);
            due("look(2, 2) of " + term, x.look(2, 2), -1);
            due("look(4, 0) of " + term, x.look(4, 0) > 0, true);
        }
    }

    /** Pairs in pairs, as many as 36 tokens can be: the k-th from outside has k + 1 as its first part. */
    private static void theLongestWay() {
        Bench x = topic("way is a number base 4: from its lowest digit on");
        String term = "NUM:77";
        for (int k = 14; k >= 0; k--) {
            term = "BOTH NUM:" + (k + 1) + " " + (k % 3 == 2 && k < 14 ? "AS:9 " : "") + term;
        }
        x.ends(term, OK, 0, 35);
        int way = 0;
        int place = 1;
        for (int k = 0; k < 15; k++) {
            int tagged = k >= 3 ? 1 : 0;
            x.sees(way, 4, 0, tagged);
            x.sees(way + place, 1, k + 1, tagged);
            way += 2 * place;
            place *= 4;
        }
        x.sees(way, 1, 77, 1);
        x.sees(way + place, -1, -1, -1);
        x.sees(place, 4, 0, 0);
    }

    private static void lookThatBlames() {
        Bench x = topic("-2 if that BLAMEs on the way", "PAIR PAIR INT INT ANY", "PAIR ANY BOOL", "PAIR INT INT",
            "PAIR ANY PAIR ANY INT");
        x.ends("AS:0 AS:9 BOTH BOTH NUM:1 TRUTH:1 NUM:3", OK, 0, 7);
        x.sees(1, 4, 0, 0);
        x.sees(1 + 4 * 1, 1, 1, 0);
        x.sees(1 + 4 * 2, -2, -2, -2);
        x.sees(1 + 4 * 2 + 16 * 1, -2, -2, -2);
        x.sees(1 + 4 * 1 + 16 * 1, -1, -1, -1);
        x.sees(2, 1, 3, 1);
        due("blamed()", x.blamed(), 0);
        due("steps()", x.steps(), 7);
        due("place()", x.place(), -1);
        x.ends("AS:0 AS:9 BOTH NUM:1 NUM:2", OK, 0, 5);
        x.sees(1, -2, -2, -2);
        x.sees(1 + 4 * 1, -2, -2, -2);
        x.sees(2, 1, 2, 1);
        // A cast within casts blames, whichever of them it is.
        x.ends("AS:9 AS:1 AS:9 AS:2 AS:9 BOTH NUM:1 NUM:2", OK, 0, 8);
        x.sees(1, 1, 1, 1);
        x.sees(2, -2, -2, -2);
        x.ends("AS:9 AS:2 AS:9 AS:1 AS:9 BOTH NUM:1 TRUTH:1", OK, 0, 8);
        x.sees(1, 1, 1, 1);
        x.sees(2, -2, -2, -2);
        x.ends("AS:3 BOTH TRUTH:1 AS:9 BOTH NUM:1 TRUTH:0", OK, 0, 7);
        x.sees(2 + 4 * 1, 1, 1, 1);
        x.sees(2 + 4 * 2, -2, -2, -2);

        Bench y = topic("(Parts are what FIRST and SECOND give.)", "PAIR PAIR INT INT ANY", "PAIR INT INT");
        y.blames("SECOND FIRST AS:0 AS:9 BOTH BOTH NUM:1 TRUTH:1 NUM:3", 7, 9);
        y.gives("FIRST FIRST AS:0 AS:9 BOTH BOTH NUM:1 TRUTH:1 NUM:3", 9, 1, 1, 0);
        y.ends("AS:9 AS:1 ".repeat(16) + "BOTH NUM:1 NUM:2", OK, 0, 35);
        y.sees(1, 1, 1, 1);
        y.sees(2, 1, 2, 1);
    }

    // The language

    private static void wildCall(GradualDesk x, Random random) {
        int a = random.nextInt(3) == 0 ? FAR[random.nextInt(FAR.length)] : random.nextInt(16) - 2;
        int b = random.nextInt(3) == 0 ? FAR[random.nextInt(FAR.length)] : random.nextInt(14) - 2;
        switch (random.nextInt(16)) {
            case 0, 1 -> x.part(a);
            case 2 -> x.name(a);
            case 3, 4, 5, 6, 7, 8 -> x.token(a, b);
            case 9 -> x.token(random.nextInt(3), random.nextInt(2));
            case 10 -> x.check();
            case 11 -> x.typeAt(a);
            case 12 -> x.run();
            case 13 -> x.place();
            case 14 -> x.look(a, b);
            default -> {
                if (random.nextInt(6) == 0) {
                    x.wipe();
                }
            }
        }
    }

    private static void nothingThrows() {
        topic("No call may ever throw or fail to end, for any arguments in any state");
        for (int seed = 0; seed < 200; seed++) {
            Random random = new Random(seed);
            GradualDesk x = new GradualDesk();
            try {
                for (int call = 0; call < 3000; call++) {
                    wildCall(x, random);
                }
            } catch (RuntimeException thrown) {
                Bench.due("wild calls of seed " + seed, thrown.toString(), "no exception");
            }
        }
    }

    private static void constants() {
        topic("OK = 0, SYNTAX = 1, ILL = 2, LARGE = 3, BLAME = 4, LONG = 5, BAD = -1");
        int[] are = {OK, SYNTAX, ILL, LARGE, BLAME, LONG, BAD};
        int[] want = {0, 1, 2, 3, 4, 5, -1};
        for (int k = 0; k < are.length; k++) {
            due("constant " + k, are[k], want[k]);
        }
    }

    public static void main(String[] args) {
        constants();
        theLastCall();
        allCallsOfOneSort();

        tenNamedTypes();
        consistency();
        thirtySixTokens();
        valuesOfTokens();
        variables();
        labels();
        illTyped();
        large();
        theFirstThingWrong();
        whatStays();
        tags();
        onlyWhatIsNeeded();
        wrapAround();
        fortySteps();
        theEndOfEverything();

        aNewObject();
        partOutside();
        nameOfNoType();
        nameOutside();
        nameForDraftedTerms();
        tokenRefused();
        wipeCounts();

        checkAnswers();
        placeOfSyntax();
        placeOfTheLatest();
        typeAtOutside();

        runChecks();
        blamedOrNot();
        stepsOrNone();
        lookIfItWasOk();
        lookOutside();
        theLongestWay();
        lookThatBlames();

        nothingThrows();
        Bench.finish("the boundaries hold");
    }
}
