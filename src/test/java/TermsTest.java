import java.util.ArrayList;
import java.util.List;

/**
 * Each paragraph under "Terms" of the document, shown through the calls: the topic is how the
 * paragraph, or the line of it, begins.
 */
public final class TermsTest {
    private static final int ILL = GradualDesk.ILL, LARGE = GradualDesk.LARGE;
    private static final int SYNTAX = GradualDesk.SYNTAX, OK = GradualDesk.OK;
    private static final String[] TYPE_WORDS = {"INT", "BOOL", "ANY", "FUN", "PAIR"};

    // Operands of the types 0 and 1 of a bench, whose type 9 is ANY.
    private static final String S = "AS:0 AS:9 NUM:1", T = "AS:1 AS:9 NUM:1";

    private static void due(String what, long got, long want) {
        Bench.due(what, got, want);
    }

    /** Named types for what is worked out; 9 is ANY. */
    private static Bench runBench() {
        return new Bench("INT", "BOOL", "FUN ANY ANY", "PAIR ANY ANY", "FUN INT INT", "PAIR INT INT",
            "FUN INT BOOL", "PAIR BOOL INT", "FUN FUN INT INT INT");
    }

    // Types as the document defines them, in words

    private static String[] words(String type) {
        return type.split(" ");
    }

    /** Where the type ends that begins at this word; -1 if it does not end. */
    private static int endOf(String[] words, int at) {
        if (at < 0 || at >= words.length) {
            return -1;
        }
        boolean hasParts = words[at].equals("FUN") || words[at].equals("PAIR");
        return hasParts ? endOf(words, endOf(words, at + 1)) : at + 1;
    }

    private static boolean isType(String text) {
        String[] words = words(text);
        return endOf(words, 0) == words.length;
    }

    private static int size(String type) {
        return words(type).length;
    }

    private static String head(String type) {
        return words(type)[0];
    }

    private static String part(String type, int which) {
        String[] words = words(type);
        int middle = endOf(words, 1);
        List<String> all = List.of(words);
        return String.join(" ", which == 0 ? all.subList(1, middle) : all.subList(middle, words.length));
    }

    private static boolean consistent(String s, String t) {
        if (s.equals("ANY") || t.equals("ANY")) {
            return true;
        }
        if (!head(s).equals(head(t))) {
            return false;
        }
        return size(s) == 1 || consistent(part(s, 0), part(t, 0)) && consistent(part(s, 1), part(t, 1));
    }

    private static List<String> typesOf(int tokens) {
        List<String> found = new ArrayList<>();
        if (tokens == 1) {
            return List.of("INT", "BOOL", "ANY");
        }
        for (int left = 1; left < tokens - 1; left += 2) {
            for (String a : typesOf(left)) {
                for (String b : typesOf(tokens - 1 - left)) {
                    found.add("FUN " + a + " " + b);
                    found.add("PAIR " + a + " " + b);
                }
            }
        }
        return found;
    }

    /** All types of up to 3 tokens and some greater ones. */
    private static List<String> someTypes() {
        List<String> found = new ArrayList<>(typesOf(1));
        found.addAll(typesOf(3));
        found.add("FUN INT FUN BOOL ANY");
        found.add("PAIR PAIR ANY INT BOOL");
        found.add("PAIR FUN INT BOOL FUN ANY INT");
        found.add("FUN FUN FUN BOOL INT INT ANY");
        return found;
    }

    // TYPES, in prefix notation

    private static void prefixTypes() {
        Bench.topic("TYPES, in prefix notation: 0 INT, 1 BOOL, 2 ANY, 3 FUN followed by .., 4 PAIR followed by ..");
        List<String> texts = new ArrayList<>(List.of(TYPE_WORDS));
        for (int i = 0; i < texts.size() && size(texts.get(i)) < 5; i++) {
            for (String word : TYPE_WORDS) {
                texts.add(texts.get(i) + " " + word);
            }
        }
        due("texts of up to 5 tokens", texts.size(), 5 + 25 + 125 + 625 + 3125);
        Bench x = new Bench();
        for (String text : texts) {
            x = x.calls() > 450 ? new Bench() : x;
            x.draftType(text);
            due("name of " + text, x.name(0), isType(text) ? OK : SYNTAX);
        }
        for (int tokens = 1; tokens <= 7; tokens += 2) {
            for (String type : typesOf(tokens)) {
                x = x.calls() > 450 ? new Bench() : x;
                x.define(0, type);
                x.hasType(S, type);
            }
        }
    }

    private static void namedTypes() {
        Bench.topic("There are ten NAMED types 0..9 of at most 7 tokens");
        String[] types = {"INT", "BOOL", "ANY", "FUN INT BOOL", "PAIR BOOL INT", "FUN ANY FUN INT INT",
            "PAIR PAIR INT BOOL ANY", "FUN FUN ANY ANY FUN INT BOOL", "PAIR INT PAIR INT PAIR INT INT", "FUN BOOL BOOL"};
        Bench x = new Bench(types);
        for (int n = 0; n < types.length; n++) {
            // What is of type FUN ANY ANY called gives ANY, so AS n of it has type n.
            x.hasType("AS:" + n + " APP LAM:2 VAR:0 NUM:1", types[n]);
        }
    }

    private static void consistentTypes() {
        Bench.topic("Two types are CONSISTENT if one is ANY, or both are the same of INT and BOOL, or both are FUN, ..");
        List<String> types = new ArrayList<>(typesOf(1));
        types.addAll(typesOf(3));
        types.addAll(typesOf(5));
        Bench x = new Bench();
        for (String s : types) {
            for (String t : types) {
                if (x.calls() > 480) {
                    x = new Bench();
                }
                x.define(0, s);
                x.define(1, t);
                x.draft("AS:1 " + S);
                due("check of a cast from " + s + " to " + t, x.check(), consistent(s, t) ? OK : ILL);
            }
        }
    }

    // TERMS, in prefix notation

    private static void prefixTerms() {
        Bench.topic("TERMS, in prefix notation, at most 36 tokens (kind, value)");
        String[] kinds = {"NUM:5", "TRUTH:1", "VAR:0", "LAM:9", "APP", "IF", "ADD", "LESS", "BOTH", "FIRST", "SECOND", "AS:9"};
        int[] operands = {0, 0, 0, 1, 2, 3, 2, 2, 2, 1, 1, 1};
        for (int kind = 0; kind < kinds.length; kind++) {
            Bench x = new Bench();
            String operand = " APP VAR:0 VAR:0";
            // A LAM around it all, so that VAR is well typed.
            String whole = "LAM:9 " + kinds[kind] + operand.repeat(operands[kind]);
            int tokens = 2 + 3 * operands[kind];
            x.draft(whole);
            due("check of " + whole, x.check(), OK);
            x.isWrong(whole + " VAR:0", SYNTAX, tokens);
            x.isWrong(whole + operand + " VAR:0", SYNTAX, tokens);
            if (operands[kind] > 0) {
                String less = "LAM:9 " + kinds[kind] + operand.repeat(operands[kind] - 1);
                x.isWrong(less, SYNTAX, tokens - 3);
                x.isWrong(less + " APP VAR:0", SYNTAX, tokens - 1);
            }
        }
        Bench x = new Bench();
        x.draft("AS:9 ".repeat(35) + "NUM:1");
        due("a 37th token", x.token(0, 1) ? 1 : 0, 0);
        due("check of 36 tokens", x.check(), OK);
    }

    private static void tokenValues() {
        Bench.topic("0 NUM (any int)   1 TRUTH (0, 1)   2 VAR (0..9)   3 LAM (a named type) E   .. 11 AS (a named type) E");
        Bench x = new Bench();
        int[] ints = {0, 1, -1, 10, Integer.MAX_VALUE, Integer.MIN_VALUE};
        for (int n : ints) {
            x.gives("NUM:" + n, 1, 1, n, 0);
        }
        x.gives("TRUTH:0", 1, 2, 0, 0);
        x.gives("TRUTH:1", 1, 2, 1, 0);
        int[] most = {Integer.MAX_VALUE, 1, 9, 9, 5, 5, 5, 5, 5, 5, 5, 9};
        for (int kind = 0; kind < most.length; kind++) {
            boolean limited = kind >= 1 && kind <= 3 || kind == 11;
            due("token(" + kind + ", " + most[kind] + ")", x.token(kind, most[kind]) ? 1 : 0, 1);
            due("token(" + kind + ", " + (most[kind] + 1) + ")", x.token(kind, most[kind] + 1) ? 1 : 0, limited ? 0 : 1);
            due("token(" + kind + ", -1)", x.token(kind, -1) ? 1 : 0, limited ? 0 : 1);
        }
    }

    /** A term whose operand k blames after so many steps. */
    private record Blaming(String term, int k, int steps) { }

    private static void labels() {
        Bench.topic("Each E at token i has a TYPE, and some of its operands are CAST .. with labels 3 i + 0, 1, 2");
        Blaming[] all = {
            new Blaming("APP AS:9 NUM:1 NUM:1", 0, 3), new Blaming("APP LAM:0 VAR:0 AS:9 TRUTH:1", 1, 4),
            new Blaming("IF AS:9 NUM:1 NUM:1 NUM:1", 0, 3), new Blaming("IF TRUTH:0 NUM:1 AS:9 TRUTH:1", 2, 4),
            new Blaming("ADD AS:9 TRUTH:1 NUM:1", 0, 3), new Blaming("ADD NUM:1 AS:9 TRUTH:1", 1, 4),
            new Blaming("LESS AS:9 TRUTH:1 NUM:1", 0, 3), new Blaming("LESS NUM:1 AS:9 TRUTH:1", 1, 4),
            new Blaming("FIRST AS:9 NUM:1", 0, 3), new Blaming("SECOND AS:9 NUM:1", 0, 3),
            new Blaming("AS:0 AS:9 TRUTH:1", 0, 3)};
        for (int i = 0; i <= 31; i++) {
            Bench x = runBench();
            for (Blaming b : all) {
                x.blames("AS:9 ".repeat(i) + b.term, 3 * i + b.k + 1, i + b.steps);
            }
        }
    }

    // The type and the casts of each E

    /** A term of which the type is due: null if it is ill typed, and maybe a large one. */
    private static void typed(Bench x, String term, String type) {
        if (type == null) {
            x.isWrong(term, ILL, 0);
        } else if (size(type) > 7) {
            x.isWrong(term, LARGE, 0);
        } else {
            x.hasType(term, type);
        }
    }

    private static String calledType(String s, String t) {
        if (s.equals("ANY")) {
            return "ANY";
        }
        return head(s).equals("FUN") && consistent(t, part(s, 0)) ? part(s, 1) : null;
    }

    private static String takenType(String s, int which) {
        if (s.equals("ANY")) {
            return "ANY";
        }
        return head(s).equals("PAIR") ? part(s, which) : null;
    }

    private static void typeOfEach() {
        Bench.topic("NUM INT.  TRUTH BOOL.  VAR n: ..  LAM t: ..  BOTH: ..  APP: ..  FIRST, SECOND: ..  IF: ..  ADD, LESS: ..  AS t: ..");
        Bench leaves = new Bench("INT", "BOOL", "FUN INT INT");
        leaves.hasType("NUM:7", "INT");
        leaves.hasType("TRUTH:0", "BOOL");
        for (String s : someTypes()) {
            Bench x = new Bench(s);
            typed(x, "ADD " + S + " NUM:1", consistent(s, "INT") ? "INT" : null);
            typed(x, "ADD NUM:1 " + S, consistent(s, "INT") ? "INT" : null);
            typed(x, "LESS " + S + " NUM:1", consistent(s, "INT") ? "BOOL" : null);
            typed(x, "LESS NUM:1 " + S, consistent(s, "INT") ? "BOOL" : null);
            typed(x, "IF " + S + " NUM:1 NUM:1", consistent(s, "BOOL") ? "INT" : null);
            typed(x, "FIRST " + S, takenType(s, 0));
            typed(x, "SECOND " + S, takenType(s, 1));
            typed(x, "LAM:0 VAR:0", "FUN " + s + " " + s);
            for (String t : someTypes()) {
                Bench y = new Bench(s, t);
                typed(y, "LAM:0 " + T, "FUN " + s + " " + t);
                typed(y, "BOTH " + S + " " + T, "PAIR " + s + " " + t);
                typed(y, "APP " + S + " " + T, calledType(s, t));
                typed(y, "IF TRUTH:1 " + S + " " + T, consistent(t, s) ? s : null);
                typed(y, "AS:1 " + S, consistent(s, t) ? t : null);
            }
        }
    }

    private static void variableTypes() {
        Bench.topic("VAR n: the named type of the n-th LAM around it (0 the innermost)");
        Bench x = new Bench("INT", "BOOL", "PAIR INT BOOL");
        // The call takes the LAMs' types away, so that no type gets large.
        x.hasType("APP LAM:2 APP LAM:1 APP LAM:0 VAR:0 AS:9 NUM:1 AS:9 NUM:1 AS:9 NUM:1", "INT");
        x.hasType("APP LAM:2 APP LAM:1 APP LAM:0 VAR:1 AS:9 NUM:1 AS:9 NUM:1 AS:9 NUM:1", "BOOL");
        x.hasType("APP LAM:2 APP LAM:1 APP LAM:0 VAR:2 AS:9 NUM:1 AS:9 NUM:1 AS:9 NUM:1", "PAIR INT BOOL");
        x.isWrong("APP LAM:2 APP LAM:1 APP LAM:0 VAR:3 AS:9 NUM:1 AS:9 NUM:1 AS:9 NUM:1", ILL, 6);
        // A LAM that stands before, but not around, does not count.
        x.hasType("LAM:1 BOTH LAM:0 VAR:0 VAR:0", "FUN BOOL PAIR FUN INT INT BOOL");
        x.isWrong("BOTH LAM:0 VAR:0 VAR:0", ILL, 3);
        x.isWrong("LAM:1 BOTH LAM:0 VAR:1 VAR:1", ILL, 4);
        x.isWrong("APP VAR:0 LAM:0 VAR:0", ILL, 1);
    }

    private static void castsOfEach() {
        Bench.topic("operand .. is cast to ..");
        Bench x = runBench();
        // What is not cast keeps its tag, and is not tagged if it had none.
        x.ends("BOTH AS:9 NUM:1 NUM:2", OK, 0, 4);
        x.sees(1, 1, 1, 1);
        x.sees(2, 1, 2, 0);
        x.gives("IF TRUTH:1 AS:9 NUM:1 NUM:2", 4, 1, 1, 1);
        x.gives("APP LAM:0 AS:9 VAR:0 NUM:1", 5, 1, 1, 1);
        // IF: operand 2 to the type of operand 1.
        x.gives("IF TRUTH:0 AS:9 NUM:1 NUM:2", 3, 1, 2, 1);
        x.gives("IF TRUTH:0 NUM:1 AS:9 NUM:2", 4, 1, 2, 0);
        // APP: operand 1 to the type of arguments, or to ANY.
        x.gives("APP LAM:9 VAR:0 NUM:5", 4, 1, 5, 1);
        x.gives("APP LAM:0 VAR:0 AS:9 NUM:5", 5, 1, 5, 0);
        x.gives("APP AS:9 LAM:9 VAR:0 NUM:5", 5, 1, 5, 1);
        // A function that is cast blames the label of that cast, turned for its argument: of
        // operand 1 of the APP at token 1, of operand 2 of the IF, and of operand 0 of the AS.
        x.blames("APP APP AS:9 LAM:9 VAR:0 LAM:0 VAR:0 TRUTH:1", -5, 7);
        x.blames("APP APP LAM:2 VAR:0 LAM:0 VAR:0 TRUTH:1", -5, 6);
        x.blames("APP IF TRUTH:0 AS:2 AS:9 NUM:1 LAM:0 VAR:0 TRUTH:1", -6, 5);
        x.blames("APP AS:2 LAM:0 VAR:0 TRUTH:1", -4, 4);
        // FIRST and SECOND of ANY: what they give is ANY.
        x.gives("FIRST AS:9 BOTH NUM:1 TRUTH:1", 5, 1, 1, 1);
        x.gives("SECOND AS:9 BOTH NUM:1 TRUTH:1", 5, 2, 1, 1);
    }

    // ILL TYPED

    private static void firstThingWrong() {
        Bench.topic("ILL TYPED is what has no type by this, and a cast between types that are not consistent. ..");
        Bench x = new Bench("INT", "BOOL", "FUN FUN INT INT INT");
        String ill = "ADD NUM:1 TRUTH:1", unbound = "VAR:0", large = "BOTH LAM:2 NUM:1 NUM:1";
        x.isWrong(ill, ILL, 0);
        x.isWrong(unbound, ILL, 0);
        x.isWrong(large, LARGE, 0);
        // What an operand is wrong in counts before what it belongs to, the first operand before
        // the second, and that before the third.
        x.isWrong("ADD TRUTH:1 " + ill, ILL, 2);
        x.isWrong("ADD " + ill + " " + unbound, ILL, 1);
        x.isWrong("IF " + large + " " + ill + " " + unbound, LARGE, 1);
        x.isWrong("IF NUM:1 " + large + " " + ill, LARGE, 2);
        x.isWrong("IF NUM:1 NUM:1 " + ill, ILL, 3);
        x.isWrong("IF NUM:1 NUM:1 TRUTH:1", ILL, 0);
        x.isWrong("APP NUM:1 " + large, LARGE, 2);
        x.isWrong("BOTH " + ill + " " + large, ILL, 1);
        x.isWrong("BOTH " + large + " " + ill, LARGE, 1);
        x.isWrong("LAM:2 LAM:2 NUM:1", LARGE, 0);
        x.isWrong("LAM:2 LAM:2 VAR:1", LARGE, 1);
        x.isWrong("LAM:2 LAM:2 VAR:2", ILL, 2);
        // A large type is large even where only a part of it would be needed.
        x.isWrong("FIRST " + large, LARGE, 1);
        x.isWrong("APP LAM:9 NUM:1 " + large, LARGE, 3);
        x.isWrong("AS:9 " + large, LARGE, 1);
    }

    // VALUES

    private static void values() {
        Bench.topic("VALUES are ints, truths, functions .., pairs of values .., and any of these TAGGED");
        Bench x = runBench();
        String[] terms = {"NUM:-3", "TRUTH:1", "LAM:9 VAR:0", "BOTH NUM:1 TRUTH:0"};
        int[] shapes = {1, 2, 3, 4};
        int[] contents = {-3, 1, 0, 0};
        int[] steps = {1, 1, 1, 3};
        for (int v = 0; v < terms.length; v++) {
            x.gives(terms[v], steps[v], shapes[v], contents[v], 0);
            x.gives("AS:9 " + terms[v], steps[v] + 1, shapes[v], contents[v], 1);
        }
        Bench y = runBench();
        // A function in a cast and a pair in a cast, and these tagged.
        y.gives("AS:4 LAM:9 VAR:0", 2, 3, 0, 0);
        y.gives("AS:9 AS:4 LAM:9 VAR:0", 3, 3, 0, 1);
        y.gives("AS:5 BOTH AS:9 NUM:1 AS:9 NUM:2", 6, 4, 0, 0);
        y.gives("AS:9 AS:5 BOTH AS:9 NUM:1 AS:9 NUM:2", 7, 4, 0, 1);
        // A LAM has the values of the variables around it, those of its own place.
        y.gives("APP APP LAM:0 LAM:0 ADD VAR:1 VAR:0 NUM:40 NUM:2", 9, 1, 42, 0);
        y.gives("APP LAM:4 APP LAM:0 APP VAR:1 VAR:0 NUM:3 APP LAM:0 LAM:0 ADD VAR:0 VAR:1 NUM:100", 15, 1, 103, 0);
        // Labels are positive or, where they are turned, negative.
        y.blames("APP AS:6 AS:9 LAM:9 VAR:0 NUM:1", 4, 6);
        y.blames("APP AS:9 LAM:0 VAR:0 TRUTH:1", -4, 4);
    }

    // To CAST a value

    private static void castsThatKeep() {
        Bench.topic("To CAST a value ..: S = T = INT, BOOL or ANY: it stays. FUN to FUN, PAIR to PAIR: .. in that cast");
        Bench x = runBench();
        x.gives("AS:0 NUM:5", 2, 1, 5, 0);
        x.gives("AS:1 TRUTH:1", 2, 2, 1, 0);
        // Tagged once only: one cast from ANY takes the tag off.
        x.gives("AS:9 AS:9 NUM:5", 3, 1, 5, 1);
        x.gives("AS:0 AS:9 AS:9 NUM:5", 4, 1, 5, 0);
        x.gives("ADD AS:9 AS:9 NUM:5 NUM:1", 5, 1, 6, 0);
        // In a cast: nothing fails before it is called, or before its part is taken.
        x.gives("AS:6 AS:2 LAM:0 VAR:0", 3, 3, 0, 0);
        x.blames("APP AS:6 AS:2 LAM:0 VAR:0 NUM:1", 4, 6);
        x.gives("AS:7 AS:3 BOTH NUM:1 NUM:2", 5, 4, 0, 0);
        x.sees(1, -2, -2, -2);
        x.sees(2, 1, 2, 0);
        x.blames("FIRST AS:7 AS:3 BOTH NUM:1 NUM:2", 4, 6);
        x.gives("SECOND AS:7 AS:3 BOTH NUM:1 NUM:2", 6, 1, 2, 0);
    }

    private static void castsToAny() {
        Bench.topic("T is ANY (S is not): .. it is first cast to that of the last two which is FUN or PAIR as S, with p; then it is tagged");
        Bench x = runBench();
        // S is FUN ANY ANY or PAIR ANY ANY: tagged, and the parts stay as they are.
        x.gives("APP AS:9 LAM:9 VAR:0 NUM:1", 5, 1, 1, 1);
        x.ends("AS:9 BOTH AS:9 NUM:1 AS:9 NUM:2", OK, 0, 6);
        x.sees(1, 1, 1, 1);
        // S is another FUN: in a cast to FUN ANY ANY with p, here 3 of the AS at token 1.
        x.blames("APP AS:9 LAM:0 VAR:0 TRUTH:1", -4, 4);
        x.gives("APP AS:9 LAM:0 VAR:0 NUM:1", 5, 1, 1, 1);
        x.gives("APP AS:9 LAM:0 LAM:1 VAR:1 NUM:1", 5, 3, 0, 1);
        x.blames("APP APP AS:9 LAM:0 LAM:1 VAR:1 NUM:1 NUM:1", -7, 7);
        // S is another PAIR: the parts are cast to ANY as well.
        x.ends("AS:9 BOTH NUM:1 BOTH TRUTH:1 LAM:0 VAR:0", OK, 0, 6);
        x.sees(0, 4, 0, 1);
        x.sees(1, 1, 1, 1);
        x.sees(2, 4, 0, 1);
        x.sees(2 + 4 * 1, 2, 1, 1);
        x.sees(2 + 4 * 2, 3, 0, 1);
        x.blames("APP SECOND AS:9 BOTH NUM:1 LAM:0 VAR:0 TRUTH:1", -7, 7);
    }

    private static void castsFromAny() {
        Bench.topic("S is ANY (T is not): .. if the tag is not G: BLAME p. Else the tag goes, and it is cast from G to T with p");
        String[] terms = {"NUM:5", "TRUTH:1", "LAM:0 VAR:0", "BOTH NUM:1 NUM:2"};
        int[] steps = {1, 1, 1, 3};
        int[] contents = {5, 1, 0, 0};
        int[][] targets = {{0}, {1}, {2, 4, 6, 8}, {3, 5, 7}};
        for (int v = 0; v < terms.length; v++) {
            for (int g = 0; g < targets.length; g++) {
                Bench x = runBench();
                for (int t : targets[g]) {
                    String term = "AS:" + t + " AS:9 " + terms[v];
                    if (v == g) {
                        x.gives(term, steps[v] + 2, v + 1, contents[v], 0);
                    } else {
                        x.blames(term, 1, steps[v] + 2);
                    }
                }
            }
        }
        Bench x = runBench();
        // From FUN ANY ANY or PAIR ANY ANY to T with p, here 3 of the AS at token 1.
        x.gives("APP AS:4 AS:9 LAM:9 VAR:0 NUM:1", 6, 1, 1, 0);
        x.blames("APP AS:6 AS:9 LAM:9 VAR:0 NUM:1", 4, 6);
        x.gives("APP AS:6 AS:9 LAM:9 LESS VAR:0 NUM:1 NUM:0", 8, 2, 1, 0);
        x.blames("FIRST AS:7 AS:9 BOTH NUM:1 NUM:2", 4, 6);
        x.gives("SECOND AS:7 AS:9 BOTH NUM:1 NUM:2", 6, 1, 2, 0);
        // The argument of an argument is turned twice: APP VAR:0 TRUTH:1 goes into LAM:0 by 6.
        x.blames("APP AS:9 AS:8 LAM:9 APP VAR:0 TRUTH:1 LAM:0 VAR:0", 7, 8);
    }

    // To work out an E

    private static void orderOfOperands() {
        Bench.topic("To work out an E: its operands from the first to the last (each one is cast .. before the next one ..), of IF only those needed");
        Bench x = runBench();
        String blaming = "AS:0 AS:9 TRUTH:1";
        String[] twoOperands = {"ADD", "LESS", "BOTH"};
        for (String kind : twoOperands) {
            x.blames(kind + " " + blaming + " " + blaming, 4, 4);
            x.blames(kind + " NUM:1 " + blaming, 7, 5);
        }
        x.blames("APP AS:2 AS:9 " + blaming + " " + blaming, 10, 6);
        x.blames("APP LAM:0 VAR:0 " + blaming, 10, 5);
        // The cast of operand 0 is before operand 1.
        x.blames("ADD AS:9 TRUTH:1 " + blaming, 1, 3);
        x.blames("LESS AS:9 TRUTH:1 " + blaming, 1, 3);
        x.blames("APP AS:9 TRUTH:1 " + blaming, 1, 3);
        // Both operands are worked out before the function is called.
        x.blames("APP LAM:0 " + blaming + " AS:0 AS:9 LAM:9 VAR:0", 16, 5);
        Bench y = runBench();
        // Only those needed: what blames, or takes steps, is passed by.
        y.gives("IF TRUTH:1 NUM:1 " + blaming, 3, 1, 1, 0);
        y.gives("IF TRUTH:0 " + blaming + " NUM:2", 3, 1, 2, 0);
        y.blames("IF TRUTH:1 " + blaming + " NUM:2", 7, 5);
        y.blames("IF TRUTH:0 NUM:1 " + blaming, 10, 5);
        y.blames("IF AS:9 NUM:0 " + blaming + " " + blaming, 1, 3);
        y.gives("IF LESS NUM:1 NUM:2 NUM:1 NUM:2", 5, 1, 1, 0);
        // LAM is a function: its operand is not worked out before a call.
        y.gives("LAM:0 " + blaming, 1, 3, 0, 0);
        y.gives("APP LAM:9 NUM:1 LAM:0 " + blaming, 4, 1, 1, 0);
    }

    private static void calls() {
        Bench.topic("APP: the function is CALLED with the argument: ..");
        Bench x = runBench();
        // A LAM's operand with the argument as the variable, as often as it is called.
        x.gives("APP LAM:0 ADD VAR:0 VAR:0 NUM:21", 6, 1, 42, 0);
        x.gives("APP LAM:4 APP VAR:0 APP VAR:0 NUM:1 LAM:0 ADD VAR:0 VAR:0", 14, 1, 4, 0);
        // In a cast: the argument from c to a with p turned, what it gives from b to d with p.
        x.gives("APP AS:4 LAM:9 VAR:0 NUM:7", 5, 1, 7, 0);
        x.gives("APP AS:2 LAM:0 VAR:0 NUM:7", 5, 1, 7, 1);
        x.blames("APP AS:2 LAM:0 NUM:1 TRUTH:1", -4, 4);
        x.blames("APP AS:6 LAM:9 AS:9 NUM:1 NUM:1", 4, 6);
        // In two casts: the argument through the outer one first, the result through the inner.
        x.blames("APP AS:2 AS:4 LAM:9 VAR:0 TRUTH:1", -4, 5);
        x.blames("APP AS:2 AS:4 LAM:9 AS:9 TRUTH:1 NUM:1", 7, 7);
        x.blames("APP AS:6 AS:2 AS:4 LAM:9 AS:9 TRUTH:1 NUM:1", 10, 8);
        x.blames("APP AS:6 AS:2 LAM:9 AS:9 NUM:1 NUM:1", 4, 7);
        // A blamed argument comes before the body, a blaming body before the cast of its result.
        x.blames("APP AS:2 LAM:0 AS:0 AS:9 TRUTH:1 TRUTH:1", -4, 4);
        x.blames("APP AS:6 LAM:9 AS:9 AS:0 AS:9 TRUTH:1 NUM:1", 13, 8);
        // A function that is an argument is in a cast too, and that one is turned.
        x.blames("APP AS:9 LAM:4 APP VAR:0 NUM:1 LAM:9 TRUTH:1", -4, 8);
        x.gives("APP AS:9 LAM:4 APP VAR:0 NUM:1 LAM:9 NUM:6", 8, 1, 6, 1);
        x.blames("APP AS:8 LAM:2 APP VAR:0 TRUTH:1 LAM:0 VAR:0", 4, 7);
    }

    private static void partsOfPairs() {
        Bench.topic("FIRST of a pair in a cast ..: FIRST of that pair, cast from a to c with p; SECOND: likewise, from b to d");
        Bench x = runBench();
        x.gives("FIRST BOTH NUM:1 TRUTH:1", 4, 1, 1, 0);
        x.gives("SECOND BOTH NUM:1 TRUTH:1", 4, 2, 1, 0);
        x.gives("FIRST AS:3 BOTH NUM:1 TRUTH:1", 5, 1, 1, 1);
        x.gives("SECOND AS:3 BOTH NUM:1 TRUTH:1", 5, 2, 1, 1);
        x.gives("FIRST AS:5 AS:3 BOTH NUM:1 TRUTH:1", 6, 1, 1, 0);
        x.blames("SECOND AS:5 AS:3 BOTH NUM:1 TRUTH:1", 4, 6);
        // In two casts from ANY the inner one is first.
        x.blames("FIRST AS:7 AS:3 AS:5 BOTH AS:9 TRUTH:1 NUM:1", 10, 8);
        x.blames("FIRST AS:5 AS:3 AS:7 BOTH AS:9 TRUTH:1 NUM:1", 4, 8);
        // A pair stands for its parts: each FIRST casts anew.
        x.gives("APP LAM:5 ADD FIRST VAR:0 FIRST VAR:0 AS:3 BOTH NUM:4 TRUTH:1", 11, 1, 8, 0);
        x.blames("APP LAM:5 ADD FIRST VAR:0 SECOND VAR:0 AS:3 BOTH NUM:4 TRUTH:1", 2, 11);
    }

    private static void numbersAndSteps() {
        Bench.topic("ADD wraps; LESS: a truth. Each token that is begun takes one of 40 STEPS: LONG if none is left. ..");
        Bench x = runBench();
        x.gives("ADD NUM:2147483647 NUM:2147483647", 3, 1, -2, 0);
        x.gives("ADD NUM:-2147483648 NUM:-1", 3, 1, Integer.MAX_VALUE, 0);
        x.gives("ADD NUM:5 NUM:-7", 3, 1, -2, 0);
        x.gives("LESS NUM:1 NUM:2", 3, 2, 1, 0);
        x.gives("LESS NUM:2 NUM:2", 3, 2, 0, 0);
        x.gives("LESS NUM:2147483647 NUM:-2147483648", 3, 2, 0, 0);
        // 10 steps, and each AS in the body that is worked out twice: 40 are enough, 41 are not.
        String twice = "APP LAM:4 APP VAR:0 APP VAR:0 NUM:1 LAM:0 ";
        x.gives(twice + "AS:0 ".repeat(15) + "VAR:0", 40, 1, 1, 0);
        x.ends("AS:0 " + twice + "AS:0 ".repeat(15) + "VAR:0", GradualDesk.LONG, 0, 40);
        x.ends(twice + "AS:0 ".repeat(16) + "VAR:0", GradualDesk.LONG, 0, 40);
        x.ends("APP LAM:9 APP VAR:0 VAR:0 LAM:9 APP VAR:0 VAR:0", GradualDesk.LONG, 0, 40);
        Bench y = runBench();
        // Casts take no steps, and BLAME and LONG end everything: the first of them counts.
        y.blames("AS:1 AS:9 AS:9 AS:9 AS:9 NUM:1", 1, 6);
        String endless = "APP LAM:9 APP VAR:0 VAR:0 LAM:9 APP VAR:0 VAR:0";
        y.blames("BOTH AS:0 AS:9 TRUTH:1 " + endless, 4, 4);
        y.ends("BOTH " + endless + " AS:0 AS:9 TRUTH:1", GradualDesk.LONG, 0, 40);
        y.ends("AS:9 IF TRUTH:1 " + endless + " NUM:1", GradualDesk.LONG, 0, 40);
    }

    public static void main(String[] args) {
        prefixTypes();
        namedTypes();
        consistentTypes();
        prefixTerms();
        tokenValues();
        labels();
        typeOfEach();
        variableTypes();
        castsOfEach();
        firstThingWrong();
        values();
        castsThatKeep();
        castsToAny();
        castsFromAny();
        orderOfOperands();
        calls();
        partsOfPairs();
        numbersAndSteps();
        Bench.finish("each paragraph under \"Terms\" holds");
    }
}
