import java.util.ArrayList;
import java.util.List;

/** Each promise of the document by hand-made runs: ordinary inputs, the named edges, wrong inputs. */
public final class PromisesTest {
    private static final String[] KINDS = {
        "NUM", "TRUTH", "VAR", "LAM", "APP", "IF", "ADD", "LESS", "BOTH", "FIRST", "SECOND", "AS"};
    private static final String[] TYPES = {"INT", "BOOL", "ANY", "FUN", "PAIR"};

    private static int wrong = 0;
    private static String promise = "";

    private static void due(String what, long got, long want) {
        if (got != want) {
            wrong++;
            System.out.println(promise + ": " + what + " answered " + got + ", due is " + want);
        }
    }

    private static void due(String what, boolean got, boolean want) {
        due(what, got ? 1 : 0, want ? 1 : 0);
    }

    private static int indexOf(String[] words, String word) {
        for (int i = 0; i < words.length; i++) {
            if (words[i].equals(word)) {
                return i;
            }
        }
        throw new IllegalArgumentException(word);
    }

    private static void draftType(GradualDesk x, String type) {
        for (String word : type.split(" ")) {
            due("part " + word + " of " + type, x.part(indexOf(TYPES, word)), true);
        }
    }

    private static void define(GradualDesk x, int n, String type) {
        draftType(x, type);
        due("name " + type, x.name(n), GradualDesk.OK);
    }

    /** Drafts a term told like "ADD NUM:1 VAR:0". */
    private static void draft(GradualDesk x, String term) {
        x.wipe();
        for (String word : term.split(" ")) {
            String[] halves = word.split(":");
            int value = halves.length > 1 ? Integer.parseInt(halves[1]) : 0;
            due("token " + word + " of " + term, x.token(indexOf(KINDS, halves[0]), value), true);
        }
    }

    /** An object whose named types 0.. are these; the others are ANY. */
    private static GradualDesk desk(String... types) {
        GradualDesk x = new GradualDesk();
        for (int n = 0; n < types.length; n++) {
            define(x, n, types[n]);
        }
        return x;
    }

    private static String typeOfDraft(GradualDesk x) {
        List<String> words = new ArrayList<>();
        for (int k = 0; x.typeAt(k) >= 0 && k < 10; k++) {
            words.add(TYPES[x.typeAt(k)]);
        }
        return String.join(" ", words);
    }

    private static void hasType(GradualDesk x, String term, String type) {
        draft(x, term);
        due("check of " + term, x.check(), GradualDesk.OK);
        String got = typeOfDraft(x);
        if (!got.equals(type)) {
            wrong++;
            System.out.println(promise + ": " + term + " has type " + got + ", due is " + type);
        }
    }

    private static void isWrong(GradualDesk x, String term, int verdict, int place) {
        draft(x, term);
        due("check of " + term, x.check(), verdict);
        due("place of " + term, x.place(), place);
        due("typeAt(0) of " + term, x.typeAt(0), -1);
        due("run of " + term, x.run(), verdict);
        due("steps of " + term, x.steps(), 0);
        due("blamed of " + term, x.blamed(), 0);
        due("look of " + term, x.look(0, 0), -1);
    }

    private static void ends(GradualDesk x, String term, int verdict, int blamed, int steps) {
        draft(x, term);
        due("run of " + term, x.run(), verdict);
        due("blamed of " + term, x.blamed(), blamed);
        due("steps of " + term, x.steps(), steps);
        due("is there a value of " + term, x.look(0, 0) != -1, verdict == GradualDesk.OK);
    }

    private static void gives(GradualDesk x, String term, int steps, int shape, int content, int tagged) {
        ends(x, term, GradualDesk.OK, 0, steps);
        sees(x, 0, shape, content, tagged);
    }

    private static void blames(GradualDesk x, String term, int blamed, int steps) {
        ends(x, term, GradualDesk.BLAME, blamed, steps);
    }

    private static void sees(GradualDesk x, int way, int shape, int content, int tagged) {
        due("look(" + way + ", 0)", x.look(way, 0), shape);
        due("look(" + way + ", 1)", x.look(way, 1), content);
        due("look(" + way + ", 2)", x.look(way, 2), tagged);
    }

    private static void newObject() {
        promise = "promise 1";
        GradualDesk x = new GradualDesk();
        due("place()", x.place(), -1);
        due("blamed()", x.blamed(), 0);
        due("steps()", x.steps(), 0);
        due("look(0, 0)", x.look(0, 0), -1);
        due("typeAt(0)", x.typeAt(0), -1);
        due("name(0) of an empty draft", x.name(0), GradualDesk.SYNTAX);
        due("wipe()", x.wipe(), 0);
        due("check()", x.check(), GradualDesk.SYNTAX);
        due("run()", x.run(), GradualDesk.SYNTAX);
        for (int n = 0; n < 10; n++) {
            hasType(x, "AS:" + n + " NUM:1", "ANY");
        }
        GradualDesk other = new GradualDesk();
        define(other, 3, "INT");
        hasType(x, "AS:3 NUM:1", "ANY");
    }

    private static void part() {
        promise = "promise 2";
        GradualDesk x = new GradualDesk();
        int[] outside = {-1, 5, 6, Integer.MIN_VALUE, Integer.MAX_VALUE};
        for (int code : outside) {
            due("part(" + code + ")", x.part(code), false);
        }
        due("name after refused parts", x.name(0), GradualDesk.SYNTAX);
        draftType(x, "FUN FUN FUN INT BOOL ANY INT");
        due("an eighth part", x.part(0), false);
        due("an eighth part outside", x.part(9), false);
        due("name of seven", x.name(0), GradualDesk.OK);
        hasType(x, "AS:0 AS:9 NUM:1", "FUN FUN FUN INT BOOL ANY INT");
        define(x, 1, "PAIR INT FUN BOOL ANY");
        hasType(x, "AS:1 AS:9 NUM:1", "PAIR INT FUN BOOL ANY");
        due("part(0)", x.part(0), true);
        due("a refused part", x.part(5), false);
        due("name after a refused part", x.name(2), GradualDesk.OK);
        hasType(x, "AS:2 AS:9 NUM:1", "INT");
    }

    private static void name() {
        promise = "promise 3";
        GradualDesk x = desk("INT");
        String[] noTypes = {"FUN", "PAIR", "FUN INT", "PAIR FUN INT INT", "INT INT", "ANY BOOL",
            "FUN INT INT ANY", "PAIR PAIR ANY INT PAIR ANY", "FUN FUN FUN FUN FUN FUN FUN"};
        for (String text : noTypes) {
            draftType(x, text);
            due("name of " + text, x.name(0), GradualDesk.SYNTAX);
            due("name after " + text, x.name(0), GradualDesk.SYNTAX);
        }
        hasType(x, "AS:0 NUM:1", "INT");
        int[] outside = {-1, 10, Integer.MIN_VALUE, Integer.MAX_VALUE};
        draftType(x, "FUN INT");
        for (int n : outside) {
            due("name(" + n + ")", x.name(n), GradualDesk.BAD);
        }
        draftType(x, "BOOL");
        due("name(9) of the draft that stayed", x.name(9), GradualDesk.OK);
        hasType(x, "AS:9 AS:8 NUM:1", "FUN INT BOOL");
        due("name(9) of an empty draft", x.name(9), GradualDesk.SYNTAX);
        hasType(x, "AS:9 AS:8 NUM:1", "FUN INT BOOL");

        draft(x, "LAM:7 VAR:0");
        due("check()", x.check(), GradualDesk.OK);
        due("typeAt(1)", x.typeAt(1), 2);
        define(x, 7, "BOOL");
        due("typeAt(1) of the drafted term", x.typeAt(1), 1);

        // A value keeps the types it was cast with.
        draft(x, "AS:6 AS:5 BOTH NUM:1 TRUTH:1");
        define(x, 6, "PAIR INT INT");
        due("run()", x.run(), GradualDesk.OK);
        define(x, 6, "PAIR INT BOOL");
        due("look(2, 0)", x.look(2, 0), -2);
        due("run()", x.run(), GradualDesk.OK);
        due("look(2, 0)", x.look(2, 0), 2);
    }

    private static void token() {
        promise = "promise 4";
        GradualDesk x = new GradualDesk();
        int[][] refused = {{-1, 0}, {12, 0}, {Integer.MIN_VALUE, 0}, {Integer.MAX_VALUE, 0},
            {1, -1}, {1, 2}, {2, -1}, {2, 10}, {3, -1}, {3, 10}, {11, -1}, {11, 10},
            {1, Integer.MIN_VALUE}, {2, Integer.MAX_VALUE}};
        for (int[] t : refused) {
            due("token(" + t[0] + ", " + t[1] + ")", x.token(t[0], t[1]), false);
        }
        due("wipe()", x.wipe(), 0);
        int[][] taken = {{0, Integer.MIN_VALUE}, {0, Integer.MAX_VALUE}, {0, -1}, {1, 0}, {1, 1},
            {2, 0}, {2, 9}, {3, 0}, {3, 9}, {11, 0}, {11, 9}, {4, -7}, {5, 99}, {6, -1}, {7, 12},
            {8, Integer.MIN_VALUE}, {9, Integer.MAX_VALUE}, {10, 1000}};
        for (int[] t : taken) {
            due("token(" + t[0] + ", " + t[1] + ")", x.token(t[0], t[1]), true);
        }
        due("wipe()", x.wipe(), taken.length);
        for (int i = 0; i < 36; i++) {
            due("token " + i, x.token(i < 35 ? 11 : 0, 9), true);
        }
        due("a 37th token", x.token(0, 1), false);
        due("a 37th token outside", x.token(12, 1), false);
        due("check of 36", x.check(), GradualDesk.OK);
        due("run of 36", x.run(), GradualDesk.OK);
        due("steps of 36", x.steps(), 36);
        due("wipe()", x.wipe(), 36);

        due("token", x.token(0, 4), true);
        due("a refused token", x.token(1, 7), false);
        due("run after a refused token", x.run(), GradualDesk.OK);
        due("look(0, 1)", x.look(0, 1), 4);
    }

    private static void wipe() {
        promise = "promise 5";
        GradualDesk x = new GradualDesk();
        due("wipe()", x.wipe(), 0);
        draft(x, "ADD NUM:1 NUM:2");
        due("run()", x.run(), GradualDesk.OK);
        x.part(3);
        due("wipe()", x.wipe(), 3);
        due("wipe()", x.wipe(), 0);
        due("steps()", x.steps(), 3);
        due("look(0, 1) after wipe", x.look(0, 1), 3);
        due("check()", x.check(), GradualDesk.SYNTAX);
        due("place()", x.place(), 0);
        due("part", x.part(0) && x.part(0), true);
        due("name of the type's draft, which stays", x.name(0), GradualDesk.OK);
    }

    private static void check() {
        promise = "promise 6";
        GradualDesk x = desk("INT", "BOOL", "FUN INT BOOL", "PAIR INT BOOL", "FUN ANY INT");
        hasType(x, "NUM:5", "INT");
        hasType(x, "TRUTH:0", "BOOL");
        hasType(x, "LAM:0 VAR:0", "FUN INT INT");
        hasType(x, "LAM:0 LAM:1 VAR:0", "FUN INT FUN BOOL BOOL");
        hasType(x, "LAM:0 LAM:1 VAR:1", "FUN INT FUN BOOL INT");
        hasType(x, "APP LAM:0 TRUTH:1 NUM:2", "BOOL");
        hasType(x, "APP AS:9 NUM:1 NUM:2", "ANY");
        hasType(x, "APP LAM:0 VAR:0 AS:9 TRUTH:1", "INT");
        hasType(x, "IF TRUTH:1 NUM:1 AS:9 TRUTH:0", "INT");
        hasType(x, "IF AS:9 NUM:1 AS:9 NUM:2 NUM:1", "ANY");
        hasType(x, "IF TRUTH:1 AS:4 AS:9 NUM:1 LAM:0 VAR:0", "FUN ANY INT");
        hasType(x, "ADD NUM:1 AS:9 TRUTH:1", "INT");
        hasType(x, "LESS AS:9 NUM:1 NUM:2", "BOOL");
        hasType(x, "BOTH NUM:1 TRUTH:1", "PAIR INT BOOL");
        hasType(x, "FIRST BOTH LAM:0 TRUTH:0 NUM:1", "FUN INT BOOL");
        hasType(x, "SECOND BOTH LAM:0 TRUTH:0 NUM:1", "INT");
        hasType(x, "FIRST AS:9 NUM:1", "ANY");
        hasType(x, "SECOND AS:9 NUM:1", "ANY");
        hasType(x, "AS:2 AS:9 TRUTH:0", "FUN INT BOOL");
        hasType(x, "AS:4 LAM:0 VAR:0", "FUN ANY INT");
        hasType(x, "LAM:9 LAM:9 LAM:9 VAR:2", "FUN ANY FUN ANY FUN ANY ANY");
        hasType(x, "BOTH BOTH NUM:1 NUM:2 BOTH NUM:1 NUM:2", "PAIR PAIR INT INT PAIR INT INT");

        isWrong(x, "VAR:0", GradualDesk.ILL, 0);
        isWrong(x, "LAM:0 VAR:1", GradualDesk.ILL, 1);
        isWrong(x, "APP LAM:0 VAR:0 VAR:0", GradualDesk.ILL, 3);
        isWrong(x, "APP NUM:1 NUM:2", GradualDesk.ILL, 0);
        isWrong(x, "APP BOTH NUM:1 NUM:1 NUM:2", GradualDesk.ILL, 0);
        isWrong(x, "APP LAM:0 VAR:0 TRUTH:1", GradualDesk.ILL, 0);
        isWrong(x, "IF NUM:1 NUM:1 NUM:1", GradualDesk.ILL, 0);
        isWrong(x, "IF TRUTH:1 NUM:1 TRUTH:1", GradualDesk.ILL, 0);
        isWrong(x, "ADD NUM:1 TRUTH:1", GradualDesk.ILL, 0);
        isWrong(x, "LESS TRUTH:1 NUM:1", GradualDesk.ILL, 0);
        isWrong(x, "FIRST NUM:1", GradualDesk.ILL, 0);
        isWrong(x, "SECOND LAM:9 VAR:0", GradualDesk.ILL, 0);
        isWrong(x, "AS:1 NUM:1", GradualDesk.ILL, 0);
        isWrong(x, "AS:2 AS:3 AS:9 NUM:1", GradualDesk.ILL, 0);
        isWrong(x, "AS:2 LAM:9 NUM:1", GradualDesk.ILL, 0);
        isWrong(x, "AS:3 BOTH AS:9 NUM:1 NUM:1", GradualDesk.ILL, 0);
        isWrong(x, "ADD NUM:1 ADD VAR:3 TRUTH:1", GradualDesk.ILL, 3);

        // Nine tokens are too many, seven are not; no type has eight.
        isWrong(x, "BOTH BOTH NUM:1 NUM:2 BOTH NUM:1 BOTH NUM:1 NUM:2", GradualDesk.LARGE, 0);
        isWrong(x, "LAM:2 LAM:2 LAM:0 NUM:1", GradualDesk.LARGE, 0);
        isWrong(x, "FIRST BOTH BOTH BOTH BOTH NUM:1 NUM:1 NUM:1 NUM:1 NUM:1", GradualDesk.LARGE, 1);
        // The first thing wrong counts, operands before what they belong to.
        isWrong(x, "APP LAM:2 LAM:2 LAM:0 NUM:1 VAR:0", GradualDesk.LARGE, 1);
        isWrong(x, "ADD VAR:0 LAM:2 LAM:2 LAM:0 NUM:1", GradualDesk.ILL, 1);
        isWrong(x, "APP NUM:1 ADD TRUTH:1 NUM:1", GradualDesk.ILL, 2);

        isWrong(x, "NUM:1 NUM:2", GradualDesk.SYNTAX, 1);
        isWrong(x, "ADD NUM:1 NUM:2 TRUTH:0 TRUTH:1", GradualDesk.SYNTAX, 3);
        isWrong(x, "IF TRUTH:1 NUM:1", GradualDesk.SYNTAX, 3);
        isWrong(x, "LAM:0", GradualDesk.SYNTAX, 1);
        isWrong(x, "ADD VAR:0", GradualDesk.SYNTAX, 2);
    }

    private static void place() {
        promise = "promise 7";
        GradualDesk x = desk("INT", "BOOL");
        due("place()", x.place(), -1);
        draft(x, "NUM:1");
        x.check();
        x.run();
        due("place() when all was well", x.place(), -1);
        draft(x, "ADD NUM:1 ADD NUM:1 TRUTH:1");
        due("typeAt(0)", x.typeAt(0), -1);
        due("place() when there was neither check nor run", x.place(), -1);
        x.run();
        due("place() after a run", x.place(), 2);
        draft(x, "NUM:1");
        x.check();
        due("place() after a check that was well", x.place(), 2);
        draft(x, "AS:1 AS:9 NUM:1");
        due("run()", x.run(), GradualDesk.BLAME);
        due("place() after BLAME", x.place(), 2);
        draft(x, "NUM:1 NUM:1");
        x.check();
        due("place() after SYNTAX", x.place(), 1);
        x.wipe();
        due("place() after wipe", x.place(), 1);
        x.check();
        due("place() of an empty draft", x.place(), 0);
    }

    private static void typeAt() {
        promise = "promise 8";
        GradualDesk x = desk("FUN INT BOOL");
        draft(x, "LAM:0 VAR:0");
        int[] want = {3, 3, 0, 1, 3, 0, 1, -1, -1, -1};
        for (int k = 0; k < want.length; k++) {
            due("typeAt(" + k + ")", x.typeAt(k), want[k]);
        }
        int[] outside = {-1, -2, 10, 11, 32, 64, Integer.MIN_VALUE, Integer.MAX_VALUE};
        for (int k : outside) {
            due("typeAt(" + k + ")", x.typeAt(k), -1);
        }
        draft(x, "NUM:1");
        due("typeAt(0)", x.typeAt(0), 0);
        due("typeAt(1)", x.typeAt(1), -1);
        x.token(0, 1);
        due("typeAt(0) of what is no term", x.typeAt(0), -1);
        draft(x, "ADD NUM:1 TRUTH:1");
        due("typeAt(0) of what is ill typed", x.typeAt(0), -1);
    }

    private static void run() {
        promise = "promise 9";
        GradualDesk x = desk("INT", "BOOL", "FUN INT INT", "PAIR INT INT", "FUN FUN INT INT INT");
        gives(x, "NUM:-7", 1, 1, -7, 0);
        gives(x, "TRUTH:1", 1, 2, 1, 0);
        gives(x, "TRUTH:0", 1, 2, 0, 0);
        gives(x, "LAM:0 VAR:0", 1, 3, 0, 0);
        gives(x, "BOTH NUM:1 NUM:2", 3, 4, 0, 0);
        gives(x, "ADD NUM:2147483647 NUM:1", 3, 1, Integer.MIN_VALUE, 0);
        gives(x, "LESS NUM:-2147483648 NUM:2147483647", 3, 2, 1, 0);
        gives(x, "LESS NUM:3 NUM:3", 3, 2, 0, 0);
        gives(x, "LESS NUM:3 NUM:2", 3, 2, 0, 0);
        gives(x, "IF TRUTH:1 NUM:8 NUM:9", 3, 1, 8, 0);
        gives(x, "IF TRUTH:0 NUM:8 NUM:9", 3, 1, 9, 0);
        gives(x, "IF TRUTH:0 AS:9 NUM:8 NUM:9", 3, 1, 9, 1);
        gives(x, "IF TRUTH:1 NUM:8 AS:9 TRUTH:1", 3, 1, 8, 0);
        gives(x, "AS:9 NUM:5", 2, 1, 5, 1);
        gives(x, "AS:9 AS:9 NUM:5", 3, 1, 5, 1);
        gives(x, "AS:0 AS:9 NUM:5", 3, 1, 5, 0);
        gives(x, "AS:9 LAM:0 VAR:0", 2, 3, 0, 1);
        gives(x, "AS:9 BOTH NUM:1 NUM:2", 4, 4, 0, 1);
        // Variables are those of the place where the LAM stands.
        gives(x, "APP APP LAM:0 LAM:0 ADD VAR:1 ADD VAR:1 VAR:0 NUM:10 NUM:1", 11, 1, 21, 0);
        gives(x, "APP APP LAM:2 LAM:0 APP VAR:1 VAR:0 LAM:0 ADD VAR:0 VAR:0 NUM:4", 12, 1, 8, 0);
        gives(x, "FIRST BOTH NUM:1 NUM:2", 4, 1, 1, 0);
        gives(x, "SECOND BOTH NUM:1 NUM:2", 4, 1, 2, 0);
        gives(x, "FIRST AS:9 BOTH NUM:1 NUM:2", 5, 1, 1, 1);
        gives(x, "FIRST AS:3 AS:9 BOTH NUM:1 NUM:2", 6, 1, 1, 0);
        // A function in casts: the argument goes in through all of them, the result comes out.
        gives(x, "APP AS:2 AS:9 LAM:0 ADD VAR:0 NUM:1 NUM:4", 8, 1, 5, 0);
        gives(x, "APP AS:9 LAM:0 ADD VAR:0 NUM:1 NUM:4", 7, 1, 5, 1);
        gives(x, "APP AS:9 AS:4 AS:9 LAM:2 APP VAR:0 NUM:3 LAM:9 VAR:0", 10, 1, 3, 1);
        // What IF does not need is not worked out.
        gives(x, "IF TRUTH:1 NUM:1 ADD AS:9 TRUTH:1 NUM:1", 3, 1, 1, 0);
        ends(x, "APP LAM:9 APP VAR:0 VAR:0 LAM:9 APP VAR:0 VAR:0", GradualDesk.LONG, 0, 40);

        // A value, and then none.
        gives(x, "NUM:1", 1, 1, 1, 0);
        isWrong(x, "ADD NUM:1", GradualDesk.SYNTAX, 2);
        isWrong(x, "AS:1 NUM:1", GradualDesk.ILL, 0);
        isWrong(x, "BOTH LAM:4 NUM:1 NUM:1", GradualDesk.LARGE, 0);
    }

    private static void blamed() {
        promise = "promise 10";
        GradualDesk x = desk("INT", "BOOL", "FUN INT INT", "PAIR INT INT", "FUN FUN INT INT INT",
            "FUN INT BOOL", "PAIR ANY BOOL");
        // The label of operand k of token i is 3 i + k, and one more is told.
        blames(x, "AS:1 AS:9 NUM:5", 1, 3);
        blames(x, "ADD AS:9 TRUTH:1 NUM:1", 1, 3);
        blames(x, "ADD NUM:1 AS:9 TRUTH:1", 2, 4);
        blames(x, "LESS AS:9 LAM:9 VAR:0 NUM:1", 1, 3);
        blames(x, "IF AS:9 NUM:1 NUM:1 NUM:1", 1, 3);
        blames(x, "IF TRUTH:0 NUM:1 AS:9 TRUTH:1", 3, 4);
        blames(x, "BOTH NUM:1 IF TRUTH:0 NUM:1 AS:9 TRUTH:1", 9, 6);
        blames(x, "APP AS:9 NUM:1 NUM:1", 1, 3);
        blames(x, "APP LAM:0 VAR:0 AS:9 TRUTH:1", 2, 4);
        blames(x, "FIRST AS:9 NUM:1", 1, 3);
        blames(x, "SECOND AS:9 LAM:9 VAR:0", 1, 3);
        // An argument blames turned, a result as it is, an argument of an argument turned twice.
        blames(x, "APP AS:9 LAM:0 VAR:0 TRUTH:1", -4, 4);
        blames(x, "APP AS:5 AS:9 LAM:9 VAR:0 NUM:1", 4, 6);
        blames(x, "APP AS:9 AS:4 LAM:9 APP VAR:0 TRUTH:1 LAM:0 VAR:0", 7, 8);
        blames(x, "APP AS:9 LAM:2 APP VAR:0 NUM:1 LAM:9 TRUTH:1", -4, 8);
        blames(x, "FIRST AS:3 AS:9 BOTH TRUTH:1 NUM:1", 4, 6);
        blames(x, "SECOND AS:6 AS:9 BOTH NUM:1 NUM:1", 4, 6);
        // The first operand is cast before the second is worked out.
        blames(x, "ADD AS:9 TRUTH:1 ADD NUM:1 AS:9 TRUTH:1", 1, 3);
        blames(x, "APP AS:9 TRUTH:1 ADD NUM:1 AS:9 TRUTH:1", 1, 3);
        due("blamed() after check", x.check() == GradualDesk.OK ? x.blamed() : 99, 1);
        x.wipe();
        due("blamed() after wipe", x.blamed(), 1);
        ends(x, "NUM:1", GradualDesk.OK, 0, 1);
        String[] notWorkedOut = {"NUM:1 NUM:1", "VAR:0", "BOTH LAM:4 NUM:1 NUM:1"};
        for (String term : notWorkedOut) {
            blames(x, "AS:1 AS:9 NUM:5", 1, 3);
            draft(x, term);
            x.run();
            due("blamed() after a run of " + term, x.blamed(), 0);
        }
    }

    private static void steps() {
        promise = "promise 11";
        GradualDesk x = desk("INT", "FUN INT INT", "BOOL");
        due("steps()", x.steps(), 0);
        // A body that is begun twice counts twice: 38 steps, and up to three AS around them.
        String twice = "APP LAM:1 APP VAR:0 APP VAR:0 NUM:1 LAM:0 ";
        gives(x, twice + "ADD VAR:0 NUM:1", 14, 1, 3, 0);
        String long38 = twice + "AS:0 ".repeat(14) + "VAR:0";
        gives(x, long38, 38, 1, 1, 0);
        gives(x, "AS:0 " + long38, 39, 1, 1, 0);
        gives(x, "AS:0 AS:0 " + long38, 40, 1, 1, 0);
        // A BLAME when the last step is taken is no LONG.
        blames(x, "AS:2 AS:9 " + long38, 1, 40);
        ends(x, "AS:2 AS:9 AS:9 " + long38, GradualDesk.LONG, 0, 40);
        due("check()", x.check(), GradualDesk.OK);
        due("steps() after check", x.steps(), 40);
        isWrong(x, "NUM:1 NUM:1", GradualDesk.SYNTAX, 1);
        blames(x, "AS:0 AS:9 TRUTH:1", 1, 3);
    }

    private static void look() {
        promise = "promise 12";
        GradualDesk x = desk("INT", "BOOL", "PAIR INT BOOL", "PAIR PAIR INT INT ANY", "PAIR ANY INT");
        draft(x, "BOTH BOTH NUM:7 TRUTH:1 LAM:0 VAR:0");
        due("look before a run", x.look(0, 0), -1);
        due("run()", x.run(), GradualDesk.OK);
        sees(x, 0, 4, 0, 0);
        sees(x, 1, 4, 0, 0);
        sees(x, 1 + 4 * 1, 1, 7, 0);
        sees(x, 1 + 4 * 2, 2, 1, 0);
        sees(x, 2, 3, 0, 0);
        // What stands behind a digit 0 is not gone to.
        sees(x, 1 + 16 * 3, 4, 0, 0);
        sees(x, 4 * 3, 4, 0, 0);
        int[] noWays = {3, 1 + 4 * 3, 2 + 4 * 1, 2 + 4 * 2, 1 + 4 * 1 + 16 * 1, -1, -2, -3,
            Integer.MIN_VALUE, Integer.MIN_VALUE + 1, Integer.MAX_VALUE};
        for (int way : noWays) {
            sees(x, way, -1, -1, -1);
        }
        int[] noWhats = {-1, 3, Integer.MIN_VALUE, Integer.MAX_VALUE};
        for (int what : noWhats) {
            due("look(0, " + what + ")", x.look(0, what), -1);
        }

        // Parts of a pair in casts are cast when they are looked at.
        ends(x, "AS:9 BOTH NUM:1 BOTH TRUTH:0 NUM:2", GradualDesk.OK, 0, 6);
        sees(x, 0, 4, 0, 1);
        sees(x, 1, 1, 1, 1);
        sees(x, 2, 4, 0, 1);
        sees(x, 2 + 4 * 1, 2, 0, 1);
        sees(x, 2 + 4 * 2, 1, 2, 1);
        sees(x, 1 + 4 * 1, -1, -1, -1);
        ends(x, "AS:3 AS:9 BOTH BOTH NUM:1 TRUTH:1 NUM:3", GradualDesk.OK, 0, 7);
        sees(x, 1, 4, 0, 0);
        sees(x, 1 + 4 * 1, 1, 1, 0);
        sees(x, 1 + 4 * 2, -2, -2, -2);
        sees(x, 1 + 4 * 2 + 16 * 3, -2, -2, -2);
        sees(x, 2, 1, 3, 1);
        due("look(1 + 4 * 2, 3)", x.look(1 + 4 * 2, 3), -1);
        due("blamed() after a look that blames", x.blamed(), 0);
        due("steps() after a look", x.steps(), 7);
        sees(x, 1 + 4 * 1, 1, 1, 0);

        // A long way.
        ends(x, "BOTH AS:9 ".repeat(11) + "NUM:9" + " NUM:1".repeat(11), GradualDesk.OK, 0, 34);
        int way = 0;
        for (int i = 0; i < 11; i++) {
            sees(x, way, 4, 0, i == 0 ? 0 : 1);
            way = way * 4 + 1;
        }
        sees(x, way, 1, 9, 1);
        sees(x, way * 4 + 1, -1, -1, -1);
        isWrong(x, "NUM:1 NUM:1", GradualDesk.SYNTAX, 1);
        due("look(0, 0)", x.look(0, 0), -1);
    }

    public static void main(String[] args) {
        newObject();
        part();
        name();
        token();
        wipe();
        check();
        place();
        typeAt();
        run();
        blamed();
        steps();
        look();
        System.out.println(wrong == 0 ? "all promises hold" : wrong + " answers are not as due");
        if (wrong != 0) {
            System.exit(1);
        }
    }
}
