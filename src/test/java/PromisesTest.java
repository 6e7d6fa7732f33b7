/** Each promise of the document by hand-made runs: ordinary inputs, the named edges, wrong inputs. */
public final class PromisesTest {
    private static void due(String what, long got, long want) {
        Bench.due(what, got, want);
    }

    private static void due(String what, boolean got, boolean want) {
        Bench.due(what, got, want);
    }

    private static void newObject() {
        Bench.topic("promise 1");
        Bench x = new Bench();
        due("place()", x.place(), -1);
        due("blamed()", x.blamed(), 0);
        due("steps()", x.steps(), 0);
        due("look(0, 0)", x.look(0, 0), -1);
        due("typeAt(0)", x.typeAt(0), -1);
        due("name(0) of an empty draft", x.name(0), GradualDesk.SYNTAX);
        due("wipe()", x.wipe(), 0);
        due("check()", x.check(), GradualDesk.SYNTAX);
        due("run()", x.run(), GradualDesk.SYNTAX);
        for (int n = 0; n < 10; n++) {
            x.hasType("AS:" + n + " NUM:1", "ANY");
        }
        Bench other = new Bench();
        other.define(3, "INT");
        x.hasType("AS:3 NUM:1", "ANY");
    }

    private static void part() {
        Bench.topic("promise 2");
        Bench x = new Bench();
        int[] outside = {-1, 5, 6, Integer.MIN_VALUE, Integer.MAX_VALUE};
        for (int code : outside) {
            due("part(" + code + ")", x.part(code), false);
        }
        due("name after refused parts", x.name(0), GradualDesk.SYNTAX);
        x.draftType("FUN FUN FUN INT BOOL ANY INT");
        due("an eighth part", x.part(0), false);
        due("an eighth part outside", x.part(9), false);
        due("name of seven", x.name(0), GradualDesk.OK);
        x.hasType("AS:0 AS:9 NUM:1", "FUN FUN FUN INT BOOL ANY INT");
        x.define(1, "PAIR INT FUN BOOL ANY");
        x.hasType("AS:1 AS:9 NUM:1", "PAIR INT FUN BOOL ANY");
        due("part(0)", x.part(0), true);
        due("a refused part", x.part(5), false);
        due("name after a refused part", x.name(2), GradualDesk.OK);
        x.hasType("AS:2 AS:9 NUM:1", "INT");
    }

    private static void name() {
        Bench.topic("promise 3");
        Bench x = new Bench("INT");
        String[] noTypes = {"FUN", "PAIR", "FUN INT", "PAIR FUN INT INT", "INT INT", "ANY BOOL",
            "FUN INT INT ANY", "PAIR PAIR ANY INT PAIR ANY", "FUN FUN FUN FUN FUN FUN FUN"};
        for (String text : noTypes) {
            x.draftType(text);
            due("name of " + text, x.name(0), GradualDesk.SYNTAX);
            due("name after " + text, x.name(0), GradualDesk.SYNTAX);
        }
        x.hasType("AS:0 NUM:1", "INT");
        int[] outside = {-1, 10, Integer.MIN_VALUE, Integer.MAX_VALUE};
        x.draftType("FUN INT");
        for (int n : outside) {
            due("name(" + n + ")", x.name(n), GradualDesk.BAD);
        }
        x.draftType("BOOL");
        due("name(9) of the draft that stayed", x.name(9), GradualDesk.OK);
        x.hasType("AS:9 AS:8 NUM:1", "FUN INT BOOL");
        due("name(9) of an empty draft", x.name(9), GradualDesk.SYNTAX);
        x.hasType("AS:9 AS:8 NUM:1", "FUN INT BOOL");

        x.draft("LAM:7 VAR:0");
        due("check()", x.check(), GradualDesk.OK);
        due("typeAt(1)", x.typeAt(1), 2);
        x.define(7, "BOOL");
        due("typeAt(1) of the drafted term", x.typeAt(1), 1);

        // A value keeps the types it was cast with.
        x.draft("AS:6 AS:5 BOTH NUM:1 TRUTH:1");
        x.define(6, "PAIR INT INT");
        due("run()", x.run(), GradualDesk.OK);
        x.define(6, "PAIR INT BOOL");
        due("look(2, 0)", x.look(2, 0), -2);
        due("run()", x.run(), GradualDesk.OK);
        due("look(2, 0)", x.look(2, 0), 2);
    }

    private static void token() {
        Bench.topic("promise 4");
        Bench x = new Bench();
        int[][] refused = {{-1, 0}, {12, 0}, {Integer.MIN_VALUE, 0}, {Integer.MAX_VALUE, 0},
            {1, -1}, {1, 2}, {2, -1}, {2, 10}, {3, -1}, {3, 10}, {11, -1}, {11, 10},
            {1, Integer.MIN_VALUE}, {2, Integer.MAX_VALUE}};
        for (int[] t : refused) {
            due("token(" + t[0] + ", " + t[1] + ")", x.token(t[0], t[1]), false);
        }
        due("wipe()", x.wipe(), 0);
        int[][] taken = {{0, Integer.MIN_VALUE}, {0, Integer.MAX_VALUE}, {0, -1}, {1, 0}, {1, 1},
            {2, 0}, {2, 9}, {3, 0}, {3, 9}, {11, 0}, {11, 9}, {4, -7}, {5, 99}, {6, -1}, {7, 12},
            {8, Integer.MIN_VALUE}, {9, Integer.MAX_VALUE}, {10, 1000}};
        for (int[] t : taken) {
            due("token(" + t[0] + ", " + t[1] + ")", x.token(t[0], t[1]), true);
        }
        due("wipe()", x.wipe(), taken.length);
        for (int i = 0; i < 36; i++) {
            due("token " + i, x.token(i < 35 ? 11 : 0, 9), true);
        }
        due("a 37th token", x.token(0, 1), false);
        due("a 37th token outside", x.token(12, 1), false);
        due("check of 36", x.check(), GradualDesk.OK);
        due("run of 36", x.run(), GradualDesk.OK);
        due("steps of 36", x.steps(), 36);
        due("wipe()", x.wipe(), 36);

        due("token", x.token(0, 4), true);
        due("a refused token", x.token(1, 7), false);
        due("run after a refused token", x.run(), GradualDesk.OK);
        due("look(0, 1)", x.look(0, 1), 4);
    }

    private static void wipe() {
        Bench.topic("promise 5");
        Bench x = new Bench();
        due("wipe()", x.wipe(), 0);
        x.draft("ADD NUM:1 NUM:2");
        due("run()", x.run(), GradualDesk.OK);
        x.part(3);
        due("wipe()", x.wipe(), 3);
        due("wipe()", x.wipe(), 0);
        due("steps()", x.steps(), 3);
        due("look(0, 1) after wipe", x.look(0, 1), 3);
        due("check()", x.check(), GradualDesk.SYNTAX);
        due("place()", x.place(), 0);
        due("part", x.part(0) && x.part(0), true);
        due("name of the type's draft, which stays", x.name(0), GradualDesk.OK);
    }

    private static Bench checkBench() {
        Bench.topic("promise 6");
        return new Bench("INT", "BOOL", "FUN INT BOOL", "PAIR INT BOOL", "FUN ANY INT");
    }

    private static void checkOk() {
        Bench x = checkBench();
        x.hasType("NUM:5", "INT");
        x.hasType("TRUTH:0", "BOOL");
        x.hasType("LAM:0 VAR:0", "FUN INT INT");
        x.hasType("LAM:0 LAM:1 VAR:0", "FUN INT FUN BOOL BOOL");
        x.hasType("LAM:0 LAM:1 VAR:1", "FUN INT FUN BOOL INT");
        x.hasType("APP LAM:0 TRUTH:1 NUM:2", "BOOL");
        x.hasType("APP AS:9 NUM:1 NUM:2", "ANY");
        x.hasType("APP LAM:0 VAR:0 AS:9 TRUTH:1", "INT");
        x.hasType("IF TRUTH:1 NUM:1 AS:9 TRUTH:0", "INT");
        x.hasType("IF AS:9 NUM:1 AS:9 NUM:2 NUM:1", "ANY");
        x.hasType("IF TRUTH:1 AS:4 AS:9 NUM:1 LAM:0 VAR:0", "FUN ANY INT");
        x.hasType("ADD NUM:1 AS:9 TRUTH:1", "INT");
        x.hasType("LESS AS:9 NUM:1 NUM:2", "BOOL");
        x.hasType("BOTH NUM:1 TRUTH:1", "PAIR INT BOOL");
        x.hasType("FIRST BOTH LAM:0 TRUTH:0 NUM:1", "FUN INT BOOL");
        x.hasType("SECOND BOTH LAM:0 TRUTH:0 NUM:1", "INT");
        x.hasType("FIRST AS:9 NUM:1", "ANY");
        x.hasType("SECOND AS:9 NUM:1", "ANY");
        x.hasType("AS:2 AS:9 TRUTH:0", "FUN INT BOOL");
        x.hasType("AS:4 LAM:0 VAR:0", "FUN ANY INT");
        x.hasType("LAM:9 LAM:9 LAM:9 VAR:2", "FUN ANY FUN ANY FUN ANY ANY");
        x.hasType("BOTH BOTH NUM:1 NUM:2 BOTH NUM:1 NUM:2", "PAIR PAIR INT INT PAIR INT INT");
    }

    private static void checkIll() {
        Bench x = checkBench();
        x.isWrong("VAR:0", GradualDesk.ILL, 0);
        x.isWrong("LAM:0 VAR:1", GradualDesk.ILL, 1);
        x.isWrong("APP LAM:0 VAR:0 VAR:0", GradualDesk.ILL, 3);
        x.isWrong("APP NUM:1 NUM:2", GradualDesk.ILL, 0);
        x.isWrong("APP BOTH NUM:1 NUM:1 NUM:2", GradualDesk.ILL, 0);
        x.isWrong("APP LAM:0 VAR:0 TRUTH:1", GradualDesk.ILL, 0);
        x.isWrong("IF NUM:1 NUM:1 NUM:1", GradualDesk.ILL, 0);
        x.isWrong("IF TRUTH:1 NUM:1 TRUTH:1", GradualDesk.ILL, 0);
        x.isWrong("ADD NUM:1 TRUTH:1", GradualDesk.ILL, 0);
        x.isWrong("LESS TRUTH:1 NUM:1", GradualDesk.ILL, 0);
        x.isWrong("FIRST NUM:1", GradualDesk.ILL, 0);
        x.isWrong("SECOND LAM:9 VAR:0", GradualDesk.ILL, 0);
        x.isWrong("AS:1 NUM:1", GradualDesk.ILL, 0);
        x.isWrong("AS:2 AS:3 AS:9 NUM:1", GradualDesk.ILL, 0);
        x.isWrong("AS:2 LAM:9 NUM:1", GradualDesk.ILL, 0);
        x.isWrong("AS:3 BOTH AS:9 NUM:1 NUM:1", GradualDesk.ILL, 0);
        x.isWrong("ADD NUM:1 ADD VAR:3 TRUTH:1", GradualDesk.ILL, 3);
    }

    private static void checkLarge() {
        Bench x = checkBench();
        // Nine tokens are too many, seven are not; no type has eight.
        x.isWrong("BOTH BOTH NUM:1 NUM:2 BOTH NUM:1 BOTH NUM:1 NUM:2", GradualDesk.LARGE, 0);
        x.isWrong("LAM:2 LAM:2 LAM:0 NUM:1", GradualDesk.LARGE, 0);
        x.isWrong("FIRST BOTH BOTH BOTH BOTH NUM:1 NUM:1 NUM:1 NUM:1 NUM:1", GradualDesk.LARGE, 1);
        // The first thing wrong counts, operands before what they belong to.
        x.isWrong("APP LAM:2 LAM:2 LAM:0 NUM:1 VAR:0", GradualDesk.LARGE, 1);
        x.isWrong("ADD VAR:0 LAM:2 LAM:2 LAM:0 NUM:1", GradualDesk.ILL, 1);
        x.isWrong("APP NUM:1 ADD TRUTH:1 NUM:1", GradualDesk.ILL, 2);
    }

    private static void checkSyntax() {
        Bench x = checkBench();
        x.isWrong("NUM:1 NUM:2", GradualDesk.SYNTAX, 1);
        x.isWrong("ADD NUM:1 NUM:2 TRUTH:0 TRUTH:1", GradualDesk.SYNTAX, 3);
        x.isWrong("IF TRUTH:1 NUM:1", GradualDesk.SYNTAX, 3);
        x.isWrong("LAM:0", GradualDesk.SYNTAX, 1);
        x.isWrong("ADD VAR:0", GradualDesk.SYNTAX, 2);
    }

    private static void place() {
        Bench.topic("promise 7");
        Bench x = new Bench("INT", "BOOL");
        due("place()", x.place(), -1);
        x.draft("NUM:1");
        x.check();
        x.run();
        due("place() when all was well", x.place(), -1);
        x.draft("ADD NUM:1 ADD NUM:1 TRUTH:1");
        due("typeAt(0)", x.typeAt(0), -1);
        due("place() when there was neither check nor run", x.place(), -1);
        x.run();
        due("place() after a run", x.place(), 2);
        x.draft("NUM:1");
        x.check();
        due("place() after a check that was well", x.place(), 2);
        x.draft("AS:1 AS:9 NUM:1");
        due("run()", x.run(), GradualDesk.BLAME);
        due("place() after BLAME", x.place(), 2);
        x.draft("NUM:1 NUM:1");
        x.check();
        due("place() after SYNTAX", x.place(), 1);
        x.wipe();
        due("place() after wipe", x.place(), 1);
        x.check();
        due("place() of an empty draft", x.place(), 0);
    }

    private static void typeAt() {
        Bench.topic("promise 8");
        Bench x = new Bench("FUN INT BOOL");
        x.draft("LAM:0 VAR:0");
        int[] want = {3, 3, 0, 1, 3, 0, 1, -1, -1, -1};
        for (int k = 0; k < want.length; k++) {
            due("typeAt(" + k + ")", x.typeAt(k), want[k]);
        }
        int[] outside = {-1, -2, 10, 11, 32, 64, Integer.MIN_VALUE, Integer.MAX_VALUE};
        for (int k : outside) {
            due("typeAt(" + k + ")", x.typeAt(k), -1);
        }
        x.draft("NUM:1");
        due("typeAt(0)", x.typeAt(0), 0);
        due("typeAt(1)", x.typeAt(1), -1);
        x.token(0, 1);
        due("typeAt(0) of what is no term", x.typeAt(0), -1);
        x.draft("ADD NUM:1 TRUTH:1");
        due("typeAt(0) of what is ill typed", x.typeAt(0), -1);
    }

    private static void run() {
        Bench.topic("promise 9");
        Bench x = new Bench("INT", "BOOL", "FUN INT INT", "PAIR INT INT", "FUN FUN INT INT INT");
        x.gives("NUM:-7", 1, 1, -7, 0);
        x.gives("TRUTH:1", 1, 2, 1, 0);
        x.gives("TRUTH:0", 1, 2, 0, 0);
        x.gives("LAM:0 VAR:0", 1, 3, 0, 0);
        x.gives("BOTH NUM:1 NUM:2", 3, 4, 0, 0);
        x.gives("ADD NUM:2147483647 NUM:1", 3, 1, Integer.MIN_VALUE, 0);
        x.gives("LESS NUM:-2147483648 NUM:2147483647", 3, 2, 1, 0);
        x.gives("LESS NUM:3 NUM:3", 3, 2, 0, 0);
        x.gives("LESS NUM:3 NUM:2", 3, 2, 0, 0);
        x.gives("IF TRUTH:1 NUM:8 NUM:9", 3, 1, 8, 0);
        x.gives("IF TRUTH:0 NUM:8 NUM:9", 3, 1, 9, 0);
        x.gives("IF TRUTH:0 AS:9 NUM:8 NUM:9", 3, 1, 9, 1);
        x.gives("IF TRUTH:1 NUM:8 AS:9 TRUTH:1", 3, 1, 8, 0);
        x.gives("AS:9 NUM:5", 2, 1, 5, 1);
        x.gives("AS:9 AS:9 NUM:5", 3, 1, 5, 1);
        x.gives("AS:0 AS:9 NUM:5", 3, 1, 5, 0);
        x.gives("AS:9 LAM:0 VAR:0", 2, 3, 0, 1);
        x.gives("AS:9 BOTH NUM:1 NUM:2", 4, 4, 0, 1);
        // Variables are those of the place where the LAM stands.
        x.gives("APP APP LAM:0 LAM:0 ADD VAR:1 ADD VAR:1 VAR:0 NUM:10 NUM:1", 11, 1, 21, 0);
        x.gives("APP APP LAM:2 LAM:0 APP VAR:1 VAR:0 LAM:0 ADD VAR:0 VAR:0 NUM:4", 12, 1, 8, 0);
        x.gives("FIRST BOTH NUM:1 NUM:2", 4, 1, 1, 0);
        x.gives("SECOND BOTH NUM:1 NUM:2", 4, 1, 2, 0);
        x.gives("FIRST AS:9 BOTH NUM:1 NUM:2", 5, 1, 1, 1);
        x.gives("FIRST AS:3 AS:9 BOTH NUM:1 NUM:2", 6, 1, 1, 0);
        // A function in casts: the argument goes in through all of them, the result comes out.
        x.gives("APP AS:2 AS:9 LAM:0 ADD VAR:0 NUM:1 NUM:4", 8, 1, 5, 0);
        x.gives("APP AS:9 LAM:0 ADD VAR:0 NUM:1 NUM:4", 7, 1, 5, 1);
        x.gives("APP AS:9 AS:4 AS:9 LAM:2 APP VAR:0 NUM:3 LAM:9 VAR:0", 10, 1, 3, 1);
        // What IF does not need is not worked out.
        x.gives("IF TRUTH:1 NUM:1 ADD AS:9 TRUTH:1 NUM:1", 3, 1, 1, 0);
        x.ends("APP LAM:9 APP VAR:0 VAR:0 LAM:9 APP VAR:0 VAR:0", GradualDesk.LONG, 0, 40);

        // A value, and then none.
        x.gives("NUM:1", 1, 1, 1, 0);
        x.isWrong("ADD NUM:1", GradualDesk.SYNTAX, 2);
        x.isWrong("AS:1 NUM:1", GradualDesk.ILL, 0);
        x.isWrong("BOTH LAM:4 NUM:1 NUM:1", GradualDesk.LARGE, 0);
    }

    private static void blamed() {
        Bench.topic("promise 10");
        Bench x = new Bench("INT", "BOOL", "FUN INT INT", "PAIR INT INT", "FUN FUN INT INT INT",
            "FUN INT BOOL", "PAIR ANY BOOL");
        // The label of operand k of token i is 3 i + k, and one more is told.
        x.blames("AS:1 AS:9 NUM:5", 1, 3);
        x.blames("ADD AS:9 TRUTH:1 NUM:1", 1, 3);
        x.blames("ADD NUM:1 AS:9 TRUTH:1", 2, 4);
        x.blames("LESS AS:9 LAM:9 VAR:0 NUM:1", 1, 3);
        x.blames("IF AS:9 NUM:1 NUM:1 NUM:1", 1, 3);
        x.blames("IF TRUTH:0 NUM:1 AS:9 TRUTH:1", 3, 4);
        x.blames("BOTH NUM:1 IF TRUTH:0 NUM:1 AS:9 TRUTH:1", 9, 6);
        x.blames("APP AS:9 NUM:1 NUM:1", 1, 3);
        x.blames("APP LAM:0 VAR:0 AS:9 TRUTH:1", 2, 4);
        x.blames("FIRST AS:9 NUM:1", 1, 3);
        x.blames("SECOND AS:9 LAM:9 VAR:0", 1, 3);
        // An argument blames turned, a result as it is, an argument of an argument turned twice.
        x.blames("APP AS:9 LAM:0 VAR:0 TRUTH:1", -4, 4);
        x.blames("APP AS:5 AS:9 LAM:9 VAR:0 NUM:1", 4, 6);
        x.blames("APP AS:9 AS:4 LAM:9 APP VAR:0 TRUTH:1 LAM:0 VAR:0", 7, 8);
        x.blames("APP AS:9 LAM:2 APP VAR:0 NUM:1 LAM:9 TRUTH:1", -4, 8);
        x.blames("FIRST AS:3 AS:9 BOTH TRUTH:1 NUM:1", 4, 6);
        x.blames("SECOND AS:6 AS:9 BOTH NUM:1 NUM:1", 4, 6);
        // The first operand is cast before the second is worked out.
        x.blames("ADD AS:9 TRUTH:1 ADD NUM:1 AS:9 TRUTH:1", 1, 3);
        x.blames("APP AS:9 TRUTH:1 ADD NUM:1 AS:9 TRUTH:1", 1, 3);
        due("blamed() after check", x.check() == GradualDesk.OK ? x.blamed() : 99, 1);
        x.wipe();
        due("blamed() after wipe", x.blamed(), 1);
        x.ends("NUM:1", GradualDesk.OK, 0, 1);
        String[] notWorkedOut = {"NUM:1 NUM:1", "VAR:0", "BOTH LAM:4 NUM:1 NUM:1"};
        for (String term : notWorkedOut) {
            x.blames("AS:1 AS:9 NUM:5", 1, 3);
            x.draft(term);
            x.run();
            due("blamed() after a run of " + term, x.blamed(), 0);
        }
    }

    private static void steps() {
        Bench.topic("promise 11");
        Bench x = new Bench("INT", "FUN INT INT", "BOOL");
        due("steps()", x.steps(), 0);
        // A body that is begun twice counts twice: 38 steps, and up to three AS around them.
        String twice = "APP LAM:1 APP VAR:0 APP VAR:0 NUM:1 LAM:0 ";
        x.gives(twice + "ADD VAR:0 NUM:1", 14, 1, 3, 0);
        String long38 = twice + "AS:0 ".repeat(14) + "VAR:0";
        x.gives(long38, 38, 1, 1, 0);
        x.gives("AS:0 " + long38, 39, 1, 1, 0);
        x.gives("AS:0 AS:0 " + long38, 40, 1, 1, 0);
        // A BLAME when the last step is taken is no LONG.
        x.blames("AS:2 AS:9 " + long38, 1, 40);
        x.ends("AS:2 AS:9 AS:9 " + long38, GradualDesk.LONG, 0, 40);
        due("check()", x.check(), GradualDesk.OK);
        due("steps() after check", x.steps(), 40);
        x.isWrong("NUM:1 NUM:1", GradualDesk.SYNTAX, 1);
        x.blames("AS:0 AS:9 TRUTH:1", 1, 3);
    }

    private static void look() {
        Bench.topic("promise 12");
        Bench x = new Bench("INT", "BOOL", "PAIR INT BOOL", "PAIR PAIR INT INT ANY", "PAIR ANY INT");
        x.draft("BOTH BOTH NUM:7 TRUTH:1 LAM:0 VAR:0");
        due("look before a run", x.look(0, 0), -1);
        due("run()", x.run(), GradualDesk.OK);
        x.sees(0, 4, 0, 0);
        x.sees(1, 4, 0, 0);
        x.sees(1 + 4 * 1, 1, 7, 0);
        x.sees(1 + 4 * 2, 2, 1, 0);
        x.sees(2, 3, 0, 0);
        // What stands behind a digit 0 is not gone to.
        x.sees(1 + 16 * 3, 4, 0, 0);
        x.sees(4 * 3, 4, 0, 0);
        int[] noWays = {3, 1 + 4 * 3, 2 + 4 * 1, 2 + 4 * 2, 1 + 4 * 1 + 16 * 1, -1, -2, -3,
            Integer.MIN_VALUE, Integer.MIN_VALUE + 1, Integer.MAX_VALUE};
        for (int way : noWays) {
            x.sees(way, -1, -1, -1);
        }
        int[] noWhats = {-1, 3, Integer.MIN_VALUE, Integer.MAX_VALUE};
        for (int what : noWhats) {
            due("look(0, " + what + ")", x.look(0, what), -1);
        }

        // Parts of a pair in casts are cast when they are looked at.
        x.ends("AS:9 BOTH NUM:1 BOTH TRUTH:0 NUM:2", GradualDesk.OK, 0, 6);
        x.sees(0, 4, 0, 1);
        x.sees(1, 1, 1, 1);
        x.sees(2, 4, 0, 1);
        x.sees(2 + 4 * 1, 2, 0, 1);
        x.sees(2 + 4 * 2, 1, 2, 1);
        x.sees(1 + 4 * 1, -1, -1, -1);
        x.ends("AS:3 AS:9 BOTH BOTH NUM:1 TRUTH:1 NUM:3", GradualDesk.OK, 0, 7);
        x.sees(1, 4, 0, 0);
        x.sees(1 + 4 * 1, 1, 1, 0);
        x.sees(1 + 4 * 2, -2, -2, -2);
        x.sees(1 + 4 * 2 + 16 * 3, -2, -2, -2);
        x.sees(2, 1, 3, 1);
        due("look(1 + 4 * 2, 3)", x.look(1 + 4 * 2, 3), -1);
        due("blamed() after a look that blames", x.blamed(), 0);
        due("steps() after a look", x.steps(), 7);
        x.sees(1 + 4 * 1, 1, 1, 0);

        // A long way.
        x.ends("BOTH AS:9 ".repeat(11) + "NUM:9" + " NUM:1".repeat(11), GradualDesk.OK, 0, 34);
        int way = 0;
        for (int i = 0; i < 11; i++) {
            x.sees(way, 4, 0, i == 0 ? 0 : 1);
            way = way * 4 + 1;
        }
        x.sees(way, 1, 9, 1);
        x.sees(way * 4 + 1, -1, -1, -1);
        x.isWrong("NUM:1 NUM:1", GradualDesk.SYNTAX, 1);
        due("look(0, 0)", x.look(0, 0), -1);
    }

    public static void main(String[] args) {
        newObject();
        part();
        name();
        token();
        wipe();
        checkOk();
        checkIll();
        checkLarge();
        checkSyntax();
        place();
        typeAt();
        run();
        blamed();
        steps();
        look();
        Bench.finish("all promises hold");
    }
}
