import java.util.ArrayList;
import java.util.List;

/**
 * A desk under test. Terms and types are told in words, answers that are not due are told and
 * counted, and so are calls: of one object the document promises 512 and no more.
 */
final class Bench {
    static final int CALLS = 512;
    private static final String[] KINDS = {
        "NUM", "TRUTH", "VAR", "LAM", "APP", "IF", "ADD", "LESS", "BOTH", "FIRST", "SECOND", "AS"};
    private static final String[] TYPES = {"INT", "BOOL", "ANY", "FUN", "PAIR"};

    private static int wrong = 0;
    private static String topic = "";

    private final GradualDesk desk = new GradualDesk();
    private int calls = 0;

    /** A desk whose named types 0.. are these; the others are ANY. */
    Bench(String... types) {
        for (int n = 0; n < types.length; n++) {
            define(n, types[n]);
        }
    }

    static void topic(String of) {
        topic = of;
    }

    static void due(String what, long got, long want) {
        if (got != want) {
            wrong++;
            System.out.println(topic + ": " + what + " answered " + got + ", due is " + want);
        }
    }

    static void due(String what, boolean got, boolean want) {
        due(what, got ? 1 : 0, want ? 1 : 0);
    }

    static void due(String what, String got, String want) {
        if (!got.equals(want)) {
            wrong++;
            System.out.println(topic + ": " + what + " is " + got + ", due is " + want);
        }
    }

    /** Ends the program, with exit code 1 if an answer was not due. */
    static void finish(String whenAllIsWell) {
        System.out.println(wrong == 0 ? whenAllIsWell : wrong + " answers are not as due");
        System.exit(wrong == 0 ? 0 : 1);
    }

    // The calls of the document

    private GradualDesk called() {
        calls++;
        if (calls > CALLS) {
            throw new IllegalStateException(topic + ": a test makes more calls than are promised");
        }
        return desk;
    }

    int calls() {
        return calls;
    }

    boolean part(int code) {
        return called().part(code);
    }

    int name(int n) {
        return called().name(n);
    }

    boolean token(int kind, int value) {
        return called().token(kind, value);
    }

    int wipe() {
        return called().wipe();
    }

    int check() {
        return called().check();
    }

    int place() {
        return called().place();
    }

    int typeAt(int k) {
        return called().typeAt(k);
    }

    int run() {
        return called().run();
    }

    int blamed() {
        return called().blamed();
    }

    int steps() {
        return called().steps();
    }

    int look(int way, int what) {
        return called().look(way, what);
    }

    // Drafts in words

    private static int indexOf(String[] words, String word) {
        for (int i = 0; i < words.length; i++) {
            if (words[i].equals(word)) {
                return i;
            }
        }
        throw new IllegalArgumentException(word);
    }

    void draftType(String type) {
        for (String word : type.split(" ")) {
            due("part " + word + " of " + type, part(indexOf(TYPES, word)), true);
        }
    }

    void define(int n, String type) {
        draftType(type);
        due("name " + type, name(n), GradualDesk.OK);
    }

    /** Appends to the draft what is told like "ADD NUM:1 VAR:0". */
    void append(String tokens) {
        for (String word : tokens.split(" ")) {
            String[] halves = word.split(":");
            int value = halves.length > 1 ? Integer.parseInt(halves[1]) : 0;
            due("token " + word + " of " + tokens, token(indexOf(KINDS, halves[0]), value), true);
        }
    }

    void draft(String term) {
        wipe();
        append(term);
    }

    // What is due of a term

    String typeOfDraft() {
        List<String> words = new ArrayList<>();
        int token = typeAt(0);
        while (token >= 0 && words.size() < 10) {
            words.add(TYPES[token]);
            token = typeAt(words.size());
        }
        return String.join(" ", words);
    }

    void hasType(String term, String type) {
        draft(term);
        due("check of " + term, check(), GradualDesk.OK);
        due("the type of " + term, typeOfDraft(), type);
    }

    void isWrong(String term, int verdict, int place) {
        draft(term);
        due("check of " + term, check(), verdict);
        due("place of " + term, place(), place);
        due("typeAt(0) of " + term, typeAt(0), -1);
        due("run of " + term, run(), verdict);
        due("place after the run of " + term, place(), place);
        due("steps of " + term, steps(), 0);
        due("blamed of " + term, blamed(), 0);
        due("look of " + term, look(0, 0), -1);
    }

    void ends(String term, int verdict, int blamed, int steps) {
        draft(term);
        due("run of " + term, run(), verdict);
        due("blamed of " + term, blamed(), blamed);
        due("steps of " + term, steps(), steps);
        due("is there a value of " + term, look(0, 0) != -1, verdict == GradualDesk.OK);
    }

    void gives(String term, int steps, int shape, int content, int tagged) {
        ends(term, GradualDesk.OK, 0, steps);
        sees(0, shape, content, tagged);
    }

    void blames(String term, int blamed, int steps) {
        ends(term, GradualDesk.BLAME, blamed, steps);
    }

    void sees(int way, int shape, int content, int tagged) {
        due("look(" + way + ", 0)", look(way, 0), shape);
        due("look(" + way + ", 1)", look(way, 1), content);
        due("look(" + way + ", 2)", look(way, 2), tagged);
    }
}
