import java.util.ArrayList;
import java.util.List;

/**
 * What the document says under ERRORS: "Where several errors can apply, the order of the @return line is the order of
 * the checks. NONE is no error; it is returned only if no error applies. A call that returns an error or NONE changes
 * nothing." Each call is made on an object of a situation, and all that the object tells then, its history and its
 * snapshot too, is held against another object of the same situation that was not called.
 */
public final class RefusalsTest {
    private static final int UNKNOWN = -1;
    private static final int BAD_VALUE = -2;
    private static final int FULL = -3;
    private static final int NOT_POSSIBLE = -4;
    private static final int NONE = -5;
    private static final int LEAST = Integer.MIN_VALUE;
    private static final int GREATEST = Integer.MAX_VALUE;
    private static final int[] OUTSIDE = {-1, 1001, LEAST, GREATEST};
    private static final int[] NO_SPEEDS = {-51, 51, LEAST, GREATEST};

    private static final Check CHECK = new Check("RefusalsTest");
    private static Situation situation;
    private static List<Integer> untouched;

    private interface Situation {
        MiddleSpans object();
    }

    private interface Call {
        int on(MiddleSpans x);
    }

    private static void begin(Situation next) {
        situation = next;
        untouched = allThatIsTold(next.object());
    }

    /** The call answers this, and the object tells the same as one that was not called. */
    private static void refused(String call, int want, Call refusal) {
        MiddleSpans x = situation.object();
        CHECK.due(call, refusal.on(x), want);
        List<Integer> told = allThatIsTold(x);
        int same = 0;
        while (same < untouched.size() && told.get(same).equals(untouched.get(same))) {
            same++;
        }
        CHECK.due(call + " changes nothing: answers that are the same", same, untouched.size());
    }

    private static List<Integer> allThatIsTold(MiddleSpans x) {
        List<Integer> told = new ArrayList<>();
        tellState(x, told);
        int states = x.count(9);
        for (int i = 0; i < 4; i++) {
            told.add(x.undo());
            tellState(x, told);
        }
        told.add(x.restore());
        tellState(x, told);
        told.add(x.readSpans());
        tellState(x, told);
        told.add(states);
        told.add(x.clearText());
        return told;
    }

    private static void tellState(MiddleSpans x, List<Integer> told) {
        for (int what = 0; what <= 10; what++) {
            told.add(x.count(what));
        }
        for (int number = 0; number < 60; number++) {
            for (int what = 0; what <= 8; what++) {
                told.add(x.span(number, what));
            }
        }
        for (int walker = 0; walker < 6; walker++) {
            for (int what = 0; what <= 8; what++) {
                told.add(x.walker(walker, what));
            }
            told.add(x.inside(walker, 0));
            told.add(x.inside(walker, 1));
            told.add(x.changesIn(walker));
            told.add(x.meetIn(walker, 0));
        }
        for (int place = 0; place <= 1000; place += 10) {
            for (int what = 0; what <= 4; what++) {
                told.add(x.ask(place, what));
            }
            told.add(x.free(place, true));
            told.add(x.free(place, false));
        }
        for (int what = 0; what <= 3; what++) {
            told.add(x.index(what));
            told.add(x.most(what));
            for (int back = 0; back <= 12; back++) {
                told.add(x.event(back, what));
            }
        }
    }

    private static MiddleSpans some() {
        MiddleSpans x = new MiddleSpans();
        x.add(100, 200);
        x.add(150, 160);
        x.come(140, 7);
        x.come(990, 3);
        x.keep();
        Texts.read(x, "(0,20);[990,1000)");
        x.remove(1);
        x.pass(5);
        x.put(0, 5);
        x.type(';');
        return x;
    }

    /** Sixty spans, six walkers, the last tick, and a text of 60 characters that can be read. */
    private static MiddleSpans full() {
        MiddleSpans x = new MiddleSpans();
        for (int span = 0; span < 60; span++) {
            x.add(10 * span, 1000);
        }
        for (int walker = 0; walker < 6; walker++) {
            x.come(walker, walker - 3);
        }
        while (x.count(0) < 9999) {
            x.pass(Math.min(99, 9999 - x.count(0)));
        }
        x.keep();
        x.remove(30);
        Texts.write(x, "[0,0];[1,1];[2,2];[3,3];[4,4];[5,5];[6,6];[7,7];[8,8];[9,10]");
        return x;
    }

    private static MiddleSpans fullWithText(String text) {
        MiddleSpans x = full();
        Texts.write(x, text);
        return x;
    }

    private static MiddleSpans someWithText(String text) {
        MiddleSpans x = some();
        Texts.write(x, text);
        return x;
    }

    private static void spansAreRefused() {
        for (int place : OUTSIDE) {
            refused("add(" + place + ", 500)", BAD_VALUE, x -> x.add(place, 500));
            refused("add(500, " + place + ")", BAD_VALUE, x -> x.add(500, place));
            refused("add(" + place + ", " + place + ")", BAD_VALUE, x -> x.add(place, place));
        }
        refused("add(501, 500)", BAD_VALUE, x -> x.add(501, 500));
        refused("add(1000, 0)", BAD_VALUE, x -> x.add(1000, 0));
        for (int span : new int[] {-1, 60, 61, 64, LEAST, GREATEST}) {
            refused("remove(" + span + ")", UNKNOWN, x -> x.remove(span));
            refused("move(" + span + ", 1)", UNKNOWN, x -> x.move(span, 1));
            refused("move(" + span + ", 0): UNKNOWN is first", UNKNOWN, x -> x.move(span, 0));
            refused("move(" + span + ", 1001): UNKNOWN is first", UNKNOWN, x -> x.move(span, 1001));
            refused("span(" + span + ", 0)", UNKNOWN, x -> x.span(span, 0));
            refused("span(" + span + ", 9): UNKNOWN is first", UNKNOWN, x -> x.span(span, 9));
        }
    }

    private static void walkersAreRefused() {
        for (int place : OUTSIDE) {
            refused("come(" + place + ", 0)", BAD_VALUE, x -> x.come(place, 0));
        }
        for (int speed : NO_SPEEDS) {
            refused("come(500, " + speed + ")", BAD_VALUE, x -> x.come(500, speed));
            refused("come(-1, " + speed + ")", BAD_VALUE, x -> x.come(-1, speed));
        }
        for (int walker : new int[] {-1, 6, 7, 64, LEAST, GREATEST}) {
            refused("put(" + walker + ", 1)", UNKNOWN, x -> x.put(walker, 1));
            refused("put(" + walker + ", -1): UNKNOWN is first", UNKNOWN, x -> x.put(walker, -1));
            refused("speed(" + walker + ", 1)", UNKNOWN, x -> x.speed(walker, 1));
            refused("speed(" + walker + ", 51): UNKNOWN is first", UNKNOWN, x -> x.speed(walker, 51));
            refused("walker(" + walker + ", 0)", UNKNOWN, x -> x.walker(walker, 0));
            refused("walker(" + walker + ", 9): UNKNOWN is first", UNKNOWN, x -> x.walker(walker, 9));
            refused("inside(" + walker + ", 0)", UNKNOWN, x -> x.inside(walker, 0));
            refused("inside(" + walker + ", -1): UNKNOWN is first", UNKNOWN, x -> x.inside(walker, -1));
            refused("changesIn(" + walker + ")", UNKNOWN, x -> x.changesIn(walker));
            refused("meetIn(" + walker + ", 0)", UNKNOWN, x -> x.meetIn(walker, 0));
            refused("meetIn(0, " + walker + ")", UNKNOWN, x -> x.meetIn(0, walker));
            refused("meetIn of twice " + walker + ": UNKNOWN is first", UNKNOWN, x -> x.meetIn(walker, walker));
        }
        for (int ticks : new int[] {0, -1, 101, LEAST, GREATEST}) {
            refused("pass(" + ticks + ")", BAD_VALUE, x -> x.pass(ticks));
        }
    }

    private static void questionsAreRefused() {
        for (int place : OUTSIDE) {
            refused("ask(" + place + ", 0)", BAD_VALUE, x -> x.ask(place, 0));
            refused("ask(" + place + ", 3)", BAD_VALUE, x -> x.ask(place, 3));
            refused("free(" + place + ", true)", BAD_VALUE, x -> x.free(place, true));
            refused("free(" + place + ", false)", BAD_VALUE, x -> x.free(place, false));
        }
        for (int what : new int[] {-1, 5, LEAST, GREATEST}) {
            refused("ask(500, " + what + ")", BAD_VALUE, x -> x.ask(500, what));
        }
        for (int what : new int[] {-1, 3, LEAST, GREATEST}) {
            refused("most(" + what + ")", BAD_VALUE, x -> x.most(what));
        }
        for (int what : new int[] {-1, 4, LEAST, GREATEST}) {
            refused("index(" + what + ")", BAD_VALUE, x -> x.index(what));
            refused("event(0, " + what + ")", BAD_VALUE, x -> x.event(0, what));
            refused("event(12, " + what + "): BAD_VALUE is first", BAD_VALUE, x -> x.event(12, what));
        }
        for (int back : new int[] {-1, LEAST}) {
            refused("event(" + back + ", 0)", BAD_VALUE, x -> x.event(back, 0));
        }
        refused("event(12, 0)", NONE, x -> x.event(12, 0));
        refused("event(greatest, 3)", NONE, x -> x.event(GREATEST, 3));
        for (int what : new int[] {-1, 11, LEAST, GREATEST}) {
            refused("count(" + what + ")", BAD_VALUE, x -> x.count(what));
        }
    }

    private static void onNew() {
        begin(MiddleSpans::new);
        spansAreRefused();
        walkersAreRefused();
        questionsAreRefused();
        refused("readSpans()", -100, MiddleSpans::readSpans);
        refused("undo()", NONE, MiddleSpans::undo);
        refused("restore()", NONE, MiddleSpans::restore);
        refused("remove(0)", UNKNOWN, x -> x.remove(0));
        refused("move(0, 1)", UNKNOWN, x -> x.move(0, 1));
        refused("put(0, 0)", UNKNOWN, x -> x.put(0, 0));
        refused("speed(0, 0)", UNKNOWN, x -> x.speed(0, 0));
        refused("span(0, 0)", UNKNOWN, x -> x.span(0, 0));
        refused("walker(0, 0)", UNKNOWN, x -> x.walker(0, 0));
        refused("inside(0, 0)", UNKNOWN, x -> x.inside(0, 0));
        refused("changesIn(0)", UNKNOWN, x -> x.changesIn(0));
        refused("meetIn(0, 0): UNKNOWN is first", UNKNOWN, x -> x.meetIn(0, 0));
        refused("ask(0, 3)", NONE, x -> x.ask(0, 3));
        refused("ask(0, 4)", NONE, x -> x.ask(0, 4));
        refused("event(0, 0)", NONE, x -> x.event(0, 0));
        for (int what = 0; what <= 3; what++) {
            int asked = what;
            refused("index(" + what + ")", NONE, x -> x.index(asked));
        }
    }

    private static void onSome() {
        begin(RefusalsTest::some);
        spansAreRefused();
        walkersAreRefused();
        questionsAreRefused();
        refused("readSpans(): it ends too early", -118, MiddleSpans::readSpans);
        refused("remove(1): a removed one", UNKNOWN, x -> x.remove(1));
        refused("remove(4): the next number", UNKNOWN, x -> x.remove(4));
        refused("move(1, 1): a removed one", UNKNOWN, x -> x.move(1, 1));
        refused("move(4, 1): the next number", UNKNOWN, x -> x.move(4, 1));
        refused("span(1, 0): a removed one", UNKNOWN, x -> x.span(1, 0));
        refused("span(1, 9): UNKNOWN is first", UNKNOWN, x -> x.span(1, 9));
        refused("span(4, 0): the next number", UNKNOWN, x -> x.span(4, 0));
        for (int by : new int[] {0, 1001, -1001, LEAST, GREATEST}) {
            refused("move(0, " + by + ")", BAD_VALUE, x -> x.move(0, by));
        }
        refused("move(0, 801): one too far", NOT_POSSIBLE, x -> x.move(0, 801));
        refused("move(0, -101): one too far", NOT_POSSIBLE, x -> x.move(0, -101));
        refused("move(0, 1000)", NOT_POSSIBLE, x -> x.move(0, 1000));
        refused("move(0, -1000)", NOT_POSSIBLE, x -> x.move(0, -1000));
        refused("move(2, -1): the left end does not belong to it", NOT_POSSIBLE, x -> x.move(2, -1));
        refused("move(3, 1): the right end does not belong to it", NOT_POSSIBLE, x -> x.move(3, 1));
        for (int what : new int[] {-1, 9, LEAST, GREATEST}) {
            refused("span(0, " + what + ")", BAD_VALUE, x -> x.span(0, what));
            refused("walker(0, " + what + ")", BAD_VALUE, x -> x.walker(0, what));
        }
        walkersOfSomeAreRefused();
    }

    private static void walkersOfSomeAreRefused() {
        for (int place : OUTSIDE) {
            refused("put(0, " + place + ")", BAD_VALUE, x -> x.put(0, place));
        }
        refused("put(0, 5): there already", NONE, x -> x.put(0, 5));
        refused("put(2, 5): the next number", UNKNOWN, x -> x.put(2, 5));
        for (int speed : NO_SPEEDS) {
            refused("speed(0, " + speed + ")", BAD_VALUE, x -> x.speed(0, speed));
        }
        refused("speed(0, 7): it is so already", NONE, x -> x.speed(0, 7));
        refused("speed(1, -3): it is so already, behind a turn", NONE, x -> x.speed(1, -3));
        refused("inside(0, 1): there is one", NONE, x -> x.inside(0, 1));
        refused("inside(0, greatest)", NONE, x -> x.inside(0, GREATEST));
        refused("inside(0, -1)", BAD_VALUE, x -> x.inside(0, -1));
        refused("inside(0, least)", BAD_VALUE, x -> x.inside(0, LEAST));
        refused("meetIn(0, 0)", BAD_VALUE, x -> x.meetIn(0, 0));
        refused("meetIn(1, 1)", BAD_VALUE, x -> x.meetIn(1, 1));
        refused("meetIn(0, 2): the next number", UNKNOWN, x -> x.meetIn(0, 2));
        refused("ask(500, 3)", NONE, x -> x.ask(500, 3));
        refused("ask(500, 4)", NONE, x -> x.ask(500, 4));
    }

    private static void onFull() {
        begin(RefusalsTest::full);
        spansAreRefused();
        walkersAreRefused();
        questionsAreRefused();
        refused("add(0, 0)", FULL, x -> x.add(0, 0));
        refused("add(1, 0): BAD_VALUE is first", BAD_VALUE, x -> x.add(1, 0));
        refused("readSpans()", FULL, MiddleSpans::readSpans);
        refused("come(0, 0)", FULL, x -> x.come(0, 0));
        refused("come(0, 51): BAD_VALUE is first", BAD_VALUE, x -> x.come(0, 51));
        refused("come(-1, 0): BAD_VALUE is first", BAD_VALUE, x -> x.come(-1, 0));
        refused("pass(1)", NOT_POSSIBLE, x -> x.pass(1));
        refused("pass(100)", NOT_POSSIBLE, x -> x.pass(100));
        refused("pass(0): BAD_VALUE is first", BAD_VALUE, x -> x.pass(0));
        refused("pass(101): BAD_VALUE is first", BAD_VALUE, x -> x.pass(101));
        refused("type(';')", FULL, x -> x.type(';'));
        refused("type(0)", FULL, x -> x.type((char) 0));
        refused("remove(30)", UNKNOWN, x -> x.remove(30));
        refused("move(0, 1)", NOT_POSSIBLE, x -> x.move(0, 1));
        refused("free(0, true): there is none", NONE, x -> x.free(0, true));
        refused("free(1000, false): there is none", NONE, x -> x.free(1000, false));
    }

    private static void onTexts() {
        begin(() -> someWithText("[1,2];[3,1001]"));
        refused("[1,2];[3,1001]", BAD_VALUE, MiddleSpans::readSpans);
        begin(() -> someWithText("[1,2];(3,4)"));
        refused("[1,2];(3,4)", BAD_VALUE, MiddleSpans::readSpans);
        begin(() -> someWithText("[1,2];[4,3]"));
        refused("[1,2];[4,3]", BAD_VALUE, MiddleSpans::readSpans);
        begin(() -> someWithText("[1,2];[4,3];"));
        refused("[1,2];[4,3];: the fault is first", -112, MiddleSpans::readSpans);
        begin(() -> fullWithText("[1,2];[4,3]"));
        refused("[1,2];[4,3] when full: BAD_VALUE is first", BAD_VALUE, MiddleSpans::readSpans);
        begin(() -> fullWithText("[1,2];[4,3"));
        refused("[1,2];[4,3 when full: the fault is first", -110, MiddleSpans::readSpans);
        begin(() -> fullWithText("[1,2]"));
        refused("[1,2] when full", FULL, MiddleSpans::readSpans);
    }

    private static void onManyTexts() {
        Situation almost = () -> {
            MiddleSpans x = new MiddleSpans();
            for (int span = 0; span < 58; span++) {
                x.add(span, span);
            }
            x.come(500, 0);
            Texts.write(x, "[490,510];[500,500];(400,600)");
            return x;
        };
        begin(almost);
        refused("three more than 58: none of them comes", FULL, MiddleSpans::readSpans);
        MiddleSpans x = almost.object();
        CHECK.due("two more than 58", Texts.read(x, "[490,510];[500,500]"), 2);
        CHECK.due("span(59, 6)", x.span(59, 6), 1);
    }

    public static void main(String[] args) {
        onNew();
        onSome();
        onFull();
        onTexts();
        onManyTexts();
        CHECK.end();
    }
}
