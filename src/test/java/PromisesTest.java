/** The promises of the document, one by one: ordinary inputs, the edges that it names, and wrong inputs. */
public final class PromisesTest {
    private static final int UNKNOWN = -1;
    private static final int BAD_VALUE = -2;
    private static final int FULL = -3;
    private static final int NOT_POSSIBLE = -4;
    private static final int NONE = -5;
    private static final int LEAST = Integer.MIN_VALUE;
    private static final int GREATEST = Integer.MAX_VALUE;

    private static final Check CHECK = new Check("PromisesTest");
    private static MiddleSpans x;
    private static int promise;

    private static void due(String call, long got, long want) {
        CHECK.due("promise " + promise + ": " + call, got, want);
    }

    private static void begin(int number) {
        promise = number;
        x = new MiddleSpans();
    }

    private static void write(String text) {
        Texts.write(x, text);
    }

    private static int read(String text) {
        return Texts.read(x, text);
    }

    private static void promise1() {
        begin(1);
        for (int what = 0; what <= 10; what++) {
            due("count(" + what + ")", x.count(what), 0);
        }
        due("span(0, 0)", x.span(0, 0), UNKNOWN);
        due("walker(0, 0)", x.walker(0, 0), UNKNOWN);
        due("undo()", x.undo(), NONE);
        due("restore()", x.restore(), NONE);
        due("event(0, 0)", x.event(0, 0), NONE);
        due("ask(500, 1)", x.ask(500, 1), 0);
        due("UNKNOWN", MiddleSpans.UNKNOWN, UNKNOWN);
        due("BAD_VALUE", MiddleSpans.BAD_VALUE, BAD_VALUE);
        due("FULL", MiddleSpans.FULL, FULL);
        due("NOT_POSSIBLE", MiddleSpans.NOT_POSSIBLE, NOT_POSSIBLE);
        due("NONE", MiddleSpans.NONE, NONE);
        MiddleSpans other = new MiddleSpans();
        other.add(1, 2);
        other.come(1, 2);
        other.pass(3);
        due("count(1) beside another object", x.count(1), 0);
        due("count(3) beside another object", x.count(3), 0);
        due("count(0) beside another object", x.count(0), 0);
    }

    private static void promise2() {
        begin(2);
        due("add(-1, 5)", x.add(-1, 5), BAD_VALUE);
        due("add(0, 1001)", x.add(0, 1001), BAD_VALUE);
        due("add(1001, 1001)", x.add(1001, 1001), BAD_VALUE);
        due("add(6, 5)", x.add(6, 5), BAD_VALUE);
        due("add(least, greatest)", x.add(LEAST, GREATEST), BAD_VALUE);
        due("count(9) behind errors", x.count(9), 0);
        x.come(1000, 0);
        due("add(0, 1000)", x.add(0, 1000), 0);
        due("walker(0, 2)", x.walker(0, 2), 1);
        due("walker(0, 3)", x.walker(0, 3), 1);
        due("event(0, 0)", x.event(0, 0), 0);
        due("add(1000, 1000)", x.add(1000, 1000), 1);
        due("walker(0, 2)", x.walker(0, 2), 2);
        due("add(0, 0)", x.add(0, 0), 2);
        due("walker(0, 2)", x.walker(0, 2), 2);
        due("span(1, 0)", x.span(1, 0), 1000);
        due("span(1, 3)", x.span(1, 3), 1000);
        x.remove(1);
        due("add behind remove", x.add(7, 9), 3);
        for (int span = 4; span < 60; span++) {
            due("add " + span, x.add(span, span + 5), span);
        }
        due("count(9) when full", x.count(9), 4);
        x.keep();
        due("add when full", x.add(1, 2), FULL);
        due("add(2, 1) when full", x.add(2, 1), BAD_VALUE);
        due("span(59, 1)", x.span(59, 1), 64);
        x.undo();
        due("add behind undo", x.add(3, 4), 59);
        x.remove(59);
        due("add when there have been 60", x.add(3, 4), FULL);
    }

    private static void promise3() {
        begin(3);
        due("the empty text", x.readSpans(), -100);
        due("[1,2]", read("[1,2]"), 1);
        due("count(10)", x.count(10), 5);
        due("(10,20);[30,40);(50,60]", read("(10,20);[30,40);(50,60]"), 3);
        due("count(9)", x.count(9), 2);
        due("count(1)", x.count(1), 4);
        int[][] spans = {{1, 2, 1, 2}, {10, 20, 11, 19}, {30, 40, 30, 39}, {50, 60, 51, 60}};
        for (int span = 0; span < spans.length; span++) {
            for (int what = 0; what < 4; what++) {
                due("span(" + span + ", " + what + ")", x.span(span, what), spans[span][what]);
            }
        }
        due("undo()", x.undo(), 1);
        due("count(1) behind undo", x.count(1), 1);
        due("the text behind undo", x.count(10), 23);
        faults();
        x = new MiddleSpans();
        due("[0,1001]", read("[0,1001]"), BAD_VALUE);
        due("(1001,1001)", read("(1001,1001)"), BAD_VALUE);
        due("[9999,9999]", read("[9999,9999]"), BAD_VALUE);
        due("[6,5]", read("[6,5]"), BAD_VALUE);
        due("(5,5]", read("(5,5]"), BAD_VALUE);
        due("[5,5)", read("[5,5)"), BAD_VALUE);
        due("(5,5)", read("(5,5)"), BAD_VALUE);
        due("(5,6)", read("(5,6)"), BAD_VALUE);
        due("[0,0)", read("[0,0)"), BAD_VALUE);
        due("(1000,1000]", read("(1000,1000]"), BAD_VALUE);
        due("good and bad", read("[1,2];[3,2];[4,5]"), BAD_VALUE);
        due("a fault behind a bad value", read("[6,5];["), -107);
        due("count(1) behind errors", x.count(1), 0);
        due("count(9) behind errors", x.count(9), 0);
        due("[5,5]", read("[5,5]"), 1);
        due("(5,6]", read("(5,6]"), 1);
        due("[5,6)", read("[5,6)"), 1);
        due("(5,7)", read("(5,7)"), 1);
        due("(999,1000]", read("(999,1000]"), 1);
        due("[0,1000]", read("[0,1000]"), 1);
        due("count(9)", x.count(9), 4);
        readsOneAfterTheOther();
        readsUpToSixty();
    }

    private static void faults() {
        String[] texts = {
            "[", "(", "x", "5", "]", "[,", "[a", "[5", "[5]", "[5,", "[5,]", "[5,6", "[5,6[", "[5,6;", "[5,6] ",
            "[5,6];", "[5,6];;", "[5,6](", "[00,6]", "[01,6]", "[5,00]", "[5,01]", "[12345,6]", "[5,12345]",
            "[1234", "[5,1234", "[ 5,6]", "[5 ,6]", "[-5,6]", "[0,0];(1,2", "[0,0];[1,2x", "[5,6];[7.8]", "[0",
            "[0,0", "[10,1", "[5;6]", "{5,6]", "[5,6];)7,8]", "[/,6]", "[:,6]", "[\u0665,6]", "[5,\u00fe]"};
        int[] faults = {
            1, 1, 0, 0, 0, 1, 1, 2, 2, 3, 3, 4, 4, 4, 5,
            6, 6, 5, 2, 2, 4, 4, 5, 7,
            5, 7, 1, 2, 1, 10, 10, 8, 2,
            4, 5, 2, 0, 6, 1, 1, 1, 3};
        for (int i = 0; i < texts.length; i++) {
            due("'" + texts[i] + "'", read(texts[i]), -100 - faults[i]);
        }
        String ten = "[0,0];[1,1];[2,2];[3,3];[4,4];[5,5];[6,6];[7,7];[8,8];[9,9]";
        due("ten spans and ';'", read(ten + ";"), -160);
        due("ten spans and 'x'", read(ten + "x"), -159);
        due("ten spans", read(ten), 10);
    }

    private static void readsOneAfterTheOther() {
        x = new MiddleSpans();
        x.come(5, 0);
        x.come(6, 0);
        due("[5,6];[6,7];(4,5]", read("[5,6];[6,7];(4,5]"), 3);
        int[][] events = {{0, 2}, {1, 1}, {1, 0}, {0, 0}};
        for (int back = 0; back < events.length; back++) {
            due("event(" + back + ", 1)", x.event(back, 1), events[back][0]);
            due("event(" + back + ", 2)", x.event(back, 2), events[back][1]);
        }
    }

    private static void readsUpToSixty() {
        x = new MiddleSpans();
        write("[0,0];[1,1];[2,2];[3,3];[4,4];[5,5];[6,6];[7,7];[8,8]");
        for (int i = 0; i < 6; i++) {
            due("nine spans", x.readSpans(), 9);
        }
        due("nine more than 54", x.readSpans(), FULL);
        due("a fault ahead of that", read("["), -101);
        due("a bad value ahead of that", read("[1,1];[1,1];[1,1];[1,1];[1,1];[1,1];[2,1]"), BAD_VALUE);
        due("seven more than 54", read("[1,1];[1,1];[1,1];[1,1];[1,1];[1,1];[1,1]"), FULL);
        due("count(1)", x.count(1), 54);
        due("six more than 54", read("[1,1];[1,1];[1,1];[1,1];[1,1];[1,1]"), 6);
        x.remove(59);
        due("one more than 60", read("[1,1]"), FULL);
    }

    private static void promise4() {
        begin(4);
        x.add(10, 20);
        x.add(15, 30);
        x.come(10, 0);
        x.come(17, 0);
        x.come(40, 0);
        due("remove(-1)", x.remove(-1), UNKNOWN);
        due("remove(2)", x.remove(2), UNKNOWN);
        due("remove(60)", x.remove(60), UNKNOWN);
        due("remove(least)", x.remove(LEAST), UNKNOWN);
        due("remove(greatest)", x.remove(GREATEST), UNKNOWN);
        x.pass(2);
        due("remove(0)", x.remove(0), 2);
        due("remove(0) again", x.remove(0), UNKNOWN);
        due("walker(0, 2)", x.walker(0, 2), 0);
        due("walker(1, 2)", x.walker(1, 2), 1);
        due("walker(0, 4)", x.walker(0, 4), 1);
        due("event(0, 0)", x.event(0, 0), 1);
        due("event(0, 1)", x.event(0, 1), 1);
        due("event(1, 1)", x.event(1, 1), 0);
        due("event(0, 2)", x.event(0, 2), 0);
        due("event(0, 3)", x.event(0, 3), 2);
        due("count(1)", x.count(1), 2);
        due("count(2)", x.count(2), 1);
        due("ask(12, 0)", x.ask(12, 0), 0);
        due("free(10, true)", x.free(10, true), 10);
        due("undo()", x.undo(), 3);
        due("walker(0, 2) behind undo", x.walker(0, 2), 1);
        due("span(0, 7) behind undo", x.span(0, 7), 4);
        x.remove(0);
        due("remove(1)", x.remove(1), 1);
        due("index(0)", x.index(0), NONE);
        removeTellsHowManyLeaveIt();
    }

    private static void removeTellsHowManyLeaveIt() {
        x = new MiddleSpans();
        x.add(10, 20);
        x.add(0, 1000);
        x.add(30, 40);
        for (int walker = 0; walker < 6; walker++) {
            x.come(walker < 5 ? 15 : 21, 0);
        }
        due("remove(2): none", x.remove(2), 0);
        due("remove(0): those of the other do not count", x.remove(0), 5);
        due("remove(1): all", x.remove(1), 6);
        due("count(5)", x.count(5), 11);
    }

    private static void promise5() {
        begin(5);
        x.add(10, 20);
        x.come(10, 0);
        x.come(15, 0);
        x.come(25, 0);
        due("move(1, 5)", x.move(1, 5), UNKNOWN);
        due("move(-1, 0)", x.move(-1, 0), UNKNOWN);
        due("move(0, 0)", x.move(0, 0), BAD_VALUE);
        due("move(0, 1001)", x.move(0, 1001), BAD_VALUE);
        due("move(0, -1001)", x.move(0, -1001), BAD_VALUE);
        due("move(0, least)", x.move(0, LEAST), BAD_VALUE);
        due("move(0, greatest)", x.move(0, GREATEST), BAD_VALUE);
        due("move(0, 1000)", x.move(0, 1000), NOT_POSSIBLE);
        due("move(0, 981)", x.move(0, 981), NOT_POSSIBLE);
        due("move(0, -11)", x.move(0, -11), NOT_POSSIBLE);
        due("move(0, 5)", x.move(0, 5), 2);
        due("span(0, 0)", x.span(0, 0), 15);
        due("span(0, 1)", x.span(0, 1), 25);
        due("span(0, 2)", x.span(0, 2), 15);
        due("span(0, 3)", x.span(0, 3), 25);
        due("span(0, 8): those who stay do not enter", x.span(0, 8), 3);
        due("event(0, 1)", x.event(0, 1), 2);
        due("event(0, 0)", x.event(0, 0), 0);
        due("event(1, 1)", x.event(1, 1), 0);
        due("event(1, 0)", x.event(1, 0), 1);
        due("move(0, 975)", x.move(0, 975), 2);
        due("span(0, 1)", x.span(0, 1), 1000);
        due("move(0, -990)", x.move(0, -990), 1);
        due("span(0, 0)", x.span(0, 0), 0);
        due("span(0, 4)", x.span(0, 4), 6);
        x.add(0, 0);
        due("move(1, 1000)", x.move(1, 1000), 0);
        due("move(1, -1000)", x.move(1, -1000), 0);
        x = new MiddleSpans();
        read("(0,10);(990,1000)");
        due("move(0, -1): the end that does not belong to it", x.move(0, -1), NOT_POSSIBLE);
        due("move(1, 1): the end that does not belong to it", x.move(1, 1), NOT_POSSIBLE);
        due("move(0, 490)", x.move(0, 490), 0);
        due("span(0, 2)", x.span(0, 2), 491);
        due("span(0, 3)", x.span(0, 3), 499);
        due("span(0, 1)", x.span(0, 1), 500);
        x.remove(0);
        due("move of a removed one", x.move(0, 5), UNKNOWN);
        moveTellsHowManyLeaveOrEnterIt();
    }

    private static void moveTellsHowManyLeaveOrEnterIt() {
        x = new MiddleSpans();
        x.add(0, 10);
        x.add(0, 20);
        for (int walker = 0; walker < 6; walker++) {
            x.come(walker < 2 ? 0 : walker < 3 ? 10 : 20, 0);
        }
        due("move(0, 10): two leave, three enter, one stays", x.move(0, 10), 5);
        due("move(0, -10): back again", x.move(0, -10), 5);
        due("move(0, 100): they do not leave the other", x.move(0, 100), 3);
        due("move(0, 890): to the end, and nobody is told", x.move(0, 890), 0);
        due("move(0, 1): past the end", x.move(0, 1), NOT_POSSIBLE);
        due("move(0, -990): to the other end", x.move(0, -990), 3);
        due("move(0, -1): past the other end", x.move(0, -1), NOT_POSSIBLE);
        due("move(1, 980)", x.move(1, 980), 6);
        due("move(1, -980)", x.move(1, -980), 6);
        x.add(0, 1000);
        for (int by : new int[] {1, -1, 1000, -1000}) {
            due("move(2, " + by + "): the whole line", x.move(2, by), NOT_POSSIBLE);
        }
    }

    private static void promise6() {
        begin(6);
        due("come(-1, 0)", x.come(-1, 0), BAD_VALUE);
        due("come(1001, 0)", x.come(1001, 0), BAD_VALUE);
        due("come(0, 51)", x.come(0, 51), BAD_VALUE);
        due("come(0, -51)", x.come(0, -51), BAD_VALUE);
        due("come(least, least)", x.come(LEAST, LEAST), BAD_VALUE);
        due("count(9)", x.count(9), 0);
        x.add(0, 10);
        x.add(0, 0);
        x.add(1, 5);
        due("come(0, -50)", x.come(0, -50), 0);
        due("walker(0, 2)", x.walker(0, 2), 2);
        due("event(0, 2)", x.event(0, 2), 1);
        due("event(1, 2)", x.event(1, 2), 0);
        due("walker(0, 1)", x.walker(0, 1), 950);
        due("walker(0, 0)", x.walker(0, 0), 0);
        due("come(1000, 50)", x.come(1000, 50), 1);
        due("walker(1, 1)", x.walker(1, 1), 1050);
        for (int walker = 2; walker < 6; walker++) {
            due("come", x.come(5, 0), walker);
        }
        due("come(5, 0)", x.come(5, 0), FULL);
        due("come(5, 51)", x.come(5, 51), BAD_VALUE);
        due("span(0, 6)", x.span(0, 6), 5);
        x.undo();
        due("count(3)", x.count(3), 5);
        x.come(600, 1);
        due("walker(5, 2) behind undo", x.walker(5, 2), 0);
        due("walker(5, 3) behind undo", x.walker(5, 3), 0);
        due("walker(5, 4) behind undo", x.walker(5, 4), 0);
    }

    private static void promise7() {
        begin(7);
        x.add(10, 20);
        x.add(15, 30);
        x.add(12, 16);
        x.come(12, 3);
        due("put(1, 5)", x.put(1, 5), UNKNOWN);
        due("put(-1, 5)", x.put(-1, 5), UNKNOWN);
        due("put(1, 1001)", x.put(1, 1001), UNKNOWN);
        due("put(0, -1)", x.put(0, -1), BAD_VALUE);
        due("put(0, 1001)", x.put(0, 1001), BAD_VALUE);
        due("put(0, 12)", x.put(0, 12), NONE);
        due("count(9)", x.count(9), 4);
        due("put(0, 17)", x.put(0, 17), 2);
        due("event(0, 0)", x.event(0, 0), 0);
        due("event(0, 2)", x.event(0, 2), 1);
        due("event(1, 0): first what was left", x.event(1, 0), 1);
        due("event(1, 2)", x.event(1, 2), 2);
        due("put(0, 18)", x.put(0, 18), 0);
        due("put(0, 0)", x.put(0, 0), 2);
        due("event(0, 2)", x.event(0, 2), 1);
        due("event(1, 2)", x.event(1, 2), 0);
        due("put(0, 1000)", x.put(0, 1000), 0);
        due("walker(0, 0)", x.walker(0, 0), 1000);
        due("walker(0, 1)", x.walker(0, 1), 1003);
        due("walker(0, 7): it is no way", x.walker(0, 7), 0);
        due("undo()", x.undo(), 3);
        due("walker(0, 0)", x.walker(0, 0), 0);
    }

    private static void promise8() {
        begin(8);
        x.come(5, 7);
        due("speed(1, 5)", x.speed(1, 5), UNKNOWN);
        due("speed(-1, 51)", x.speed(-1, 51), UNKNOWN);
        due("speed(0, 51)", x.speed(0, 51), BAD_VALUE);
        due("speed(0, -51)", x.speed(0, -51), BAD_VALUE);
        due("speed(0, greatest)", x.speed(0, GREATEST), BAD_VALUE);
        due("speed(0, 7)", x.speed(0, 7), NONE);
        due("count(9)", x.count(9), 1);
        due("speed(0, -50)", x.speed(0, -50), 1007);
        due("speed(0, 50)", x.speed(0, 50), 950);
        due("speed(0, 0)", x.speed(0, 0), 1050);
        due("speed(0, 0)", x.speed(0, 0), NONE);
        due("walker(0, 1)", x.walker(0, 1), 1000);
        due("count(9)", x.count(9), 4);
        x.undo();
        due("walker(0, 1)", x.walker(0, 1), 1050);
    }

    private static void promise9() {
        begin(9);
        due("pass(0)", x.pass(0), BAD_VALUE);
        due("pass(101)", x.pass(101), BAD_VALUE);
        due("pass(-1)", x.pass(-1), BAD_VALUE);
        due("pass(greatest)", x.pass(GREATEST), BAD_VALUE);
        due("count(9)", x.count(9), 0);
        x.add(0, 9);
        x.add(991, 1000);
        x.come(9, -3);
        x.come(990, 10);
        due("pass(1)", x.pass(1), 1);
        due("walker(1, 0): the end itself is no turn", x.walker(1, 0), 1000);
        due("walker(1, 8)", x.walker(1, 8), 0);
        due("pass(2)", x.pass(2), 1);
        due("walker(0, 0)", x.walker(0, 0), 0);
        due("walker(0, 8)", x.walker(0, 8), 0);
        due("walker(1, 0)", x.walker(1, 0), 980);
        due("walker(1, 1)", x.walker(1, 1), 990);
        due("walker(1, 8)", x.walker(1, 8), 1);
        due("pass(1)", x.pass(1), 0);
        due("walker(0, 0)", x.walker(0, 0), 3);
        due("walker(0, 1)", x.walker(0, 1), 1003);
        due("walker(0, 8)", x.walker(0, 8), 1);
        due("event(0, 0)", x.event(0, 0), 2);
        due("event(0, 2)", x.event(0, 2), 3);
        due("event(0, 3)", x.event(0, 3), 4);
        due("span(0, 7)", x.span(0, 7), 4);
        due("span(1, 7)", x.span(1, 7), 1);
        due("count(9)", x.count(9), 4);
        due("walker(0, 7)", x.walker(0, 7), 12);
        due("walker(1, 7)", x.walker(1, 7), 40);
        turnIsToldAhead();
        everyTickIsToldOf();
        x = new MiddleSpans();
        for (int i = 0; i < 99; i++) {
            due("pass(100)", x.pass(100), 0);
        }
        due("pass(100) at 9900", x.pass(100), NOT_POSSIBLE);
        due("pass(101) at 9900", x.pass(101), BAD_VALUE);
        due("count(0)", x.count(0), 9900);
        due("pass(99) at 9900", x.pass(99), 0);
        due("count(0)", x.count(0), 9999);
        due("pass(1) at 9999", x.pass(1), NOT_POSSIBLE);
    }

    private static void everyTickIsToldOf() {
        x = new MiddleSpans();
        x.add(500, 500);
        x.add(500, 501);
        x.come(499, 1);
        x.come(502, -1);
        due("pass(4): each enters both and leaves both", x.pass(4), 8);
        x.undo();
        int changes = 0;
        for (int tick = 0; tick < 4; tick++) {
            changes += x.pass(1);
        }
        due("pass(1) four times", changes, 8);
        due("count(9): each one is an act", x.count(9), 4);
        x = new MiddleSpans();
        x.add(0, 0);
        x.come(0, 50);
        x.come(0, 0);
        due("pass(100) out of one, and into it and out of it each time", x.pass(100), 1 + 2 * 2);
    }

    private static void turnIsToldAhead() {
        x = new MiddleSpans();
        x.add(0, 5);
        x.add(20, 30);
        x.come(5, -25);
        x.come(5, 0);
        due("pass(1)", x.pass(1), 2);
        int[][] events = {{0, 0, 1, 1}, {1, 0, 0, 1}, {2, 0, 20, 1}, {0, 1, 0, 0}};
        for (int back = 0; back < events.length; back++) {
            for (int what = 0; what < 4; what++) {
                due("event(" + back + ", " + what + ")", x.event(back, what), events[back][what]);
            }
        }
    }

    private static void promise10() {
        begin(10);
        for (int i = 1; i <= 60; i++) {
            due("type", x.type((char) (i * 1000)), i);
        }
        due("type", x.type('a'), FULL);
        due("count(10)", x.count(10), 60);
        due("it is no act", x.count(9), 0);
        due("readSpans()", x.readSpans(), -100);
        x.clearText();
        due("type(0)", x.type((char) 0), 1);
        due("type(65535)", x.type((char) 65535), 2);
    }

    private static void promise11() {
        begin(11);
        due("clearText()", x.clearText(), 0);
        write("[1,2]");
        due("clearText()", x.clearText(), 5);
        due("count(10)", x.count(10), 0);
        due("it is no act", x.count(9), 0);
        due("readSpans()", x.readSpans(), -100);
        due("type", x.type('['), 1);
        due("readSpans()", x.readSpans(), -101);
    }

    private static void promise12() {
        begin(12);
        due("undo()", x.undo(), NONE);
        x.add(0, 10);
        x.come(5, 1);
        due("undo()", x.undo(), 1);
        due("count(3)", x.count(3), 0);
        due("span(0, 8)", x.span(0, 8), 0);
        due("event(0, 0)", x.event(0, 0), NONE);
        due("undo()", x.undo(), 0);
        due("count(1)", x.count(1), 0);
        due("index(0)", x.index(0), NONE);
        due("free(0, true)", x.free(0, true), 0);
        due("undo()", x.undo(), NONE);
        for (int i = 0; i < 7; i++) {
            x.add(i, i);
        }
        due("count(9)", x.count(9), 4);
        x.add(5, 1);
        x.type('a');
        due("undo()", x.undo(), 3);
        due("undo()", x.undo(), 2);
        due("count(1)", x.count(1), 5);
        x.come(0, 0);
        due("count(9)", x.count(9), 3);
        due("undo()", x.undo(), 2);
        due("undo()", x.undo(), 1);
        due("undo()", x.undo(), 0);
        due("count(1): older ones were dropped", x.count(1), 3);
        due("undo()", x.undo(), NONE);
        due("the text stays", x.count(10), 1);
        x.keep();
        x.add(1, 1);
        x.undo();
        x.add(1, 1);
        due("the snapshot stays", x.restore(), 3);
        x = new MiddleSpans();
        x.add(5, 15);
        x.come(5, 5);
        x.pass(4);
        x.move(0, 100);
        x.undo();
        due("span(0, 0)", x.span(0, 0), 5);
        due("span(0, 1)", x.span(0, 1), 15);
        due("span(0, 2)", x.span(0, 2), 5);
        due("span(0, 3)", x.span(0, 3), 15);
        due("ask(5, 0)", x.ask(5, 0), 1);
        x.undo();
        due("count(0)", x.count(0), 0);
        due("walker(0, 0)", x.walker(0, 0), 5);
        due("walker(0, 4)", x.walker(0, 4), 0);
        due("walker(0, 7)", x.walker(0, 7), 0);
        due("span(0, 7)", x.span(0, 7), 0);
        due("event(0, 0)", x.event(0, 0), 0);
        due("pass(4) again", x.pass(4), 1);
        due("event(0, 3)", x.event(0, 3), 3);
        undoBringsAllBack();
    }

    private static void undoBringsAllBack() {
        x = new MiddleSpans();
        x.add(0, 30);
        x.come(10, 0);
        x.come(20, 0);
        x.come(990, 50);
        x.pass(5);
        for (int place = 1; place < 20; place++) {
            x.put(1, 50);
            x.put(0, 100 + place);
            x.pass(100);
            x.put(0, place);
            for (int i = 0; i < 4; i++) {
                x.undo();
            }
        }
        int[][] walkers = {{10, 1000, 1, 1, 0, 5, 0, 0, 0}, {20, 1000, 1, 1, 0, 5, 0, 0, 0},
            {760, 950, 0, 0, 0, NONE, NONE, 250, 1}};
        for (int walker = 0; walker < walkers.length; walker++) {
            for (int what = 0; what <= 8; what++) {
                due("walker(" + walker + ", " + what + ")", x.walker(walker, what), walkers[walker][what]);
            }
        }
        int[][] events = {{2, 2, 960, 1}, {0, 1, 0, 0}, {0, 0, 0, 0}};
        for (int back = 0; back < events.length; back++) {
            for (int what = 0; what < 4; what++) {
                due("event(" + back + ", " + what + ")", x.event(back, what), events[back][what]);
            }
        }
        due("event(3, 0)", x.event(3, 0), NONE);
    }

    private static void promise13() {
        begin(13);
        due("keep()", x.keep(), 0);
        due("it is no act", x.count(9), 0);
        x.add(1, 2);
        x.add(3, 4);
        x.remove(0);
        due("keep()", x.keep(), 1);
        due("count(9)", x.count(9), 3);
        x.add(5, 6);
        x.add(7, 8);
        due("restore(): the later snapshot", x.restore(), 1);
        due("count(1)", x.count(1), 2);
        due("span(1, 0)", x.span(1, 0), 3);
        while (x.count(1) < 60) {
            x.add(500, 600);
        }
        due("keep() of as many as there can be", x.keep(), 59);
        for (int span = 1; span < 60; span++) {
            x.remove(span);
        }
        due("restore() of them", x.restore(), 59);
        due("keep() again", x.keep(), 59);
        due("undo()", x.undo(), 3);
        due("keep() of none", x.keep(), 0);
        due("restore() of none", x.restore(), 0);
    }

    private static void promise14() {
        begin(14);
        due("restore()", x.restore(), NONE);
        due("count(9)", x.count(9), 0);
        x.keep();
        due("restore(): the snapshot of a new object", x.restore(), 0);
        due("count(9)", x.count(9), 1);
        x.add(0, 100);
        x.come(90, 2);
        x.pass(3);
        x.type('a');
        x.keep();
        x.pass(10);
        x.remove(0);
        x.type('b');
        due("restore()", x.restore(), 1);
        due("count(9)", x.count(9), 4);
        due("count(10): the text stays", x.count(10), 2);
        due("count(0)", x.count(0), 3);
        due("walker(0, 0)", x.walker(0, 0), 96);
        due("walker(0, 2)", x.walker(0, 2), 1);
        due("walker(0, 5)", x.walker(0, 5), 3);
        due("span(0, 7)", x.span(0, 7), 3);
        due("ask(50, 0)", x.ask(50, 0), 1);
        due("index(0)", x.index(0), 4);
        due("pass(3)", x.pass(3), 1);
        due("restore() again", x.restore(), 1);
        due("walker(0, 0)", x.walker(0, 0), 96);
        due("undo()", x.undo(), 3);
        due("walker(0, 0)", x.walker(0, 0), 102);
        due("walker(0, 2)", x.walker(0, 2), 0);
        due("event(0, 0)", x.event(0, 0), 1);
    }

    private static void promise15() {
        begin(15);
        read("(100,300];[250,260);[0,0];[1000,1000];[500,500];(499,501)");
        int[][] spans = {
            {100, 300, 101, 300, 249, 1}, {250, 260, 250, 259, 256, 6}, {0, 0, 0, 0, 0, 8},
            {1000, 1000, 1000, 1000, 1000, 9}, {500, 500, 500, 500, 500, 0}, {499, 501, 500, 500, 500, 0}};
        for (int span = 0; span < spans.length; span++) {
            for (int what = 0; what < 6; what++) {
                due("span(" + span + ", " + what + ")", x.span(span, what), spans[span][what]);
            }
        }
        due("span(0, -1)", x.span(0, -1), BAD_VALUE);
        due("span(0, 9)", x.span(0, 9), BAD_VALUE);
        due("span(6, 0)", x.span(6, 0), UNKNOWN);
        due("span(-1, 9)", x.span(-1, 9), UNKNOWN);
        due("span(60, 0)", x.span(60, 0), UNKNOWN);
        due("span(greatest, 0)", x.span(GREATEST, 0), UNKNOWN);
        x.come(100, 1);
        x.come(299, 1);
        x.come(200, 0);
        due("span(0, 6)", x.span(0, 6), 2);
        due("span(0, 8)", x.span(0, 8), 2);
        x.pass(1);
        due("span(0, 6)", x.span(0, 6), 3);
        due("span(0, 7)", x.span(0, 7), 3);
        due("span(0, 8)", x.span(0, 8), 3);
        x.pass(1);
        due("span(0, 6)", x.span(0, 6), 2);
        due("span(0, 7)", x.span(0, 7), 5);
        x.put(1, 300);
        due("span(0, 8)", x.span(0, 8), 4);
        due("span(0, 7): only a tick counts", x.span(0, 7), 5);
        x.remove(0);
        due("span(0, 7) of a removed one", x.span(0, 7), UNKNOWN);
        due("span(0, 9) of a removed one", x.span(0, 9), UNKNOWN);
        x = new MiddleSpans();
        x.add(10, 20);
        x.come(10, 0);
        x.pass(5);
        x.undo();
        x.undo();
        x.undo();
        x.add(10, 20);
        due("span(0, 7) of a new one behind undo", x.span(0, 7), 0);
        due("span(0, 8) of a new one behind undo", x.span(0, 8), 0);
        spanTellsOfAllWalkers();
    }

    private static void spanTellsOfAllWalkers() {
        x = new MiddleSpans();
        x.add(10, 20);
        for (int walker = 0; walker < 6; walker++) {
            due("span(0, 6)", x.span(0, 6), walker);
            due("span(0, 8)", x.span(0, 8), walker);
            x.come(15, 0);
        }
        due("span(0, 6): all", x.span(0, 6), 6);
        x.pass(1);
        due("span(0, 7): all together", x.span(0, 7), 6);
        x.put(0, 0);
        x.pass(1);
        due("span(0, 7): all but one", x.span(0, 7), 11);
        x.put(0, 10);
        due("span(0, 8): one of them again", x.span(0, 8), 7);
        x.move(0, 100);
        due("span(0, 6): none", x.span(0, 6), 0);
        x.move(0, -100);
        due("span(0, 8): all of them again", x.span(0, 8), 13);
        due("span(0, 7): moved without a tick", x.span(0, 7), 11);
    }

    private static void promise16() {
        begin(16);
        due("walker(0, 0)", x.walker(0, 0), UNKNOWN);
        x.add(10, 30);
        x.add(20, 40);
        x.add(20, 50);
        x.come(5, -10);
        due("walker(1, 0)", x.walker(1, 0), UNKNOWN);
        due("walker(-1, 9)", x.walker(-1, 9), UNKNOWN);
        due("walker(6, 0)", x.walker(6, 0), UNKNOWN);
        due("walker(0, 9)", x.walker(0, 9), BAD_VALUE);
        due("walker(0, -1)", x.walker(0, -1), BAD_VALUE);
        due("walker(0, 5)", x.walker(0, 5), NONE);
        due("walker(0, 6)", x.walker(0, 6), NONE);
        int[][] ticks = {
            {5, 1010, 0, 0, 0, NONE, NONE, 10, 1}, {15, 1010, 1, 1, 0, 0, 0, 20, 1},
            {25, 1010, 3, 3, 0, 1, 0, 30, 1}, {35, 1010, 2, 3, 1, 1, 1, 40, 1},
            {45, 1010, 1, 3, 2, 2, 2, 50, 1}, {55, 1010, 0, 3, 3, NONE, NONE, 60, 1}};
        for (int tick = 0; tick < ticks.length; tick++) {
            x.pass(1);
            for (int what = 0; what <= 8; what++) {
                due("walker(0, " + what + ") at the tick " + (tick + 1), x.walker(0, what), ticks[tick][what]);
            }
        }
        x.put(0, 30);
        due("walker(0, 5)", x.walker(0, 5), 0);
        due("walker(0, 6)", x.walker(0, 6), 0);
        x.speed(0, 0);
        x.pass(7);
        x.put(0, 31);
        x.put(0, 29);
        due("walker(0, 5)", x.walker(0, 5), 7);
        due("walker(0, 6): entered again, it is not the oldest", x.walker(0, 6), 1);
        due("walker(0, 3): entered again, it counts again", x.walker(0, 3), 7);
        due("walker(0, 4)", x.walker(0, 4), 4);
        due("walker(0, 7)", x.walker(0, 7), 60);
        oldestByTicksAlone();
        oldestAtTheLastTick();
    }

    private static void oldestByTicksAlone() {
        x = new MiddleSpans();
        x.come(500, 0);
        x.add(600, 700);
        x.add(500, 500);
        due("walker(0, 6)", x.walker(0, 6), 1);
        x.move(0, -100);
        due("walker(0, 6): of several in a tick the lowest", x.walker(0, 6), 0);
        due("walker(0, 5)", x.walker(0, 5), 0);
        x.pass(1);
        x.move(0, 100);
        x.move(0, -100);
        due("walker(0, 6): entered a tick later", x.walker(0, 6), 1);
        due("walker(0, 5)", x.walker(0, 5), 1);
        x.remove(1);
        due("walker(0, 6): the one that is left", x.walker(0, 6), 0);
        due("walker(0, 5)", x.walker(0, 5), 0);
        x.remove(0);
        due("walker(0, 6): none is left", x.walker(0, 6), NONE);
        due("walker(0, 5)", x.walker(0, 5), NONE);
    }

    private static void oldestAtTheLastTick() {
        x = new MiddleSpans();
        x.come(500, 0);
        x.add(0, 10);
        for (int i = 0; i < 99; i++) {
            x.pass(100);
        }
        x.pass(99);
        due("walker(0, 6) at 9999", x.walker(0, 6), NONE);
        x.put(0, 5);
        due("walker(0, 5), entered at 9999", x.walker(0, 5), 0);
        due("walker(0, 6), entered at 9999", x.walker(0, 6), 0);
        due("event(0, 3)", x.event(0, 3), 9999);
    }

    private static void promise17() {
        begin(17);
        due("inside(0, 0)", x.inside(0, 0), UNKNOWN);
        x.come(500, 0);
        due("inside(0, 0)", x.inside(0, 0), NONE);
        x.add(0, 1000);
        x.add(0, 499);
        x.add(400, 500);
        x.add(500, 600);
        due("inside(0, 0)", x.inside(0, 0), 0);
        due("inside(0, 1)", x.inside(0, 1), 2);
        due("inside(0, 2)", x.inside(0, 2), 3);
        due("inside(0, 3)", x.inside(0, 3), NONE);
        due("inside(0, greatest)", x.inside(0, GREATEST), NONE);
        due("inside(0, -1)", x.inside(0, -1), BAD_VALUE);
        due("inside(0, least)", x.inside(0, LEAST), BAD_VALUE);
        due("inside(1, -1)", x.inside(1, -1), UNKNOWN);
        due("inside(-1, 0)", x.inside(-1, 0), UNKNOWN);
        x.remove(0);
        due("inside(0, 0)", x.inside(0, 0), 2);
        while (x.count(1) < 60) {
            x.add(500, 500);
        }
        due("inside(0, 57)", x.inside(0, 57), 59);
        due("inside(0, 58)", x.inside(0, 58), NONE);
        due("walker(0, 2)", x.walker(0, 2), 58);
    }

    private static void promise18() {
        begin(18);
        due("ask(-1, 0)", x.ask(-1, 0), BAD_VALUE);
        due("ask(1001, 0)", x.ask(1001, 0), BAD_VALUE);
        due("ask(0, 5)", x.ask(0, 5), BAD_VALUE);
        due("ask(0, -1)", x.ask(0, -1), BAD_VALUE);
        int[] empty = {0, 0, 0, NONE, NONE};
        dueOfAsk(500, empty);
        x.add(400, 600);
        x.add(450, 550);
        x.add(460, 500);
        x.add(500, 700);
        dueOfAsk(399, new int[] {0, 1, 1, NONE, NONE});
        dueOfAsk(400, new int[] {1, 1, 2, 0, 0});
        dueOfAsk(450, new int[] {2, 1, 3, 0, 1});
        dueOfAsk(460, new int[] {3, 1, 4, 0, 2});
        dueOfAsk(499, new int[] {3, 1, 4, 0, 2});
        dueOfAsk(500, new int[] {4, 1, 4, 0, 2});
        dueOfAsk(501, new int[] {3, 1, 4, 0, 1});
        dueOfAsk(550, new int[] {3, 1, 4, 0, 1});
        dueOfAsk(551, new int[] {2, 1, 3, 0, 0});
        dueOfAsk(601, new int[] {1, 1, 2, 3, 3});
        dueOfAsk(701, new int[] {0, 1, 1, NONE, NONE});
        x.add(0, 0);
        dueOfAsk(0, new int[] {1, 9, 2, 4, 4});
        dueOfAsk(1, new int[] {0, 9, 2, NONE, NONE});
        dueOfAsk(3, new int[] {0, 8, 1, NONE, NONE});
        dueOfAsk(249, new int[] {0, 2, 1, NONE, NONE});
        dueOfAsk(250, new int[] {0, 2, 1, NONE, NONE});
        x.remove(0);
        dueOfAsk(450, new int[] {1, 2, 2, 1, 1});
        dueOfAsk(499, new int[] {2, 2, 3, 1, 2});
        x.add(470, 510);
        dueOfAsk(500, new int[] {4, 1, 4, 1, 2});
        x.remove(1);
        x.remove(2);
        x.remove(3);
        x.remove(5);
        dueOfAsk(500, new int[] {0, 1, 0, NONE, NONE});
        dueOfAsk(501, new int[] {0, 1, 0, NONE, NONE});
        dueOfAsk(1000, new int[] {0, 1, 0, NONE, NONE});
        sameLengthsAreAsked();
    }

    private static void sameLengthsAreAsked() {
        x = new MiddleSpans();
        read("[0,20];[5,15];(4,16);[10,20]");
        due("ask(10, 4): of several the lowest number", x.ask(10, 4), 1);
        due("ask(4, 4)", x.ask(4, 4), 0);
        due("ask(16, 4)", x.ask(16, 4), 3);
        x = new MiddleSpans();
        x.add(0, 1000);
        for (int place : new int[] {0, 499, 500, 501, 1000}) {
            dueOfAsk(place, new int[] {1, 1, 1, 0, 0});
        }
        read("[0,1000);(0,1000];(499,501)");
        due("ask(0, 4)", x.ask(0, 4), 1);
        due("ask(1000, 4)", x.ask(1000, 4), 2);
        due("ask(499, 4): of several the lowest number", x.ask(499, 4), 1);
        due("ask(500, 4): one place", x.ask(500, 4), 3);
        x.add(500, 500);
        due("ask(500, 4): one place, too", x.ask(500, 4), 3);
        x.remove(3);
        due("ask(500, 4): the one that is there", x.ask(500, 4), 4);
        due("ask(500, 3)", x.ask(500, 3), 0);
        x.remove(0);
        due("ask(500, 3): the lowest that is there", x.ask(500, 3), 1);
    }

    private static void dueOfAsk(int place, int[] answers) {
        for (int what = 0; what < answers.length; what++) {
            due("ask(" + place + ", " + what + ")", x.ask(place, what), answers[what]);
        }
    }

    private static void promise19() {
        begin(19);
        due("free(-1, true)", x.free(-1, true), BAD_VALUE);
        due("free(1001, false)", x.free(1001, false), BAD_VALUE);
        due("free(greatest, true)", x.free(GREATEST, true), BAD_VALUE);
        due("free(1000, true)", x.free(1000, true), 1000);
        due("free(0, false)", x.free(0, false), 0);
        x.add(0, 10);
        read("(10,20);[900,1000]");
        due("free(5, true)", x.free(5, true), 20);
        due("free(5, false)", x.free(5, false), NONE);
        due("free(20, false)", x.free(20, false), 20);
        due("free(21, false)", x.free(21, false), 21);
        due("free(950, false)", x.free(950, false), 899);
        due("free(950, true)", x.free(950, true), NONE);
        due("free(1000, true)", x.free(1000, true), NONE);
        due("free(0, false)", x.free(0, false), NONE);
        x.remove(1);
        due("free(0, true)", x.free(0, true), 11);
        due("it is no act", x.count(9), 3);
        freeAtTheEndsOfTheLine();
    }

    private static void freeAtTheEndsOfTheLine() {
        x = new MiddleSpans();
        read("(0,1000)");
        due("free(0, true): itself", x.free(0, true), 0);
        due("free(0, false): itself", x.free(0, false), 0);
        due("free(1000, false): itself", x.free(1000, false), 1000);
        due("free(1, true): to the very end", x.free(1, true), 1000);
        due("free(999, false): to the very end", x.free(999, false), 0);
        x.add(0, 0);
        due("free(999, false): none", x.free(999, false), NONE);
        due("free(0, true): to the very end", x.free(0, true), 1000);
        x.add(1000, 1000);
        for (int place : new int[] {0, 1, 500, 999, 1000}) {
            due("free(" + place + ", true): none", x.free(place, true), NONE);
            due("free(" + place + ", false): none", x.free(place, false), NONE);
        }
        x.remove(1);
        due("free(1000, false): to the very end", x.free(1000, false), 0);
    }

    private static void promise20() {
        begin(20);
        due("most(3)", x.most(3), BAD_VALUE);
        due("most(-1)", x.most(-1), BAD_VALUE);
        due("most(0)", x.most(0), 0);
        due("most(1)", x.most(1), 0);
        due("most(2)", x.most(2), 1001);
        x.add(1, 1);
        due("most(0)", x.most(0), 1);
        x.undo();
        x.add(1000, 1000);
        due("most(0)", x.most(0), 1000);
        due("most(1)", x.most(1), 1);
        due("most(2)", x.most(2), 1000);
        x.add(5, 10);
        due("most(0)", x.most(0), 5);
        read("(8,20);[995,1000];[0,0]");
        due("most(0)", x.most(0), 9);
        due("most(1)", x.most(1), 2);
        due("most(2)", x.most(2), 1001 - 15 - 6 - 1);
        x.add(0, 1000);
        due("most(2)", x.most(2), 0);
        due("most(1)", x.most(1), 3);
        x.remove(2);
        due("most(0)", x.most(0), 1000);
        x = new MiddleSpans();
        x.add(1000, 1000);
        x.add(0, 0);
        due("most(0): of several the lowest", x.most(0), 0);
        due("most(1)", x.most(1), 1);
        due("most(2)", x.most(2), 999);
        x.add(1000, 1000);
        due("most(0): the last place", x.most(0), 1000);
        due("most(1)", x.most(1), 2);
        due("most(2)", x.most(2), 999);
        for (int span = 0; span < 3; span++) {
            x.remove(span);
        }
        due("most(0): all were removed", x.most(0), 0);
        due("most(1)", x.most(1), 0);
        due("most(2)", x.most(2), 1001);
    }

    private static void promise21() {
        begin(21);
        due("changesIn(0)", x.changesIn(0), UNKNOWN);
        x.come(0, 1);
        due("changesIn(0)", x.changesIn(0), NONE);
        due("changesIn(-1)", x.changesIn(-1), UNKNOWN);
        due("changesIn(1)", x.changesIn(1), UNKNOWN);
        x.add(200, 300);
        due("changesIn(0)", x.changesIn(0), 200);
        x.move(0, 1);
        due("changesIn(0)", x.changesIn(0), NONE);
        x.pass(1);
        due("changesIn(0)", x.changesIn(0), 200);
        x.speed(0, -1);
        due("changesIn(0)", x.changesIn(0), NONE);
        x.put(0, 250);
        due("changesIn(0)", x.changesIn(0), 50);
        x.speed(0, 50);
        due("changesIn(0)", x.changesIn(0), 2);
        x.put(0, 301);
        x.speed(0, 0);
        due("changesIn(0)", x.changesIn(0), NONE);
        x = new MiddleSpans();
        read("(10,14);[980,980]");
        x.come(10, 4);
        due("changesIn(0): over it without being inside", x.changesIn(0), NONE);
        x.put(0, 995);
        x.speed(0, 25);
        due("changesIn(0): behind a turn", x.changesIn(0), 1);
        due("it changes nothing", x.walker(0, 0), 995);
        x.put(0, 1000);
        x.speed(0, 20);
        x.move(1, -40);
        due("changesIn(0): some ticks behind a turn", x.changesIn(0), 3);
        x = new MiddleSpans();
        x.add(10, 12);
        x.add(13, 20);
        x.come(12, 1);
        due("changesIn(0): from one to another", x.changesIn(0), 1);
        x = new MiddleSpans();
        x.add(0, 10);
        x.come(0, 1);
        for (int i = 0; i < 99; i++) {
            x.pass(100);
        }
        x.pass(99);
        x.put(0, 0);
        x.speed(0, 0);
        x.speed(0, 1);
        due("changesIn(0) at the last tick", x.changesIn(0), 11);
        changesInTwoHundred();
    }

    private static void changesInTwoHundred() {
        x = new MiddleSpans();
        x.add(0, 199);
        x.come(0, 1);
        due("changesIn(0): it leaves in 200", x.changesIn(0), 200);
        x.undo();
        x.undo();
        x.add(0, 200);
        x.come(0, 1);
        due("changesIn(0): it leaves in 201", x.changesIn(0), NONE);
        x.speed(0, 50);
        due("changesIn(0): it leaves in 5", x.changesIn(0), 5);
        due("pass(4): nothing until then", x.pass(4), 0);
        due("changesIn(0)", x.changesIn(0), 1);
        due("pass(1): then it leaves", x.pass(1), 1);
        due("changesIn(0): it comes back, turned", x.changesIn(0), 31);
        due("pass(30)", x.pass(30), 0);
        due("pass(1)", x.pass(1), 1);
        due("it is no act", x.count(9), 4);
    }

    private static void promise22() {
        begin(22);
        due("meetIn(0, 0)", x.meetIn(0, 0), UNKNOWN);
        x.come(0, 1);
        due("meetIn(0, 1)", x.meetIn(0, 1), UNKNOWN);
        due("meetIn(1, 0)", x.meetIn(1, 0), UNKNOWN);
        due("meetIn(-1, -1)", x.meetIn(-1, -1), UNKNOWN);
        due("meetIn(0, 0)", x.meetIn(0, 0), BAD_VALUE);
        x.come(0, 5);
        due("meetIn(0, 1)", x.meetIn(0, 1), 0);
        x.come(400, -1);
        due("meetIn(0, 2)", x.meetIn(0, 2), 200);
        due("meetIn(2, 0)", x.meetIn(2, 0), 200);
        x.put(2, 402);
        due("meetIn(0, 2)", x.meetIn(0, 2), NONE);
        x.put(2, 399);
        due("meetIn(0, 2): past each other", x.meetIn(0, 2), NONE);
        x.come(1000, 20);
        x.come(940, 10);
        due("meetIn(3, 4): behind a turn", x.meetIn(3, 4), 2);
        due("meetIn(4, 3): behind a turn", x.meetIn(4, 3), 2);
        due("it changes nothing", x.walker(3, 0), 1000);
        due("it changes nothing", x.walker(3, 8), 0);
        due("it is no act", x.count(9), 4);
        x = new MiddleSpans();
        x.come(10, 0);
        x.come(11, 0);
        due("meetIn(0, 1): never", x.meetIn(0, 1), NONE);
        x.speed(0, 1);
        due("meetIn(0, 1): in the next tick", x.meetIn(0, 1), 1);
        x.speed(0, -1);
        x.put(1, 180);
        due("meetIn(0, 1): in 190, turned", x.meetIn(0, 1), 190);
        x.put(1, 190);
        due("meetIn(0, 1): in 200, turned", x.meetIn(0, 1), 200);
        x.put(1, 191);
        due("meetIn(0, 1): in 201, turned", x.meetIn(0, 1), NONE);
        x.put(1, 10);
        due("meetIn(0, 1): now, and then no more", x.meetIn(0, 1), 0);
    }

    private static void promise23() {
        begin(23);
        due("index(4)", x.index(4), BAD_VALUE);
        due("index(-1)", x.index(-1), BAD_VALUE);
        for (int what = 0; what < 4; what++) {
            due("index(" + what + ")", x.index(what), NONE);
        }
        x.add(0, 0);
        dueOfIndex(9, 8, 1, 0);
        x.undo();
        x.add(1, 1);
        dueOfIndex(10, 9, 1, 1);
        x.undo();
        x.add(500, 500);
        dueOfIndex(1, 0, 1, 500);
        x.add(0, 1000);
        dueOfIndex(1, 0, 2, 500);
        x.add(100, 300);
        x.add(600, 800);
        x.add(600, 750);
        dueOfIndex(3, 1, 2, 500);
        x.add(249, 249);
        dueOfIndex(3, 1, 2, 249);
        x.remove(0);
        x.remove(1);
        dueOfIndex(3, 1, 2, 249);
        x.remove(2);
        dueOfIndex(3, 1, 2, 750);
        x.add(1000, 1000);
        dueOfIndex(11, 9, 2, 750);
        x.remove(6);
        x.remove(5);
        dueOfIndex(2, 1, 2, 750);
        x.remove(4);
        x.remove(3);
        due("index(0)", x.index(0), NONE);
        due("index(4)", x.index(4), BAD_VALUE);
    }

    private static void dueOfIndex(int nodes, int depth, int most, int middle) {
        due("index(0)", x.index(0), nodes);
        due("index(1)", x.index(1), depth);
        due("index(2)", x.index(2), most);
        due("index(3)", x.index(3), middle);
    }

    private static void promise24() {
        begin(24);
        due("event(-1, 0)", x.event(-1, 0), BAD_VALUE);
        due("event(0, 4)", x.event(0, 4), BAD_VALUE);
        due("event(0, -1)", x.event(0, -1), BAD_VALUE);
        due("event(greatest, 4)", x.event(GREATEST, 4), BAD_VALUE);
        due("event(greatest, 3)", x.event(GREATEST, 3), NONE);
        due("event(least, 0)", x.event(LEAST, 0), BAD_VALUE);
        x.come(0, 10);
        for (int span = 0; span < 14; span++) {
            x.add(10 * span, 10 * span + 9);
        }
        due("event(0, 2)", x.event(0, 2), 0);
        due("event(1, 2)", x.event(1, 2), NONE);
        x.pass(6);
        for (int back = 0; back < 12; back++) {
            int tick = 6 - back / 2;
            boolean entered = back % 2 == 0;
            due("event(" + back + ", 0)", x.event(back, 0), entered ? 0 : 1);
            due("event(" + back + ", 1)", x.event(back, 1), 0);
            due("event(" + back + ", 2)", x.event(back, 2), entered ? tick : tick - 1);
            due("event(" + back + ", 3)", x.event(back, 3), tick);
        }
        due("event(12, 0): only 12 are known", x.event(12, 0), NONE);
        x.pass(1);
        due("event(11, 2)", x.event(11, 2), 1);
        x.undo();
        due("event(11, 2) behind undo", x.event(11, 2), 0);
        due("event(0, 3) behind undo", x.event(0, 3), 6);
        x.come(999, 3);
        x.pass(1);
        due("event(0, 0)", x.event(0, 0), 2);
        due("event(0, 1)", x.event(0, 1), 1);
        due("event(0, 2)", x.event(0, 2), 998);
        due("event(0, 3)", x.event(0, 3), 7);
        due("event(1, 2)", x.event(1, 2), 7);
    }

    private static void promise25() {
        begin(25);
        due("count(-1)", x.count(-1), BAD_VALUE);
        due("count(11)", x.count(11), BAD_VALUE);
        due("count(greatest)", x.count(GREATEST), BAD_VALUE);
        read("[0,10];(9,20];[10,30);(30,40]");
        dueOfCount(new int[] {0, 4, 4, 0, 0, 0, 3, 0, 7, 1, 29});
        x.come(10, 10);
        x.come(30, 10);
        dueOfCount(new int[] {0, 4, 4, 2, 3, 0, 3, 3, 7, 3, 29});
        x.pass(1);
        dueOfCount(new int[] {1, 4, 4, 2, 4, 1, 3, 3, 7, 4, 29});
        x.remove(1);
        dueOfCount(new int[] {1, 4, 3, 2, 4, 2, 1, 2, 6, 4, 29});
        x.add(0, 40);
        x.clearText();
        dueOfCount(new int[] {1, 5, 4, 2, 6, 2, 4, 3, 6, 4, 0});
        x.undo();
        x.undo();
        dueOfCount(new int[] {1, 4, 4, 2, 4, 1, 3, 3, 7, 2, 0});
        x = new MiddleSpans();
        x.add(1, 2);
        x.add(2, 3);
        x.add(4, 5);
        due("count(6): the place 2", x.count(6), 1);
        due("count(8): 1, 2, 4 and 2, 3, 5", x.count(8), 6);
        x.add(0, 1);
        due("count(6): the place 1", x.count(6), 2);
        x.add(5, 5);
        due("count(6): the place 5", x.count(6), 3);
        due("count(8): 0, 1, 2, 4, 5 and 1, 2, 3, 5", x.count(8), 9);
        x = new MiddleSpans();
        read("[0,10);[10,20];(20,30);[29,30)");
        due("count(6): ends that do not belong to them are no place", x.count(6), 1);
        due("count(8): 0, 10, 21, 29 and 9, 20, 29", x.count(8), 7);
        x = new MiddleSpans();
        while (x.count(1) < 60) {
            x.add(7, 7);
        }
        for (int walker = 0; walker < 6; walker++) {
            x.come(7, 0);
        }
        write("123456789012345678901234567890123456789012345678901234567890");
        dueOfCount(new int[] {0, 60, 60, 6, 360, 0, 1770, 60, 2, 4, 60});
        x.move(59, 1);
        x.remove(0);
        dueOfCount(new int[] {0, 60, 59, 6, 360, 12, 1653, 58, 4, 4, 60});
    }

    private static void dueOfCount(int[] answers) {
        for (int what = 0; what < answers.length; what++) {
            due("count(" + what + ")", x.count(what), answers[what]);
        }
    }

    public static void main(String[] args) {
        promise1();
        promise2();
        promise3();
        promise4();
        promise5();
        promise6();
        promise7();
        promise8();
        promise9();
        promise10();
        promise11();
        promise12();
        promise13();
        promise14();
        promise15();
        promise16();
        promise17();
        promise18();
        promise19();
        promise20();
        promise21();
        promise22();
        promise23();
        promise24();
        promise25();
        CHECK.end();
    }
}
