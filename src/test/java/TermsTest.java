/**
 * The sentences under "Terms" of the document, in its order, each with a test of its own at the boundaries that it
 * names. What the heading ERRORS says of every call is held by RefusalsTest.
 */
public final class TermsTest {
    private static final int UNKNOWN = -1;
    private static final int BAD_VALUE = -2;
    private static final int FULL = -3;
    private static final int NONE = -5;

    private static final int ENTERS = 0;
    private static final int LEAVES = 1;
    private static final int TURNS = 2;

    private static final Check CHECK = new Check("TermsTest");
    private static MiddleSpans x;
    private static String sentence;

    /** Takes up the next sentence of the document, with a new object. */
    private static void says(String words) {
        sentence = words;
        x = new MiddleSpans();
    }

    private static void due(String call, long got, long want) {
        CHECK.due("\"" + sentence + "\": " + call, got, want);
    }

    private static int read(String text) {
        return Texts.read(x, text);
    }

    private static void dueOfSpan(int span, int... answers) {
        for (int what = 0; what < answers.length; what++) {
            due("span(" + span + ", " + what + ")", x.span(span, what), answers[what]);
        }
    }

    private static void dueOfWalker(int walker, int... answers) {
        for (int what = 0; what < answers.length; what++) {
            due("walker(" + walker + ", " + what + ")", x.walker(walker, what), answers[what]);
        }
    }

    /** The latest events, the latest one first, each as its kind, walker, span and tick; and none ahead of them. */
    private static void dueOfAllEvents(int[]... events) {
        for (int back = 0; back < events.length; back++) {
            for (int what = 0; what < 4; what++) {
                due("event(" + back + ", " + what + ")", x.event(back, what), events[back][what]);
            }
        }
        due("event(" + events.length + ", 0)", x.event(events.length, 0), NONE);
    }

    private static void dueOfLooks(int place, int nodes, int spans) {
        due("ask(" + place + ", 1)", x.ask(place, 1), nodes);
        due("ask(" + place + ", 2)", x.ask(place, 2), spans);
    }

    private static int[] event(int kind, int walker, int subject, int tick) {
        return new int[] {kind, walker, subject, tick};
    }

    private static void passTo(int tick) {
        while (x.count(0) < tick) {
            x.pass(Math.min(100, tick - x.count(0)));
        }
    }

    // ---- SPANS

    private static void placesOfTheLine() {
        says("The line has the places 0 to 1000.");
        due("most(2)", x.most(2), 1001);
        due("come(0, 0)", x.come(0, 0), 0);
        due("come(1000, 0)", x.come(1000, 0), 1);
        due("come(-1, 0)", x.come(-1, 0), BAD_VALUE);
        due("come(1001, 0)", x.come(1001, 0), BAD_VALUE);
        due("put(0, 1000)", x.put(0, 1000), 0);
        due("put(0, 0)", x.put(0, 0), 0);
        due("put(0, -1)", x.put(0, -1), BAD_VALUE);
        due("put(0, 1001)", x.put(0, 1001), BAD_VALUE);
        due("free(0, false)", x.free(0, false), 0);
        due("free(1000, true)", x.free(1000, true), 1000);
        due("add(0, 0)", x.add(0, 0), 0);
        due("add(1000, 1000)", x.add(1000, 1000), 1);
        due("add(0, 1000)", x.add(0, 1000), 2);
        due("add(-1, 0)", x.add(-1, 0), BAD_VALUE);
        due("add(-1, -1)", x.add(-1, -1), BAD_VALUE);
        due("add(1000, 1001)", x.add(1000, 1001), BAD_VALUE);
        due("add(1001, 1001)", x.add(1001, 1001), BAD_VALUE);
        due("[0,1000]", read("[0,1000]"), 1);
        due("[0,1001]", read("[0,1001]"), BAD_VALUE);
        due("ask(0, 0)", x.ask(0, 0), 3);
        due("ask(1000, 0)", x.ask(1000, 0), 3);
        due("ask(-1, 0)", x.ask(-1, 0), BAD_VALUE);
        due("ask(1001, 0)", x.ask(1001, 0), BAD_VALUE);
        due("free(-1, true)", x.free(-1, true), BAD_VALUE);
        due("free(-1, false)", x.free(-1, false), BAD_VALUE);
        due("free(1001, true)", x.free(1001, true), BAD_VALUE);
        due("free(1001, false)", x.free(1001, false), BAD_VALUE);
        due("most(2)", x.most(2), 0);
    }

    private static void sixtySpansEver() {
        says("There are at most 60 spans ever, numbered from 0.");
        due("span(0, 0)", x.span(0, 0), UNKNOWN);
        x.keep();
        for (int span = 0; span < 60; span++) {
            due("add as number " + span, x.add(span, 1000 - span), span);
        }
        due("count(1)", x.count(1), 60);
        due("span(59, 0)", x.span(59, 0), 59);
        due("span(60, 0)", x.span(60, 0), UNKNOWN);
        due("the 61st by add", x.add(0, 0), FULL);
        due("the 61st by a text", read("[0,0]"), FULL);
        due("ask(500, 0): all sixty", x.ask(500, 0), 60);
        due("ask(500, 2): all sixty", x.ask(500, 2), 60);
        due("most(1): all sixty", x.most(1), 60);
        due("count(6): all pairs", x.count(6), 60 * 59 / 2);
        due("count(8): all ends", x.count(8), 120);
        for (int span = 0; span < 60; span++) {
            x.remove(span);
        }
        due("count(2)", x.count(2), 0);
        due("a removed one has been, too", x.add(0, 0), FULL);
        due("by a text, too", read("[0,0]"), FULL);
        due("restore()", x.restore(), 0);
        due("numbered from 0 again", x.add(7, 7), 0);
    }

    private static void numbersAreNotGivenTwice() {
        says("There are at most 60 spans ever, numbered from 0.");
        x.add(1, 1);
        x.add(2, 2);
        x.remove(1);
        due("the number of the removed one is not free", x.add(3, 3), 2);
        due("span(1, 0)", x.span(1, 0), UNKNOWN);
        x.undo();
        due("the number of one that was undone is free", x.add(4, 4), 2);
        due("span(2, 0)", x.span(2, 0), 4);
    }

    private static void endsOfSpans() {
        says("A span has a left and a right end (places, the left one not greater than the right one), and for each "
                + "end whether it belongs to the span.");
        due("add(5, 5)", x.add(5, 5), 0);
        due("add(5, 6)", x.add(5, 6), 1);
        due("add(6, 5)", x.add(6, 5), BAD_VALUE);
        due("[6,5]", read("[6,5]"), BAD_VALUE);
        due("[1000,0]", read("[1000,0]"), BAD_VALUE);
        due("[7,7]", read("[7,7]"), 1);
        dueOfSpan(0, 5, 5);
        dueOfSpan(1, 5, 6);
        dueOfSpan(2, 7, 7);
        read("[8,20];(8,20];[8,20);(8,20)");
        for (int span = 3; span < 7; span++) {
            dueOfSpan(span, 8, 20);
        }
    }

    private static void firstAndLastPlaces() {
        says("The first place of a span is its left end, or the place behind it if the end does not belong to it; its "
                + "last place is its right end, or the place before it likewise.");
        read("[10,20];(10,20];[10,20);(10,20);(0,1000);[0,1000]");
        dueOfSpan(0, 10, 20, 10, 20);
        dueOfSpan(1, 10, 20, 11, 20);
        dueOfSpan(2, 10, 20, 10, 19);
        dueOfSpan(3, 10, 20, 11, 19);
        dueOfSpan(4, 0, 1000, 1, 999);
        dueOfSpan(5, 0, 1000, 0, 1000);
        x.move(3, -10);
        dueOfSpan(3, 0, 10, 1, 9);
        x.move(3, 990);
        dueOfSpan(3, 990, 1000, 991, 999);
    }

    private static void atLeastOnePlace() {
        says("A span has at least one place (its first place is not greater than its last one), and covers the places "
                + "from its first to its last one.");
        String[] withoutPlace = {"(5,5)", "(5,5]", "[5,5)", "(5,6)", "(0,0]", "[0,0)", "(1000,1000]", "(999,1000)"};
        for (String text : withoutPlace) {
            due(text, read(text), BAD_VALUE);
        }
        String[] withOnePlace = {"[5,5]", "(4,5]", "[5,6)", "(4,6)", "[0,1)", "(999,1000]"};
        int[] place = {5, 5, 5, 5, 0, 1000};
        for (int i = 0; i < withOnePlace.length; i++) {
            x = new MiddleSpans();
            due(withOnePlace[i], read(withOnePlace[i]), 1);
            due("span(0, 2)", x.span(0, 2), place[i]);
            due("span(0, 3)", x.span(0, 3), place[i]);
            due("most(2)", x.most(2), 1000);
        }
        x = new MiddleSpans();
        read("(10,20);[0,1000)");
        int[] places = {9, 10, 11, 19, 20, 999, 1000};
        int[] covers = {1, 1, 2, 2, 1, 1, 0};
        for (int i = 0; i < places.length; i++) {
            due("ask(" + places[i] + ", 0)", x.ask(places[i], 0), covers[i]);
        }
    }

    private static void thereUntilRemoved() {
        says("A span is there until it is removed.");
        due("add(10, 20)", x.add(10, 20), 0);
        x.move(0, 5);
        x.come(18, 0);
        passTo(9999);
        due("span(0, 0) at the last tick", x.span(0, 0), 15);
        due("remove(0)", x.remove(0), 1);
        for (int what = -1; what <= 9; what++) {
            due("span(0, " + what + ")", x.span(0, what), UNKNOWN);
        }
        due("remove(0)", x.remove(0), UNKNOWN);
        due("move(0, 1)", x.move(0, 1), UNKNOWN);
        due("move(0, 0)", x.move(0, 0), UNKNOWN);
        due("ask(18, 0)", x.ask(18, 0), 0);
        due("count(2)", x.count(2), 0);
        due("count(6)", x.count(6), 0);
        due("count(8)", x.count(8), 0);
        due("most(1)", x.most(1), 0);
        due("index(0)", x.index(0), NONE);
        due("inside(0, 0)", x.inside(0, 0), NONE);
        x.undo();
        due("span(0, 0) behind undo", x.span(0, 0), 15);
        due("ask(18, 0) behind undo", x.ask(18, 0), 1);
    }

    // ---- NODES

    private static void rangeOfTheRoot() {
        says("The range of the root is 0 to 1000.");
        x.add(0, 1000);
        dueOfSpan(0, 0, 1000, 0, 1000, 500, 0);
        x.add(500, 500);
        dueOfSpan(1, 500, 500, 500, 500, 500, 0);
        due("index(0)", x.index(0), 1);
        due("index(2)", x.index(2), 2);
        due("index(3)", x.index(3), 500);
    }

    private static void middlesAreRoundedDown() {
        says("The middle of a node is (lowest place + highest place) / 2, rounded down.");
        int[][] rows = {
            {500, 500, 0}, {249, 249, 1}, {750, 750, 1}, {124, 124, 2}, {374, 374, 2}, {625, 625, 2}, {875, 875, 2},
            {250, 250, 8}, {499, 499, 9}, {0, 0, 8}, {1, 1, 9}, {999, 999, 8}, {1000, 1000, 9}};
        for (int[] row : rows) {
            x = new MiddleSpans();
            x.add(row[0], row[0]);
            due("span(0, 4) of " + row[0], x.span(0, 4), row[1]);
            due("span(0, 5) of " + row[0], x.span(0, 5), row[2]);
        }
    }

    private static void rangesToTheLeftAndToTheRight() {
        says("The node to its left has the range from its lowest place to the middle - 1, that to its right from the "
                + "middle + 1 to its highest place.");
        dueBelow(0, 1000, 0);
    }

    private static void dueBelow(int lowest, int highest, int depth) {
        if (lowest > highest) {
            return;
        }
        int middle = Math.floorDiv(lowest + highest, 2);
        x = new MiddleSpans();
        x.add(middle, middle);
        due("span(0, 4) of " + middle, x.span(0, 4), middle);
        due("span(0, 5) of " + middle, x.span(0, 5), depth);
        due("index(0) of " + middle, x.index(0), depth + 1);
        x.add(lowest, highest);
        due("the whole range of " + middle, x.span(1, 4), middle);
        dueBelow(lowest, middle - 1, depth + 1);
        dueBelow(middle + 1, highest, depth + 1);
    }

    private static void firstNodeWhoseMiddleIsCovered() {
        says("A span lies in the first node, on the way from the root to the left or to the right, whose middle it "
                + "covers: to the left if its last place is less than the middle, to the right if its first place is "
                + "greater.");
        String[] texts = {
            "[0,500]", "[0,499]", "[0,500)", "[500,1000]", "[501,1000]", "(500,1000]", "(499,501)", "[0,249]",
            "[0,248]", "[249,250]", "[250,499]", "(249,499]", "[750,750]", "[501,750)", "(750,1000]", "[751,874]"};
        int[] middles = {500, 249, 249, 500, 750, 750, 500, 249, 124, 249, 374, 374, 750, 625, 875, 812};
        int[] depths = {0, 1, 1, 0, 1, 1, 0, 1, 2, 1, 2, 2, 1, 2, 2, 3};
        for (int i = 0; i < texts.length; i++) {
            x = new MiddleSpans();
            read(texts[i]);
            due("span(0, 4) of " + texts[i], x.span(0, 4), middles[i]);
            due("span(0, 5) of " + texts[i], x.span(0, 5), depths[i]);
        }
        x = new MiddleSpans();
        x.add(490, 499);
        due("span(0, 4)", x.span(0, 4), 492);
        x.move(0, 1);
        due("span(0, 4) moved onto the middle", x.span(0, 4), 500);
        x.move(0, 9);
        due("span(0, 4) with its first place in the middle", x.span(0, 4), 500);
        x.move(0, 1);
        due("span(0, 4) moved behind the middle", x.span(0, 4), 507);
    }

    private static void justTheNodesInUse() {
        says("There are just the nodes in which a span that is there lies, and those on the ways to them.");
        due("index(0) without spans", x.index(0), NONE);
        due("ask(500, 1) without spans", x.ask(500, 1), 0);
        x.add(249, 249);
        due("index(0): the root is on the way", x.index(0), 2);
        due("index(2)", x.index(2), 1);
        x.add(0, 0);
        due("index(0): both ways share two nodes", x.index(0), 9);
        x.remove(0);
        due("index(0): still on the way", x.index(0), 9);
        x.add(1, 1);
        due("index(0)", x.index(0), 10);
        x.remove(1);
        due("index(0): the one behind it needs it", x.index(0), 10);
        x.remove(2);
        due("index(0): the last one went", x.index(0), NONE);
        due("ask(0, 1)", x.ask(0, 1), 0);
        x.undo();
        due("index(0) behind undo", x.index(0), 10);
        x.move(2, 999);
        due("index(0): the nodes it lay in went", x.index(0), 10);
        due("ask(0, 1)", x.ask(0, 1), 1);
        due("ask(1000, 1)", x.ask(1000, 1), 10);
        x.move(2, -500);
        due("index(0): the root alone", x.index(0), 1);
    }

    private static void depths() {
        says("The root has the depth 0, the nodes next to it 1, and so on.");
        int[] places = {500, 249, 124, 61, 30, 14, 6, 2, 0, 1};
        for (int depth = 0; depth < places.length; depth++) {
            x.add(places[depth], places[depth]);
            due("span(" + depth + ", 5)", x.span(depth, 5), depth);
            due("index(1)", x.index(1), depth);
            due("index(0)", x.index(0), depth + 1);
        }
        x.remove(9);
        due("index(1) without the deepest", x.index(1), 8);
        for (int depth = 8; depth > 0; depth--) {
            x.remove(depth);
            due("index(1)", x.index(1), depth - 1);
        }
    }

    // ---- ASKING

    private static void wayOfAsking() {
        says("As a place is asked, the way goes from the root to the left if the place is less than the middle, to "
                + "the right if it is greater, and ends at the middle itself or where there is no node.");
        int[] all = {0, 1, 499, 500, 501, 1000};
        for (int place : all) {
            dueOfLooks(place, 0, 0);
        }
        x.add(500, 500);
        for (int place : all) {
            dueOfLooks(place, 1, 1);
        }
        x.add(0, 0);
        dueOfLooks(500, 1, 1);
        dueOfLooks(501, 1, 1);
        dueOfLooks(499, 2, 1);
        dueOfLooks(249, 2, 1);
        dueOfLooks(250, 2, 1);
        dueOfLooks(248, 3, 1);
        dueOfLooks(0, 9, 2);
        dueOfLooks(1, 9, 2);
        x.add(1, 1);
        dueOfLooks(0, 9, 2);
        dueOfLooks(1, 10, 3);
        dueOfLooks(2, 8, 1);
        x.add(1000, 1000);
        dueOfLooks(1000, 10, 2);
        dueOfLooks(501, 2, 1);
        dueOfLooks(750, 2, 1);
        dueOfLooks(751, 3, 1);
        x.remove(0);
        dueOfLooks(500, 1, 0);
        dueOfLooks(1000, 10, 1);
    }

    private static void lookedAtToTheLeft() {
        says("if the place is less than the middle: in the order of their first places, the least first, of the same "
                + "by their numbers, up to the first one whose first place is greater than the place (which is looked "
                + "at, too);");
        x.add(490, 600);
        dueOfLooks(489, 1, 1);
        dueOfLooks(490, 1, 1);
        x.add(450, 520);
        dueOfLooks(0, 1, 1);
        dueOfLooks(449, 1, 1);
        dueOfLooks(450, 1, 2);
        dueOfLooks(489, 1, 2);
        dueOfLooks(490, 1, 2);
        dueOfLooks(499, 1, 2);
        x.add(490, 500);
        x.add(490, 1000);
        dueOfLooks(449, 1, 1);
        dueOfLooks(450, 1, 2);
        dueOfLooks(489, 1, 2);
        dueOfLooks(490, 1, 4);
        x.add(500, 500);
        dueOfLooks(489, 1, 2);
        dueOfLooks(490, 1, 5);
        dueOfLooks(499, 1, 5);
        x.move(1, 45);
        dueOfLooks(450, 1, 1);
        dueOfLooks(494, 1, 4);
        dueOfLooks(495, 1, 5);
        x = new MiddleSpans();
        read("(490,510);(490,500]");
        dueOfLooks(490, 1, 1);
        dueOfLooks(491, 1, 2);
    }

    private static void lookedAtToTheRight() {
        says("if it is greater: in the order of their last places, the greatest first, of the same by their numbers, "
                + "up to the first one whose last place is less than the place (which is looked at, too);");
        x.add(400, 510);
        dueOfLooks(511, 1, 1);
        dueOfLooks(510, 1, 1);
        x.add(480, 550);
        dueOfLooks(1000, 1, 1);
        dueOfLooks(551, 1, 1);
        dueOfLooks(550, 1, 2);
        dueOfLooks(511, 1, 2);
        dueOfLooks(510, 1, 2);
        dueOfLooks(501, 1, 2);
        x.add(500, 510);
        x.add(0, 510);
        dueOfLooks(551, 1, 1);
        dueOfLooks(550, 1, 2);
        dueOfLooks(511, 1, 2);
        dueOfLooks(510, 1, 4);
        x.add(500, 500);
        dueOfLooks(511, 1, 2);
        dueOfLooks(510, 1, 5);
        dueOfLooks(501, 1, 5);
        x.move(1, -45);
        dueOfLooks(550, 1, 1);
        dueOfLooks(506, 1, 4);
        dueOfLooks(505, 1, 5);
        x = new MiddleSpans();
        read("(490,510);[500,510)");
        dueOfLooks(510, 1, 1);
        dueOfLooks(509, 1, 2);
    }

    private static void lookedAtInTheMiddle() {
        says("if it is the middle: all of them.");
        x.add(0, 500);
        dueOfLooks(500, 1, 1);
        x.add(500, 1000);
        x.add(500, 500);
        dueOfLooks(500, 1, 3);
        x.add(249, 249);
        x.add(240, 260);
        dueOfLooks(500, 1, 3);
        dueOfLooks(249, 2, 2 + 2);
        x.remove(0);
        dueOfLooks(500, 1, 2);
        dueOfLooks(249, 2, 1 + 2);
        x.remove(1);
        x.remove(2);
        dueOfLooks(500, 1, 0);
        dueOfLooks(249, 2, 2);
    }

    // ---- WALKERS

    private static void sixWalkers() {
        says("There are at most 6 walkers, numbered from 0.");
        due("walker(0, 0)", x.walker(0, 0), UNKNOWN);
        x.keep();
        for (int walker = 0; walker < 6; walker++) {
            due("count(3)", x.count(3), walker);
            due("come", x.come(100 * walker, walker), walker);
        }
        due("come: the seventh", x.come(0, 0), FULL);
        due("count(3)", x.count(3), 6);
        due("walker(5, 0)", x.walker(5, 0), 500);
        due("walker(6, 0)", x.walker(6, 0), UNKNOWN);
        due("walker(-1, 0)", x.walker(-1, 0), UNKNOWN);
        x.undo();
        due("come: the sixth again", x.come(7, 0), 5);
        due("come: the seventh again", x.come(0, 0), FULL);
        x.restore();
        due("come: numbered from 0 again", x.come(0, 0), 0);
    }

    private static void speedsOfWalkers() {
        says("A walker is at a place, and has a speed from -50 to 50 (below 0 to the left).");
        due("come(500, -50)", x.come(500, -50), 0);
        due("come(500, 50)", x.come(500, 50), 1);
        due("come(500, 0)", x.come(500, 0), 2);
        due("come(500, -51)", x.come(500, -51), BAD_VALUE);
        due("come(500, 51)", x.come(500, 51), BAD_VALUE);
        dueOfWalker(0, 500, 950);
        dueOfWalker(1, 500, 1050);
        dueOfWalker(2, 500, 1000);
        x.pass(1);
        dueOfWalker(0, 450, 950);
        dueOfWalker(1, 550, 1050);
        dueOfWalker(2, 500, 1000);
        due("speed(2, -51)", x.speed(2, -51), BAD_VALUE);
        due("speed(2, 51)", x.speed(2, 51), BAD_VALUE);
        due("speed(2, -50)", x.speed(2, -50), 1000);
        due("speed(2, 50)", x.speed(2, 50), 950);
        due("speed(2, -1)", x.speed(2, -1), 1050);
        x.pass(1);
        dueOfWalker(2, 499, 999);
    }

    private static void turnsAtTheEnds() {
        says("In a tick, the walker goes by the speed: if the place would be less than 0, it is its distance from 0 "
                + "instead, and the speed is turned to the other side; if it would be greater than 1000, it is 2000 "
                + "less it, likewise.");
        int[][] rows = {
            {10, -10, 0, -10, 0}, {10, -11, 1, 11, 1}, {0, -1, 1, 1, 1}, {0, -50, 50, 50, 1}, {49, -50, 1, 50, 1},
            {50, -50, 0, -50, 0}, {0, 0, 0, 0, 0}, {0, 50, 50, 50, 0}, {990, 10, 1000, 10, 0}, {990, 11, 999, -11, 1},
            {1000, 1, 999, -1, 1}, {1000, 50, 950, -50, 1}, {951, 50, 999, -50, 1}, {950, 50, 1000, 50, 0},
            {1000, 0, 1000, 0, 0}, {1000, -50, 950, -50, 0}};
        for (int[] row : rows) {
            x = new MiddleSpans();
            x.come(row[0], row[1]);
            x.pass(1);
            due("the place from " + row[0] + " by " + row[1], x.walker(0, 0), row[2]);
            due("the speed from " + row[0] + " by " + row[1], x.walker(0, 1), 1000 + row[3]);
            due("the way from " + row[0] + " by " + row[1], x.walker(0, 7), Math.abs(row[1]));
            due("the turns from " + row[0] + " by " + row[1], x.walker(0, 8), row[4]);
        }
        x = new MiddleSpans();
        x.come(0, -50);
        x.pass(100);
        dueOfWalker(0, 1000, 1050, 0, 0, 0, NONE, NONE, 5000, 5);
        x.pass(1);
        dueOfWalker(0, 950, 950, 0, 0, 0, NONE, NONE, 5050, 6);
    }

    private static void insideOfSpans() {
        says("A walker is inside of a span that is there and covers the place.");
        read("[10,20];(20,30)");
        int[] places = {9, 10, 20, 21, 29, 30};
        int[] spans = {NONE, 0, 0, 1, 1, NONE};
        for (int i = 0; i < places.length; i++) {
            x.come(places[i], 0);
            due("inside(" + i + ", 0) at " + places[i], x.inside(i, 0), spans[i]);
            due("inside(" + i + ", 1) at " + places[i], x.inside(i, 1), NONE);
            due("walker(" + i + ", 2) at " + places[i], x.walker(i, 2), spans[i] == NONE ? 0 : 1);
        }
        due("span(0, 6)", x.span(0, 6), 2);
        due("span(1, 6)", x.span(1, 6), 2);
        due("count(7)", x.count(7), 2);
        x.remove(0);
        due("inside(1, 0) of one that is not there", x.inside(1, 0), NONE);
        due("count(7)", x.count(7), 1);
    }

    private static void toldWhatChanged() {
        says("Whenever a walker comes, is put somewhere else or goes, and whenever a span comes, is moved or removed, "
                + "each walker, by number, is told what changed: first the spans that the walker has left, by their "
                + "numbers, then those that the walker has entered, by their numbers.");
        x.come(15, 0);
        x.come(15, 0);
        dueOfAllEvents();
        x.add(10, 20);
        dueOfAllEvents(event(ENTERS, 1, 0, 0), event(ENTERS, 0, 0, 0));
        x.move(0, 100);
        dueOfAllEvents(event(LEAVES, 1, 0, 0), event(LEAVES, 0, 0, 0), event(ENTERS, 1, 0, 0), event(ENTERS, 0, 0, 0));
        x.move(0, -100);
        x.remove(0);
        due("event(0, 0)", x.event(0, 0), LEAVES);
        due("event(0, 1)", x.event(0, 1), 1);
        due("event(1, 0)", x.event(1, 0), LEAVES);
        due("event(1, 1)", x.event(1, 1), 0);
        x = new MiddleSpans();
        x.add(25, 30);
        x.add(10, 20);
        x.add(25, 40);
        x.add(0, 20);
        x.come(20, 5);
        dueOfAllEvents(event(ENTERS, 0, 3, 0), event(ENTERS, 0, 1, 0));
        x.put(0, 30);
        dueOfAllEvents(event(ENTERS, 0, 2, 0), event(ENTERS, 0, 0, 0), event(LEAVES, 0, 3, 0), event(LEAVES, 0, 1, 0),
                event(ENTERS, 0, 3, 0), event(ENTERS, 0, 1, 0));
        x.speed(0, -10);
        x.pass(1);
        dueOfAllEvents(event(ENTERS, 0, 3, 1), event(ENTERS, 0, 1, 1), event(LEAVES, 0, 2, 1), event(LEAVES, 0, 0, 1),
                event(ENTERS, 0, 2, 0), event(ENTERS, 0, 0, 0), event(LEAVES, 0, 3, 0), event(LEAVES, 0, 1, 0),
                event(ENTERS, 0, 3, 0), event(ENTERS, 0, 1, 0));
    }

    private static void theFirstAndTheLastNumberAreTold() {
        says("Whenever a walker comes, is put somewhere else or goes, and whenever a span comes, is moved or removed, "
                + "each walker, by number, is told what changed: first the spans that the walker has left, by their "
                + "numbers, then those that the walker has entered, by their numbers.");
        for (int span = 0; span < 59; span++) {
            x.add(span == 0 ? 10 : 500, span == 0 ? 20 : 600);
        }
        x.add(10, 20);
        for (int walker = 0; walker < 6; walker++) {
            x.come(0, 20);
        }
        due("pass(1)", x.pass(1), 12);
        for (int back = 0; back < 12; back++) {
            due("event(" + back + ", 1)", x.event(back, 1), 5 - back / 2);
            due("event(" + back + ", 2)", x.event(back, 2), back % 2 == 0 ? 59 : 0);
        }
        due("inside(5, 1)", x.inside(5, 1), 59);
        due("pass(1)", x.pass(1), 12);
        due("event(0, 0)", x.event(0, 0), LEAVES);
        due("event(0, 2)", x.event(0, 2), 59);
        due("event(11, 2)", x.event(11, 2), 0);
        due("put into many", x.put(0, 550), 58);
        due("put out of many into two", x.put(0, 20), 60);
    }

    private static void neitherLeftNorEntered() {
        says("(A walker who is inside of a span ahead of such a change and behind it has neither left nor entered it.)");
        x.add(10, 20);
        x.come(10, 10);
        dueOfAllEvents(event(ENTERS, 0, 0, 0));
        due("pass(1) within the span", x.pass(1), 0);
        due("put(0, 15) within the span", x.put(0, 15), 0);
        due("move(0, 5): the first place comes to the walker", x.move(0, 5), 0);
        due("move(0, -10): the last place comes to the walker", x.move(0, -10), 0);
        due("move(0, -1): it goes past the walker", x.move(0, -1), 1);
        dueOfAllEvents(event(LEAVES, 0, 0, 1), event(ENTERS, 0, 0, 0));
        x.move(0, 12);
        due("walker(0, 2): over the walker without being on it", x.walker(0, 2), 0);
        due("pass(2): over the span without being inside", x.speed(0, 50) + x.put(0, 0) + x.pass(2), 1010);
        x = new MiddleSpans();
        x.add(0, 10);
        x.come(4, -9);
        due("pass(1) within the span, with a turn", x.pass(1), 0);
        due("walker(0, 3)", x.walker(0, 3), 1);
        due("walker(0, 4)", x.walker(0, 4), 0);
        due("walker(0, 5)", x.walker(0, 5), 1);
    }

    // ---- A TICK

    private static void aTickPasses() {
        says("When a tick passes, the tick (0 at first) becomes greater by 1, and each walker, by number, goes, and is "
                + "told what changed.");
        due("count(0)", x.count(0), 0);
        x.add(10, 19);
        x.come(20, -1);
        due("event(0, 0)", x.event(0, 0), NONE);
        x.come(9, 1);
        x.come(10, -1);
        dueOfAllEvents(event(ENTERS, 2, 0, 0));
        due("pass(1)", x.pass(1), 3);
        due("count(0)", x.count(0), 1);
        dueOfAllEvents(event(LEAVES, 2, 0, 1), event(ENTERS, 1, 0, 1), event(ENTERS, 0, 0, 1), event(ENTERS, 2, 0, 0));
        due("pass(100)", x.pass(100), 6);
        due("count(0)", x.count(0), 101);
        due("event(0, 3): turned, into it at 30, out of it at 40", x.event(0, 3), 40);
        due("event(0, 1)", x.event(0, 1), 0);
    }

    private static void oneTickMoreInside() {
        says("Then each walker has been inside of each span, of which this is so now, for one tick more.");
        x.add(10, 20);
        x.add(15, 15);
        x.come(5, 5);
        x.come(15, 0);
        due("span(0, 7) at first", x.span(0, 7), 0);
        int[] sums = {2, 4, 6, 7, 8};
        int[] sumsOfTheOther = {1, 3, 4, 5, 6};
        for (int tick = 0; tick < sums.length; tick++) {
            x.pass(1);
            due("span(0, 7) at " + (tick + 1), x.span(0, 7), sums[tick]);
            due("span(1, 7) at " + (tick + 1), x.span(1, 7), sumsOfTheOther[tick]);
        }
        x.put(0, 15);
        x.put(0, 500);
        x.move(1, 1);
        x.move(1, -1);
        due("span(0, 7): no tick has passed", x.span(0, 7), 8);
        due("span(1, 7): no tick has passed", x.span(1, 7), 6);
        x.pass(100);
        due("span(0, 7)", x.span(0, 7), 108);
        due("span(1, 7)", x.span(1, 7), 106);
        x = new MiddleSpans();
        x.add(0, 1000);
        for (int walker = 0; walker < 6; walker++) {
            x.come(500, 50);
        }
        passTo(9999);
        due("span(0, 7): all six, ever", x.span(0, 7), 6 * 9999);
        due("walker(0, 5)", x.walker(0, 5), 9999);
        due("walker(5, 7)", x.walker(5, 7), 50 * 9999);
    }

    // ---- TEXTS

    private static void sixtyCharacters() {
        says("There is a text of at most 60 characters, empty at first.");
        due("count(10)", x.count(10), 0);
        due("clearText()", x.clearText(), 0);
        due("readSpans()", x.readSpans(), -100);
        String text = "[0,0];[1,1];[2,2];[3,3];[4,4];[5,5];[6,6];[7,7];[8,8];[9,10]";
        for (int i = 0; i < 60; i++) {
            due("type " + i, x.type(text.charAt(i)), i + 1);
        }
        due("the 61st", x.type(';'), FULL);
        due("count(10)", x.count(10), 60);
        due("readSpans()", x.readSpans(), 10);
        due("span(9, 1)", x.span(9, 1), 10);
        due("clearText()", x.clearText(), 60);
        due("type behind clearText", x.type('['), 1);
    }

    private static void rowsOfSpans() {
        says("A row of spans is one or more spans with \";\" between two.");
        due("none", read(""), -100);
        due("one", read("[1,2]"), 1);
        due("two", read("[1,2];[3,4]"), 2);
        due("ten", read("[0,0];[1,1];[2,2];[3,3];[4,4];[5,5];[6,6];[7,7];[8,8];[9,9]"), 10);
        due("';' ahead", read(";[1,2]"), -100);
        due("';' alone", read(";"), -100);
        due("';' behind", read("[1,2];"), -106);
        due("two ';'", read("[1,2];;[3,4]"), -106);
        due("no ';'", read("[1,2][3,4]"), -105);
        due("','", read("[1,2],[3,4]"), -105);
        due("':'", read("[1,2]:[3,4]"), -105);
        due("count(1)", x.count(1), 13);
    }

    private static void signsOfSpans() {
        says("A span is \"[\" (the end belongs to it) or \"(\" (it does not), the left end, \",\", the right end, and "
                + "\"]\" or \")\" likewise.");
        due("all kinds", read("[10,20];(10,20];[10,20);(10,20)"), 4);
        int[] firsts = {10, 11, 10, 11};
        int[] lasts = {20, 20, 19, 19};
        for (int span = 0; span < 4; span++) {
            due("span(" + span + ", 2)", x.span(span, 2), firsts[span]);
            due("span(" + span + ", 3)", x.span(span, 3), lasts[span]);
        }
        String[] texts = {
            "]1,2]", ")1,2]", "{1,2]", "<1,2]", " [1,2]", "1,2", "[1;2]", "[1.2]", "[1 2]", "[,2]", "[1,]", "[1,)",
            "[1,,2]", "[1,2[", "[1,2(", "[1,2}", "[1,2,", "[1,2;", "[1,2 ]", "[[1,2]", "[1,2]]", "[1,2))", "[]"};
        int[] faults = {0, 0, 0, 0, 0, 0, 2, 2, 2, 1, 3, 3, 3, 4, 4, 4, 4, 4, 4, 1, 5, 5, 1};
        for (int i = 0; i < texts.length; i++) {
            due("'" + texts[i] + "'", read(texts[i]), -100 - faults[i]);
        }
    }

    private static void digitsOfEnds() {
        says("An end is one to four digits, without zeros in front unless it is the single digit 0.");
        due("one digit", read("[0,9]"), 1);
        due("two digits", read("[10,99]"), 1);
        due("three digits", read("[100,999]"), 1);
        due("four digits", read("[1000,1000]"), 1);
        due("four digits, and too great", read("[1000,9999]"), BAD_VALUE);
        dueOfSpan(2, 100, 999);
        dueOfSpan(3, 1000, 1000);
        String[] texts = {
            "[,5]", "[5,]", "[12345,6]", "[5,10000]", "[10000,5]", "[00,5]", "[01,5]", "[0010,5]", "[5,00]", "[5,05]",
            "[-1,5]", "[+1,5]", "[1,-5]", "[1e1,5]", "[1a,5]", "[/,5]", "[:,5]", "[1,/]", "[1,:]", "[1/,5]", "[1:,5]"};
        int[] faults = {1, 3, 5, 7, 5, 2, 2, 2, 4, 4, 1, 1, 3, 2, 2, 1, 1, 3, 3, 2, 2};
        for (int i = 0; i < texts.length; i++) {
            due("'" + texts[i] + "'", read(texts[i]), -100 - faults[i]);
        }
        for (int character = 0; character < 65536; character++) {
            boolean isDigit = character >= '0' && character <= '9';
            if (character < 256 || character % 97 == 0 || character % 256 >= '0' && character % 256 <= '9') {
                Texts.write(x, "[");
                x.type((char) character);
                due("'[' and " + character, x.readSpans(), isDigit ? -102 : -101);
            }
        }
    }

    private static void faultOfTheText() {
        says("The fault of the text is the index, from 0, of the first character that is not allowed at its place, or "
                + "the length of the text if it ends too early (the empty text does).");
        due("the empty text", read(""), -100);
        String whole = "(10,200);[0,1000]";
        for (int length = 0; length < whole.length(); length++) {
            boolean ends = length == 8;
            String text = whole.substring(0, length);
            due("'" + text + "'", read(text), ends ? 1 : -100 - length);
            due("'" + text + "' and 'x'", read(text + "x"), -100 - length);
            due("'" + text + "' and 'x' and more", read(text + "x" + whole.substring(length)), -100 - length);
        }
        due("a fault at the first of several", read("[1,2];x;y"), -106);
        String ten = "[0,0];[1,1];[2,2];[3,3];[4,4];[5,5];[6,6];[7,7];[8,8];[9,9]";
        due("a fault at the last character", read(ten + "]"), -159);
        due("60 characters that end too early", read(ten + ";"), -160);
        due("60 characters that end too early in a number", read(ten.substring(0, 57) + "100"), -160);
        due("a fault at the first character of 60", read("x" + ten), -100);
    }

    // ---- LOG

    private static void twelveEvents() {
        says("The latest 12 events are known.");
        due("event(0, 0)", x.event(0, 0), NONE);
        x.add(10, 10);
        x.come(0, 0);
        for (int events = 1; events <= 30; events++) {
            x.put(0, events % 2 == 1 ? 10 : 0);
            int known = Math.min(events, 12);
            due("event(0, 0) of " + events, x.event(0, 0), events % 2 == 1 ? ENTERS : LEAVES);
            due("the oldest known one of " + events, x.event(known - 1, 0),
                    (events - known + 1) % 2 == 1 ? ENTERS : LEAVES);
            due("one more than are known of " + events, x.event(known, 0), NONE);
        }
        x = new MiddleSpans();
        x.come(0, 0);
        for (int span = 0; span < 13; span++) {
            x.add(500, 500);
        }
        x.put(0, 500);
        due("event(0, 2): thirteen at once", x.event(0, 2), 12);
        due("event(11, 2): the second is the oldest one known", x.event(11, 2), 1);
        due("event(12, 2)", x.event(12, 2), NONE);
    }

    private static void kindsOfEvents() {
        says("The kinds of events are: 0 a walker enters a span, 1 leaves it, 2 turns at an end of the line (ahead of "
                + "what this tick tells of this walker).");
        x.add(0, 5);
        x.add(20, 30);
        x.come(5, 0);
        x.come(5, -25);
        x.pass(1);
        dueOfAllEvents(event(ENTERS, 1, 1, 1), event(LEAVES, 1, 0, 1), event(TURNS, 1, 20, 1), event(ENTERS, 1, 0, 0),
                event(ENTERS, 0, 0, 0));
        x = new MiddleSpans();
        x.add(980, 990);
        x.come(970, 20);
        x.come(1000, 10);
        x.come(970, 50);
        x.pass(1);
        dueOfAllEvents(event(ENTERS, 2, 0, 1), event(TURNS, 2, 980, 1), event(ENTERS, 1, 0, 1), event(TURNS, 1, 990, 1),
                event(ENTERS, 0, 0, 1));
        x = new MiddleSpans();
        x.come(0, -1);
        x.come(0, 0);
        x.come(1000, 0);
        x.put(1, 1000);
        x.speed(1, 1);
        x.speed(1, 0);
        x.pass(2);
        dueOfAllEvents(event(TURNS, 0, 1, 1));
    }

    // ---- HISTORY

    private static void fourStates() {
        says("A history of at most 4 states is kept; when one more is recorded, the oldest one is dropped; undo() "
                + "removes and restores the latest one.");
        due("undo() of none", x.undo(), NONE);
        for (int acts = 1; acts <= 7; acts++) {
            x.add(acts, acts);
            due("count(9) behind " + acts, x.count(9), Math.min(acts, 4));
        }
        for (int left = 3; left >= 0; left--) {
            due("undo()", x.undo(), left);
            due("count(9)", x.count(9), left);
            due("count(1)", x.count(1), 3 + left);
        }
        due("undo() of none that are known", x.undo(), NONE);
        due("count(1)", x.count(1), 3);
        x.add(100, 100);
        due("count(9): from an empty history", x.count(9), 1);
        due("undo()", x.undo(), 0);
        due("span(3, 0)", x.span(3, 0), UNKNOWN);
        due("span(2, 0)", x.span(2, 0), 3);
    }

    private static void actsAreRecorded() {
        says("Each call of a method that is described as an act, and returns no error and not NONE, records the state "
                + "that was before it.");
        due("add", x.add(1, 1) + 10 * x.count(9), 10);
        due("readSpans", read("[2,2];[3,3]") + 10 * x.count(9), 22);
        due("undo: both at once", x.undo() + 10 * x.count(1), 11);
        due("remove, that answers 0", x.remove(0) + 10 * x.count(9), 20);
        due("undo", x.undo() + 10 * x.count(2), 11);
        due("move, that answers 0", x.move(0, 1) + 10 * x.count(9), 20);
        due("undo", x.undo() + 10 * x.span(0, 0), 11);
        due("come, that answers 0", x.come(5, 0) + 10 * x.count(9), 20);
        due("put, that answers 0", x.put(0, 6) + 10 * x.count(9), 30);
        due("undo", x.undo() + 10 * x.walker(0, 0), 52);
        due("speed", x.speed(0, -50) + 10 * x.count(9), 1030);
        due("undo", x.undo() + 10 * x.walker(0, 1), 10002);
        due("pass, that answers 0", x.pass(100) + 1000 * x.count(9), 3000);
        due("undo", x.undo() + 10 * x.count(0), 2);
        x.keep();
        due("keep is no act", x.count(9), 2);
        due("restore of the same state is one", x.restore() + 10 * x.count(9), 31);
        x.type('a');
        x.clearText();
        due("type and clearText are none", x.count(9), 3);
        due("what is told is none", x.changesIn(0) + x.free(0, true) + x.most(0) + x.index(3) + x.count(9),
                NONE + 0 + 1 + 1 + 3);
        due("undo is none", x.undo() + 10 * x.count(9), 22);
    }

    private static void oneSnapshot() {
        says("There is one snapshot, empty at first.");
        due("restore()", x.restore(), NONE);
        due("count(9)", x.count(9), 0);
        x.add(1, 1);
        due("restore()", x.restore(), NONE);
        due("count(9)", x.count(9), 1);
        due("keep()", x.keep(), 1);
        x.add(2, 2);
        due("keep() in its place", x.keep(), 2);
        x.remove(0);
        x.remove(1);
        due("restore()", x.restore(), 2);
        due("restore() of the same", x.restore(), 2);
        due("span(1, 0)", x.span(1, 0), 2);
    }

    private static void partsOfAState() {
        says("A state is everything but the text, the history and the snapshot.");
        x.add(10, 20);
        x.come(15, 1);
        x.keep();
        x.type('a');
        x.pass(3);
        x.move(0, 2);
        x.put(0, 0);
        x.speed(0, -50);
        x.type('b');
        due("restore()", x.restore(), 1);
        due("the text behind restore", x.count(10), 2);
        due("the history behind restore", x.count(9), 4);
        dueOfSpan(0, 10, 20, 10, 20, 14, 5, 1, 0, 1);
        dueOfWalker(0, 15, 1001, 1, 1, 0, 0, 0, 0, 0);
        due("the tick behind restore", x.count(0), 0);
        dueOfAllEvents(event(ENTERS, 0, 0, 0));
        due("undo()", x.undo(), 3);
        due("the text behind undo", x.count(10), 2);
        dueOfSpan(0, 12, 22, 12, 22, 14, 5, 0, 3, 1);
        dueOfWalker(0, 0, 950, 0, 1, 1, NONE, NONE, 3, 0);
        due("the tick behind undo", x.count(0), 3);
        dueOfAllEvents(event(LEAVES, 0, 0, 3), event(ENTERS, 0, 0, 0));
        due("restore(): the snapshot behind undo", x.restore(), 1);
        dueOfWalker(0, 15, 1001, 1, 1, 0, 0, 0, 0, 0);
        x.keep();
        due("undo() behind keep", x.undo(), 3);
        x.clearText();
        due("restore(): undo does not bring the older snapshot", x.restore(), 1);
        due("the text behind clearText", x.count(10), 0);
        dueOfWalker(0, 15, 1001, 1, 1, 0, 0, 0, 0, 0);
    }

    private static void spans() {
        placesOfTheLine();
        sixtySpansEver();
        numbersAreNotGivenTwice();
        endsOfSpans();
        firstAndLastPlaces();
        atLeastOnePlace();
        thereUntilRemoved();
    }

    private static void nodes() {
        rangeOfTheRoot();
        middlesAreRoundedDown();
        rangesToTheLeftAndToTheRight();
        firstNodeWhoseMiddleIsCovered();
        justTheNodesInUse();
        depths();
    }

    private static void asking() {
        wayOfAsking();
        lookedAtToTheLeft();
        lookedAtToTheRight();
        lookedAtInTheMiddle();
    }

    private static void walkersAndTicks() {
        sixWalkers();
        speedsOfWalkers();
        turnsAtTheEnds();
        insideOfSpans();
        toldWhatChanged();
        theFirstAndTheLastNumberAreTold();
        neitherLeftNorEntered();
        aTickPasses();
        oneTickMoreInside();
    }

    private static void texts() {
        sixtyCharacters();
        rowsOfSpans();
        signsOfSpans();
        digitsOfEnds();
        faultOfTheText();
    }

    private static void logAndHistory() {
        twelveEvents();
        kindsOfEvents();
        fourStates();
        actsAreRecorded();
        oneSnapshot();
        partsOfAState();
    }

    public static void main(String[] args) {
        spans();
        nodes();
        asking();
        walkersAndTicks();
        texts();
        logAndHistory();
        CHECK.end();
    }
}
