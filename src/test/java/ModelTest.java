import java.util.Random;

/** Long runs of calls, drawn from a fixed seed, held against the model after each act. */
public final class ModelTest {
    private static final int RUNS = 600;
    private static final int CALLS = 512;
    private static final int[] EDGES = {0, 1, 249, 250, 499, 500, 501, 750, 999, 1000};
    private static final int[] WRONG = {-1, -2, 1001, 60, 61, 100, 101, Integer.MIN_VALUE, Integer.MAX_VALUE};
    private static final String SIGNS = "[](),;0123456789";

    private static final Check CHECK = new Check("ModelTest");
    private static Random random;
    private static MiddleSpans x;
    private static Model model;
    private static int run;
    private static int call;
    // How near to one another the places of a run are drawn: near ones meet often.
    private static int width;
    private static int base;

    private static int upTo(int bound) {
        return random.nextInt(bound + 1);
    }

    private static int place() {
        int kind = upTo(99);
        if (kind < 2) {
            return WRONG[upTo(WRONG.length - 1)];
        }
        if (kind < 12) {
            return EDGES[upTo(EDGES.length - 1)];
        }
        return Math.min(1000, base + upTo(width));
    }

    private static int speed() {
        int kind = upTo(99);
        if (kind < 3) {
            return kind == 0 ? 51 : kind == 1 ? -51 : WRONG[upTo(WRONG.length - 1)];
        }
        return kind < 60 ? upTo(10) - 5 : upTo(100) - 50;
    }

    private static int span() {
        return upTo(30) == 0 ? WRONG[upTo(WRONG.length - 1)] : upTo(Math.max(0, model.seenSpans()));
    }

    private static int walker() {
        return upTo(30) == 0 ? WRONG[upTo(WRONG.length - 1)] : upTo(Math.max(0, model.seenWalkers()));
    }

    private static int what(int last) {
        return upTo(40) == 0 ? WRONG[upTo(WRONG.length - 1)] : upTo(last + 1);
    }

    private static void due(String name, int got, int want) {
        CHECK.due("run " + run + ", call " + call + ": " + name, got, want);
    }

    private static String text() {
        StringBuilder text = new StringBuilder();
        int spans = 1 + upTo(3);
        for (int i = 0; i < spans; i++) {
            int left = place();
            int right = upTo(9) == 0 ? place() : Math.min(1000, Math.abs(left % 1001) + upTo(width / 4));
            text.append(i == 0 ? "" : ";").append(upTo(1) == 0 ? '[' : '(').append(left).append(',');
            text.append(right).append(upTo(1) == 0 ? ']' : ')');
        }
        int spoil = upTo(5);
        if (spoil == 0 && text.length() > 0) {
            text.setCharAt(upTo(text.length() - 1), SIGNS.charAt(upTo(SIGNS.length() - 1)));
        } else if (spoil == 1) {
            text.insert(upTo(text.length()), SIGNS.charAt(upTo(SIGNS.length() - 1)));
        } else if (spoil == 2 && text.length() > 0) {
            text.setLength(upTo(text.length() - 1));
        }
        return text.toString();
    }

    private static void write() {
        due("clearText()", x.clearText(), model.clearText());
        String text = text();
        for (int i = 0; i < text.length(); i++) {
            due("type", x.type(text.charAt(i)), model.type(text.charAt(i)));
        }
    }

    private static void act() {
        int kind = upTo(99);
        if (kind < 14) {
            int left = place();
            int right = upTo(9) == 0 ? place() : left + upTo(width / 3);
            due("add(" + left + ", " + right + ")", x.add(left, right), model.add(left, right));
        } else if (kind < 18) {
            write();
            due("readSpans()", x.readSpans(), model.readSpans());
        } else if (kind < 25) {
            int span = span();
            due("remove(" + span + ")", x.remove(span), model.remove(span));
        } else if (kind < 37) {
            int span = span();
            int by = upTo(9) == 0 ? upTo(2002) - 1001 : upTo(60) - 30;
            due("move(" + span + ", " + by + ")", x.move(span, by), model.move(span, by));
        } else if (kind < 43) {
            int place = place();
            int speed = speed();
            due("come(" + place + ", " + speed + ")", x.come(place, speed), model.come(place, speed));
        } else if (kind < 52) {
            int walker = walker();
            int place = place();
            due("put(" + walker + ", " + place + ")", x.put(walker, place), model.put(walker, place));
        } else if (kind < 60) {
            int walker = walker();
            int speed = speed();
            due("speed(" + walker + ", " + speed + ")", x.speed(walker, speed), model.speed(walker, speed));
        } else if (kind < 85) {
            int ticks = upTo(3) == 0 ? upTo(102) : 1 + upTo(4);
            due("pass(" + ticks + ")", x.pass(ticks), model.pass(ticks));
        } else if (kind < 92) {
            due("undo()", x.undo(), model.undo());
        } else if (kind < 96) {
            due("keep()", x.keep(), model.keep());
        } else {
            due("restore()", x.restore(), model.restore());
        }
    }

    private static void look() {
        for (int what = 0; what <= 10; what++) {
            due("count(" + what + ")", x.count(what), model.count(what));
        }
        int span = span();
        int walker = walker();
        int whatSpan = what(8);
        due("span(" + span + ", " + whatSpan + ")", x.span(span, whatSpan), model.span(span, whatSpan));
        for (int what = 0; what <= 8; what++) {
            due("walker(" + walker + ", " + what + ")", x.walker(walker, what), model.walker(walker, what));
        }
        int position = upTo(6) - 1;
        due("inside(" + walker + ", " + position + ")", x.inside(walker, position), model.inside(walker, position));
        int place = place();
        int whatAsk = what(4);
        due("ask(" + place + ", " + whatAsk + ")", x.ask(place, whatAsk), model.ask(place, whatAsk));
        boolean right = upTo(1) == 0;
        due("free(" + place + ", " + right + ")", x.free(place, right), model.free(place, right));
        due("changesIn(" + walker + ")", x.changesIn(walker), model.changesIn(walker));
        int other = walker();
        due("meetIn(" + walker + ", " + other + ")", x.meetIn(walker, other), model.meetIn(walker, other));
        int whatIndex = what(3);
        due("index(" + whatIndex + ")", x.index(whatIndex), model.index(whatIndex));
        int back = upTo(14) - 1;
        int whatEvent = what(3);
        due("event(" + back + ", " + whatEvent + ")", x.event(back, whatEvent), model.event(back, whatEvent));
    }

    private static void lookAtAll() {
        for (int span = 0; span < 60; span++) {
            for (int what = 0; what <= 8; what++) {
                due("span(" + span + ", " + what + ")", x.span(span, what), model.span(span, what));
            }
        }
        for (int place = 0; place <= 1000; place += 1 + upTo(40)) {
            for (int what = 0; what <= 4; what++) {
                due("ask(" + place + ", " + what + ")", x.ask(place, what), model.ask(place, what));
            }
        }
        for (int back = 0; back <= 12; back++) {
            for (int what = 0; what <= 3; what++) {
                due("event(" + back + ", " + what + ")", x.event(back, what), model.event(back, what));
            }
        }
        for (int what = -1; what <= 4; what++) {
            due("index(" + what + ")", x.index(what), model.index(what));
            due("most(" + what + ")", x.most(what), model.most(what));
        }
    }

    private static void wholeRun() {
        x = new MiddleSpans();
        model = new Model();
        width = run % 3 == 0 ? 1000 : run % 3 == 1 ? 100 : 12;
        base = upTo(1000 - width);
        // Calls that only look do not count here: the class answers the same however often it is looked at.
        for (call = 0; call < CALLS; call++) {
            act();
            look();
        }
        lookAtAll();
    }

    public static void main(String[] args) {
        random = new Random(20261119L);
        for (run = 0; run < RUNS && CHECK.allRight(); run++) {
            wholeRun();
        }
        CHECK.end();
    }
}
