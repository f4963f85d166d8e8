import java.util.ArrayList;
import java.util.Comparator;
import java.util.HashSet;
import java.util.List;
import java.util.Map;
import java.util.Set;
import java.util.TreeMap;
import java.util.TreeSet;
import java.util.regex.Matcher;
import java.util.regex.Pattern;

/** The document once more, place by place and without any index, to be held against the class. */
final class Model {
    private static final class Span {
        int left;
        int right;
        boolean leftIn;
        boolean rightIn;
        boolean removed;
        int ticks;
        int entries;

        Set<Integer> places() {
            Set<Integer> all = new TreeSet<>();
            for (int p = left; p <= right; p++) {
                if ((p != left || leftIn) && (p != right || rightIn)) {
                    all.add(p);
                }
            }
            return all;
        }

        int first() {
            return leftIn ? left : left + 1;
        }

        int last() {
            return rightIn ? right : right - 1;
        }

        boolean covers(int place) {
            return !removed && first() <= place && place <= last();
        }

        Span copy() {
            Span c = new Span();
            c.left = left;
            c.right = right;
            c.leftIn = leftIn;
            c.rightIn = rightIn;
            c.removed = removed;
            c.ticks = ticks;
            c.entries = entries;
            return c;
        }
    }

    private static final class Walker {
        int place;
        int speed;
        int entered;
        int left;
        int way;
        int turns;
        TreeMap<Integer, Integer> since = new TreeMap<>();

        Walker copy() {
            Walker c = new Walker();
            c.place = place;
            c.speed = speed;
            c.entered = entered;
            c.left = left;
            c.way = way;
            c.turns = turns;
            c.since = new TreeMap<>(since);
            return c;
        }

        boolean step() {
            way += speed < 0 ? -speed : speed;
            place += speed;
            if (place < 0 || place > 1000) {
                place = place < 0 ? -place : 2000 - place;
                speed = -speed;
                return true;
            }
            return false;
        }
    }

    private static final class State {
        int tick;
        List<Span> spans = new ArrayList<>();
        List<Walker> walkers = new ArrayList<>();
        List<int[]> events = new ArrayList<>();

        State copy() {
            State c = new State();
            c.tick = tick;
            for (Span s : spans) {
                c.spans.add(s.copy());
            }
            for (Walker w : walkers) {
                c.walkers.add(w.copy());
            }
            c.events.addAll(events);
            return c;
        }
    }

    private static final class Node {
        final int low;
        final int high;
        final int depth;
        final List<Integer> lying = new ArrayList<>();

        Node(int low, int high, int depth) {
            this.low = low;
            this.high = high;
            this.depth = depth;
        }

        int middle() {
            return (low + high) / 2;
        }

        Node towardsLeft() {
            return new Node(low, middle() - 1, depth + 1);
        }

        Node towardsRight() {
            return new Node(middle() + 1, high, depth + 1);
        }
    }

    private State now = new State();
    private final List<State> history = new ArrayList<>();
    private State snapshot;
    private String text = "";

    private void record() {
        history.add(now.copy());
        if (history.size() > 4) {
            history.remove(0);
        }
    }

    private boolean hasSpan(int span) {
        return span >= 0 && span < now.spans.size() && !now.spans.get(span).removed;
    }

    private boolean hasWalker(int walker) {
        return walker >= 0 && walker < now.walkers.size();
    }

    private List<Integer> covering(int place) {
        List<Integer> all = new ArrayList<>();
        for (int s = 0; s < now.spans.size(); s++) {
            if (now.spans.get(s).covers(place)) {
                all.add(s);
            }
        }
        return all;
    }

    private void log(int kind, int walker, int subject) {
        now.events.add(0, new int[] {kind, walker, subject, now.tick});
        while (now.events.size() > 12) {
            now.events.remove(12);
        }
    }

    private int tell(int w) {
        Walker walker = now.walkers.get(w);
        Set<Integer> here = new TreeSet<>(covering(walker.place));
        int changes = 0;
        for (Integer s : new ArrayList<>(walker.since.keySet())) {
            if (!here.contains(s)) {
                walker.since.remove(s);
                walker.left++;
                log(1, w, s);
                changes++;
            }
        }
        for (Integer s : here) {
            if (!walker.since.containsKey(s)) {
                walker.since.put(s, now.tick);
                walker.entered++;
                now.spans.get(s).entries++;
                log(0, w, s);
                changes++;
            }
        }
        return changes;
    }

    private int tellAll() {
        int changes = 0;
        for (int w = 0; w < now.walkers.size(); w++) {
            changes += tell(w);
        }
        return changes;
    }

    private void bring(int left, int right, boolean leftIn, boolean rightIn) {
        Span s = new Span();
        s.left = left;
        s.right = right;
        s.leftIn = leftIn;
        s.rightIn = rightIn;
        now.spans.add(s);
        tellAll();
    }

    int add(int left, int right) {
        if (left < 0 || left > 1000 || right < left || right > 1000) {
            return -2;
        }
        if (now.spans.size() == 60) {
            return -3;
        }
        record();
        bring(left, right, true, true);
        return now.spans.size() - 1;
    }

    private static final Pattern ONE =
            Pattern.compile("([\\[(])(0|[1-9][0-9]{0,3}),(0|[1-9][0-9]{0,3})([\\])])");
    private static final Pattern ROW = Pattern.compile(ONE.pattern() + "(;" + ONE.pattern() + ")*");

    /** The fault is the longest front of the text that something could still be put behind to make a row. */
    private int fault() {
        if (ROW.matcher(text).matches()) {
            return -1;
        }
        for (int length = text.length(); length > 0; length--) {
            Matcher m = ROW.matcher(text.substring(0, length));
            if (m.matches() || m.hitEnd()) {
                return length;
            }
        }
        return 0;
    }

    int readSpans() {
        int fault = fault();
        if (fault >= 0) {
            return -100 - fault;
        }
        List<Span> read = new ArrayList<>();
        Matcher m = ONE.matcher(text);
        while (m.find()) {
            Span s = new Span();
            s.leftIn = m.group(1).equals("[");
            s.left = Integer.parseInt(m.group(2));
            s.right = Integer.parseInt(m.group(3));
            s.rightIn = m.group(4).equals("]");
            if (s.left > 1000 || s.right > 1000 || s.right < s.left || s.places().isEmpty()) {
                return -2;
            }
            read.add(s);
        }
        if (now.spans.size() + read.size() > 60) {
            return -3;
        }
        record();
        for (Span s : read) {
            bring(s.left, s.right, s.leftIn, s.rightIn);
        }
        return read.size();
    }

    int remove(int span) {
        if (!hasSpan(span)) {
            return -1;
        }
        record();
        now.spans.get(span).removed = true;
        return tellAll();
    }

    int move(int span, int by) {
        if (!hasSpan(span)) {
            return -1;
        }
        if (by < -1000 || by > 1000 || by == 0) {
            return -2;
        }
        Span s = now.spans.get(span);
        if (s.left + by < 0 || s.right + by > 1000) {
            return -4;
        }
        record();
        s.left += by;
        s.right += by;
        return tellAll();
    }

    int come(int place, int speed) {
        if (place < 0 || place > 1000 || speed < -50 || speed > 50) {
            return -2;
        }
        if (now.walkers.size() == 6) {
            return -3;
        }
        record();
        Walker w = new Walker();
        w.place = place;
        w.speed = speed;
        now.walkers.add(w);
        tellAll();
        return now.walkers.size() - 1;
    }

    int put(int walker, int place) {
        if (!hasWalker(walker)) {
            return -1;
        }
        if (place < 0 || place > 1000) {
            return -2;
        }
        if (now.walkers.get(walker).place == place) {
            return -5;
        }
        record();
        now.walkers.get(walker).place = place;
        return tellAll();
    }

    int speed(int walker, int speed) {
        if (!hasWalker(walker)) {
            return -1;
        }
        if (speed < -50 || speed > 50) {
            return -2;
        }
        int old = now.walkers.get(walker).speed;
        if (old == speed) {
            return -5;
        }
        record();
        now.walkers.get(walker).speed = speed;
        return 1000 + old;
    }

    int pass(int ticks) {
        if (ticks < 1 || ticks > 100) {
            return -2;
        }
        if (now.tick + ticks > 9999) {
            return -4;
        }
        record();
        int changes = 0;
        for (int t = 0; t < ticks; t++) {
            now.tick++;
            for (int w = 0; w < now.walkers.size(); w++) {
                Walker walker = now.walkers.get(w);
                if (walker.step()) {
                    walker.turns++;
                    log(2, w, walker.place);
                }
                changes += tell(w);
            }
            for (Walker walker : now.walkers) {
                for (Integer s : walker.since.keySet()) {
                    now.spans.get(s).ticks++;
                }
            }
        }
        return changes;
    }

    int type(char character) {
        if (text.length() == 60) {
            return -3;
        }
        text += character;
        return text.length();
    }

    int clearText() {
        int had = text.length();
        text = "";
        return had;
    }

    int undo() {
        if (history.isEmpty()) {
            return -5;
        }
        now = history.remove(history.size() - 1);
        return history.size();
    }

    private int there() {
        int there = 0;
        for (Span s : now.spans) {
            there += s.removed ? 0 : 1;
        }
        return there;
    }

    int keep() {
        snapshot = now.copy();
        return there();
    }

    int restore() {
        if (snapshot == null) {
            return -5;
        }
        record();
        now = snapshot.copy();
        return there();
    }

    private Node nodeOf(Span s) {
        Node n = new Node(0, 1000, 0);
        while (!(s.first() <= n.middle() && n.middle() <= s.last())) {
            n = s.last() < n.middle() ? n.towardsLeft() : n.towardsRight();
        }
        return n;
    }

    /** All nodes, by their middles. */
    private Map<Integer, Node> nodes() {
        Map<Integer, Node> all = new TreeMap<>();
        for (int s = 0; s < now.spans.size(); s++) {
            Span span = now.spans.get(s);
            if (span.removed) {
                continue;
            }
            Node n = new Node(0, 1000, 0);
            int goal = nodeOf(span).middle();
            while (n.middle() != goal) {
                all.putIfAbsent(n.middle(), n);
                n = goal < n.middle() ? n.towardsLeft() : n.towardsRight();
            }
            all.putIfAbsent(goal, n);
            all.get(goal).lying.add(s);
        }
        return all;
    }

    int span(int span, int what) {
        if (!hasSpan(span)) {
            return -1;
        }
        Span s = now.spans.get(span);
        int inside = 0;
        for (Walker w : now.walkers) {
            inside += s.covers(w.place) ? 1 : 0;
        }
        int[] answers = {s.left, s.right, s.first(), s.last(), nodeOf(s).middle(), nodeOf(s).depth, inside,
            s.ticks, s.entries};
        return what < 0 || what >= answers.length ? -2 : answers[what];
    }

    int walker(int walker, int what) {
        if (!hasWalker(walker)) {
            return -1;
        }
        Walker w = now.walkers.get(walker);
        int oldest = -5;
        for (Integer s : w.since.keySet()) {
            if (oldest == -5 || w.since.get(s) < w.since.get(oldest)) {
                oldest = s;
            }
        }
        int age = oldest == -5 ? -5 : now.tick - w.since.get(oldest);
        int[] answers = {w.place, 1000 + w.speed, covering(w.place).size(), w.entered, w.left, age, oldest, w.way,
            w.turns};
        return what < 0 || what >= answers.length ? -2 : answers[what];
    }

    int inside(int walker, int place) {
        if (!hasWalker(walker)) {
            return -1;
        }
        if (place < 0) {
            return -2;
        }
        List<Integer> all = covering(now.walkers.get(walker).place);
        return place < all.size() ? all.get(place) : -5;
    }

    int ask(int place, int what) {
        if (place < 0 || place > 1000 || what < 0 || what > 4) {
            return -2;
        }
        List<Integer> found = covering(place);
        if (what == 0) {
            return found.size();
        }
        if (what > 2) {
            if (what == 4) {
                found.sort(Comparator.comparingInt((Integer s) -> now.spans.get(s).places().size()));
            }
            return found.isEmpty() ? -5 : found.get(0);
        }
        Map<Integer, Node> all = nodes();
        int asked = 0;
        int looked = 0;
        Node way = new Node(0, 1000, 0);
        while (way.low <= way.high && all.containsKey(way.middle())) {
            asked++;
            looked += lookedAt(all.get(way.middle()), place);
            if (place == way.middle()) {
                break;
            }
            way = place < way.middle() ? way.towardsLeft() : way.towardsRight();
        }
        return what == 1 ? asked : looked;
    }

    private int lookedAt(Node node, int place) {
        List<Integer> order = new ArrayList<>(node.lying);
        if (place == node.middle()) {
            return order.size();
        }
        boolean left = place < node.middle();
        order.sort((a, b) -> left
                ? now.spans.get(a).first() - now.spans.get(b).first()
                : now.spans.get(b).last() - now.spans.get(a).last());
        int looked = 0;
        for (Integer s : order) {
            looked++;
            if (left ? now.spans.get(s).first() > place : now.spans.get(s).last() < place) {
                break;
            }
        }
        return looked;
    }

    int free(int place, boolean right) {
        if (place < 0 || place > 1000) {
            return -2;
        }
        int p = place;
        while (p >= 0 && p <= 1000) {
            if (covering(p).isEmpty()) {
                return p;
            }
            p += right ? 1 : -1;
        }
        return -5;
    }

    int most(int what) {
        if (what < 0 || what > 2) {
            return -2;
        }
        int place = 0;
        int spans = 0;
        int none = 0;
        for (int p = 1000; p >= 0; p--) {
            int here = covering(p).size();
            if (here >= spans) {
                spans = here;
                place = p;
            }
            none += here == 0 ? 1 : 0;
        }
        return what == 0 ? place : what == 1 ? spans : none;
    }

    int changesIn(int walker) {
        if (!hasWalker(walker)) {
            return -1;
        }
        Walker w = now.walkers.get(walker).copy();
        for (int t = 1; t <= 200; t++) {
            List<Integer> before = covering(w.place);
            w.step();
            if (!covering(w.place).equals(before)) {
                return t;
            }
        }
        return -5;
    }

    int meetIn(int walker, int other) {
        if (!hasWalker(walker) || !hasWalker(other)) {
            return -1;
        }
        if (walker == other) {
            return -2;
        }
        Walker a = now.walkers.get(walker).copy();
        Walker b = now.walkers.get(other).copy();
        int t = 0;
        while (a.place != b.place) {
            t++;
            a.step();
            b.step();
            if (t > 200) {
                return -5;
            }
        }
        return t;
    }

    int index(int what) {
        if (what < 0 || what > 3) {
            return -2;
        }
        Map<Integer, Node> all = nodes();
        if (all.isEmpty()) {
            return -5;
        }
        int depth = 0;
        int most = 0;
        int middle = -1;
        for (Node n : all.values()) {
            depth = Math.max(depth, n.depth);
            if (n.lying.size() > most) {
                most = n.lying.size();
                middle = n.middle();
            }
        }
        int[] answers = {all.size(), depth, most, middle};
        return answers[what];
    }

    int event(int back, int what) {
        if (back < 0 || what < 0 || what > 3) {
            return -2;
        }
        return back < now.events.size() ? now.events.get(back)[what] : -5;
    }

    int count(int what) {
        int entered = 0;
        int left = 0;
        Set<Integer> inside = new HashSet<>();
        for (Walker w : now.walkers) {
            entered += w.entered;
            left += w.left;
            inside.addAll(covering(w.place));
        }
        Set<Integer> firsts = new HashSet<>();
        Set<Integer> lasts = new HashSet<>();
        int pairs = 0;
        for (int s = 0; s < now.spans.size(); s++) {
            Span span = now.spans.get(s);
            if (span.removed) {
                continue;
            }
            firsts.add(span.first());
            lasts.add(span.last());
            for (int t = s + 1; t < now.spans.size(); t++) {
                Span other = now.spans.get(t);
                boolean common = !other.removed
                        && Math.max(span.first(), other.first()) <= Math.min(span.last(), other.last());
                pairs += common ? 1 : 0;
            }
        }
        int[] answers = {now.tick, now.spans.size(), there(), now.walkers.size(), entered, left, pairs,
            inside.size(), firsts.size() + lasts.size(), history.size(), text.length()};
        return what < 0 || what >= answers.length ? -2 : answers[what];
    }

    int seenSpans() {
        return now.spans.size();
    }

    int seenWalkers() {
        return now.walkers.size();
    }
}
