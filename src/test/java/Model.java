import java.util.ArrayDeque;
import java.util.ArrayList;
import java.util.Deque;
import java.util.List;

/**
 * The document once more, written in another way than the program: objects for
 * all things, nothing kept beside them that could be searched for, every state
 * a deep copy. It is slow and plain, so that it can be read against the document.
 */
final class Model {
    private static final int INVALID = -1;
    private static final int ILLEGAL = -2;
    private static final int FULL = -3;
    private static final int NONE = -9;

    private static final class Copy implements Cloneable {
        int value;
        int version;
        boolean torn;
        boolean late;
        int writtenByHeadIn = -100;

        Copy twin() {
            Copy c = new Copy();
            c.value = value;
            c.version = version;
            c.torn = torn;
            c.late = late;
            c.writtenByHeadIn = writtenByHeadIn;
            return c;
        }
    }

    private static final class Order {
        final boolean isWrite;
        final int track;
        final int sector;
        final int came;
        final int value;
        boolean lost;
        boolean done;
        int doneIn;
        int side;
        int answer;

        Order(boolean isWrite, int track, int sector, int value, int came) {
            this.isWrite = isWrite;
            this.track = track;
            this.sector = sector;
            this.value = value;
            this.came = came;
        }

        Order twin() {
            Order o = new Order(isWrite, track, sector, value, came);
            o.lost = lost;
            o.done = done;
            o.doneIn = doneIn;
            o.side = side;
            o.answer = answer;
            return o;
        }

        boolean waits() {
            return !lost && !done;
        }
    }

    private static final class State {
        final Copy[][][] copies = new Copy[2][4][12];
        final List<Order> orders = new ArrayList<>();
        int tick;
        int arm;
        int wiped;
        int moves;

        State twin() {
            State s = new State();
            for (int side = 0; side < 2; side++) {
                for (int track = 0; track < 4; track++) {
                    for (int sector = 0; sector < 12; sector++) {
                        s.copies[side][track][sector] = copies[side][track][sector].twin();
                    }
                }
            }
            for (Order o : orders) {
                s.orders.add(o.twin());
            }
            s.tick = tick;
            s.arm = arm;
            s.wiped = wiped;
            s.moves = moves;
            return s;
        }

        boolean hasWork(int track) {
            for (Order o : orders) {
                if (o.waits() && o.track == track) {
                    return true;
                }
            }
            for (int side = 0; side < 2; side++) {
                for (Copy c : copies[side][track]) {
                    if (c.late) {
                        return true;
                    }
                }
            }
            return false;
        }

        boolean anyWork() {
            return hasWork(0) || hasWork(1) || hasWork(2) || hasWork(3);
        }

        int waiting() {
            return (int) orders.stream().filter(Order::waits).count();
        }

        int done() {
            return (int) orders.stream().filter(o -> o.done).count();
        }

        void goOn() {
            if (hasWork(arm)) {
                head(0, tick % 12);
                head(1, (tick + 6) % 12);
            } else if (anyWork()) {
                int best = -1;
                for (int track = 0; track < 4; track++) {
                    if (hasWork(track) && (best < 0 || Math.abs(track - arm) < Math.abs(best - arm))) {
                        best = track;
                    }
                }
                arm += Integer.signum(best - arm);
                moves++;
            }
            tick++;
        }

        void head(int side, int sector) {
            Copy mine = copies[side][arm][sector];
            Copy other = copies[1 - side][arm][sector];
            if (mine.late && !other.torn) {
                mine.value = other.value;
                mine.version = other.version;
                mine.late = false;
                mine.torn = false;
                mine.writtenByHeadIn = tick;
                return;
            }
            for (Order o : orders) {
                if (o.waits() && o.isWrite && o.track == arm && o.sector == sector) {
                    mine.value = o.value;
                    mine.version = 1 + Math.max(mine.version, other.version);
                    mine.late = false;
                    mine.torn = false;
                    mine.writtenByHeadIn = tick;
                    other.late = true;
                    end(o, side, o.value);
                    return;
                }
            }
            if (mine.late || mine.torn) {
                return;
            }
            for (Order o : orders) {
                if (o.waits() && !o.isWrite && o.track == arm && o.sector == sector) {
                    end(o, side, mine.value);
                    return;
                }
            }
        }

        void end(Order o, int side, int answer) {
            o.done = true;
            o.doneIn = tick;
            o.side = side;
            o.answer = answer;
        }

        int cutPower() {
            int torn = 0;
            for (Copy[][] side : copies) {
                for (Copy[] track : side) {
                    for (Copy c : track) {
                        if (c.writtenByHeadIn == tick - 1 && !c.torn) {
                            c.torn = true;
                            torn++;
                        }
                        c.late = false;
                    }
                }
            }
            for (Order o : orders) {
                o.lost |= !o.done;
            }
            return torn;
        }

        int sweepNow() {
            int took = 0;
            for (int track = 0; track < 4; track++) {
                for (int sector = 0; sector < 12; sector++) {
                    Copy a = copies[0][track][sector];
                    Copy b = copies[1][track][sector];
                    if (a.torn && b.torn) {
                        a.value = b.value = a.version = b.version = 0;
                        a.torn = b.torn = false;
                        wiped++;
                    } else if (a.torn || !b.torn && a.version < b.version) {
                        a.value = b.value;
                        a.version = b.version;
                        a.torn = false;
                        took++;
                    } else if (b.torn || b.version < a.version) {
                        b.value = a.value;
                        b.version = a.version;
                        b.torn = false;
                        took++;
                    }
                }
            }
            tick += 48;
            arm = 3;
            return took;
        }
    }

    private State s = new State();
    private final Deque<State> history = new ArrayDeque<>();
    private final StringBuilder text = new StringBuilder();

    Model() {
        for (int side = 0; side < 2; side++) {
            for (int track = 0; track < 4; track++) {
                for (int sector = 0; sector < 12; sector++) {
                    s.copies[side][track][sector] = new Copy();
                }
            }
        }
    }

    // ---- actions: tried on the state as it is, which is kept before if they succeed

    private int act(State before, int answer) {
        if (answer >= 0) {
            history.addLast(before);
            if (history.size() > 5) {
                history.removeFirst();
            }
        }
        return answer;
    }

    private static boolean out(int number, int least, int greatest) {
        return number < least || number > greatest;
    }

    private int tryOrder(boolean isWrite, int track, int sector, int value) {
        if (out(track, 0, 3) || out(sector, 0, 11) || out(value, 0, 999)) {
            return INVALID;
        }
        if (s.orders.size() == 60 || s.waiting() == 20) {
            return FULL;
        }
        s.orders.add(new Order(isWrite, track, sector, value, s.tick));
        return s.orders.size() - 1;
    }

    private int tryPass(int ticks) {
        if (out(ticks, 1, 200)) {
            return INVALID;
        }
        if (s.tick + ticks > 20000) {
            return ILLEGAL;
        }
        int before = s.done();
        for (int i = 0; i < ticks; i++) {
            s.goOn();
        }
        return s.done() - before;
    }

    private int trySweep() {
        if (s.anyWork() || s.tick + 48 > 20000) {
            return ILLEGAL;
        }
        return s.sweepNow();
    }

    int read(int track, int sector) {
        return act(s.twin(), tryOrder(false, track, sector, 0));
    }

    int write(int track, int sector, int value) {
        return act(s.twin(), tryOrder(true, track, sector, value));
    }

    int pass(int ticks) {
        return act(s.twin(), tryPass(ticks));
    }

    int cut() {
        return act(s.twin(), s.cutPower());
    }

    int sweep() {
        return act(s.twin(), trySweep());
    }

    int undo() {
        if (history.isEmpty()) {
            return ILLEGAL;
        }
        s = history.removeLast();
        return history.size();
    }

    // ---- programs

    int append(int character) {
        if (out(character, 1, 255)) {
            return INVALID;
        }
        if (text.length() == 80) {
            return FULL;
        }
        return text.append((char) character).length();
    }

    int clearText() {
        int length = text.length();
        text.setLength(0);
        return length;
    }

    private static final class Failure extends Exception {
        private static final long serialVersionUID = 1L;
        final int place;

        Failure(int place) {
            this.place = place;
        }
    }

    /** An act with a letter, or a group of acts. */
    private static final class Act {
        int place;
        char letter;
        final List<Integer> numbers = new ArrayList<>();
        int times;
        List<Act> group;
    }

    private final class Reader {
        int at = 0;

        char sign() throws Failure {
            if (at >= text.length()) {
                throw new Failure(text.length());
            }
            return text.charAt(at);
        }

        void expect(char c) throws Failure {
            if (sign() != c) {
                throw new Failure(at);
            }
            at++;
        }

        List<Act> program(int depth) throws Failure {
            List<Act> acts = new ArrayList<>();
            while (depth > 0 || at < text.length()) {
                if (depth > 0 && sign() == ')') {
                    return acts;
                }
                acts.add(act(depth));
            }
            return acts;
        }

        Act act(int depth) throws Failure {
            Act act = new Act();
            act.place = at;
            act.letter = sign();
            if ("(23456789".indexOf(act.letter) >= 0) {
                act.times = 1;
                if (act.letter != '(') {
                    act.times = act.letter - '0';
                    at++;
                }
                if (depth == 3 && sign() == '(') {
                    throw new Failure(at);
                }
                expect('(');
                act.group = program(depth + 1);
                expect(')');
                return act;
            }
            String form = act.letter == 'r' ? "n,n;" : act.letter == 'w' ? "n,n=n;"
                    : act.letter == 't' ? "n;" : act.letter == 'x' ? ";" : null;
            if (form == null) {
                throw new Failure(at);
            }
            at++;
            for (char part : form.toCharArray()) {
                if (part == 'n') {
                    act.numbers.add(number());
                } else {
                    expect(part);
                }
            }
            return act;
        }

        int number() throws Failure {
            if (!Character.isDigit(sign()) || sign() > '9') {
                throw new Failure(at);
            }
            if (sign() == '0') {
                at++;
                return 0;
            }
            int start = at;
            while (at < text.length() && at < start + 3 && sign() >= '0' && sign() <= '9') {
                at++;
            }
            return Integer.parseInt(text.substring(start, at));
        }
    }

    private static void unroll(List<Act> acts, List<Act> into) {
        for (Act act : acts) {
            if (act.group == null) {
                into.add(act);
            } else {
                for (int i = 0; i < act.times; i++) {
                    unroll(act.group, into);
                }
            }
        }
    }

    private int perform(Act act) {
        List<Integer> n = act.numbers;
        switch (act.letter) {
            case 'r': return tryOrder(false, n.get(0), n.get(1), 0);
            case 'w': return tryOrder(true, n.get(0), n.get(1), n.get(2));
            case 't': return tryPass(n.get(0));
            default: return s.cutPower();
        }
    }

    int run() {
        State before = s.twin();
        List<Act> steps = new ArrayList<>();
        try {
            unroll(new Reader().program(0), steps);
            if (steps.size() > 100) {
                throw new Failure(steps.get(100).place);
            }
            for (Act act : steps) {
                if (perform(act) < 0) {
                    throw new Failure(act.place);
                }
            }
        } catch (Failure failure) {
            s = before;
            return -1000 - failure.place;
        }
        return act(before, steps.size());
    }

    // ---- looking

    int count(int what) {
        int late = 0;
        int torn = 0;
        int unlike = 0;
        for (int track = 0; track < 4; track++) {
            for (int sector = 0; sector < 12; sector++) {
                Copy a = s.copies[0][track][sector];
                Copy b = s.copies[1][track][sector];
                late += (a.late ? 1 : 0) + (b.late ? 1 : 0);
                torn += (a.torn ? 1 : 0) + (b.torn ? 1 : 0);
                unlike += a.value != b.value || a.version != b.version ? 1 : 0;
            }
        }
        int[] all = {s.tick, s.arm, s.tick % 12, (s.tick + 6) % 12, s.orders.size(), s.waiting(), s.done(),
            s.orders.size() - s.waiting() - s.done(), late, torn, unlike, s.wiped, s.moves,
            history.size(), text.length()};
        return out(what, 0, 14) ? INVALID : all[what];
    }

    int copy(int side, int track, int sector, int what) {
        if (out(side, 0, 1) || out(track, 0, 3) || out(sector, 0, 11) || out(what, 0, 3)) {
            return INVALID;
        }
        Copy c = s.copies[side][track][sector];
        return new int[] {c.value, c.version, c.torn ? 1 : 0, c.late ? 1 : 0}[what];
    }

    int order(int order, int what) {
        if (out(order, 0, s.orders.size() - 1) || out(what, 0, 7)) {
            return INVALID;
        }
        Order o = s.orders.get(order);
        switch (what) {
            case 0: return o.isWrite ? 1 : 0;
            case 1: return o.track;
            case 2: return o.sector;
            case 3: return o.done ? 1 : o.lost ? 2 : 0;
            case 4: return o.came;
            case 5: return o.done ? o.doneIn : NONE;
            case 6: return o.done ? o.side : NONE;
            default: return o.isWrite ? o.value : o.done ? o.answer : NONE;
        }
    }

    int waits(int what) {
        if (out(what, 0, 2)) {
            return INVALID;
        }
        int sum = 0;
        int greatest = NONE;
        int who = NONE;
        for (int i = 0; i < s.orders.size(); i++) {
            Order o = s.orders.get(i);
            if (o.done) {
                sum += o.doneIn - o.came;
                if (o.doneIn - o.came > greatest) {
                    greatest = o.doneIn - o.came;
                    who = i;
                }
            }
        }
        return what == 0 ? sum : what == 1 ? greatest : who;
    }

    // ---- what could be

    int nearer(int sector, int what) {
        if (out(sector, 0, 11) || out(what, 0, 1)) {
            return INVALID;
        }
        for (int ticks = 0;; ticks++) {
            if ((s.tick + ticks) % 12 == sector) {
                return what == 0 ? 0 : ticks;
            }
            if ((s.tick + ticks + 6) % 12 == sector) {
                return what == 0 ? 1 : ticks;
            }
        }
    }

    int doneIn(int order) {
        if (out(order, 0, s.orders.size() - 1)) {
            return INVALID;
        }
        State t = s.twin();
        for (int ticks = 0; ticks <= 300; ticks++) {
            if (t.orders.get(order).done) {
                return ticks;
            }
            t.goOn();
        }
        return NONE;
    }

    int idleIn() {
        State t = s.twin();
        for (int ticks = 0; ticks <= 300; ticks++) {
            if (!t.anyWork()) {
                return ticks;
            }
            t.goOn();
        }
        return NONE;
    }

    int wouldWipe() {
        State t = s.twin();
        t.cutPower();
        t.sweepNow();
        return t.wiped - s.wiped;
    }
}
