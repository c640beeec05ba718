/**
 * Two plates on one axle, as the document of the project tells them; this
 * class holds the document's face, and the classes inside it do the work:
 * Plates is one state, History keeps earlier ones, Program reads the text.
 */
public final class TwinPlates {
    public static final int INVALID_ARGUMENT = -1;
    public static final int ILLEGAL_STATE = -2;
    public static final int CAPACITY_EXCEEDED = -3;
    public static final int NONE = -9;

    private static final int FORECAST_TICKS = 300;
    private static final int FAILURE = -1000;

    private final Plates now;
    // What could be is tried on these, so that a forecast makes no objects.
    private final Plates forecast;
    private final History history;
    private final Program program;

    public TwinPlates() {
        now = new Plates();
        forecast = new Plates();
        history = new History();
        program = new Program();
    }

    // ---- orders and time

    public int read(int track, int sector) {
        history.note(now);
        return settle(now.takeRead(track, sector));
    }

    public int write(int track, int sector, int value) {
        history.note(now);
        return settle(now.takeWrite(track, sector, value));
    }

    public int pass(int ticks) {
        history.note(now);
        return settle(now.letPass(ticks));
    }

    public int cut() {
        history.note(now);
        return settle(now.cutPower());
    }

    public int sweep() {
        history.note(now);
        return settle(now.sweepBlocks());
    }

    public int undo() {
        if (history.size() == 0) {
            return ILLEGAL_STATE;
        }
        history.dropLatest();
        history.restoreNoted(now);
        return history.size();
    }

    // ---- programs

    public int append(int character) {
        if (character < 1 || character > 255) {
            return INVALID_ARGUMENT;
        }
        if (program.isFull()) {
            return CAPACITY_EXCEEDED;
        }
        program.addSign(character);
        return program.length();
    }

    public int clearText() {
        int previous = program.length();
        program.makeEmpty();
        return previous;
    }

    public int run() {
        if (!program.isUnderstood()) {
            return FAILURE - program.place();
        }
        if (program.hasTooManySteps()) {
            return FAILURE - program.letterOfStep(Program.MOST_STEPS);
        }
        history.note(now);
        int steps = program.steps();
        for (int step = 0; step < steps; step++) {
            int letter = program.letterOfStep(step);
            if (perform(letter) < 0) {
                history.restoreNoted(now);
                return FAILURE - letter;
            }
        }
        history.keepNoted();
        return steps;
    }

    // ---- looking

    public int count(int what) {
        switch (what) {
            case 0: return now.tick();
            case 1: return now.arm();
            case 2: return now.sectorUnder(0);
            case 3: return now.sectorUnder(1);
            case 4: return now.taken();
            case 5: return now.countOrders(Plates.WAITING);
            case 6: return now.countOrders(Plates.DONE);
            case 7: return now.countOrders(Plates.LOST);
            case 8: return now.countCopies(Plates.LATE);
            case 9: return now.countCopies(Plates.TORN);
            case 10: return now.countUnlikeBlocks();
            case 11: return now.wiped();
            case 12: return now.moves();
            case 13: return history.size();
            case 14: return program.length();
            default: return INVALID_ARGUMENT;
        }
    }

    public int copy(int side, int track, int sector, int what) {
        if (side < 0 || side >= Plates.SIDES || !Plates.isBlock(track, sector)
                || what < 0 || what >= Plates.COPY_SIZE) {
            return INVALID_ARGUMENT;
        }
        return now.ofCopy(side, track, sector, what);
    }

    public int order(int order, int what) {
        if (!now.hasOrder(order) || what < 0 || what >= Plates.ORDER_SIZE) {
            return INVALID_ARGUMENT;
        }
        return now.ofOrder(order, what);
    }

    public int waits(int what) {
        if (what < 0 || what > 2) {
            return INVALID_ARGUMENT;
        }
        if (what == 0) {
            return now.sumOfWaits();
        }
        int longest = now.longestWaiter();
        if (what == 2 || longest == NONE) {
            return longest;
        }
        return now.waitOf(longest);
    }

    // ---- what could be, which changes nothing

    public int nearer(int sector, int what) {
        if (sector < 0 || sector >= Plates.SECTORS || what < 0 || what > 1) {
            return INVALID_ARGUMENT;
        }
        int first = now.ticksUntilOver(0, sector);
        int second = now.ticksUntilOver(1, sector);
        if (what == 0) {
            return first < second ? 0 : 1;
        }
        return Math.min(first, second);
    }

    public int doneIn(int order) {
        if (!now.hasOrder(order)) {
            return INVALID_ARGUMENT;
        }
        if (now.statusOf(order) == Plates.DONE) {
            return 0;
        }
        if (now.statusOf(order) == Plates.LOST) {
            return NONE;
        }
        forecast.become(now);
        for (int ticks = 1; ticks <= FORECAST_TICKS; ticks++) {
            forecast.doTick();
            if (forecast.statusOf(order) == Plates.DONE) {
                return ticks;
            }
        }
        return NONE;
    }

    public int idleIn() {
        if (!now.hasWork()) {
            return 0;
        }
        forecast.become(now);
        for (int ticks = 1; ticks <= FORECAST_TICKS; ticks++) {
            forecast.doTick();
            if (!forecast.hasWork()) {
                return ticks;
            }
        }
        return NONE;
    }

    public int wouldWipe() {
        forecast.become(now);
        forecast.cutPower();
        forecast.repairBlocks();
        return forecast.wiped() - now.wiped();
    }

    /** Keeps the noted state if the action succeeded; a refused one left all as it was. */
    private int settle(int answer) {
        if (answer >= 0) {
            history.keepNoted();
        }
        return answer;
    }

    private int perform(int letter) {
        int first = program.numberBehind(letter, 0);
        int second = program.numberBehind(letter, 1);
        int third = program.numberBehind(letter, 2);
        switch (program.signAt(letter)) {
            case 'r': return now.takeRead(first, second);
            case 'w': return now.takeWrite(first, second, third);
            case 't': return now.letPass(first);
            default: return now.cutPower();
        }
    }

    /** One state: all but the text and the history. */
    private static final class Plates {
        static final int SIDES = 2;
        static final int TRACKS = 4;
        static final int SECTORS = 12;
        static final int BLOCKS = TRACKS * SECTORS;
        static final int HALF_TURN = 6;
        static final int MOST_ORDERS = 60;
        static final int MOST_WAITING = 20;
        static final int GREATEST_VALUE = 999;
        static final int MOST_TICKS_AT_ONCE = 200;
        static final int LAST_TICK = 20000;
        static final int SWEEP_TICKS = 48;

        // The properties of a copy, numbered as copy() asks for them.
        static final int VALUE = 0;
        static final int VERSION = 1;
        static final int TORN = 2;
        static final int LATE = 3;
        static final int COPY_SIZE = 4;

        // The properties of an order, numbered as order() asks for them.
        static final int KIND = 0;
        static final int TRACK = 1;
        static final int SECTOR = 2;
        static final int STATUS = 3;
        static final int CAME_AT = 4;
        static final int DONE_AT = 5;
        static final int DONE_BY = 6;
        static final int WORTH = 7;
        static final int ORDER_SIZE = 8;

        static final int READ = 0;
        static final int WRITE = 1;

        static final int WAITING = 0;
        static final int DONE = 1;
        static final int LOST = 2;

        static final int NOTHING = -1;

        private final int[] copies = new int[SIDES * BLOCKS * COPY_SIZE];
        private final int[] orders = new int[MOST_ORDERS * ORDER_SIZE];
        // The copy that each head wrote in the tick before, for a power cut to tear.
        private final int[] written = new int[SIDES];
        // Kept beside the orders and copies so that a tick need not search them all:
        // the waiting orders of each block, and these and the late copies of each track.
        private final int[] waitingForBlock = new int[BLOCKS];
        private final int[] workOnTrack = new int[TRACKS];
        private int tick;
        private int arm;
        private int taken;
        private int waiting;
        private int wiped;
        private int moves;

        Plates() {
            forgetWritten();
        }

        void become(Plates other) {
            System.arraycopy(other.copies, 0, copies, 0, copies.length);
            System.arraycopy(other.orders, 0, orders, 0, orders.length);
            System.arraycopy(other.written, 0, written, 0, written.length);
            System.arraycopy(other.waitingForBlock, 0, waitingForBlock, 0, waitingForBlock.length);
            System.arraycopy(other.workOnTrack, 0, workOnTrack, 0, workOnTrack.length);
            tick = other.tick;
            arm = other.arm;
            taken = other.taken;
            waiting = other.waiting;
            wiped = other.wiped;
            moves = other.moves;
        }

        static boolean isBlock(int track, int sector) {
            return track >= 0 && track < TRACKS && sector >= 0 && sector < SECTORS;
        }

        static int blockAt(int track, int sector) {
            return track * SECTORS + sector;
        }

        // ---- looking

        int tick() {
            return tick;
        }

        int arm() {
            return arm;
        }

        int taken() {
            return taken;
        }

        int wiped() {
            return wiped;
        }

        int moves() {
            return moves;
        }

        int sectorUnder(int side) {
            return Math.floorMod(tick + side * HALF_TURN, SECTORS);
        }

        int ticksUntilOver(int side, int sector) {
            return Math.floorMod(sector - sectorUnder(side), SECTORS);
        }

        boolean hasOrder(int order) {
            return order >= 0 && order < taken;
        }

        int ofOrder(int order, int property) {
            return orders[order * ORDER_SIZE + property];
        }

        int statusOf(int order) {
            return ofOrder(order, STATUS);
        }

        int ofCopy(int side, int track, int sector, int property) {
            return copies[cellOf(side, blockAt(track, sector)) + property];
        }

        int countOrders(int status) {
            int found = 0;
            for (int order = 0; order < taken; order++) {
                if (statusOf(order) == status) {
                    found++;
                }
            }
            return found;
        }

        int countCopies(int property) {
            int found = 0;
            for (int block = 0; block < BLOCKS; block++) {
                found += copies[cellOf(0, block) + property] + copies[cellOf(1, block) + property];
            }
            return found;
        }

        int countUnlikeBlocks() {
            int found = 0;
            for (int block = 0; block < BLOCKS; block++) {
                int first = cellOf(0, block);
                int second = cellOf(1, block);
                if (copies[first + VALUE] != copies[second + VALUE]
                        || copies[first + VERSION] != copies[second + VERSION]) {
                    found++;
                }
            }
            return found;
        }

        int waitOf(int order) {
            return ofOrder(order, DONE_AT) - ofOrder(order, CAME_AT);
        }

        int sumOfWaits() {
            int sum = 0;
            for (int order = 0; order < taken; order++) {
                if (statusOf(order) == DONE) {
                    sum += waitOf(order);
                }
            }
            return sum;
        }

        /** The first of the done orders that waited longest, or NONE. */
        int longestWaiter() {
            int longest = NONE;
            for (int order = 0; order < taken; order++) {
                if (statusOf(order) == DONE && (longest == NONE || waitOf(order) > waitOf(longest))) {
                    longest = order;
                }
            }
            return longest;
        }

        boolean hasWork() {
            for (int track = 0; track < TRACKS; track++) {
                if (workOnTrack[track] > 0) {
                    return true;
                }
            }
            return false;
        }

        // ---- orders

        int takeRead(int track, int sector) {
            if (!isBlock(track, sector)) {
                return INVALID_ARGUMENT;
            }
            return takeOrder(READ, track, sector, NONE);
        }

        int takeWrite(int track, int sector, int value) {
            if (!isBlock(track, sector) || value < 0 || value > GREATEST_VALUE) {
                return INVALID_ARGUMENT;
            }
            return takeOrder(WRITE, track, sector, value);
        }

        private int takeOrder(int kind, int track, int sector, int worth) {
            if (taken >= MOST_ORDERS || waiting >= MOST_WAITING) {
                return CAPACITY_EXCEEDED;
            }
            int cell = taken * ORDER_SIZE;
            orders[cell + KIND] = kind;
            orders[cell + TRACK] = track;
            orders[cell + SECTOR] = sector;
            orders[cell + STATUS] = WAITING;
            orders[cell + CAME_AT] = tick;
            orders[cell + DONE_AT] = NONE;
            orders[cell + DONE_BY] = NONE;
            orders[cell + WORTH] = worth;
            waiting++;
            waitingForBlock[blockAt(track, sector)]++;
            workOnTrack[track]++;
            return taken++;
        }

        private void finish(int order, int side, int worth) {
            int cell = order * ORDER_SIZE;
            orders[cell + STATUS] = DONE;
            orders[cell + DONE_AT] = tick;
            orders[cell + DONE_BY] = side;
            orders[cell + WORTH] = worth;
            waiting--;
            waitingForBlock[orders[cell + TRACK] * SECTORS + orders[cell + SECTOR]]--;
            workOnTrack[orders[cell + TRACK]]--;
        }

        private int firstWaiting(int kind, int track, int sector) {
            for (int order = 0; order < taken; order++) {
                int cell = order * ORDER_SIZE;
                if (orders[cell + STATUS] == WAITING && orders[cell + KIND] == kind
                        && orders[cell + TRACK] == track && orders[cell + SECTOR] == sector) {
                    return order;
                }
            }
            return NONE;
        }

        // ---- time

        int letPass(int ticks) {
            if (ticks < 1 || ticks > MOST_TICKS_AT_ONCE) {
                return INVALID_ARGUMENT;
            }
            if (tick + ticks > LAST_TICK) {
                return ILLEGAL_STATE;
            }
            int waitingBefore = waiting;
            for (int passed = 0; passed < ticks; passed++) {
                doTick();
            }
            return waitingBefore - waiting;
        }

        void doTick() {
            forgetWritten();
            if (workOnTrack[arm] > 0) {
                useHead(0);
                useHead(1);
            } else {
                moveArm();
            }
            tick++;
        }

        private void moveArm() {
            for (int distance = 1; distance < TRACKS; distance++) {
                if (arm - distance >= 0 && workOnTrack[arm - distance] > 0) {
                    arm--;
                    moves++;
                    return;
                }
                if (arm + distance < TRACKS && workOnTrack[arm + distance] > 0) {
                    arm++;
                    moves++;
                    return;
                }
            }
        }

        private void useHead(int side) {
            int sector = sectorUnder(side);
            int block = blockAt(arm, sector);
            int here = cellOf(side, block);
            int there = cellOf(1 - side, block);
            if (copies[here + LATE] != 0 && copies[there + TORN] == 0) {
                takeOver(here, there);
                setLate(here, 0);
                written[side] = here;
                return;
            }
            if (waitingForBlock[block] == 0) {
                return;
            }
            int write = firstWaiting(WRITE, arm, sector);
            if (write != NONE) {
                doWrite(write, side, here, there);
                return;
            }
            int read = firstWaiting(READ, arm, sector);
            if (read != NONE && copies[here + LATE] == 0 && copies[here + TORN] == 0) {
                finish(read, side, copies[here + VALUE]);
            }
        }

        private void doWrite(int write, int side, int here, int there) {
            int value = ofOrder(write, WORTH);
            int version = Math.max(copies[here + VERSION], copies[there + VERSION]) + 1;
            setWhole(here, value, version);
            setLate(here, 0);
            setLate(there, 1);
            written[side] = here;
            finish(write, side, value);
        }

        // ---- copies, each named by the cell where its properties begin

        private static int cellOf(int side, int block) {
            return (side * BLOCKS + block) * COPY_SIZE;
        }

        private void takeOver(int cell, int other) {
            setWhole(cell, copies[other + VALUE], copies[other + VERSION]);
        }

        private void setWhole(int cell, int value, int version) {
            copies[cell + VALUE] = value;
            copies[cell + VERSION] = version;
            copies[cell + TORN] = 0;
        }

        /** Only for a copy on the track of the arm: heads change no other ones. */
        private void setLate(int cell, int late) {
            workOnTrack[arm] += late - copies[cell + LATE];
            copies[cell + LATE] = late;
        }

        private void forgetWritten() {
            for (int side = 0; side < SIDES; side++) {
                written[side] = NOTHING;
            }
        }

        // ---- power cuts and sweeps

        int cutPower() {
            int torn = 0;
            for (int side = 0; side < SIDES; side++) {
                int cell = written[side];
                if (cell != NOTHING && copies[cell + TORN] == 0) {
                    copies[cell + TORN] = 1;
                    torn++;
                }
            }
            dropWork();
            return torn;
        }

        private void dropWork() {
            for (int order = 0; order < taken; order++) {
                if (statusOf(order) == WAITING) {
                    orders[order * ORDER_SIZE + STATUS] = LOST;
                }
            }
            waiting = 0;
            for (int block = 0; block < BLOCKS; block++) {
                copies[cellOf(0, block) + LATE] = 0;
                copies[cellOf(1, block) + LATE] = 0;
                waitingForBlock[block] = 0;
            }
            for (int track = 0; track < TRACKS; track++) {
                workOnTrack[track] = 0;
            }
        }

        int sweepBlocks() {
            if (hasWork() || tick + SWEEP_TICKS > LAST_TICK) {
                return ILLEGAL_STATE;
            }
            return repairBlocks();
        }

        /** A sweep that the tick doesn't bound. */
        int repairBlocks() {
            int repaired = 0;
            for (int block = 0; block < BLOCKS; block++) {
                repaired += repair(cellOf(0, block), cellOf(1, block));
            }
            // What was written by heads is no longer of the tick before.
            forgetWritten();
            tick += SWEEP_TICKS;
            arm = TRACKS - 1;
            return repaired;
        }

        /** Makes both copies of a block alike; tells how many took a value from the other. */
        private int repair(int first, int second) {
            boolean firstTorn = copies[first + TORN] != 0;
            boolean secondTorn = copies[second + TORN] != 0;
            if (firstTorn && secondTorn) {
                setWhole(first, 0, 0);
                setWhole(second, 0, 0);
                wiped++;
                return 0;
            }
            boolean noneTorn = !firstTorn && !secondTorn;
            int newer = copies[first + VERSION] - copies[second + VERSION];
            if (firstTorn || noneTorn && newer < 0) {
                takeOver(first, second);
                return 1;
            }
            if (secondTorn || noneTorn && newer > 0) {
                takeOver(second, first);
                return 1;
            }
            return 0;
        }
    }

    /** The latest states, and behind them the noted one, which may become a further one. */
    private static final class History {
        static final int MOST_STATES = 5;
        static final int SLOTS = MOST_STATES + 1;

        private final Plates[] slots = new Plates[SLOTS];
        private int oldest;
        private int size;

        History() {
            for (int slot = 0; slot < SLOTS; slot++) {
                slots[slot] = new Plates();
            }
        }

        int size() {
            return size;
        }

        void note(Plates state) {
            noted().become(state);
        }

        void keepNoted() {
            if (size < MOST_STATES) {
                size++;
            } else {
                oldest = Math.floorMod(oldest + 1, SLOTS);
            }
        }

        void restoreNoted(Plates state) {
            state.become(noted());
        }

        /** The latest state is the noted one then, and can still be restored. */
        void dropLatest() {
            if (size > 0) {
                size--;
            }
        }

        private Plates noted() {
            return slots[Math.floorMod(oldest + size, SLOTS)];
        }
    }

    /** The text, and the acts that it makes as a program: its steps, groups repeated. */
    private static final class Program {
        static final int MOST_SIGNS = 80;
        static final int MOST_STEPS = 100;
        static final int DEEPEST_GROUP = 3;
        static final int MOST_NUMBERS = 3;
        static final int MOST_DIGITS = 3;
        static final int END = 0;

        private final int[] text = new int[MOST_SIGNS];
        private int length;
        // The numbers behind the letter of an act, by the place of the letter.
        private final int[] numbers = new int[MOST_SIGNS * MOST_NUMBERS];
        // The places of the letters in the order of running; one step more than
        // may be run is kept, as the program fails there.
        private final int[] letters = new int[MOST_STEPS + 1];
        private int steps;
        private final int[] groupTimes = new int[DEEPEST_GROUP];
        private final int[] groupStart = new int[DEEPEST_GROUP];
        private int depth;
        private int place;

        int length() {
            return length;
        }

        boolean isFull() {
            return length >= MOST_SIGNS;
        }

        void addSign(int sign) {
            if (!isFull()) {
                text[length] = sign;
                length++;
            }
        }

        void makeEmpty() {
            length = 0;
        }

        int signAt(int position) {
            return position >= 0 && position < length ? text[position] : END;
        }

        int steps() {
            return steps;
        }

        boolean hasTooManySteps() {
            return steps > MOST_STEPS;
        }

        int letterOfStep(int step) {
            return step >= 0 && step < steps ? letters[step] : 0;
        }

        int numberBehind(int letter, int index) {
            return numbers[letter * MOST_NUMBERS + index];
        }

        /** Where the reading of the text stopped. */
        int place() {
            return place;
        }

        /** Reads the whole text; where it isn't understood, the place stands. */
        boolean isUnderstood() {
            place = 0;
            steps = 0;
            depth = 0;
            for (int piece = 0; piece < MOST_SIGNS && place < length; piece++) {
                if (!readPiece()) {
                    return false;
                }
            }
            return depth == 0;
        }

        private boolean readPiece() {
            int sign = signAt(place);
            if (sign == '(' || sign >= '2' && sign <= '9') {
                return openGroup();
            }
            if (sign == ')') {
                return closeGroup();
            }
            return readAct();
        }

        private boolean openGroup() {
            int times = 1;
            if (signAt(place) != '(') {
                times = signAt(place) - '0';
                place++;
            }
            if (signAt(place) != '(' || depth >= DEEPEST_GROUP) {
                return false;
            }
            groupTimes[depth] = times;
            groupStart[depth] = steps;
            depth++;
            place++;
            return true;
        }

        private boolean closeGroup() {
            if (depth == 0) {
                return false;
            }
            depth--;
            int start = groupStart[depth];
            int end = steps;
            for (int turn = 1; turn < groupTimes[depth]; turn++) {
                for (int step = start; step < end; step++) {
                    addStep(letters[step]);
                }
            }
            place++;
            return true;
        }

        /**
         * Beyond its room a step is dropped. What is kept is still the beginning of
         * the run, as a group that is open is run a first time before it is repeated.
         */
        private void addStep(int letter) {
            if (steps < letters.length) {
                letters[steps] = letter;
                steps++;
            }
        }

        private boolean readAct() {
            int letter = place;
            switch (signAt(letter)) {
                case 'r':
                    place++;
                    addStep(letter);
                    return readNumber(letter, 0, ',') && readNumber(letter, 1, ';');
                case 'w':
                    place++;
                    addStep(letter);
                    return readNumber(letter, 0, ',') && readNumber(letter, 1, '=')
                            && readNumber(letter, 2, ';');
                case 't':
                    place++;
                    addStep(letter);
                    return readNumber(letter, 0, ';');
                case 'x':
                    place++;
                    addStep(letter);
                    return readSign(';');
                default:
                    return false;
            }
        }

        private boolean readSign(int sign) {
            if (signAt(place) != sign) {
                return false;
            }
            place++;
            return true;
        }

        /** A digit too many is refused as a sign other than the one that must follow. */
        private boolean readNumber(int letter, int index, int signBehind) {
            int number = 0;
            int digits = 0;
            while (digits < MOST_DIGITS && isDigit(signAt(place)) && (digits == 0 || number > 0)) {
                number = number * 10 + signAt(place) - '0';
                digits++;
                place++;
            }
            numbers[letter * MOST_NUMBERS + index] = number;
            return digits > 0 && readSign(signBehind);
        }

        private static boolean isDigit(int sign) {
            return sign >= '0' && sign <= '9';
        }
    }
}
