/** Interrupts that nest: one processor, its sources, and what became of them so far. */
public final class NestedBells {
    public static final int NONE = -1;

    private static final int MOST_SOURCES = 12;
    private static final int MOST_SECTIONS = 2;
    private static final int MOST_EVENTS = 20;
    private static final int MOST_SAVED = 4;
    private static final int MOST_NUMBERS = 4;
    private static final int MOST_DIGITS = 3;
    private static final int LONGEST_TEXT = 150;
    private static final int GREATEST_BYTE = 127;

    private static final int GREATEST_PRIORITY = 15;
    private static final int LONGEST_HANDLER = 500;
    private static final int LATEST_FIRST_TICK = 499;
    private static final int LONGEST_WAIT = 999;
    private static final int LONGEST_PERIOD = 1000;
    private static final int LONGEST_RUN = 500;
    private static final int LONGEST_FORECAST = 1000;
    private static final int GREATEST_COST = 50;

    // The kinds of sources.
    private static final int EDGE = 0;
    private static final int LINE = 1;

    // The kinds of changes.
    private static final int NO_CHANGE = 0;
    private static final int ENTRY = 1;
    private static final int EXIT = 2;
    private static final int TAIL = 3;

    // The settings.
    private static final int MASK = 0;
    private static final int ENTRY_COST = 1;
    private static final int EXIT_COST = 2;
    private static final int TAIL_COST = 3;
    private static final int SETTINGS = 4;

    // The accounts.
    private static final int MAIN_TICKS = 0;
    private static final int HANDLER_TICKS = 1;
    private static final int CHANGE_TICKS = 2;
    private static final int LATE_ARRIVALS = 3;
    private static final int TAILS = 4;
    private static final int PREEMPTIONS = 5;
    private static final int SPURIOUS_ENTRIES = 6;
    private static final int EDGES_LOST = 7;
    private static final int GREATEST_DEPTH = 8;
    private static final int LATENCY_SUM = 9;
    private static final int ACCOUNTS = 10;

    // The kinds of events in the log.
    private static final int CAME_ON_TOP = 1;
    private static final int WENT_OFF = 2;
    private static final int LOST = 3;
    private static final int LATE_ARRIVAL = 4;
    private static final int TAIL_BEGAN = 5;
    private static final int PREEMPTED = 6;
    private static final int SPURIOUS = 7;

    // How many values the calls source, section, processor and log know.
    private static final int SOURCE_VALUES = 17;
    private static final int SECTION_VALUES = 4;
    private static final int PROCESSOR_VALUES = 12;
    private static final int EVENT_VALUES = 3;

    // Answers of refused calls: minus the number that stop() tells for them.
    private static final int NO_SUCH = -1;
    private static final int OUT_OF_RANGE = -2;
    private static final int WRONG_STATE = -3;

    private final Machine now = new Machine();
    private final Machine ahead = new Machine();
    private final History history = new History();
    private final CommandText text = new CommandText();
    private int whyStopped = 0;

    public NestedBells() {
    }

    // ---- sources

    public int addSource(int priority, int kind, int length)
            throws IllegalArgumentException, IllegalStateException {
        history.prepare(now);
        return settle(now.makeSource(priority, kind, length));
    }

    public int setSource(int source, int what, int value)
            throws IndexOutOfBoundsException, IllegalArgumentException, IllegalStateException {
        history.prepare(now);
        return settle(now.changeSource(source, what, value));
    }

    public int addSection(int source, int first, int length, int ceiling)
            throws IndexOutOfBoundsException, IllegalArgumentException, IllegalStateException {
        history.prepare(now);
        return settle(now.makeSection(source, first, length, ceiling));
    }

    public int clearSections(int source) throws IndexOutOfBoundsException, IllegalStateException {
        history.prepare(now);
        return settle(now.dropSections(source));
    }

    public int setTimer(int source, int wait, int period)
            throws IndexOutOfBoundsException, IllegalArgumentException, IllegalStateException {
        history.prepare(now);
        return settle(now.changeTimer(source, wait, period));
    }

    public int raise(int source) throws IndexOutOfBoundsException, IllegalStateException {
        history.prepare(now);
        return settle(now.raiseSource(source));
    }

    public int setLine(int source, boolean up) throws IndexOutOfBoundsException, IllegalStateException {
        history.prepare(now);
        return settle(now.changeLine(source, up));
    }

    // ---- processor

    public int set(int what, int value) throws IllegalArgumentException {
        history.prepare(now);
        return settle(now.changeSetting(what, value));
    }

    public int run(int ticks) throws IllegalArgumentException {
        history.prepare(now);
        return settle(now.spendTicks(ticks));
    }

    // ---- values

    public int source(int source, int what) throws IndexOutOfBoundsException, IllegalArgumentException {
        requireSource(source);
        requireArgument(isWithin(what, 0, SOURCE_VALUES - 1));
        return now.sourceValue(source, what);
    }

    public int section(int source, int section, int what)
            throws IndexOutOfBoundsException, IllegalArgumentException {
        if (!isWithin(section, 0, now.sectionsOf(source) - 1)) {
            throw new IndexOutOfBoundsException("no such source or section");
        }
        requireArgument(isWithin(what, 0, SECTION_VALUES - 1));
        return now.sectionValue(source, section, what);
    }

    public int stack(int place) throws IllegalArgumentException {
        requireArgument(place >= 0);
        return now.stackedAt(place);
    }

    public int processor(int what) throws IllegalArgumentException {
        requireArgument(isWithin(what, 0, PROCESSOR_VALUES - 1));
        return now.processorValue(what);
    }

    public int account(int what) throws IllegalArgumentException {
        requireArgument(isWithin(what, 0, ACCOUNTS - 1));
        return now.accountValue(what);
    }

    public int log(int event, int what) throws IllegalArgumentException {
        requireArgument(event >= 0 && isWithin(what, 0, EVENT_VALUES - 1));
        return now.events.value(event, what);
    }

    // ---- forecasts, which change nothing

    public int entersAfter(int source, int most) throws IndexOutOfBoundsException, IllegalArgumentException {
        requireSource(source);
        requireArgument(isWithin(most, 0, LONGEST_FORECAST));
        ahead.copyFrom(now);
        return ahead.spendUntilOnTop(source, most);
    }

    public int idleAfter(int most) throws IllegalArgumentException {
        requireArgument(isWithin(most, 0, LONGEST_FORECAST));
        ahead.copyFrom(now);
        return ahead.spendUntilIdle(most);
    }

    public int latencyIf(int source, int most) throws IndexOutOfBoundsException, IllegalArgumentException {
        requireSource(source);
        requireArgument(isWithin(most, 0, LONGEST_FORECAST));
        ahead.copyFrom(now);
        ahead.makePending(source);
        if (ahead.spendUntilOnTop(source, most) == NONE) {
            return NONE;
        }
        return ahead.latestLatency(source);
    }

    public int blocking(int source) throws IndexOutOfBoundsException {
        requireSource(source);
        return now.longestBlocking(source);
    }

    // ---- command text, undo and checksum

    public int type(int value) throws IllegalArgumentException, IllegalStateException {
        requireArgument(isWithin(value, 0, GREATEST_BYTE));
        if (!text.append(value)) {
            throw new IllegalStateException("the command text is full");
        }
        return text.length;
    }

    public int clearCommands() {
        return text.empty();
    }

    public int runCommands() {
        int fault = text.findFault();
        if (fault != NONE) {
            return -10 - fault;
        }
        history.prepare(now);
        whyStopped = 0;
        text.rewind();
        int done = 0;
        for (int read = 0; read < LONGEST_TEXT && whyStopped == 0 && text.readCommand(); read++) {
            int answer = carryOut(text.command, text.numbers);
            if (answer < 0) {
                whyStopped = -answer;
            } else {
                done++;
            }
        }
        history.keep();
        return done;
    }

    public int stop() {
        return whyStopped;
    }

    public int undo() throws IllegalStateException {
        if (!history.restore(now)) {
            throw new IllegalStateException("nothing to undo");
        }
        return history.count;
    }

    public long digest() {
        long h = 43211;
        h = 31 * h + history.count;
        h = 31 * h + text.length;
        h = 31 * h + whyStopped;
        for (int what = 0; what < PROCESSOR_VALUES; what++) {
            h = 31 * h + now.processorValue(what);
        }
        for (int what = 0; what < ACCOUNTS; what++) {
            h = 31 * h + now.accountValue(what);
        }
        for (int number = 0; number < now.sourceCount; number++) {
            h = addSourceTo(h, number);
        }
        for (int place = 0; place < now.depth; place++) {
            h = 31 * h + now.stackedAt(place);
        }
        for (int event = 0; event < now.events.count; event++) {
            for (int what = 0; what < EVENT_VALUES; what++) {
                h = 31 * h + now.events.value(event, what);
            }
        }
        return h;
    }

    private long addSourceTo(long hash, int number) {
        long h = hash;
        for (int what = 0; what < SOURCE_VALUES; what++) {
            h = 31 * h + now.sourceValue(number, what);
        }
        for (int section = 0; section < now.sectionsOf(number); section++) {
            for (int what = 0; what < SECTION_VALUES; what++) {
                h = 31 * h + now.sectionValue(number, section, what);
            }
        }
        return h;
    }

    /** Ends an undoable call: throws what a refusal stands for, or keeps the prepared state. */
    private int settle(int answer) {
        if (answer == NO_SUCH) {
            throw new IndexOutOfBoundsException("no such source");
        }
        if (answer == OUT_OF_RANGE) {
            throw new IllegalArgumentException("an argument is out of range");
        }
        if (answer == WRONG_STATE) {
            throw new IllegalStateException("not possible in this state");
        }
        history.keep();
        return answer;
    }

    private void requireSource(int number) {
        if (now.find(number) == null) {
            throw new IndexOutOfBoundsException("no such source");
        }
    }

    private static void requireArgument(boolean fits) {
        if (!fits) {
            throw new IllegalArgumentException("an argument is out of range");
        }
    }

    private static boolean isWithin(int value, int least, int greatest) {
        return value >= least && value <= greatest;
    }

    private int carryOut(Command command, int[] numbers) {
        switch (command) {
            case ADD_EDGE:
                return now.makeSource(numbers[0], EDGE, numbers[1]);
            case ADD_LINE:
                return now.makeSource(numbers[0], LINE, numbers[1]);
            case ADD_SECTION:
                return now.makeSection(numbers[0], numbers[1], numbers[2], numbers[3]);
            case SET_TIMER:
                return now.changeTimer(numbers[0], numbers[1], numbers[2]);
            case RAISE:
                return now.raiseSource(numbers[0]);
            case LINE_UP:
                return now.changeLine(numbers[0], true);
            case LINE_DOWN:
                return now.changeLine(numbers[0], false);
            case SET:
                return now.changeSetting(numbers[0], numbers[1]);
            default:
                return now.spendTicks(numbers[0]);
        }
    }

    private enum Command {
        ADD_EDGE("edge", 2),
        ADD_LINE("line", 2),
        ADD_SECTION("section", 4),
        SET_TIMER("timer", 3),
        RAISE("raise", 1),
        LINE_UP("up", 1),
        LINE_DOWN("down", 1),
        SET("set", 2),
        RUN("run", 1);

        final String word;
        final int numberCount;

        Command(String word, int numberCount) {
            this.word = word;
            this.numberCount = numberCount;
        }
    }

    /** The command text, and a reader that goes through it command by command. */
    private static final class CommandText {
        private static final Command[] COMMANDS = Command.values();
        private static final int SPACE = 32;

        final byte[] bytes = new byte[LONGEST_TEXT];
        int length = 0;

        int at = 0;
        int fault = NONE;
        Command command = Command.RUN;
        final int[] numbers = new int[MOST_NUMBERS];

        boolean append(int value) {
            if (length >= LONGEST_TEXT) {
                return false;
            }
            bytes[length] = (byte) value;
            length++;
            return true;
        }

        int empty() {
            int before = length;
            length = 0;
            return before;
        }

        int findFault() {
            rewind();
            boolean more = true;
            for (int read = 0; more && read < LONGEST_TEXT; read++) {
                more = readCommand();
            }
            return fault;
        }

        void rewind() {
            at = 0;
            fault = NONE;
        }

        /** Reads the next command; there is none at the end of the text and where a fault is. */
        boolean readCommand() {
            skipSpaces();
            if (at >= length || !readWord()) {
                return false;
            }
            for (int i = 0; i < command.numberCount; i++) {
                if (!readNumber(i)) {
                    return false;
                }
            }
            skipSpaces();
            if (byteHere() != ';') {
                fault = at;
                return false;
            }
            at++;
            return true;
        }

        private boolean readWord() {
            int start = at;
            while (at < length && bytes[at] >= 'a' && bytes[at] <= 'z') {
                at++;
            }
            for (int i = 0; i < COMMANDS.length; i++) {
                if (isWord(COMMANDS[i].word, start)) {
                    command = COMMANDS[i];
                    return true;
                }
            }
            fault = start;
            return false;
        }

        /** Whether the bytes from start to the place of the reader are this word. */
        private boolean isWord(String word, int start) {
            if (word.length() != at - start) {
                return false;
            }
            for (int i = 0; i < word.length(); i++) {
                if (bytes[start + i] != word.charAt(i)) {
                    return false;
                }
            }
            return true;
        }

        /** Reads spaces and a number; a digit too many is left for what is read next to refuse. */
        private boolean readNumber(int place) {
            int start = at;
            skipSpaces();
            if (at == start || !isDigitHere() || place >= MOST_NUMBERS) {
                fault = at;
                return false;
            }
            int value = 0;
            for (int digits = 0; digits < MOST_DIGITS && isDigitHere(); digits++) {
                value = 10 * value + byteHere() - '0';
                at++;
            }
            numbers[place] = value;
            return true;
        }

        private void skipSpaces() {
            while (at < length && bytes[at] == SPACE) {
                at++;
            }
        }

        private boolean isDigitHere() {
            return byteHere() >= '0' && byteHere() <= '9';
        }

        /** The byte at the place of the reader, NONE at the end of the text. */
        private int byteHere() {
            return at < length ? bytes[at] : NONE;
        }
    }

    /** The saved states, in a ring with one row more than are kept: the one that is prepared. */
    private static final class History {
        private static final int ROWS = MOST_SAVED + 1;

        final Machine[] rows = new Machine[ROWS];
        int next = 0;
        int count = 0;

        History() {
            for (int i = 0; i < ROWS; i++) {
                rows[i] = new Machine();
            }
        }

        /** Notes the state from before a call, which may still be refused. */
        void prepare(Machine machine) {
            rows[next].copyFrom(machine);
        }

        /** Saves the prepared state, in place of the oldest one if there are too many. */
        void keep() {
            next = (next + 1) % ROWS;
            if (count < MOST_SAVED) {
                count++;
            }
        }

        boolean restore(Machine machine) {
            if (count == 0) {
                return false;
            }
            next = (next + ROWS - 1) % ROWS;
            count--;
            machine.copyFrom(rows[next]);
            return true;
        }
    }

    /** The latest events, in a ring. */
    private static final class EventLog {
        final int[] kinds = new int[MOST_EVENTS];
        final int[] sources = new int[MOST_EVENTS];
        final int[] times = new int[MOST_EVENTS];
        int next = 0;
        int count = 0;

        void copyFrom(EventLog other) {
            System.arraycopy(other.kinds, 0, kinds, 0, MOST_EVENTS);
            System.arraycopy(other.sources, 0, sources, 0, MOST_EVENTS);
            System.arraycopy(other.times, 0, times, 0, MOST_EVENTS);
            next = other.next;
            count = other.count;
        }

        void add(int kind, int source, int time) {
            kinds[next] = kind;
            sources[next] = source;
            times[next] = time;
            next = (next + 1) % MOST_EVENTS;
            if (count < MOST_EVENTS) {
                count++;
            }
        }

        int value(int event, int what) {
            if (event < 0 || event >= count) {
                return NONE;
            }
            int row = (next + MOST_EVENTS - 1 - event) % MOST_EVENTS;
            switch (what) {
                case 0:
                    return kinds[row];
                case 1:
                    return sources[row];
                default:
                    return times[row];
            }
        }
    }

    private static final class Section {
        int first = 0;
        int length = 0;
        int ceiling = 0;

        void copyFrom(Section other) {
            first = other.first;
            length = other.length;
            ceiling = other.ceiling;
        }

        boolean holds(int ticksRun) {
            return ticksRun >= first && ticksRun < first + length;
        }

        /** Its ticks that a handler of this length reaches. */
        int ticksWithin(int handlerLength) {
            return Math.max(0, Math.min(first + length, handlerLength) - first);
        }
    }

    private static final class Source {
        int priority = 0;
        int kind = EDGE;
        int length = 0;
        boolean enabled = true;
        boolean raised = false;
        boolean up = false;
        int since = 0;
        int place = NONE;
        int ticksRun = 0;
        int cameOn = 0;
        int wentOff = 0;
        int lost = 0;
        int latestLatency = NONE;
        int greatestLatency = NONE;
        int preempted = 0;
        int ticksInAll = 0;
        int timerTime = 0;
        int timerPeriod = 0;
        int sectionCount = 0;
        final Section[] sections = new Section[MOST_SECTIONS];

        Source() {
            for (int i = 0; i < MOST_SECTIONS; i++) {
                sections[i] = new Section();
            }
        }

        void copyFrom(Source other) {
            priority = other.priority;
            kind = other.kind;
            length = other.length;
            enabled = other.enabled;
            raised = other.raised;
            up = other.up;
            since = other.since;
            place = other.place;
            ticksRun = other.ticksRun;
            cameOn = other.cameOn;
            wentOff = other.wentOff;
            lost = other.lost;
            latestLatency = other.latestLatency;
            greatestLatency = other.greatestLatency;
            preempted = other.preempted;
            ticksInAll = other.ticksInAll;
            timerTime = other.timerTime;
            timerPeriod = other.timerPeriod;
            sectionCount = other.sectionCount;
            for (int i = 0; i < MOST_SECTIONS; i++) {
                sections[i].copyFrom(other.sections[i]);
            }
        }

        boolean isStacked() {
            return place != NONE;
        }

        boolean isPending() {
            return kind == EDGE ? raised : up && !isStacked();
        }

        /** Comes on the stack; tells the latency. */
        int comeOn(int stackPlace, int time) {
            place = stackPlace;
            ticksRun = 0;
            raised = false;
            cameOn++;
            latestLatency = time - since;
            if (latestLatency > greatestLatency) {
                greatestLatency = latestLatency;
            }
            return latestLatency;
        }

        /** Goes off the stack; a line that is up makes the source pending anew. */
        void goOff(int time) {
            place = NONE;
            ticksRun = 0;
            wentOff++;
            if (kind == LINE && up) {
                since = time;
            }
        }
    }

    /** The whole state but the command text and the stop: what a saved state and a forecast copy. */
    private static final class Machine {
        int time = 0;
        final int[] settings = new int[SETTINGS];
        final int[] accounts = new int[ACCOUNTS];
        final Source[] sources = new Source[MOST_SOURCES];
        int sourceCount = 0;
        final int[] stacked = new int[MOST_SOURCES];
        int depth = 0;
        int change = NO_CHANGE;
        int entered = NONE;
        int ticksLeft = 0;
        final EventLog events = new EventLog();

        Machine() {
            settings[ENTRY_COST] = 12;
            settings[EXIT_COST] = 10;
            settings[TAIL_COST] = 6;
            for (int i = 0; i < MOST_SOURCES; i++) {
                sources[i] = new Source();
            }
        }

        void copyFrom(Machine other) {
            time = other.time;
            System.arraycopy(other.settings, 0, settings, 0, SETTINGS);
            System.arraycopy(other.accounts, 0, accounts, 0, ACCOUNTS);
            for (int i = 0; i < MOST_SOURCES; i++) {
                sources[i].copyFrom(other.sources[i]);
            }
            sourceCount = other.sourceCount;
            System.arraycopy(other.stacked, 0, stacked, 0, MOST_SOURCES);
            depth = other.depth;
            change = other.change;
            entered = other.entered;
            ticksLeft = other.ticksLeft;
            events.copyFrom(other.events);
        }

        /** The source with this number, null if there is none. */
        Source find(int number) {
            return number >= 0 && number < sourceCount ? sources[number] : null;
        }

        // ---- calls that may be refused, which then change nothing

        int makeSource(int priority, int kind, int length) {
            if (!isWithin(priority, 1, GREATEST_PRIORITY) || !isWithin(kind, EDGE, LINE)
                    || !isWithin(length, 1, LONGEST_HANDLER)) {
                return OUT_OF_RANGE;
            }
            if (sourceCount >= MOST_SOURCES) {
                return WRONG_STATE;
            }
            // A row behind the count is always as it was made, for an undo copies it back as well.
            Source source = sources[sourceCount];
            source.priority = priority;
            source.kind = kind;
            source.length = length;
            sourceCount++;
            return sourceCount - 1;
        }

        int changeSource(int number, int what, int value) {
            Source source = find(number);
            if (source == null) {
                return NO_SUCH;
            }
            switch (what) {
                case 0:
                    return changePriority(number, source, value);
                case 1:
                    return changeLength(number, source, value);
                case 2:
                    return changeEnabled(source, value);
                default:
                    return OUT_OF_RANGE;
            }
        }

        private int changePriority(int number, Source source, int value) {
            if (!isWithin(value, 1, GREATEST_PRIORITY)) {
                return OUT_OF_RANGE;
            }
            if (source.isStacked() || number == entered) {
                return WRONG_STATE;
            }
            int before = source.priority;
            source.priority = value;
            return before;
        }

        private int changeLength(int number, Source source, int value) {
            if (!isWithin(value, 1, LONGEST_HANDLER)) {
                return OUT_OF_RANGE;
            }
            if (source.isStacked() || number == entered) {
                return WRONG_STATE;
            }
            int before = source.length;
            source.length = value;
            return before;
        }

        private int changeEnabled(Source source, int value) {
            if (!isWithin(value, 0, 1)) {
                return OUT_OF_RANGE;
            }
            int before = source.enabled ? 1 : 0;
            source.enabled = value == 1;
            return before;
        }

        int makeSection(int number, int first, int length, int ceiling) {
            Source source = find(number);
            if (source == null) {
                return NO_SUCH;
            }
            if (!isWithin(first, 0, LATEST_FIRST_TICK) || !isWithin(length, 1, LONGEST_HANDLER)
                    || !isWithin(ceiling, 1, GREATEST_PRIORITY)) {
                return OUT_OF_RANGE;
            }
            if (source.sectionCount >= MOST_SECTIONS || source.isStacked()) {
                return WRONG_STATE;
            }
            Section section = source.sections[source.sectionCount];
            section.first = first;
            section.length = length;
            section.ceiling = ceiling;
            source.sectionCount++;
            return source.sectionCount;
        }

        int dropSections(int number) {
            Source source = find(number);
            if (source == null) {
                return NO_SUCH;
            }
            if (source.isStacked()) {
                return WRONG_STATE;
            }
            int before = source.sectionCount;
            source.sectionCount = 0;
            return before;
        }

        int changeTimer(int number, int wait, int period) {
            Source source = find(number);
            if (source == null) {
                return NO_SUCH;
            }
            if (!isWithin(wait, 0, LONGEST_WAIT) || !isWithin(period, 0, LONGEST_PERIOD)) {
                return OUT_OF_RANGE;
            }
            if (source.kind == LINE) {
                return WRONG_STATE;
            }
            int before = source.timerPeriod;
            source.timerTime = time + wait;
            source.timerPeriod = period;
            return before;
        }

        int raiseSource(int number) {
            Source source = find(number);
            if (source == null) {
                return NO_SUCH;
            }
            return source.kind == EDGE ? receiveEdge(number, source) : WRONG_STATE;
        }

        int changeLine(int number, boolean up) {
            Source source = find(number);
            if (source == null) {
                return NO_SUCH;
            }
            if (source.kind == EDGE) {
                return WRONG_STATE;
            }
            int before = source.up ? 1 : 0;
            if (up && !source.up) {
                source.since = time;
            }
            source.up = up;
            return before;
        }

        int changeSetting(int what, int value) {
            if (!isWithin(what, 0, SETTINGS - 1)
                    || !isWithin(value, 0, what == MASK ? GREATEST_PRIORITY : GREATEST_COST)) {
                return OUT_OF_RANGE;
            }
            int before = settings[what];
            settings[what] = value;
            return before;
        }

        int spendTicks(int ticks) {
            if (!isWithin(ticks, 1, LONGEST_RUN)) {
                return OUT_OF_RANGE;
            }
            int wentOff = 0;
            for (int i = 0; i < ticks; i++) {
                wentOff += tick();
            }
            return wentOff;
        }

        // ---- a tick

        /** Spends one tick; tells how many handlers went off the stack in it. */
        private int tick() {
            ringTimers();
            arrange(candidateAbove(level()));
            if (isEntering() && ticksLeft == 0) {
                bringOnTop(time);
            }
            int wentOff = 0;
            if (change != NO_CHANGE) {
                spendOnChange();
            } else if (depth > 0) {
                wentOff = spendOnHandler();
            } else {
                accounts[MAIN_TICKS]++;
            }
            time++;
            return wentOff;
        }

        private void ringTimers() {
            for (int i = 0; i < sourceCount; i++) {
                Source source = sources[i];
                if (source.timerPeriod > 0 && source.timerTime == time) {
                    receiveEdge(i, source);
                    source.timerTime += source.timerPeriod;
                }
            }
        }

        private int receiveEdge(int number, Source source) {
            if (source.raised) {
                source.lost++;
                accounts[EDGES_LOST]++;
                events.add(LOST, number, time);
                return 0;
            }
            source.raised = true;
            source.since = time;
            return 1;
        }

        /** Lets the candidate of this tick begin a change, take one over, or be missing in one. */
        private void arrange(int candidate) {
            if (isEntering()) {
                if (candidate == NONE) {
                    giveUpEntry();
                } else if (candidate != entered) {
                    takeOver(candidate);
                }
            } else if (candidate != NONE) {
                if (change == EXIT) {
                    beginTail(candidate);
                } else {
                    beginEntry(candidate);
                }
            }
        }

        private void giveUpEntry() {
            accounts[SPURIOUS_ENTRIES]++;
            events.add(SPURIOUS, entered, time);
            beginExit();
        }

        private void takeOver(int candidate) {
            entered = candidate;
            accounts[LATE_ARRIVALS]++;
            events.add(LATE_ARRIVAL, candidate, time);
        }

        private void beginTail(int candidate) {
            setChange(TAIL, candidate, settings[TAIL_COST]);
            accounts[TAILS]++;
            events.add(TAIL_BEGAN, candidate, time);
        }

        private void beginEntry(int candidate) {
            setChange(ENTRY, candidate, settings[ENTRY_COST]);
            int topNumber = stackedAt(depth - 1);
            Source top = find(topNumber);
            if (top != null) {
                top.preempted++;
                accounts[PREEMPTIONS]++;
                events.add(PREEMPTED, topNumber, time);
            }
        }

        private void beginExit() {
            change = settings[EXIT_COST] > 0 ? EXIT : NO_CHANGE;
            entered = NONE;
            ticksLeft = settings[EXIT_COST];
        }

        private void setChange(int kind, int source, int ticks) {
            change = kind;
            entered = source;
            ticksLeft = ticks;
        }

        private boolean isEntering() {
            return change == ENTRY || change == TAIL;
        }

        /** Ends an entry or a tail: the handler of its source comes on top of the stack. */
        private void bringOnTop(int when) {
            int number = entered;
            Source source = find(number);
            setChange(NO_CHANGE, NONE, 0);
            if (source == null || depth >= MOST_SOURCES) {
                return;
            }
            accounts[LATENCY_SUM] += source.comeOn(depth, when);
            stacked[depth] = number;
            depth++;
            accounts[GREATEST_DEPTH] = Math.max(accounts[GREATEST_DEPTH], depth);
            events.add(CAME_ON_TOP, number, when);
        }

        private void spendOnChange() {
            accounts[CHANGE_TICKS]++;
            ticksLeft--;
            if (ticksLeft > 0) {
                return;
            }
            if (isEntering()) {
                bringOnTop(time + 1);
            } else {
                setChange(NO_CHANGE, NONE, 0);
            }
        }

        /** Spends the tick on the top handler; tells how many handlers went off the stack. */
        private int spendOnHandler() {
            int number = stackedAt(depth - 1);
            Source top = find(number);
            if (top == null) {
                return 0;
            }
            accounts[HANDLER_TICKS]++;
            top.ticksInAll++;
            top.ticksRun++;
            if (top.ticksRun < top.length) {
                return 0;
            }
            top.goOff(time + 1);
            depth--;
            events.add(WENT_OFF, number, time + 1);
            beginExit();
            return 1;
        }

        // ---- levels and candidates

        private int level() {
            return Math.max(settings[MASK], Math.max(greatestCeiling(), greatestPriority()));
        }

        /** The greatest ceiling of all sections that are in force, 0 without one. */
        private int greatestCeiling() {
            int greatest = 0;
            for (int place = 0; place < depth; place++) {
                Source source = find(stackedAt(place));
                for (int i = 0; source != null && i < source.sectionCount; i++) {
                    if (source.sections[i].holds(source.ticksRun)) {
                        greatest = Math.max(greatest, source.sections[i].ceiling);
                    }
                }
            }
            return greatest;
        }

        /** The greatest priority of a source whose handler is on the stack, 0 without one. */
        private int greatestPriority() {
            int greatest = 0;
            for (int place = 0; place < depth; place++) {
                Source source = find(stackedAt(place));
                if (source != null) {
                    greatest = Math.max(greatest, source.priority);
                }
            }
            return greatest;
        }

        private int candidateAbove(int level) {
            int candidate = NONE;
            int toBeat = level;
            for (int i = 0; i < sourceCount; i++) {
                Source source = sources[i];
                // Only a greater priority beats, so of equal ones the lowest number stays.
                if (source.priority > toBeat && source.enabled && source.isPending()) {
                    candidate = i;
                    toBeat = source.priority;
                }
            }
            return candidate;
        }

        private int whyWaits(int number, Source source) {
            if (!source.isPending()) {
                return NONE;
            }
            if (!source.enabled) {
                return 1;
            }
            if (source.priority <= settings[MASK]) {
                return 2;
            }
            if (source.priority <= greatestCeiling()) {
                return 3;
            }
            if (source.priority <= greatestPriority()) {
                return 4;
            }
            if (candidateAbove(level()) != number) {
                return 5;
            }
            return change != NO_CHANGE ? 6 : 0;
        }

        // ---- values

        int sourceValue(int number, int what) {
            Source source = find(number);
            if (source == null) {
                return NONE;
            }
            switch (what) {
                case 0:
                    return source.priority;
                case 1:
                    return source.kind;
                case 2:
                    return source.length;
                case 3:
                    return source.enabled ? 1 : 0;
                case 4:
                    return source.isPending() ? 1 : 0;
                case 5:
                    return source.up ? 1 : 0;
                case 6:
                    return source.place;
                case 7:
                    return source.ticksRun;
                case 15:
                    return source.timerPeriod > 0 ? source.timerTime - time : NONE;
                case 16:
                    return whyWaits(number, source);
                default:
                    return tallyOf(source, what);
            }
        }

        private static int tallyOf(Source source, int what) {
            switch (what) {
                case 8:
                    return source.cameOn;
                case 9:
                    return source.wentOff;
                case 10:
                    return source.lost;
                case 11:
                    return source.latestLatency;
                case 12:
                    return source.greatestLatency;
                case 13:
                    return source.preempted;
                default:
                    return source.ticksInAll;
            }
        }

        /** The number of the sections of a source, 0 if there is no such source. */
        int sectionsOf(int number) {
            Source source = find(number);
            return source == null ? 0 : source.sectionCount;
        }

        int sectionValue(int number, int place, int what) {
            Source source = find(number);
            if (source == null || !isWithin(place, 0, source.sectionCount - 1)) {
                return NONE;
            }
            Section section = source.sections[place];
            switch (what) {
                case 0:
                    return section.first;
                case 1:
                    return section.length;
                case 2:
                    return section.ceiling;
                default:
                    return source.isStacked() && section.holds(source.ticksRun) ? 1 : 0;
            }
        }

        /** The source whose handler is at this place of the stack, NONE if there is none. */
        int stackedAt(int place) {
            return place >= 0 && place < depth ? stacked[place] : NONE;
        }

        int processorValue(int what) {
            switch (what) {
                case 0:
                    return time;
                case 1:
                    return settings[MASK];
                case 2:
                    return settings[ENTRY_COST];
                case 3:
                    return settings[EXIT_COST];
                case 4:
                    return settings[TAIL_COST];
                case 5:
                    return level();
                case 6:
                    return candidateAbove(level());
                case 7:
                    return depth;
                case 8:
                    return change;
                case 9:
                    return entered;
                case 10:
                    return ticksLeft;
                default:
                    return sourceCount;
            }
        }

        int accountValue(int what) {
            return isWithin(what, 0, ACCOUNTS - 1) ? accounts[what] : NONE;
        }

        // ---- forecasts

        /** Spends ticks until a handler comes on top of the stack; tells how many, or NONE. */
        int spendUntilOnTop(int number, int most) {
            Source source = find(number);
            if (source == null) {
                return NONE;
            }
            int before = source.cameOn;
            for (int ticks = 1; ticks <= most; ticks++) {
                tick();
                if (source.cameOn > before) {
                    return ticks;
                }
            }
            return NONE;
        }

        int spendUntilIdle(int most) {
            for (int ticks = 0; ticks < most; ticks++) {
                if (isIdle()) {
                    return ticks;
                }
                tick();
            }
            return isIdle() ? most : NONE;
        }

        private boolean isIdle() {
            return depth == 0 && change == NO_CHANGE;
        }

        void makePending(int number) {
            Source source = find(number);
            if (source == null) {
                return;
            }
            if (source.kind == EDGE) {
                receiveEdge(number, source);
            } else {
                changeLine(number, true);
            }
        }

        int latestLatency(int number) {
            Source source = find(number);
            return source == null ? NONE : source.latestLatency;
        }

        int longestBlocking(int number) {
            Source waiting = find(number);
            int longest = 0;
            for (int i = 0; waiting != null && i < sourceCount; i++) {
                Source holding = sources[i];
                for (int k = 0; holding.priority < waiting.priority && k < holding.sectionCount; k++) {
                    Section section = holding.sections[k];
                    if (section.ceiling >= waiting.priority) {
                        longest = Math.max(longest, section.ticksWithin(holding.length));
                    }
                }
            }
            return longest;
        }
    }
}
