/**
 * A house in which the electronics of a car are described in a text, joined, and run: controllers
 * with tasks, charts that the tasks step, signals packed into frames on one bus, codes and counters
 * by which frames are protected, troubles, and a tester who asks over the same bus.
 *
 * All rows are made once, with the object, and are used again by every car that a text describes.
 */
public final class CarHouse {
    public static final int UNKNOWN_WORD = 1, WORDS = 2, TWICE = 3, NOTHING = 4, NUMBER = 5, TOO_MUCH = 6, NO_FIT = 7, TOO_LARGE = 8;

    private static final int LETTERS = 6000;
    private static final int SYSTEMS = 16;
    private static final int TIMES = 20000;
    private static final int CONTROLLERS = 6;
    private static final int TASKS = 12;
    private static final int CHARTS = 12;
    private static final int DATA = 32;
    private static final int SIGNALS = 40;
    private static final int READS = 60;
    private static final int WATCHES = 30;
    private static final int SAID = 100;

    private final Reader reader;
    private final Car car;
    private final int[] said;
    private int saidCount;
    private int systems;
    private boolean made;

    public CarHouse() {
        reader = new Reader();
        car = reader.car;
        said = new int[SAID];
    }

    public void text(int a, int b, int c, int d) throws IllegalStateException {
        if (reader.length + lettersIn(a) + lettersIn(b) + lettersIn(c) + lettersIn(d) > LETTERS) {
            throw new IllegalStateException("the text has at most 6000 characters");
        }
        reader.append(a);
        reader.append(b);
        reader.append(c);
        reader.append(d);
    }

    public int cut(int n) throws IllegalArgumentException {
        if (n < 0 || n > reader.length) {
            throw new IllegalArgumentException("the text has not so many characters");
        }
        reader.length = n;
        return n;
    }

    public int system() throws IllegalStateException {
        if (systems >= SYSTEMS) {
            throw new IllegalStateException("16 cars were made of texts before");
        }
        systems++;
        car.clear();
        reader.readText();
        made = reader.fault == 0;
        if (made) {
            car.join();
        }
        return reader.fault;
    }

    public int place() {
        return reader.place;
    }

    public int count(int what) throws IllegalArgumentException, IllegalStateException {
        if (what < 0 || what > 6) {
            throw new IllegalArgumentException("there is no such count");
        }
        if (!made) {
            throw new IllegalStateException("there is no car");
        }
        switch (what) {
            case 0: return car.controllers;
            case 1: return car.cores.tasks;
            case 2: return car.chartCount;
            case 3: return car.frames.signals;
            case 4: return car.frames.frames;
            case 5: return car.reads;
            default: return car.troubles.codes;
        }
    }

    public int frame(int i, int what) throws IndexOutOfBoundsException, IllegalArgumentException {
        if (!made || i < 0 || i >= car.frames.frames) {
            throw new IndexOutOfBoundsException("there is no such frame");
        }
        if (what < 0 || what > 4) {
            throw new IllegalArgumentException("a frame tells nothing of that");
        }
        switch (what) {
            case 0: return car.frames.identifierOf(i);
            case 1: return car.frames.frame[Frames.OWNER][i];
            case 2: return car.frames.frame[Frames.EVERY][i];
            case 3: return car.frames.frame[Frames.LOCK][i];
            default: return car.frames.frame[Frames.SENT][i];
        }
    }

    public int signal(int i, boolean bit) throws IndexOutOfBoundsException {
        if (!made || i < 0 || i >= car.frames.signals) {
            throw new IndexOutOfBoundsException("there is no such signal");
        }
        return bit ? 8 * car.frames.signal[Frames.OCTET][i] : car.frames.signal[Frames.FRAME][i];
    }

    public int run(int micros) throws IllegalArgumentException, IllegalStateException {
        if (micros < 0) {
            throw new IllegalArgumentException("time does not go back");
        }
        if (!made || micros > TIMES - car.time) {
            throw new IllegalStateException("there is no car, or not so much time");
        }
        int before = car.bus.doneCount;
        for (int n = 0; n < micros; n++) {
            car.passMicrosecond();
        }
        return car.bus.doneCount - before;
    }

    public int time() {
        return made ? car.time : 0;
    }

    public int bit(int t) throws IndexOutOfBoundsException {
        if (!made || t < 0 || t >= car.time) {
            throw new IndexOutOfBoundsException("that bit time has not gone by");
        }
        return car.bus.bits[t];
    }

    public int node(int node, int what) throws IndexOutOfBoundsException, IllegalArgumentException {
        if (!made || node < 0 || node > car.controllers) {
            throw new IndexOutOfBoundsException("there is no such node");
        }
        if (what < 0 || what > 2) {
            throw new IllegalArgumentException("a node tells nothing of that");
        }
        int row = what == 0 ? Bus.STATE : what == 1 ? Bus.WAITS : Bus.TOOK;
        return car.bus.node[row][node];
    }

    public int error(int i, int what) throws IndexOutOfBoundsException, IllegalArgumentException {
        boolean counts = i == -1 && what == 0;
        if (!made || !counts && (i < 0 || i >= car.bus.errorCount)) {
            throw new IndexOutOfBoundsException("there is no such error");
        }
        if (what < 0 || what > 2) {
            throw new IllegalArgumentException("an error tells nothing of that");
        }
        return counts ? car.bus.errorCount : car.bus.tellError(i, what);
    }

    public void flip(int node, int t) throws IndexOutOfBoundsException, IllegalArgumentException {
        if (!made || node < 0 || node > car.controllers) {
            throw new IndexOutOfBoundsException("there is no such node");
        }
        if (t < car.time || t >= TIMES) {
            throw new IllegalArgumentException("that time has gone by, or never comes");
        }
        car.bus.flips[t] |= 1 << node;
    }

    public int silence(int controller, boolean on) throws IndexOutOfBoundsException {
        if (!made || controller < 0 || controller >= car.controllers) {
            throw new IndexOutOfBoundsException("there is no such controller");
        }
        car.silent[controller] = on;
        int silent = 0;
        for (int c = 0; c < car.controllers; c++) {
            silent += car.silent[c] ? 1 : 0;
        }
        return silent;
    }

    public int running(int controller, int t) throws IndexOutOfBoundsException {
        if (!made || controller < 0 || controller >= car.controllers || t < 0 || t >= car.time) {
            throw new IndexOutOfBoundsException("there is no such controller, or microsecond");
        }
        return car.cores.whoRan(controller, t);
    }

    public int task(int i, int what) throws IndexOutOfBoundsException, IllegalArgumentException {
        if (!made || i < 0 || i >= car.cores.tasks) {
            throw new IndexOutOfBoundsException("there is no such task");
        }
        if (what < 0 || what > 2) {
            throw new IllegalArgumentException("a task tells nothing of that");
        }
        int row = what == 0 ? Cores.STATE : what == 1 ? Cores.USED : Cores.DONE;
        return car.cores.task[row][i];
    }

    public int active(int x, int state) throws IndexOutOfBoundsException {
        if (!hasChart(x) || state < 0 || state > car.charts[x].states) {
            throw new IndexOutOfBoundsException("there is no such chart, or state");
        }
        return car.charts[x].started ? car.charts[x].innermost(state) : -3;
    }

    public long value(int x, int datum) throws IndexOutOfBoundsException {
        if (!hasChart(x) || datum < 0 || datum >= DATA) {
            throw new IndexOutOfBoundsException("there is no such chart, or datum");
        }
        return car.charts[x].data[datum];
    }

    public int chart(int x, int what) throws IndexOutOfBoundsException, IllegalArgumentException {
        if (!hasChart(x)) {
            throw new IndexOutOfBoundsException("there is no such chart");
        }
        if (what < 0 || what > 7) {
            throw new IllegalArgumentException("a chart tells nothing of that");
        }
        switch (what) {
            case 0: return car.charts[x].dropped;
            case 1: return car.charts[x].queued;
            case 2: return car.charts[x].stops;
            default: return car.charts[x].covered(what - 3);
        }
    }

    public int trouble(int i, int what) throws IndexOutOfBoundsException, IllegalArgumentException {
        if (!made || i < 0 || i >= car.troubles.codes) {
            throw new IndexOutOfBoundsException("there is no such watch");
        }
        if (what < 0 || what > 4) {
            throw new IllegalArgumentException("a trouble tells nothing of that");
        }
        return car.troubles.tell(i, what);
    }

    public int cycle(boolean tested) throws IllegalStateException {
        if (!made) {
            throw new IllegalStateException("there is no car");
        }
        return car.troubles.endCycle(tested);
    }

    public int counted(int what) throws IllegalArgumentException {
        if (what < 0 || what > 4) {
            throw new IllegalArgumentException("that is not counted");
        }
        return made ? car.counts[what] : 0;
    }

    public int say(byte b) {
        if (saidCount < SAID) {
            said[saidCount] = b & 255;
            saidCount++;
        }
        return saidCount;
    }

    public int ask(int controller) throws IndexOutOfBoundsException, IllegalStateException {
        if (!made || controller < 0 || controller >= car.controllers) {
            throw new IndexOutOfBoundsException("there is no such controller");
        }
        if (saidCount == 0 || car.asked >= 0 || car.transfer.messages >= Transfer.MESSAGES - 1) {
            throw new IllegalStateException("nothing was said, something is asked, or no message is left");
        }
        car.transfer.make(controller, true, said, saidCount);
        car.asked = controller;
        car.answer = 0;
        int octets = saidCount;
        saidCount = 0;
        return octets;
    }

    public int asking() {
        return made ? car.asked : -1;
    }

    public int answer(int i) throws IndexOutOfBoundsException {
        if (i < 0 || i >= answerLength()) {
            throw new IndexOutOfBoundsException("the answer has no such octet");
        }
        return car.transfer.octets[car.answer][i];
    }

    public int answers() {
        return answerLength();
    }

    private int answerLength() {
        return made && car.answer > 0 ? car.transfer.message[Transfer.SIZE][car.answer] : 0;
    }

    private boolean hasChart(int x) {
        return made && x >= 0 && x < car.chartCount;
    }

    private static int lettersIn(int four) {
        int n = 0;
        for (int shift = 24; shift >= 0; shift -= 8) {
            n += (four >>> shift & 255) != 0 ? 1 : 0;
        }
        return n;
    }

    /** The text, and the car that it describes, read word by word up to the first fault. */
    private static final class Reader {
        private static final String LINES = "controller task chart state edge after datum enter leave take signal protect read watch";
        private static final String KINDS = "plain split history deep fork join";
        private static final String OPS = "eq ne lt ge div mod";
        /** A line with a new name has twelve characters at least, so a text has not so many of them. */
        private static final int NAMES = 600;
        private static final int SPACE = 0, PLACE = 1, SIZE = 2, SORT = 3, MEANS = 4;
        private static final int CONTROLLER = 0, TASK = 1, CHART = 2, SIGNAL = 3, STATE = 4, DATUM = 5;
        private static final int OF_ALL = 0;
        private static final int LARGEST = 999999999;

        private final char[] letters = new char[LETTERS];
        private final Car car = new Car();
        private final int[][] name = new int[5][NAMES];
        private int names;
        private int length;
        private int at;
        private int lineEnd;
        private int firstWord;
        private int word;
        private int size;
        private int newPlace;
        private int newSize;
        private int fault;
        private int place;

        void append(int four) {
            for (int shift = 24; shift >= 0; shift -= 8) {
                int letter = four >>> shift & 255;
                if (letter != 0 && length < LETTERS) {
                    letters[length] = (char) letter;
                    length++;
                }
            }
        }

        void readText() {
            names = 0;
            fault = 0;
            place = 0;
            int from = 0;
            for (int lines = 0; lines < LETTERS && from < length && fault == 0; lines++) {
                findLineEnd(from);
                at = from;
                nextWord();
                firstWord = word;
                if (size > 0) {
                    readLine();
                }
                from = lineEnd + 1;
            }
            if (fault == 0) {
                judgeWhole();
            }
        }

        /** More than 500 activations, the other fault of whole texts, cannot be: 12 tasks have at most 40 each. */
        private void judgeWhole() {
            if (car.controllers == 0) {
                fail(NOTHING, length);
                return;
            }
            int large = car.frames.findTooLarge(car.controllers);
            if (large >= 0) {
                fail(TOO_LARGE, car.frames.signal[Frames.NAMED][large]);
            }
        }

        private void findLineEnd(int from) {
            lineEnd = from;
            while (lineEnd < length && letters[lineEnd] != 10) {
                lineEnd++;
            }
        }

        /** A missing word has no size, and its place is the end of the line. */
        private void nextWord() {
            while (at < lineEnd && letters[at] == ' ') {
                at++;
            }
            if (at >= lineEnd || letters[at] == '#') {
                word = lineEnd;
                size = 0;
                return;
            }
            word = at;
            while (at < lineEnd && letters[at] != ' ') {
                at++;
            }
            size = at - word;
        }

        private void fail(int which, int where) {
            if (fault == 0) {
                fault = which;
                place = where;
            }
        }

        private void readLine() {
            switch (indexIn(LINES)) {
                case 0: readController(); break;
                case 1: readTask(); break;
                case 2: readChart(); break;
                case 3: readState(); break;
                case 4: readEdge(); break;
                case 5: readAfter(); break;
                case 6: readDatum(); break;
                case 7: readAct(Chart.AT_ENTRY); break;
                case 8: readAct(Chart.AT_EXIT); break;
                case 9: readAct(Chart.ON_EDGE); break;
                case 10: readSignal(); break;
                case 11: readProtect(); break;
                case 12: readRead(); break;
                case 13: readWatch(); break;
                default: fail(UNKNOWN_WORD, word);
            }
        }

        private void readController() {
            newName(OF_ALL, car.controllers, CONTROLLERS);
            endLine();
            if (fault == 0) {
                keepName(OF_ALL, CONTROLLER, car.controllers);
                car.controllers++;
            }
        }

        private void readTask() {
            newName(OF_ALL, car.cores.tasks, TASKS);
            int controller = toldName(OF_ALL, CONTROLLER);
            int rank = number(0, 255);
            int period = number(500, 20000);
            int offset = number(0, period - 1);
            int micros = number(1, 1000);
            endLine();
            if (fault == 0) {
                keepName(OF_ALL, TASK, car.cores.tasks);
                car.cores.addTask(rank, controller, period, offset, micros);
            }
        }

        private void readChart() {
            newName(OF_ALL, car.chartCount, CHARTS);
            int task = toldName(OF_ALL, TASK);
            int taskPlace = word;
            int limit = number(0, 50);
            endLine();
            if (fault == 0 && car.chartOf[task] >= 0) {
                fail(NO_FIT, taskPlace);
            }
            if (fault == 0) {
                keepName(OF_ALL, CHART, car.chartCount);
                car.addChart(task, limit);
            }
        }

        private void readState() {
            int x = toldName(OF_ALL, CHART);
            newName(statesOf(x), 0, 1);
            int parent = parentState(x);
            int kind = oneOf(KINDS);
            endLine();
            if (fault == 0) {
                int number = car.charts[x].addState(parent, kind);
                heed(number);
                keepName(statesOf(x), STATE, number);
            }
        }

        private void readEdge() {
            int x = toldName(OF_ALL, CHART);
            int from = toldName(statesOf(x), STATE);
            int to = toldName(statesOf(x), STATE);
            int event = eventOrTime(from);
            int guard = 0;
            if (optional("if")) {
                int datum = toldName(dataOf(x), DATUM);
                int op = oneOf(OPS) + 1;
                guard = op + 8 * datum + otherOperand(x);
            }
            endLine();
            if (fault == 0) {
                heed(car.charts[x].addEdge(from, to, event, guard));
            }
        }

        private void readAfter() {
            int x = toldName(OF_ALL, CHART);
            int state = toldName(statesOf(x), STATE);
            int ticks = number(1, 20000);
            endLine();
            if (fault == 0) {
                heed(car.charts[x].setTicks(state, ticks));
            }
        }

        private void readDatum() {
            int x = toldName(OF_ALL, CHART);
            newName(dataOf(x), 0, 1);
            int v = number(-LARGEST, LARGEST);
            endLine();
            if (fault == 0) {
                int number = car.charts[x].addDatum(v);
                heed(number);
                keepName(dataOf(x), DATUM, number);
            }
        }

        private void readAct(int when) {
            int x = toldName(OF_ALL, CHART);
            int of = when == Chart.ON_EDGE ? car.charts[x].edges : toldName(statesOf(x), STATE);
            int datum = toldName(dataOf(x), DATUM);
            int v = number(-LARGEST, LARGEST);
            boolean adds = optional("more");
            endLine();
            if (fault == 0) {
                heed(car.charts[x].addAct(of, when, datum, v, adds));
            }
        }

        private void readSignal() {
            newName(OF_ALL, car.frames.signals, SIGNALS);
            int bits = number(1, 64);
            int x = toldName(OF_ALL, CHART);
            int datum = toldName(dataOf(x), DATUM);
            int period = number(500, 20000);
            boolean turned = optional("turned");
            endLine();
            if (fault == 0) {
                keepName(OF_ALL, SIGNAL, car.frames.signals);
                car.frames.addSignal(newPlace, bits, x, datum, period, turned, car.charts[x].controller);
            }
        }

        private void readProtect() {
            int controller = toldName(OF_ALL, CONTROLLER);
            int period = number(500, 20000);
            int periodPlace = word;
            int key = number(1, 16);
            endLine();
            if (fault == 0 && car.frames.keyOf(controller, period) != 0) {
                fail(TWICE, periodPlace);
            }
            if (fault == 0) {
                car.frames.addKey(controller, period, key);
            }
        }

        private void readRead() {
            int signal = toldName(OF_ALL, SIGNAL);
            int x = toldName(OF_ALL, CHART);
            int datum = toldName(dataOf(x), DATUM);
            int event = number(0, 99);
            endLine();
            refuseOwn(signal, car.charts[x].controller);
            if (fault == 0) {
                heed(car.addRead(signal, x, datum, event));
            }
        }

        private void readWatch() {
            int signal = toldName(OF_ALL, SIGNAL);
            int controller = toldName(OF_ALL, CONTROLLER);
            int priority = number(1, 255);
            endLine();
            refuseOwn(signal, controller);
            if (fault == 0) {
                int period = car.frames.signal[Frames.PERIOD][signal];
                heed(car.troubles.addWatch(signal, controller, priority, 3 * period));
            }
        }

        private void refuseOwn(int signal, int controller) {
            if (fault == 0 && car.frames.signal[Frames.CONTROLLER][signal] == controller) {
                fail(NO_FIT, firstWord);
            }
        }

        /** What a part refuses is a fault of the line as a whole, so it stands at its first word. */
        private void heed(int answer) {
            if (answer < 0) {
                fail(answer == -4 ? TOO_MUCH : NO_FIT, firstWord);
            }
        }

        private void newName(int space, int there, int most) {
            if (fault != 0) {
                return;
            }
            nextWord();
            newPlace = word;
            newSize = size;
            if (!isName() || space != OF_ALL && isWord("top")) {
                fail(WORDS, word);
            } else if (findName(space) >= 0) {
                fail(TWICE, word);
            } else if (there >= most) {
                fail(TOO_MUCH, word);
            }
        }

        private void keepName(int space, int sort, int means) {
            if (fault != 0 || names >= NAMES) {
                return;
            }
            name[SPACE][names] = space;
            name[PLACE][names] = newPlace;
            name[SIZE][names] = newSize;
            name[SORT][names] = sort;
            name[MEANS][names] = means;
            names++;
        }

        private int toldName(int space, int sort) {
            if (!fetchWord()) {
                return 0;
            }
            int found = findName(space);
            if (found < 0 || name[SORT][found] != sort) {
                fail(NOTHING, word);
                return 0;
            }
            return name[MEANS][found];
        }

        private int parentState(int x) {
            if (!fetchWord() || isWord("top")) {
                return 0;
            }
            int found = findName(statesOf(x));
            if (found < 0) {
                fail(NOTHING, word);
                return 0;
            }
            return name[MEANS][found];
        }

        private int eventOrTime(int from) {
            if (!fetchWord()) {
                return 0;
            }
            return isWord("time") ? 1000 + from : boundedNumber(0, 99);
        }

        /** The second operand as it stands in a guard's number: a datum, or from 8192 on a number. */
        private int otherOperand(int x) {
            if (!fetchWord()) {
                return 0;
            }
            int found = findName(dataOf(x));
            if (found >= 0) {
                return 256 * name[MEANS][found];
            }
            if (!isNumber()) {
                fail(NOTHING, word);
                return 0;
            }
            return 8192 + 256 * boundedNumber(0, 31);
        }

        private int number(int least, int most) {
            return fetchWord() ? boundedNumber(least, most) : 0;
        }

        private int boundedNumber(int least, int most) {
            int v = isNumber() ? numberAtHand() : 0;
            if (!isNumber() || v < least || v > most) {
                fail(NUMBER, word);
                return 0;
            }
            return v;
        }

        private int oneOf(String told) {
            if (!fetchWord()) {
                return 0;
            }
            int i = indexIn(told);
            if (i < 0) {
                fail(UNKNOWN_WORD, word);
                return 0;
            }
            return i;
        }

        private boolean optional(String told) {
            if (fault != 0) {
                return false;
            }
            nextWord();
            if (size > 0 && !isWord(told)) {
                fail(WORDS, word);
            }
            return size > 0 && fault == 0;
        }

        private void endLine() {
            if (fault != 0) {
                return;
            }
            nextWord();
            if (size > 0) {
                fail(WORDS, word);
            }
        }

        /** Whether the next word is there to be looked at, no fault being known yet. */
        private boolean fetchWord() {
            if (fault != 0) {
                return false;
            }
            nextWord();
            if (size == 0) {
                fail(WORDS, word);
            }
            return size > 0;
        }

        private int findName(int space) {
            for (int i = 0; i < names; i++) {
                if (name[SPACE][i] == space && name[SIZE][i] == size && isSame(name[PLACE][i])) {
                    return i;
                }
            }
            return -1;
        }

        private boolean isSame(int other) {
            for (int i = 0; i < size; i++) {
                if (letters[other + i] != letters[word + i]) {
                    return false;
                }
            }
            return true;
        }

        private boolean isWord(String told) {
            return told.length() == size && standsAt(told, 0);
        }

        private boolean standsAt(String told, int from) {
            for (int i = 0; i < size; i++) {
                if (from + i >= told.length() || told.charAt(from + i) != letters[word + i]) {
                    return false;
                }
            }
            return true;
        }

        /** Which of some words, told with spaces between them, the word at hand is; -1 if it is none. */
        private int indexIn(String told) {
            int index = 0;
            int from = 0;
            for (int i = 0; i <= told.length(); i++) {
                if (i == told.length() || told.charAt(i) == ' ') {
                    if (i - from == size && standsAt(told, from)) {
                        return index;
                    }
                    index++;
                    from = i + 1;
                }
            }
            return -1;
        }

        private boolean isName() {
            if (size < 1 || size > 10 || !isLetter(letters[word])) {
                return false;
            }
            for (int i = 1; i < size; i++) {
                if (!isLetter(letters[word + i]) && !isDigit(letters[word + i])) {
                    return false;
                }
            }
            return true;
        }

        private boolean isNumber() {
            int sign = size > 0 && letters[word] == '-' ? 1 : 0;
            if (size - sign < 1 || size - sign > 9) {
                return false;
            }
            for (int i = sign; i < size; i++) {
                if (!isDigit(letters[word + i])) {
                    return false;
                }
            }
            return true;
        }

        private int numberAtHand() {
            int sign = letters[word] == '-' ? 1 : 0;
            int v = 0;
            for (int i = sign; i < size; i++) {
                v = 10 * v + (letters[word + i] - '0');
            }
            return sign == 1 ? -v : v;
        }

        private static boolean isLetter(char c) {
            return c >= 'a' && c <= 'z';
        }

        private static boolean isDigit(char c) {
            return c >= '0' && c <= '9';
        }

        private static int statesOf(int x) {
            return 1 + 2 * x;
        }

        private static int dataOf(int x) {
            return 2 + 2 * x;
        }
    }

    /** The parts of a car, joined, and what happens among them in each microsecond. */
    private static final class Car {
        private static final int LOST = 0, REFUSED = 1, EVENTS_LOST = 2, ANSWERS = 3, BROKEN = 4;
        private static final int SIGNAL = 0, CHART = 1, DATUM = 2, EVENT = 3, HAD = 4;

        private final Chart[] charts = new Chart[CHARTS];
        private final Cores cores = new Cores();
        private final Bus bus = new Bus();
        private final Frames frames = new Frames();
        private final Codes codes = new Codes();
        private final Troubles troubles = new Troubles();
        private final Transfer transfer = new Transfer();
        private final Questions questions = new Questions();
        private final int[] chartOf = new int[TASKS];
        private final boolean[] silent = new boolean[CONTROLLERS];
        private final int[][] read = new int[5][READS];
        private final long[] lastRead = new long[READS];
        private final int[] counts = new int[5];
        private int controllers;
        private int chartCount;
        private int reads;
        private int time;
        private int asked;
        private int answer;

        Car() {
            for (int x = 0; x < CHARTS; x++) {
                charts[x] = new Chart();
            }
        }

        void clear() {
            for (int i = 0; i < TASKS; i++) {
                chartOf[i] = -1;
            }
            for (int x = 0; x < CHARTS; x++) {
                charts[x].controller = -1;
            }
            for (int c = 0; c < CONTROLLERS; c++) {
                silent[c] = false;
            }
            for (int i = 0; i < counts.length; i++) {
                counts[i] = 0;
            }
            controllers = 0;
            chartCount = 0;
            reads = 0;
            time = 0;
            asked = -1;
            answer = 0;
            cores.clear();
            frames.clear();
            troubles.clear();
            transfer.clear();
            questions.clear();
        }

        void addChart(int task, int limit) {
            charts[chartCount].begin(cores.task[Cores.CORE][task], limit);
            chartOf[task] = chartCount;
            chartCount++;
        }

        int addRead(int signal, int chart, int datum, int event) {
            if (reads >= READS) {
                return -4;
            }
            read[SIGNAL][reads] = signal;
            read[CHART][reads] = chart;
            read[DATUM][reads] = datum;
            read[EVENT][reads] = event;
            read[HAD][reads] = 0;
            reads++;
            return reads;
        }

        void join() {
            frames.pack(controllers);
            bus.begin(controllers + 1);
            codes.learn(Questions.RIGHTS_KEY);
            for (int f = 0; f < frames.frames; f++) {
                if (frames.frame[Frames.LOCK][f] != 0) {
                    codes.learn(frames.frame[Frames.LOCK][f]);
                }
            }
            for (int x = 0; x < chartCount; x++) {
                charts[x].findDomains();
            }
        }

        void passMicrosecond() {
            sendFrames(time);
            bus.passBit(time);
            cores.passMicrosecond(time);
            time++;
            if (bus.fresh != 0) {
                takeFrames();
            }
            for (int i = 0; i < TASKS && cores.fresh >> i != 0; i++) {
                if ((cores.fresh >> i & 1) == 1 && chartOf[i] >= 0) {
                    charts[chartOf[i]].workOff(time);
                }
            }
            troubles.lookForSilence(time);
            passTransfer();
        }

        private void sendFrames(int t) {
            if (t < frames.soonest) {
                return;
            }
            for (int f = 0; f < frames.frames; f++) {
                if (frames.takeTurn(f, t) && !silent[frames.frame[Frames.OWNER][f]]) {
                    sendFrame(f);
                }
            }
            frames.findSoonest();
        }

        private void sendFrame(int f) {
            frames.fill(f, charts);
            if (frames.frame[Frames.LOCK][f] != 0) {
                frames.seal(f, codes);
            }
            if (!bus.send(frames.frame[Frames.OWNER][f], frames.identifierOf(f), frames.octets)) {
                counts[LOST]++;
            }
        }

        private void takeFrames() {
            for (int n = 0; n <= controllers; n++) {
                Ear ear = bus.ears[n];
                if ((bus.fresh >> n & 1) == 0 || ear.kind() != 0 || ear.octetCount != 8) {
                    continue;
                }
                if (ear.identifier >= Transfer.IDENTIFIER) {
                    takeOfTransfer(n, ear.identifier - Transfer.IDENTIFIER);
                } else if (n < controllers) {
                    takeSignals(n, frames.frameOf(ear.identifier), ear.octets);
                }
            }
        }

        private void takeSignals(int controller, int f, int[] octets) {
            if (f < 0) {
                return;
            }
            if (frames.frame[Frames.LOCK][f] != 0 && !frames.accept(controller, f, octets, codes)) {
                counts[REFUSED]++;
                return;
            }
            for (int i = 0; i < troubles.codes; i++) {
                if (troubles.isWatching(i, controller) && frames.isIn(troubles.signalOf(i), f)) {
                    troubles.notePassed(i, time);
                }
            }
            for (int r = 0; r < reads; r++) {
                if (charts[read[CHART][r]].controller == controller && frames.isIn(read[SIGNAL][r], f)) {
                    takeRead(r, frames.valueIn(read[SIGNAL][r], octets));
                }
            }
        }

        private void takeRead(int r, long v) {
            if (read[HAD][r] == 1 && lastRead[r] == v) {
                return;
            }
            read[HAD][r] = 1;
            lastRead[r] = v;
            Chart chart = charts[read[CHART][r]];
            chart.data[read[DATUM][r]] = v;
            if (read[EVENT][r] != 0 && !chart.queue(read[EVENT][r])) {
                counts[EVENTS_LOST]++;
            }
        }

        private void takeOfTransfer(int node, int way) {
            int controller = way / 2;
            boolean toTester = way % 2 == 1;
            if (controller >= controllers || node != (toTester ? controllers : controller)) {
                return;
            }
            int whole = transfer.reach(controller, toTester);
            if (whole == 0) {
                return;
            }
            if (transfer.isQuestion(whole)) {
                questions.makeReply(this, controller, transfer.octets[whole], transfer.message[Transfer.SIZE][whole]);
                transfer.make(controller, false, questions.reply, questions.size);
            } else if (controller == asked) {
                answer = whole;
                asked = -1;
                counts[ANSWERS]++;
            }
        }

        private void passTransfer() {
            transfer.tick(time);
            for (int f = transfer.handed; f < transfer.frames; f++) {
                putOnBus(f);
            }
            transfer.handed = transfer.frames;
            if (transfer.ended && asked >= 0) {
                asked = -1;
                counts[BROKEN]++;
            }
            transfer.ended = false;
        }

        private void putOnBus(int f) {
            boolean fromTester = !transfer.isToTester(f);
            int controller = transfer.controllerOf(f);
            int identifier = Transfer.IDENTIFIER + 2 * controller + (fromTester ? 0 : 1);
            transfer.writeOctets(f);
            if (!bus.send(fromTester ? controllers : controller, identifier, transfer.written)) {
                counts[LOST]++;
                transfer.lose(f);
            }
        }
    }

    /** Signals, packed into frames of one period each, and what stands in these frames. */
    private static final class Frames {
        private static final int BITS = 0, CHART = 1, DATUM = 2, PERIOD = 3, TURNED = 4, CONTROLLER = 5, NAMED = 6, KEY = 7, FRAME = 8, OCTET = 9;
        private static final int OWNER = 0, EVERY = 1, LOCK = 2, SENT = 3, POSITION = 4, NEXT = 5;
        /** A line that protects has sixteen characters at least, so a text has not so many of them. */
        private static final int KEYS = 400;
        private static final int PLAIN_ROOM = 8;
        private static final int LOCKED_ROOM = 3;
        /** Up to so many groups all ways to pack them are tried, as 5040 steps allow. */
        private static final int FEW = 7;
        private static final int NEVER = 1000000;

        private final int[][] signal = new int[10][SIGNALS];
        private final int[][] frame = new int[6][SIGNALS];
        private final int[] atPosition = new int[SIGNALS];
        private final int[][] key = new int[3][KEYS];
        private final int[][] counter = new int[CONTROLLERS][SIGNALS];
        private final int[] group = new int[SIGNALS];
        private final int[] choice = new int[SIGNALS];
        private final int[] filled = new int[SIGNALS];
        private final int[] octets = new int[8];
        private final int[] sealed = new int[12];
        private int signals;
        private int frames;
        private int keys;
        private int groups;
        private int soonest;

        void clear() {
            signals = 0;
            frames = 0;
            keys = 0;
            soonest = NEVER;
        }

        void addSignal(int place, int bits, int chart, int datum, int period, boolean turned, int controller) {
            if (signals >= SIGNALS) {
                return;
            }
            signal[NAMED][signals] = place;
            signal[BITS][signals] = bits;
            signal[CHART][signals] = chart;
            signal[DATUM][signals] = datum;
            signal[PERIOD][signals] = period;
            signal[TURNED][signals] = turned ? 1 : 0;
            signal[CONTROLLER][signals] = controller;
            signals++;
        }

        void addKey(int controller, int period, int number) {
            if (keys >= KEYS) {
                return;
            }
            key[0][keys] = controller;
            key[1][keys] = period;
            key[2][keys] = number;
            keys++;
        }

        int keyOf(int controller, int period) {
            for (int i = 0; i < keys; i++) {
                if (key[0][i] == controller && key[1][i] == period) {
                    return key[2][i];
                }
            }
            return 0;
        }

        /** The first signal that no frame holds, by controllers; without key each one finds room. */
        int findTooLarge(int controllers) {
            for (int c = 0; c < controllers; c++) {
                for (int s = 0; s < signals; s++) {
                    boolean locked = signal[CONTROLLER][s] == c && keyOf(c, signal[PERIOD][s]) != 0;
                    if (locked && octetsOf(s) > LOCKED_ROOM) {
                        return s;
                    }
                }
            }
            return -1;
        }

        void pack(int controllers) {
            for (int s = 0; s < signals; s++) {
                signal[KEY][s] = keyOf(signal[CONTROLLER][s], signal[PERIOD][s]);
            }
            for (int c = 0; c < controllers; c++) {
                packOf(c, false);
                packOf(c, true);
            }
            findPositions();
            findSoonest();
        }

        private void packOf(int controller, boolean locked) {
            int period = nextPeriod(controller, locked, 0);
            for (int n = 0; n < SIGNALS && period < NEVER; n++) {
                collectGroups(controller, locked, period);
                packGroups(locked ? LOCKED_ROOM : PLAIN_ROOM);
                period = nextPeriod(controller, locked, period);
            }
        }

        private int nextPeriod(int controller, boolean locked, int last) {
            int next = NEVER;
            for (int s = 0; s < signals; s++) {
                if (isOf(s, controller, locked) && signal[PERIOD][s] > last) {
                    next = Math.min(next, signal[PERIOD][s]);
                }
            }
            return next;
        }

        private boolean isOf(int s, int controller, boolean locked) {
            return signal[CONTROLLER][s] == controller && (signal[KEY][s] != 0) == locked;
        }

        /** The greatest ones first; of one size they stay in the order of their numbers. */
        private void collectGroups(int controller, boolean locked, int period) {
            groups = 0;
            for (int s = 0; s < signals; s++) {
                if (isOf(s, controller, locked) && signal[PERIOD][s] == period) {
                    int at = groups;
                    while (at > 0 && octetsOf(group[at - 1]) < octetsOf(s)) {
                        group[at] = group[at - 1];
                        at--;
                    }
                    group[at] = s;
                    groups++;
                }
            }
        }

        private void packGroups(int room) {
            placeGroups(groups <= FEW ? packBest(room) : packFirstFit(room));
        }

        private int packBest(int room) {
            for (int most = 1; most < groups; most++) {
                if (fits(0, 0, most, room)) {
                    return most;
                }
            }
            fits(0, 0, groups, room);
            return groups;
        }

        /** Whether the groups from one on go into so many frames; the first way in their order is kept. */
        private boolean fits(int from, int opened, int most, int room) {
            if (from == 0) {
                emptyFrames();
            }
            if (from >= groups) {
                return true;
            }
            int need = octetsOf(group[from]);
            for (int f = 0; f <= opened && f < most; f++) {
                if (filled[f] + need <= room) {
                    filled[f] += need;
                    choice[from] = f;
                    if (fits(from + 1, Math.max(opened, f + 1), most, room)) {
                        return true;
                    }
                    filled[f] -= need;
                }
            }
            return false;
        }

        private int packFirstFit(int room) {
            int used = 0;
            emptyFrames();
            for (int i = 0; i < groups; i++) {
                int need = octetsOf(group[i]);
                int f = 0;
                while (f < used && filled[f] + need > room) {
                    f++;
                }
                filled[f] += need;
                choice[i] = f;
                used = Math.max(used, f + 1);
            }
            return used;
        }

        private void emptyFrames() {
            for (int f = 0; f < groups; f++) {
                filled[f] = 0;
            }
        }

        private void placeGroups(int used) {
            emptyFrames();
            for (int i = 0; i < groups; i++) {
                int s = group[i];
                signal[FRAME][s] = frames + choice[i];
                signal[OCTET][s] = filled[choice[i]];
                filled[choice[i]] += octetsOf(s);
            }
            for (int n = 0; n < used; n++) {
                openFrame(group[0]);
            }
        }

        private void openFrame(int s) {
            frame[OWNER][frames] = signal[CONTROLLER][s];
            frame[EVERY][frames] = signal[PERIOD][s];
            frame[LOCK][frames] = signal[KEY][s];
            frame[NEXT][frames] = signal[PERIOD][s];
            frame[SENT][frames] = 0;
            for (int c = 0; c < CONTROLLERS; c++) {
                counter[c][frames] = 0;
            }
            frames++;
        }

        private void findPositions() {
            for (int f = 0; f < frames; f++) {
                int before = 0;
                for (int g = 0; g < frames; g++) {
                    boolean same = frame[EVERY][g] == frame[EVERY][f] && g < f;
                    before += same || frame[EVERY][g] < frame[EVERY][f] ? 1 : 0;
                }
                frame[POSITION][f] = before;
                atPosition[before] = f;
            }
        }

        int identifierOf(int f) {
            return 64 + 8 * frame[POSITION][f];
        }

        int frameOf(int identifier) {
            int position = (identifier - 64) / 8;
            if (identifier < 64 || identifier % 8 != 0 || position >= frames) {
                return -1;
            }
            return atPosition[position];
        }

        boolean isIn(int s, int f) {
            return signal[FRAME][s] == f;
        }

        /** Whether a frame's turn is now; a silent controller misses it, so the next one is a period later in any case. */
        boolean takeTurn(int f, int t) {
            if (frame[NEXT][f] != t) {
                return false;
            }
            frame[NEXT][f] += frame[EVERY][f];
            return true;
        }

        /** So that the microseconds in which no frame is due need no look at each frame. */
        void findSoonest() {
            soonest = NEVER;
            for (int f = 0; f < frames; f++) {
                soonest = Math.min(soonest, frame[NEXT][f]);
            }
        }

        private int octetsOf(int s) {
            return (signal[BITS][s] + 7) / 8;
        }

        /** Where the octet with a signal's bits 8 k to 8 k + 7 stands in its frame. */
        private int placeOf(int s, int k) {
            return signal[OCTET][s] + (signal[TURNED][s] == 1 ? octetsOf(s) - 1 - k : k);
        }

        private long cutTo(int bits, long v) {
            return bits < 64 ? v & (1L << bits) - 1 : v;
        }

        /** All signals of a frame are put each time it is sent, so it can be filled from nothing. */
        void fill(int f, Chart[] charts) {
            frame[SENT][f]++;
            for (int i = 0; i < octets.length; i++) {
                octets[i] = 0;
            }
            for (int s = 0; s < signals; s++) {
                if (signal[FRAME][s] == f) {
                    long v = cutTo(signal[BITS][s], charts[signal[CHART][s]].data[signal[DATUM][s]]);
                    for (int k = 0; k < octetsOf(s); k++) {
                        octets[placeOf(s, k)] = (int) (v >>> 8 * k) & 255;
                    }
                }
            }
        }

        long valueIn(int s, int[] from) {
            long v = 0;
            for (int k = octetsOf(s) - 1; k >= 0; k--) {
                v = v << 8 | from[placeOf(s, k)];
            }
            return cutTo(signal[BITS][s], v);
        }

        void seal(int f, Codes codes) {
            octets[3] = frame[SENT][f] & 255;
            makeCode(f, frame[SENT][f], octets, codes);
            for (int i = 0; i < 4; i++) {
                octets[4 + i] = codes.out[i];
            }
        }

        boolean accept(int controller, int f, int[] from, Codes codes) {
            int more = from[3] - counter[controller][f] & 255;
            if (more == 0 || more > 64) {
                return false;
            }
            makeCode(f, counter[controller][f] + more, from, codes);
            if (!codes.isOut(from, 4)) {
                return false;
            }
            counter[controller][f] += more;
            return true;
        }

        private void makeCode(int f, int sent, int[] from, Codes codes) {
            sealed[0] = frame[POSITION][f];
            for (int i = 0; i < 4; i++) {
                sealed[1 + i] = 0;
                sealed[5 + i] = sent >>> 24 - 8 * i & 255;
            }
            for (int i = 0; i < 3; i++) {
                sealed[9 + i] = from[i];
            }
            codes.make(frame[LOCK][f], sealed, sealed.length);
        }
    }

    /** The tasks of all controllers, each controller being a core of its own. */
    private static final class Cores {
        private static final int SUSPENDED = 0, READY = 1, RUNNING = 2;
        private static final int RANK = 0, CORE = 1, PERIOD = 2, MICROS = 3, NEXT = 4, STATE = 5, LEFT = 6, WANTED = 7, TURN = 8, USED = 9, DONE = 10;
        private static final int BOUND = 2;

        private final int[][] task = new int[11][TASKS];
        private final int[] chosen = new int[CONTROLLERS];
        /** Who ran in each microsecond, four bits for each core. */
        private final int[] who = new int[TIMES];
        private int tasks;
        private int turns;
        private int fresh;
        private boolean settled;

        void clear() {
            tasks = 0;
            turns = 0;
            fresh = 0;
            settled = true;
            for (int c = 0; c < CONTROLLERS; c++) {
                chosen[c] = -1;
            }
        }

        void addTask(int rank, int core, int period, int offset, int micros) {
            if (tasks >= TASKS) {
                return;
            }
            task[RANK][tasks] = rank;
            task[CORE][tasks] = core;
            task[PERIOD][tasks] = period;
            task[MICROS][tasks] = micros;
            task[NEXT][tasks] = offset;
            task[STATE][tasks] = SUSPENDED;
            task[LEFT][tasks] = 0;
            task[WANTED][tasks] = 0;
            task[TURN][tasks] = 0;
            task[USED][tasks] = 0;
            task[DONE][tasks] = 0;
            tasks++;
        }

        int whoRan(int core, int t) {
            return who[t] >> 4 * core & 15;
        }

        /** Who is chosen stays so until a task is activated, or has used all its microseconds. */
        void passMicrosecond(int t) {
            activateAll(t);
            if (!settled) {
                settled = true;
                for (int c = 0; c < CONTROLLERS; c++) {
                    settle(c);
                }
            }
            fresh = 0;
            int row = 0;
            for (int c = 0; c < CONTROLLERS; c++) {
                if (chosen[c] >= 0) {
                    row |= chosen[c] + 1 << 4 * c;
                    use(chosen[c]);
                }
            }
            who[t] = row;
        }

        private void activateAll(int t) {
            for (int i = 0; i < tasks; i++) {
                if (task[NEXT][i] == t) {
                    task[NEXT][i] += task[PERIOD][i];
                    settled = false;
                    if (task[STATE][i] == SUSPENDED) {
                        makeReady(i);
                    } else if (task[WANTED][i] + 1 < BOUND) {
                        task[WANTED][i]++;
                    }
                }
            }
        }

        private void makeReady(int i) {
            turns++;
            task[STATE][i] = READY;
            task[TURN][i] = turns;
            task[LEFT][i] = task[MICROS][i] + 1;
        }

        /** A task ends in a step, behind the activations of the microsecond, and only when it is chosen. */
        private void settle(int core) {
            for (int n = 0; n <= BOUND * TASKS; n++) {
                choose(core);
                int i = chosen[core];
                if (i < 0 || task[LEFT][i] > 0) {
                    return;
                }
                task[STATE][i] = SUSPENDED;
                chosen[core] = -1;
                if (task[WANTED][i] > 0) {
                    task[WANTED][i]--;
                    makeReady(i);
                }
            }
        }

        private void choose(int core) {
            int best = chosen[core];
            for (int i = 0; i < tasks; i++) {
                if (task[CORE][i] == core && task[STATE][i] == READY && (best < 0 || isBefore(i, best))) {
                    best = i;
                }
            }
            if (chosen[core] >= 0) {
                task[STATE][chosen[core]] = READY;
            }
            if (best >= 0) {
                task[STATE][best] = RUNNING;
            }
            chosen[core] = best;
        }

        private boolean isBefore(int i, int best) {
            if (task[RANK][i] != task[RANK][best]) {
                return task[RANK][i] > task[RANK][best];
            }
            return task[STATE][best] != RUNNING && task[TURN][i] < task[TURN][best];
        }

        private void use(int i) {
            task[USED][i]++;
            task[LEFT][i]--;
            if (task[LEFT][i] == 0) {
                task[DONE][i]++;
                fresh |= 1 << i;
                settled = false;
            }
        }
    }

    /** The bus, bit by bit: what each node puts, what all see, and what each node makes of it. */
    private static final class Bus {
        private static final int QUIET = 0, SENDING = 1, LISTENING = 2, FLAGGING = 3, WAITING = 4, CLEARING = 5, PAUSING = 6;
        private static final int BIT_ERROR = 0, FORM_ERROR = 2, ACKNOWLEDGE_ERROR = 4, OVERLOAD = 5;
        private static final int STATE = 0, LEFT = 1, SENDS = 2, AT = 3, LENGTH = 4, WAITS = 5, TOOK = 6, PUT = 7;
        private static final int OWNER = 0, IDENTIFIER = 1, DONE = 2;
        private static final int NODES = CONTROLLERS + 1;
        private static final int FRAMES = 200;
        /** A node tells an error at most each eighth bit time. */
        private static final int ERRORS = NODES * (TIMES / 8 + 1);
        /** 98 plain bits, at most 24 stuff bits, and the ten bits behind the check. */
        private static final int WIRE = 140;
        private static final int TAIL = 10;
        private static final int LAST_ARBITRATED = 13;
        /** On a wire: the bit may be lost to another node without being an error. */
        private static final int ARBITRATED = 2;

        private final byte[] bits = new byte[TIMES];
        private final byte[] flips = new byte[TIMES];
        private final int[] errors = new int[ERRORS];
        private final int[][] node = new int[8][NODES];
        private final int[][] wire = new int[NODES][WIRE];
        private final Ear[] ears = new Ear[NODES];
        private final int[][] frame = new int[3][FRAMES];
        private final int[] octets = new int[8 * FRAMES];
        private int nodes;
        private int frames;
        private int errorCount;
        private int doneCount;
        /** One bit for each node that took a frame in the bit time that went by last. */
        private int fresh;
        private boolean asleep;

        Bus() {
            for (int n = 0; n < NODES; n++) {
                ears[n] = new Ear();
            }
        }

        void begin(int count) {
            nodes = Math.min(count, NODES);
            frames = 0;
            errorCount = 0;
            doneCount = 0;
            fresh = 0;
            asleep = true;
            for (int n = 0; n < NODES; n++) {
                node[STATE][n] = QUIET;
                node[WAITS][n] = 0;
                node[TOOK][n] = 0;
            }
            for (int t = 0; t < TIMES; t++) {
                flips[t] = 0;
            }
        }

        int tellError(int i, int what) {
            int told = errors[i];
            return what == 0 ? told & 7 : what == 1 ? told >> 3 & 7 : told >> 6;
        }

        /** A frame of kind 0 with eight octets, the only ones that a car sends; false without room. */
        boolean send(int owner, int identifier, int[] from) {
            if (frames >= FRAMES) {
                return false;
            }
            frame[OWNER][frames] = owner;
            frame[IDENTIFIER][frames] = identifier;
            frame[DONE][frames] = 0;
            for (int i = 0; i < 8; i++) {
                octets[8 * frames + i] = from[i];
            }
            frames++;
            node[WAITS][owner]++;
            asleep = false;
            return true;
        }

        void passBit(int t) {
            fresh = 0;
            bits[t] = 1;
            if (asleep && flips[t] == 0) {
                return;
            }
            int bus = 1;
            for (int n = 0; n < nodes; n++) {
                node[PUT][n] = putOf(n);
                bus &= node[PUT][n];
            }
            bits[t] = (byte) bus;
            asleep = true;
            for (int n = 0; n < nodes; n++) {
                see(n, bus ^ flips[t] >> n & 1, t);
                asleep &= node[STATE][n] == QUIET && node[WAITS][n] == 0;
            }
        }

        private int putOf(int n) {
            switch (node[STATE][n]) {
                case QUIET:
                    if (node[WAITS][n] == 0) {
                        return 1;
                    }
                    beginSending(n);
                    return 0;
                case SENDING:
                    return wire[n][node[AT][n]] & 1;
                case LISTENING:
                    return ears[n].putBit();
                case FLAGGING:
                    return 0;
                default:
                    return 1;
            }
        }

        private void see(int n, int bit, int t) {
            switch (node[STATE][n]) {
                case QUIET:
                    if (bit == 0) {
                        beginListening(n);
                    }
                    break;
                case SENDING:
                    if (isLosing(n, bit)) {
                        loseArbitration(n);
                    } else {
                        seeSending(n, bit, t);
                    }
                    break;
                case LISTENING:
                    seeListening(n, bit, t);
                    break;
                case FLAGGING:
                    node[LEFT][n]--;
                    if (node[LEFT][n] == 0) {
                        node[STATE][n] = WAITING;
                    }
                    break;
                case WAITING:
                    if (bit == 1) {
                        become(n, CLEARING, 7);
                    }
                    break;
                case CLEARING:
                    seeClearing(n, bit, t);
                    break;
                default:
                    seePausing(n, bit, t);
            }
        }

        private boolean isLosing(int n, int bit) {
            return bit < node[PUT][n] && (wire[n][node[AT][n]] & ARBITRATED) != 0;
        }

        private void seeSending(int n, int bit, int t) {
            boolean acknowledge = node[AT][n] == node[LENGTH][n] - TAIL + 1;
            if (acknowledge && bit == 1) {
                tellFault(n, ACKNOWLEDGE_ERROR, t);
            } else if (!acknowledge && bit != node[PUT][n]) {
                tellFault(n, BIT_ERROR, t);
            } else {
                node[AT][n]++;
                if (node[AT][n] >= node[LENGTH][n]) {
                    endSending(n);
                }
            }
        }

        private void endSending(int n) {
            frame[DONE][node[SENDS][n]] = 1;
            node[WAITS][n]--;
            doneCount++;
            become(n, PAUSING, 3);
        }

        /** Up to the bit that it lost, a node has seen what it put. */
        private void loseArbitration(int n) {
            beginListening(n);
            for (int i = 1; i < node[AT][n]; i++) {
                ears[n].hear(wire[n][i] & 1);
            }
            ears[n].hear(0);
        }

        private void seeListening(int n, int bit, int t) {
            int heard = ears[n].hear(bit);
            if (heard == Ear.TAKEN) {
                node[TOOK][n]++;
                fresh |= 1 << n;
            } else if (heard == Ear.OVER) {
                become(n, PAUSING, 3);
            } else if (heard != Ear.GOES_ON) {
                tellFault(n, heard, t);
            }
        }

        private void seeClearing(int n, int bit, int t) {
            node[LEFT][n]--;
            if (bit == 0) {
                tellFault(n, node[LEFT][n] == 0 ? OVERLOAD : FORM_ERROR, t);
            } else if (node[LEFT][n] == 0) {
                become(n, PAUSING, 3);
            }
        }

        private void seePausing(int n, int bit, int t) {
            node[LEFT][n]--;
            if (bit == 0 && node[LEFT][n] > 0) {
                tellFault(n, OVERLOAD, t);
            } else if (bit == 0 && node[WAITS][n] > 0) {
                beginSending(n);
                node[AT][n] = 1;
            } else if (bit == 0) {
                beginListening(n);
            } else if (node[LEFT][n] == 0) {
                node[STATE][n] = QUIET;
            }
        }

        private void become(int n, int state, int times) {
            node[STATE][n] = state;
            node[LEFT][n] = times;
        }

        private void tellFault(int n, int kind, int t) {
            if (errorCount < ERRORS) {
                errors[errorCount] = kind | n << 3 | t << 6;
                errorCount++;
            }
            become(n, FLAGGING, 6);
        }

        private void beginListening(int n) {
            node[STATE][n] = LISTENING;
            ears[n].begin();
        }

        private void beginSending(int n) {
            int first = -1;
            for (int f = 0; f < frames; f++) {
                if (frame[OWNER][f] == n && frame[DONE][f] == 0 && (first < 0 || isBefore(f, first))) {
                    first = f;
                }
            }
            node[STATE][n] = SENDING;
            node[SENDS][n] = Math.max(first, 0);
            node[AT][n] = 0;
            layOut(n, node[SENDS][n]);
        }

        /** By plain bits: identifiers, then octets, are all in which frames of one kind differ. */
        private boolean isBefore(int f, int other) {
            if (frame[IDENTIFIER][f] != frame[IDENTIFIER][other]) {
                return frame[IDENTIFIER][f] < frame[IDENTIFIER][other];
            }
            for (int i = 0; i < 8; i++) {
                if (octets[8 * f + i] != octets[8 * other + i]) {
                    return octets[8 * f + i] < octets[8 * other + i];
                }
            }
            return false;
        }

        private void layOut(int n, int f) {
            int length = 0;
            int check = 0;
            int same = 0;
            int last = 1;
            for (int i = 0; i < Ear.PLAIN_OF_EIGHT + 15; i++) {
                int bit = i < Ear.PLAIN_OF_EIGHT ? plainBit(f, i) : check >> 14 - (i - Ear.PLAIN_OF_EIGHT) & 1;
                if (i < Ear.PLAIN_OF_EIGHT) {
                    check = Ear.nextCheck(check, bit, 15, Ear.CHECK_15);
                }
                wire[n][length] = bit | (i <= LAST_ARBITRATED ? ARBITRATED : 0);
                length++;
                same = bit == last ? same + 1 : 1;
                last = bit;
                if (same == 5) {
                    last = 1 - bit;
                    same = 1;
                    wire[n][length] = last;
                    length++;
                }
            }
            for (int i = 0; i < TAIL; i++) {
                wire[n][length + i] = 1;
            }
            node[LENGTH][n] = length + TAIL;
        }

        /** Of the 19 bits before the octets only the identifier and the code 8 have ones. */
        private int plainBit(int f, int i) {
            if (i >= 19) {
                return octets[8 * f + (i - 19) / 8] >> 7 - (i - 19) % 8 & 1;
            }
            if (i >= 1 && i <= 11) {
                return frame[IDENTIFIER][f] >> 11 - i & 1;
            }
            return i == 15 ? 1 : 0;
        }
    }

    /** What a listening node makes of the bits of a frame, of any kind, since flips may show it any. */
    private static final class Ear {
        private static final int STUFF_ERROR = 1, FORM_ERROR = 2, CHECK_ERROR = 3, OVERLOAD = 5;
        private static final int GOES_ON = -1, TAKEN = -2, OVER = -3;
        private static final int STUFFED = 0, FIXED = 1, TAIL = 2;
        private static final int CHECK_15 = 17817, CHECK_17 = 92251, CHECK_21 = 1058969;
        private static final int PLAIN_OF_EIGHT = 83;
        private static final int UNKNOWN = 100000;
        private static final int[] FLEXIBLE_OCTETS = {0, 1, 2, 3, 4, 5, 6, 7, 8, 12, 16, 20, 24, 32, 48, 64};

        private final int[] octets = new int[64];
        private int stage;
        private int last;
        private int same;
        private int stuffs;
        private int plain;
        private int behind;
        private int check15;
        private int check17;
        private int check21;
        private int identifier;
        private int remote;
        private int extended;
        private int flexible;
        private int code;
        private int codeAt;
        private int octetCount;
        private int octetsEnd;
        private int told;
        private int toldCount;

        /** The 0 by which a frame begins is heard by this already. */
        void begin() {
            stage = STUFFED;
            last = 0;
            same = 1;
            stuffs = 0;
            plain = 1;
            behind = 0;
            check15 = nextCheck(0, 0, 15, CHECK_15);
            check17 = nextCheck(1 << 16, 0, 17, CHECK_17);
            check21 = nextCheck(1 << 20, 0, 21, CHECK_21);
            identifier = 0;
            remote = 0;
            extended = 0;
            flexible = 0;
            code = 0;
            codeAt = UNKNOWN;
            octetCount = 0;
            octetsEnd = UNKNOWN;
            told = 0;
            toldCount = 0;
        }

        int kind() {
            return extended + (flexible == 1 ? 2 : remote == 1 ? 4 : 0);
        }

        int putBit() {
            return stage == TAIL && behind == 1 && isCheckRight() ? 0 : 1;
        }

        private boolean isCheckRight() {
            if (flexible == 0) {
                return told == check15;
            }
            return told == (octetCount <= 16 ? check17 : check21);
        }

        int hear(int bit) {
            if (stage == FIXED) {
                return hearFixed(bit);
            }
            if (stage == TAIL) {
                return hearTail(bit);
            }
            if (same == 5) {
                return hearStuffBit(bit);
            }
            same = bit == last ? same + 1 : 1;
            last = bit;
            int n = plain;
            plain++;
            hearPlain(n, bit);
            if (bit == 1 && flexible == 1 && n == (extended == 1 ? 34 : 15)) {
                return FORM_ERROR;
            }
            if (plain == stuffedEnd() && flexible == 1) {
                stage = FIXED;
            } else if (plain == stuffedEnd() && same < 5) {
                stage = TAIL;
            }
            return GOES_ON;
        }

        private int stuffedEnd() {
            return flexible == 1 ? octetsEnd : octetsEnd + 15;
        }

        private int hearStuffBit(int bit) {
            if (bit == last) {
                return STUFF_ERROR;
            }
            last = bit;
            same = 1;
            stuffs++;
            check17 = nextCheck(check17, bit, 17, CHECK_17);
            check21 = nextCheck(check21, bit, 21, CHECK_21);
            if (plain == stuffedEnd()) {
                stage = TAIL;
            }
            return GOES_ON;
        }

        private void hearPlain(int n, int bit) {
            if (n >= octetsEnd) {
                told = told << 1 | bit;
                return;
            }
            check15 = nextCheck(check15, bit, 15, CHECK_15);
            check17 = nextCheck(check17, bit, 17, CHECK_17);
            check21 = nextCheck(check21, bit, 21, CHECK_21);
            if (n < codeAt) {
                hearHead(n, bit);
            } else if (n < codeAt + 4) {
                code = code << 1 | bit;
                if (n == codeAt + 3) {
                    findEnds();
                }
            } else {
                int i = (n - codeAt - 4) / 8;
                octets[i] = (octets[i] << 1 | bit) & 255;
            }
        }

        private void hearHead(int n, int bit) {
            if (n >= 1 && n <= 11 || extended == 1 && n >= 14 && n <= 31) {
                identifier = identifier << 1 | bit;
            } else if (n == 12 || n == 32) {
                remote = bit;
            } else if (n == 13) {
                extended = bit;
            } else if (n == 14 || n == 33) {
                flexible = bit;
                codeAt = n + 1 + 3 * bit + (extended == 1 && bit == 0 ? 1 : 0);
            }
        }

        private void findEnds() {
            if (flexible == 1) {
                octetCount = FLEXIBLE_OCTETS[code];
            } else {
                octetCount = remote == 1 ? 0 : Math.min(code, 8);
            }
            octetsEnd = codeAt + 4 + 8 * octetCount;
        }

        /** Before every four bits of count and check stands a fixed one. */
        private int hearFixed(int bit) {
            int i = behind;
            boolean like = bit == last;
            behind++;
            last = bit;
            if (i % 5 == 0) {
                return like ? STUFF_ERROR : GOES_ON;
            }
            int n = i - i / 5 - 1;
            if (n < 4) {
                toldCount = toldCount << 1 | bit;
                check17 = nextCheck(check17, bit, 17, CHECK_17);
                check21 = nextCheck(check21, bit, 21, CHECK_21);
                return n == 3 && toldCount != countOfStuffs() ? STUFF_ERROR : GOES_ON;
            }
            told = told << 1 | bit;
            if (n == 3 + (octetCount <= 16 ? 17 : 21)) {
                stage = TAIL;
                behind = 0;
            }
            return GOES_ON;
        }

        private int countOfStuffs() {
            int n = stuffs % 8;
            int three = n ^ n / 2;
            return three << 1 | Integer.bitCount(three) & 1;
        }

        private int hearTail(int bit) {
            int i = behind;
            behind++;
            if (i == 1) {
                return GOES_ON;
            }
            if (bit == 0) {
                return i == 9 ? OVERLOAD : FORM_ERROR;
            }
            if (i == 2 && !isCheckRight()) {
                return CHECK_ERROR;
            }
            return i == 8 ? TAKEN : i >= 9 ? OVER : GOES_ON;
        }

        static int nextCheck(int check, int bit, int width, int by) {
            int moved = check << 1 & (1 << width) - 1;
            return (check >> width - 1 & 1) != bit ? moved ^ by : moved;
        }
    }

    /** A chart: its states, edges, acts and data, and how it goes on by events. */
    private static final class Chart {
        private static final int STATES = 200, EDGES = 400, ACTS = 600, QUEUE = 16, DEEPEST = 40, SPOKEN_AT_MOST = 1000;
        private static final int PLAIN = 0, SPLIT = 1, HISTORY = 2, DEEP = 3, FORK = 4, JOIN = 5;
        private static final int AT_ENTRY = 0, AT_EXIT = 1, ON_EDGE = 2;
        private static final int PARENT = 0, KIND = 1, DEPTH = 2, TICKS = 3, DEFAULT = 4, ACTIVE = 5, CHILD = 6, LEFT_BY = 7, SINCE = 8,
            SPOKEN = 9, PICK = 10, RECALL = 11, COMING = 12, LEAVING = 13, INSIDE = 14, ENTERED = 15, RISING = 16, FALLING = 17;
        private static final int FROM = 0, TO = 1, EVENT = 2, GUARD = 3, DOMAIN = 4, SEEN = 5, READY = 6;
        private static final int OF = 0, WHEN = 1, DATUM = 2, VALUE = 3, ADDS = 4;
        private static final int WAS_TAKEN = 1, DID_HOLD = 2, DID_NOT_HOLD = 4;
        private static final int SHALLOW = 1, WHOLE = 2;

        private final int[][] state = new int[18][STATES + 1];
        private final int[][] edge = new int[7][EDGES + 1];
        private final int[][] act = new int[5][ACTS];
        private final long[] data = new long[DATA];
        private final int[] events = new int[QUEUE];
        private int controller;
        private int limit;
        private int states;
        private int edges;
        private int acts;
        private int dataCount;
        private int queued;
        private int now;
        private int stops;
        private int dropped;
        private int byZero;
        private boolean started;

        void begin(int core, int chainLimit) {
            controller = core;
            limit = chainLimit;
            states = 0;
            edges = 0;
            acts = 0;
            dataCount = 0;
            queued = 0;
            now = 0;
            stops = 0;
            dropped = 0;
            byZero = 0;
            started = false;
            for (int i = 0; i < DATA; i++) {
                data[i] = 0;
            }
            clearState(0);
        }

        private void clearState(int s) {
            for (int row = 0; row <= ENTERED; row++) {
                state[row][s] = 0;
            }
        }

        int addState(int parent, int kind) {
            int depth = state[DEPTH][parent] + 1;
            if (isMark(parent) || depth > DEEPEST) {
                return -2;
            }
            if (states >= STATES) {
                return -4;
            }
            states++;
            clearState(states);
            state[PARENT][states] = parent;
            state[KIND][states] = kind;
            state[DEPTH][states] = depth;
            if (state[DEFAULT][parent] == 0 && !isMark(states)) {
                state[DEFAULT][parent] = states;
            }
            putInOrder(RISING, 1);
            putInOrder(FALLING, -1);
            return states;
        }

        /** The new state has the greatest number, so it comes behind all others of its depth. */
        private void putInOrder(int row, int direction) {
            int depth = direction * state[DEPTH][states];
            int at = states;
            while (at > 1 && direction * state[DEPTH][state[row][at - 1]] > depth) {
                state[row][at] = state[row][at - 1];
                at--;
            }
            state[row][at] = states;
        }

        int addEdge(int from, int to, int event, int guard) {
            if (state[KIND][from] == HISTORY || state[KIND][from] == DEEP) {
                return -2;
            }
            if (edges >= EDGES) {
                return -4;
            }
            edges++;
            edge[FROM][edges] = from;
            edge[TO][edges] = to;
            edge[EVENT][edges] = event;
            edge[GUARD][edges] = guard;
            edge[SEEN][edges] = 0;
            return edges;
        }

        int addAct(int of, int when, int datum, int v, boolean adds) {
            if (of == 0) {
                return -1;
            }
            if (when != ON_EDGE && isMark(of)) {
                return -2;
            }
            if (acts >= ACTS) {
                return -4;
            }
            act[OF][acts] = of;
            act[WHEN][acts] = when;
            act[DATUM][acts] = datum;
            act[VALUE][acts] = v;
            act[ADDS][acts] = adds ? 1 : 0;
            acts++;
            return acts;
        }

        int addDatum(int v) {
            if (dataCount >= DATA) {
                return -4;
            }
            data[dataCount] = v;
            dataCount++;
            return dataCount - 1;
        }

        int setTicks(int s, int ticks) {
            if (isMark(s)) {
                return -2;
            }
            state[TICKS][s] = ticks;
            return 1000 + s;
        }

        private boolean isMark(int s) {
            return state[KIND][s] >= HISTORY;
        }

        /** Sources and targets never change, so neither does the domain of an edge. */
        void findDomains() {
            for (int e = 1; e <= edges; e++) {
                int d = state[PARENT][edge[FROM][e]];
                if (state[KIND][edge[FROM][e]] == JOIN) {
                    d = state[PARENT][firstInto(edge[FROM][e])];
                }
                for (int n = 0; n <= DEEPEST && d != 0 && !isAround(d, e); n++) {
                    d = state[PARENT][d];
                }
                edge[DOMAIN][e] = d;
            }
        }

        private int firstInto(int join) {
            for (int e = 1; e <= edges; e++) {
                if (edge[TO][e] == join) {
                    return edge[FROM][e];
                }
            }
            return join;
        }

        private boolean isAround(int d, int e) {
            if (state[KIND][d] != PLAIN) {
                return false;
            }
            int from = edge[FROM][e];
            int to = edge[TO][e];
            boolean around = (state[KIND][from] == JOIN || isIn(from, d)) && (state[KIND][to] == FORK || isIn(to, d));
            for (int i = 1; i <= edges && around; i++) {
                if (state[KIND][from] == JOIN && edge[TO][i] == from) {
                    around = isIn(edge[FROM][i], d);
                }
                if (state[KIND][to] == FORK && edge[FROM][i] == to && isAim(edge[TO][i])) {
                    around &= isIn(edge[TO][i], d);
                }
            }
            return around;
        }

        private boolean isAim(int s) {
            return state[KIND][s] != FORK && state[KIND][s] != JOIN;
        }

        private boolean isIn(int s, int d) {
            int up = s;
            for (int n = 0; n <= DEEPEST && up != 0; n++) {
                up = state[PARENT][up];
                if (up == d) {
                    return true;
                }
            }
            return false;
        }

        boolean queue(int event) {
            if (queued >= QUEUE) {
                return false;
            }
            events[queued] = event;
            queued++;
            return true;
        }

        /** A task that is done lets the waiting events happen; without any, time alone goes on. */
        void workOff(int t) {
            int waiting = queued;
            queued = 0;
            if (state[DEFAULT][0] == 0) {
                return;
            }
            if (waiting == 0 && !happen(0, t)) {
                stops++;
            }
            for (int i = 0; i < waiting; i++) {
                if (!happen(events[i], t)) {
                    stops++;
                }
            }
        }

        /** Whether nothing was stopped. */
        private boolean happen(int event, int t) {
            if (!started) {
                started = true;
                now = t;
                aim(0, 0);
                enterAll(0);
                if (!chain()) {
                    return false;
                }
            }
            int speaks = nextToSpeak(t);
            for (int n = 0; n < SPOKEN_AT_MOST && speaks != 0; n++) {
                state[SPOKEN][speaks] = 1;
                now = state[SINCE][speaks] + state[TICKS][speaks];
                goOn(select(1000 + speaks));
                if (!chain()) {
                    return false;
                }
                speaks = nextToSpeak(t);
            }
            if (speaks != 0) {
                return false;
            }
            now = t;
            if (event == 0) {
                return true;
            }
            int taken = select(event);
            goOn(taken);
            dropped += taken == 0 ? 1 : 0;
            return chain();
        }

        private int nextToSpeak(int t) {
            int first = 0;
            int due = t + 1;
            for (int s = 1; s <= states; s++) {
                if (state[TICKS][s] > 0 && state[ACTIVE][s] == 1 && state[SPOKEN][s] == 0 && state[SINCE][s] + state[TICKS][s] < due) {
                    first = s;
                    due = state[SINCE][s] + state[TICKS][s];
                }
            }
            return first;
        }

        private boolean chain() {
            for (int n = 0; n < limit; n++) {
                int taken = select(0);
                if (taken == 0) {
                    return true;
                }
                goOn(taken);
            }
            return select(0) == 0;
        }

        /** How many edges a step takes; they stand in the row of the ready ones then. */
        private int select(int event) {
            int ready = 0;
            for (int e = 1; e <= edges; e++) {
                if (edge[EVENT][e] == event && mayGo(e) && holds(e)) {
                    ready = putReady(e, ready);
                }
            }
            if (ready == 0) {
                return 0;
            }
            for (int s = 1; s <= states; s++) {
                state[LEAVING][s] = 0;
            }
            int taken = 0;
            for (int i = 0; i < ready; i++) {
                int e = edge[READY][i];
                if (claim(edge[DOMAIN][e])) {
                    edge[READY][taken] = e;
                    taken++;
                }
            }
            return taken;
        }

        private boolean mayGo(int e) {
            int from = edge[FROM][e];
            if (state[KIND][edge[TO][e]] == JOIN || state[KIND][from] == FORK) {
                return false;
            }
            return state[KIND][from] == JOIN ? isJoined(from) : state[ACTIVE][from] == 1;
        }

        private boolean isJoined(int join) {
            boolean any = false;
            for (int e = 1; e <= edges; e++) {
                if (edge[TO][e] == join) {
                    any = true;
                    if (state[ACTIVE][edge[FROM][e]] == 0) {
                        return false;
                    }
                }
            }
            return any;
        }

        private boolean holds(int e) {
            int guard = edge[GUARD][e];
            if (guard == 0) {
                return true;
            }
            int second = guard / 256 % 32;
            boolean held = compare(guard % 8, data[guard / 8 % 32], guard >= 8192 ? second : data[second]);
            edge[SEEN][e] |= held ? DID_HOLD : DID_NOT_HOLD;
            return held;
        }

        private boolean compare(int op, long a, long b) {
            if (op >= 5 && b == 0) {
                byZero++;
                return false;
            }
            switch (op) {
                case 1: return a == b;
                case 2: return a != b;
                case 3: return a < b;
                case 4: return a >= b;
                case 5: return a / b != 0;
                default: return a % b == 0;
            }
        }

        /** The deepest first; edges come in the order of their numbers, so of one depth they stay so. */
        private int putReady(int e, int ready) {
            int depth = state[DEPTH][edge[FROM][e]];
            int at = ready;
            while (at > 0 && state[DEPTH][edge[FROM][edge[READY][at - 1]]] < depth) {
                edge[READY][at] = edge[READY][at - 1];
                at--;
            }
            edge[READY][at] = e;
            return ready + 1;
        }

        /** Whether all active states in the domain are still free to be left; they are claimed then. */
        private boolean claim(int d) {
            markInside(d);
            for (int s = 1; s <= states; s++) {
                if (state[INSIDE][s] == 1 && state[ACTIVE][s] == 1 && state[LEAVING][s] == 1) {
                    return false;
                }
            }
            for (int s = 1; s <= states; s++) {
                if (state[INSIDE][s] == 1 && state[ACTIVE][s] == 1) {
                    state[LEAVING][s] = 1;
                }
            }
            return true;
        }

        /** A state's number is greater than its parent's, so one way through them is enough. */
        private void markInside(int d) {
            state[INSIDE][0] = 0;
            for (int s = 1; s <= states; s++) {
                int parent = state[PARENT][s];
                state[INSIDE][s] = parent == d || state[INSIDE][parent] == 1 ? 1 : 0;
            }
        }

        private void goOn(int taken) {
            for (int i = 0; i < taken; i++) {
                int e = edge[READY][i];
                int d = edge[DOMAIN][e];
                edge[SEEN][e] |= WAS_TAKEN;
                leaveAll(d);
                doActs(ON_EDGE, e);
                aim(e, d);
                enterAll(d);
            }
        }

        private void leaveAll(int d) {
            markInside(d);
            for (int i = 1; i <= states; i++) {
                int s = state[FALLING][i];
                if (state[INSIDE][s] == 1 && state[ACTIVE][s] == 1) {
                    if (state[CHILD][s] != 0) {
                        state[LEFT_BY][s] = state[CHILD][s];
                    }
                    state[CHILD][s] = 0;
                    state[ACTIVE][s] = 0;
                    doActs(AT_EXIT, s);
                }
            }
        }

        private void doActs(int when, int of) {
            for (int i = 0; i < acts; i++) {
                if (act[WHEN][i] == when && act[OF][i] == of) {
                    int datum = act[DATUM][i];
                    data[datum] = (act[ADDS][i] == 1 ? data[datum] : 0) + act[VALUE][i];
                }
            }
        }

        /** Which children the targets of an edge (0: of the start, which has none) ask for. */
        private void aim(int e, int d) {
            for (int s = 0; s <= states; s++) {
                state[PICK][s] = 0;
                state[RECALL][s] = 0;
            }
            if (e == 0) {
                return;
            }
            int to = edge[TO][e];
            if (state[KIND][to] != FORK) {
                aimAt(to, d);
                return;
            }
            for (int i = 1; i <= edges; i++) {
                if (edge[FROM][i] == to && isAim(edge[TO][i])) {
                    aimAt(edge[TO][i], d);
                }
            }
        }

        private void aimAt(int target, int d) {
            boolean recalls = state[KIND][target] >= HISTORY;
            int from = recalls ? state[PARENT][target] : target;
            int s = from;
            for (int n = 0; n <= DEEPEST && s != d && s != 0; n++) {
                int parent = state[PARENT][s];
                if (state[KIND][parent] == PLAIN && state[PICK][parent] != 0 && state[PICK][parent] != s) {
                    return;
                }
                s = parent;
            }
            s = from;
            for (int n = 0; n <= DEEPEST && s != d && s != 0; n++) {
                state[PICK][state[PARENT][s]] = s;
                s = state[PARENT][s];
            }
            if (recalls) {
                state[RECALL][from] |= state[KIND][target] == DEEP ? WHOLE : SHALLOW;
            }
        }

        private void enterAll(int d) {
            pickChild(d);
            state[COMING][0] = 0;
            for (int s = 1; s <= states; s++) {
                int parent = state[PARENT][s];
                boolean wanted = state[KIND][parent] == SPLIT || state[PICK][parent] == s;
                boolean comes = !isMark(s) && wanted && (parent == d || state[COMING][parent] == 1);
                state[COMING][s] = comes ? 1 : 0;
                if (comes) {
                    state[RECALL][s] |= state[RECALL][parent] & WHOLE;
                    pickChild(s);
                }
            }
            for (int i = 1; i <= states; i++) {
                int s = state[RISING][i];
                if (state[COMING][s] == 1) {
                    state[ACTIVE][s] = 1;
                    state[ENTERED][s] = 1;
                    state[SINCE][s] = now;
                    state[SPOKEN][s] = 0;
                    if (state[KIND][state[PARENT][s]] == PLAIN) {
                        state[CHILD][state[PARENT][s]] = s;
                    }
                    doActs(AT_ENTRY, s);
                }
            }
        }

        private void pickChild(int s) {
            if (state[PICK][s] == 0 && state[RECALL][s] != 0) {
                state[PICK][s] = state[LEFT_BY][s];
            }
            if (state[PICK][s] == 0) {
                state[PICK][s] = state[DEFAULT][s];
            }
        }

        int innermost(int region) {
            if (region != 0 && state[ACTIVE][region] == 0) {
                return 0;
            }
            int s = region;
            for (int n = 0; n <= DEEPEST && state[CHILD][s] != 0; n++) {
                s = state[CHILD][s];
            }
            return s;
        }

        int covered(int kind) {
            int n = 0;
            if (kind == 0) {
                for (int s = 1; s <= states; s++) {
                    n += state[ENTERED][s];
                }
                return n;
            }
            if (kind == 4) {
                return byZero;
            }
            int mark = kind == 1 ? WAS_TAKEN : kind == 2 ? DID_HOLD : DID_NOT_HOLD;
            for (int e = 1; e <= edges; e++) {
                n += (edge[SEEN][e] & mark) != 0 ? 1 : 0;
            }
            return n;
        }
    }

    /** Codes of short rows of octets, made with the block cipher under the keys 1 .. 16. */
    private static final class Codes {
        private static final int KEYS = 16, BLOCK = 16, ROUNDS = 10, SCHEDULE = BLOCK * (ROUNDS + 1);

        private final int[] replaced = new int[256];
        private final int[] doubled = new int[256];
        private final int[][] roundKey = new int[KEYS + 1][SCHEDULE];
        private final int[][] second = new int[KEYS + 1][BLOCK];
        private final boolean[] known = new boolean[KEYS + 1];
        private final int[] block = new int[BLOCK];
        private final int[] out = new int[BLOCK];

        Codes() {
            int power = 1;
            int inverse = 1;
            replaced[0] = 99;
            for (int x = 0; x < 256; x++) {
                doubled[x] = x << 1 & 255 ^ (x >= 128 ? 27 : 0);
            }
            // The powers of 3 are all octets but 0, and those of 246, its inverse, are theirs.
            for (int n = 0; n < 255; n++) {
                replaced[power] = mixBits(inverse);
                power ^= doubled[power];
                inverse = timesInverseOfThree(inverse);
            }
        }

        private static int mixBits(int y) {
            int twice = y << 8 | y;
            return (y ^ twice >> 7 ^ twice >> 6 ^ twice >> 5 ^ twice >> 4 ^ 99) & 255;
        }

        /** Shifts and sums that undo x xor 2 x. */
        private static int timesInverseOfThree(int x) {
            int y = x ^ x << 1;
            y ^= y << 2;
            y ^= y << 4;
            return y & 255 ^ ((y & 128) != 0 ? 9 : 0);
        }

        void learn(int key) {
            if (!known[key]) {
                known[key] = true;
                spreadKey(key);
                makeSecond(key);
            }
        }

        /** Under a key that was learnt out becomes the code of a row of at least one and less than 16 octets. */
        void make(int key, int[] row, int n) {
            for (int i = 0; i < BLOCK; i++) {
                block[i] = (i < n ? row[i] : i == n ? 128 : 0) ^ second[key][i];
            }
            encrypt(key);
        }

        boolean isOut(int[] row, int from) {
            for (int i = 0; i < 4; i++) {
                if (row[from + i] != out[i]) {
                    return false;
                }
            }
            return true;
        }

        private void spreadKey(int key) {
            int[] w = roundKey[key];
            int power = 1;
            for (int i = 0; i < BLOCK; i++) {
                w[i] = key + i;
            }
            for (int i = BLOCK; i < SCHEDULE; i += 4) {
                boolean first = i % BLOCK == 0;
                for (int r = 0; r < 4; r++) {
                    w[i + r] = w[i + r - BLOCK] ^ (first ? replaced[w[i - 4 + (r + 1) % 4]] : w[i - 4 + r]);
                }
                if (first) {
                    w[i] ^= power;
                    power = doubled[power];
                }
            }
        }

        /** Rows shorter than a block, the only ones here, need only what their last block is mixed with. */
        private void makeSecond(int key) {
            for (int i = 0; i < BLOCK; i++) {
                block[i] = 0;
            }
            encrypt(key);
            for (int i = 0; i < BLOCK; i++) {
                second[key][i] = out[i];
            }
            for (int n = 0; n < 2; n++) {
                int went = second[key][0] >> 7;
                for (int i = 0; i < BLOCK; i++) {
                    int next = i + 1 < BLOCK ? second[key][i + 1] >> 7 : 0;
                    second[key][i] = second[key][i] << 1 & 255 | next;
                }
                second[key][BLOCK - 1] ^= went == 1 ? 135 : 0;
            }
        }

        private void encrypt(int key) {
            int[] w = roundKey[key];
            for (int i = 0; i < BLOCK; i++) {
                out[i] = block[i] ^ w[i];
            }
            for (int j = 1; j <= ROUNDS; j++) {
                for (int i = 0; i < BLOCK; i++) {
                    block[i] = replaced[out[(i + 4 * (i % 4)) % BLOCK]];
                }
                for (int i = 0; i < BLOCK; i++) {
                    int column = i / 4 * 4;
                    int a = block[i];
                    int b = block[column + (i + 1) % 4];
                    int c = block[column + (i + 2) % 4];
                    int d = block[column + (i + 3) % 4];
                    int mixed = j < ROUNDS ? doubled[a] ^ doubled[b] ^ b ^ c ^ d : a;
                    out[i] = mixed ^ w[BLOCK * j + i];
                }
            }
        }
    }

    /** Messages between tester and controllers, cut into frames that reach the other side or are lost. */
    private static final class Transfer {
        private static final int IDENTIFIER = 1536, MESSAGES = 100, PATIENCE = 1000;
        /** At most 100 octets make a first frame, 14 behind it and a flow: 6000 are never reached. */
        private static final int FRAMES = 16 * MESSAGES;
        private static final int IDLE = 0, WAITING = 1, SENDING = 2, DONE = 3, ENDED = 4;
        private static final int RECEIVING = 1;
        private static final int SINGLE = 0, FIRST = 1, CONSECUTIVE = 2, FLOW = 3;
        private static final int CONTROLLER = 0, ASKS = 1, SIZE = 2, STATE = 3, BEGAN = 4;
        private static final int MODE = 0, MESSAGE = 1, GOT = 2, AWAITED = 3, HEARD = 4;
        private static final int KIND = 0, OF = 1, SEQUENCE = 2, GONE = 3;
        private static final int RECEIVERS = 4;

        private final int[][] message = new int[5][MESSAGES + 1];
        private final int[][] octets = new int[MESSAGES + 1][SAID];
        private final int[][] receiver = new int[5][RECEIVERS];
        private final int[][] frame = new int[4][FRAMES];
        private final int[] written = new int[8];
        private int messages;
        private int frames;
        private int handed;
        private int settled;
        private int clock;
        private boolean ended;

        void clear() {
            messages = 0;
            frames = 0;
            handed = 0;
            settled = 0;
            clock = 0;
            ended = false;
            for (int r = 0; r < RECEIVERS; r++) {
                receiver[MODE][r] = IDLE;
            }
        }

        /** A message, to be sent when time goes on; none is made beyond the hundredth. */
        void make(int controller, boolean asks, int[] from, int size) {
            if (messages >= MESSAGES || size < 1 || size > SAID) {
                return;
            }
            messages++;
            message[CONTROLLER][messages] = controller;
            message[ASKS][messages] = asks ? 1 : 0;
            message[SIZE][messages] = size;
            message[STATE][messages] = IDLE;
            for (int i = 0; i < size; i++) {
                octets[messages][i] = from[i];
            }
        }

        boolean isQuestion(int m) {
            return message[ASKS][m] == 1;
        }

        int controllerOf(int f) {
            return message[CONTROLLER][frame[OF][f]];
        }

        boolean isToTester(int f) {
            return isQuestion(frame[OF][f]) == (frame[KIND][f] == FLOW);
        }

        void lose(int f) {
            frame[GONE][f] = 1;
        }

        /**
         * The first frame on its way to one side reaches it: the message that is whole by it, or 0.
         * A frame is on its way from its handing to the bus on, not from its making on: what is made
         * while frames are taken is handed over at the end of that microsecond.
         */
        int reach(int controller, boolean toTester) {
            for (int f = 0; f < handed; f++) {
                if (frame[GONE][f] == 0 && controllerOf(f) == controller && isToTester(f) == toTester) {
                    frame[GONE][f] = 1;
                    return receive(f);
                }
            }
            return 0;
        }

        private int receive(int f) {
            int m = frame[OF][f];
            if (frame[KIND][f] == FLOW) {
                if (message[STATE][m] == WAITING) {
                    message[STATE][m] = SENDING;
                }
                return 0;
            }
            if (frame[KIND][f] == CONSECUTIVE) {
                return receiveNext(m, frame[SEQUENCE][f]);
            }
            int r = m % RECEIVERS;
            if (receiver[MODE][r] == RECEIVING) {
                ended = true;
            }
            if (frame[KIND][f] == SINGLE) {
                receiver[MODE][r] = DONE;
                return m;
            }
            receiver[MODE][r] = RECEIVING;
            receiver[MESSAGE][r] = m;
            receiver[GOT][r] = 6;
            receiver[AWAITED][r] = 1;
            receiver[HEARD][r] = clock;
            makeFrame(FLOW, m, 0);
            return 0;
        }

        private int receiveNext(int m, int sequence) {
            int r = m % RECEIVERS;
            if (receiver[MODE][r] != RECEIVING || receiver[MESSAGE][r] != m) {
                return 0;
            }
            if (receiver[AWAITED][r] != sequence) {
                receiver[MODE][r] = ENDED;
                ended = true;
                return 0;
            }
            receiver[GOT][r] += 7;
            receiver[AWAITED][r] = (sequence + 1) % 16;
            receiver[HEARD][r] = clock;
            if (receiver[GOT][r] < message[SIZE][m]) {
                return 0;
            }
            receiver[MODE][r] = DONE;
            return m;
        }

        private void makeFrame(int kind, int m, int sequence) {
            if (frames >= FRAMES) {
                return;
            }
            frame[KIND][frames] = kind;
            frame[OF][frames] = m;
            frame[SEQUENCE][frames] = sequence;
            frame[GONE][frames] = 0;
            frames++;
        }

        /** New messages are sent at the time before, then what is due up to the new time happens. */
        void tick(int t) {
            for (int m = settled + 1; m <= messages; m++) {
                if (message[STATE][m] == IDLE) {
                    begin(m);
                }
            }
            for (int m = settled + 1; m <= messages; m++) {
                goOn(m, t);
            }
            while (settled < messages && message[STATE][settled + 1] >= DONE) {
                settled++;
            }
            for (int r = 0; r < RECEIVERS; r++) {
                if (receiver[MODE][r] == RECEIVING && t - receiver[HEARD][r] >= PATIENCE) {
                    receiver[MODE][r] = ENDED;
                    ended = true;
                }
            }
            clock = t;
        }

        private void begin(int m) {
            boolean single = message[SIZE][m] <= 7;
            makeFrame(single ? SINGLE : FIRST, m, 0);
            message[STATE][m] = single ? DONE : WAITING;
            message[BEGAN][m] = clock;
        }

        /** Flows name neither blocks nor separations, so all that is left goes at once. */
        private void goOn(int m, int t) {
            if (message[STATE][m] == SENDING) {
                int left = message[SIZE][m] - 6;
                for (int sequence = 1; left > 0; sequence++) {
                    makeFrame(CONSECUTIVE, m, sequence % 16);
                    left -= 7;
                }
                message[STATE][m] = DONE;
            } else if (message[STATE][m] == WAITING && t - message[BEGAN][m] >= PATIENCE) {
                message[STATE][m] = ENDED;
                ended = true;
            }
        }

        /** The octets that a frame has on the bus. */
        void writeOctets(int f) {
            int m = frame[OF][f];
            int kind = frame[KIND][f];
            int low = kind == FIRST ? message[SIZE][m] : frame[SEQUENCE][f];
            int from = kind == CONSECUTIVE ? 6 + 7 * (frame[SEQUENCE][f] - 1) : 0;
            int most = kind == FLOW ? 0 : kind == FIRST ? 6 : 7;
            written[0] = 16 * kind + (low & 15);
            for (int i = 0; i < 7; i++) {
                boolean there = i < most && from >= 0 && from + i < message[SIZE][m];
                written[1 + i] = there ? octets[m][from + i] : 0;
            }
        }
    }

    /** The watches, each with its code, and the memory of those that failed. */
    private static final class Troubles {
        private static final int SIGNAL = 0, CONTROLLER = 1, PATIENCE = 2, NOTED = 3, PRIORITY = 4, STATUS = 5, COUNTER = 6, TRIPS = 7, AGE = 8,
            GOOD = 9, FIRST = 10, LAST = 11;
        private static final int FAILED = 1, FAILED_NOW = 2, PENDING = 4, CONFIRMED = 8, UNTESTED = 16, FAILED_SINCE = 32, UNTESTED_NOW = 64,
            LAMP = 128;
        private static final int ROOM = 8, UP = 64, DOWN = 127, HIGHEST = 127, LOWEST = -128, OLD = 40;

        private final int[][] code = new int[12][WATCHES];
        private final int[] entry = new int[ROOM];
        private int codes;
        private int entries;
        private int cycles;
        private int events;

        void clear() {
            codes = 0;
            entries = 0;
            cycles = 0;
            events = 0;
        }

        int addWatch(int signal, int controller, int priority, int patience) {
            if (codes >= WATCHES) {
                return -4;
            }
            code[SIGNAL][codes] = signal;
            code[CONTROLLER][codes] = controller;
            code[PRIORITY][codes] = priority;
            code[PATIENCE][codes] = patience;
            code[NOTED][codes] = 0;
            forget(codes);
            codes++;
            return codes;
        }

        private void forget(int i) {
            code[STATUS][i] = UNTESTED | UNTESTED_NOW;
            code[COUNTER][i] = 0;
            code[TRIPS][i] = 0;
            code[AGE][i] = 0;
            code[GOOD][i] = 0;
        }

        void forgetAll() {
            for (int i = 0; i < codes; i++) {
                forget(i);
            }
            entries = 0;
        }

        boolean isWatching(int i, int controller) {
            return code[CONTROLLER][i] == controller;
        }

        int signalOf(int i) {
            return code[SIGNAL][i];
        }

        void lookForSilence(int t) {
            for (int i = 0; i < codes; i++) {
                if (t - code[NOTED][i] >= code[PATIENCE][i]) {
                    noteFailed(i, t);
                }
            }
        }

        void notePassed(int i, int t) {
            code[NOTED][i] = t;
            events++;
            code[COUNTER][i] = Math.max(Math.min(code[COUNTER][i], 0) - DOWN, LOWEST);
            if (code[COUNTER][i] == LOWEST) {
                code[STATUS][i] &= ~(FAILED | UNTESTED | UNTESTED_NOW);
            }
        }

        private void noteFailed(int i, int t) {
            code[NOTED][i] = t;
            events++;
            code[COUNTER][i] = Math.min(Math.max(code[COUNTER][i], 0) + UP, HIGHEST);
            if (code[COUNTER][i] == HIGHEST) {
                testFailed(i);
            }
        }

        private void testFailed(int i) {
            int status = code[STATUS][i];
            boolean before = (status & FAILED) != 0;
            if ((status & FAILED_NOW) == 0) {
                code[TRIPS][i] = Math.min(code[TRIPS][i] + 1, 255);
            }
            status &= ~(UNTESTED | UNTESTED_NOW);
            if (code[TRIPS][i] >= 2) {
                status |= code[PRIORITY][i] <= 64 ? CONFIRMED | LAMP : CONFIRMED;
            }
            code[STATUS][i] = status | FAILED | FAILED_NOW | PENDING | FAILED_SINCE;
            code[AGE][i] = 0;
            code[GOOD][i] = 0;
            if (!before) {
                store(i);
            }
        }

        private void store(int i) {
            if (entryOf(i) < 0) {
                if (entries >= ROOM) {
                    removeEntry(findLesser(i));
                }
                if (entries >= ROOM) {
                    return;
                }
                entry[entries] = i;
                entries++;
                code[FIRST][i] = events;
            }
            code[LAST][i] = events;
        }

        private int entryOf(int i) {
            for (int e = 0; e < entries; e++) {
                if (entry[e] == i) {
                    return e;
                }
            }
            return -1;
        }

        /** The entry that goes for a code; -1 if none may. */
        private int findLesser(int i) {
            int lesser = -1;
            int greatest = 2 * code[PRIORITY][i];
            for (int e = 0; e < entries; e++) {
                if (weightOf(entry[e]) > greatest) {
                    lesser = e;
                    greatest = weightOf(entry[e]);
                }
            }
            return lesser;
        }

        /** A greater number is a lower priority; of one priority those that are not failed weigh more. */
        private int weightOf(int i) {
            return 2 * code[PRIORITY][i] + 1 - (code[STATUS][i] & FAILED);
        }

        private void removeEntry(int gone) {
            if (gone < 0) {
                return;
            }
            for (int e = gone; e + 1 < entries; e++) {
                entry[e] = entry[e + 1];
            }
            entries--;
        }

        int endCycle(boolean tested) {
            for (int i = 0; i < codes; i++) {
                if ((code[STATUS][i] & (FAILED_NOW | UNTESTED_NOW)) == 0) {
                    endGoodCycle(i, tested);
                }
            }
            for (int i = 0; i < codes; i++) {
                code[STATUS][i] = code[STATUS][i] & ~FAILED_NOW | UNTESTED_NOW;
            }
            cycles++;
            return cycles;
        }

        private void endGoodCycle(int i, boolean tested) {
            code[STATUS][i] &= ~PENDING;
            if ((code[STATUS][i] & CONFIRMED) == 0) {
                code[TRIPS][i] = 0;
            }
            code[GOOD][i] = Math.min(code[GOOD][i] + 1, 255);
            if (code[GOOD][i] >= 3) {
                code[STATUS][i] &= ~LAMP;
            }
            if (!tested || (code[STATUS][i] & (CONFIRMED | FAILED)) != CONFIRMED) {
                return;
            }
            code[AGE][i]++;
            if (code[AGE][i] >= OLD) {
                code[STATUS][i] &= ~CONFIRMED;
                code[TRIPS][i] = 0;
                code[AGE][i] = 0;
                code[GOOD][i] = 0;
                removeEntry(entryOf(i));
            }
        }

        int tell(int i, int what) {
            switch (what) {
                case 0: return code[STATUS][i];
                case 1: return code[AGE][i];
                case 2: return entryOf(i) < 0 ? -1 : code[FIRST][i];
                case 3: return entryOf(i) < 0 ? -1 : code[LAST][i];
                default: return i < entries ? entry[i] + 1 : -1;
            }
        }

        int statusOf(int i) {
            return code[STATUS][i];
        }
    }

    /** What the controllers answer to a tester. */
    private static final class Questions {
        private static final int REPLY = 20;
        private static final int REFUSAL = 127, NO_SERVICE = 17, NO_SUBFUNCTION = 18, NO_LENGTH = 19, NOT_NOW = 34, NO_SEED = 36, NOT_THERE = 49,
            NO_RIGHTS = 51, WRONG_KEY = 53, TOO_MANY_KEYS = 54;
        private static final int SESSION = 16, CLEAR = 20, LIST = 25, READ = 34, RIGHTS = 39, WRITE = 46, YES = 64;
        private static final int MOST_WRONG = 3, RIGHTS_KEY = 16;
        private static final int SEED_STEP = (int) 2654435761L;

        private final int[] session = new int[CONTROLLERS];
        private final boolean[] rights = new boolean[CONTROLLERS];
        private final boolean[] seeded = new boolean[CONTROLLERS];
        private final int[] seed = new int[CONTROLLERS];
        private final int[] wrong = new int[CONTROLLERS];
        private final int[] seedOctets = new int[4];
        private final int[] reply = new int[REPLY];
        private int size;
        private int seeds;

        void clear() {
            seeds = 0;
            for (int c = 0; c < CONTROLLERS; c++) {
                session[c] = 1;
                rights[c] = false;
                seeded[c] = false;
                wrong[c] = 0;
            }
        }

        void makeReply(Car car, int c, int[] q, int n) {
            size = 0;
            if (!isKnown(q[0])) {
                refuse(q[0], NO_SERVICE);
            } else if (!isRightLength(q, n)) {
                refuse(q[0], NO_LENGTH);
            } else if (q[0] == SESSION) {
                openSession(c, q[1]);
            } else if (q[0] == READ) {
                readDatum(car.charts, c, q[1], q[2]);
            } else if (q[0] == WRITE) {
                writeDatum(car.charts, c, q);
            } else if (q[0] == LIST) {
                listTroubles(car.troubles);
            } else if (q[0] == RIGHTS && q[1] == 1) {
                openSeed(c);
            } else if (q[0] == RIGHTS) {
                tryKey(car.codes, c, q);
            } else {
                car.troubles.forgetAll();
                put(CLEAR + YES);
            }
        }

        private static boolean isKnown(int first) {
            return first == SESSION || first == CLEAR || first == LIST || first == READ || first == RIGHTS || first == WRITE;
        }

        private static boolean isRightLength(int[] q, int n) {
            switch (q[0]) {
                case SESSION: return n == 2;
                case READ: return n == 3;
                case WRITE: return n == 11;
                case RIGHTS: return n == 2 && q[1] == 1 || n == 6 && q[1] == 2;
                default: return n == 1;
            }
        }

        private void put(int octet) {
            if (size < REPLY) {
                reply[size] = octet;
                size++;
            }
        }

        private void refuse(int first, int why) {
            put(REFUSAL);
            put(first);
            put(why);
        }

        private void openSession(int c, int s) {
            if (s < 1 || s > 3) {
                refuse(SESSION, NO_SUBFUNCTION);
                return;
            }
            session[c] = s;
            rights[c] = false;
            seeded[c] = false;
            put(SESSION + YES);
            put(s);
        }

        private static boolean hasDatum(Chart[] charts, int c, int x, int d) {
            return x >= 1 && x <= CHARTS && charts[x - 1].controller == c && d < DATA;
        }

        private void readDatum(Chart[] charts, int c, int x, int d) {
            if (!hasDatum(charts, c, x, d)) {
                refuse(READ, NOT_THERE);
                return;
            }
            put(READ + YES);
            put(x);
            put(d);
            for (int shift = 56; shift >= 0; shift -= 8) {
                put((int) (charts[x - 1].data[d] >>> shift) & 255);
            }
        }

        private void writeDatum(Chart[] charts, int c, int[] q) {
            if (!rights[c]) {
                refuse(WRITE, NO_RIGHTS);
                return;
            }
            if (!hasDatum(charts, c, q[1], q[2])) {
                refuse(WRITE, NOT_THERE);
                return;
            }
            long v = 0;
            for (int i = 0; i < 8; i++) {
                v = v << 8 | q[3 + i];
            }
            charts[q[1] - 1].data[q[2]] = v;
            put(WRITE + YES);
            put(q[1]);
            put(q[2]);
        }

        private void listTroubles(Troubles troubles) {
            put(LIST + YES);
            put(troubles.entries);
            for (int e = 0; e < troubles.entries; e++) {
                put(troubles.entry[e] + 1);
                put(troubles.statusOf(troubles.entry[e]));
            }
        }

        private void openSeed(int c) {
            if (session[c] == 1) {
                refuse(RIGHTS, NOT_NOW);
                return;
            }
            if (wrong[c] >= MOST_WRONG) {
                refuse(RIGHTS, TOO_MANY_KEYS);
                return;
            }
            seeds++;
            seed[c] = SEED_STEP * seeds;
            seeded[c] = true;
            put(RIGHTS + YES);
            put(1);
            for (int shift = 24; shift >= 0; shift -= 8) {
                put(seed[c] >>> shift & 255);
            }
        }

        private void tryKey(Codes codes, int c, int[] q) {
            if (wrong[c] >= MOST_WRONG) {
                refuse(RIGHTS, TOO_MANY_KEYS);
                return;
            }
            if (!seeded[c]) {
                refuse(RIGHTS, NO_SEED);
                return;
            }
            seeded[c] = false;
            for (int i = 0; i < 4; i++) {
                seedOctets[i] = seed[c] >>> 24 - 8 * i & 255;
            }
            codes.make(RIGHTS_KEY, seedOctets, 4);
            rights[c] = codes.isOut(q, 2);
            if (rights[c]) {
                put(RIGHTS + YES);
                put(2);
                return;
            }
            wrong[c]++;
            refuse(RIGHTS, wrong[c] >= MOST_WRONG ? TOO_MANY_KEYS : WRONG_KEY);
        }
    }
}
