import java.util.Arrays;

/** A kitchen's floor on which boxes on wheels follow a black line; see ../shared/DOC.md. */
public final class BlackLine {
    public static final int NONE = -1;

    private static final int MOST_ACT_STEPS = 100;
    private static final int MOST_TUNED_STEPS = 60;
    private static final int MOST_LOSS = 99;

    private static final int BY_TAPE = 0;
    private static final int BY_KITCHEN = 1;
    private static final int BY_STEPS = 2;
    private static final int BY_HAND = 3;
    private static final int BY_UNDO = 4;
    private static final int BY_OTHERS = 5;

    private final Tape tape;
    private final Reader reader;
    private final World now;
    private final Ahead coming;
    private final Wheels wheels;
    private final Past past;
    private final Picture picture;
    private final int[] refused;
    private Plan plan;
    private Plan spare;
    private int faultKind;
    private int faultPlace;
    private int drawn;

    public BlackLine() {
        tape = new Tape();
        plan = new Plan();
        spare = new Plan();
        reader = new Reader(tape, spare);
        now = new World(plan);
        coming = new Ahead(plan);
        wheels = new Wheels(plan);
        past = new Past();
        picture = new Picture(plan);
        refused = new int[6];
        faultKind = 0;
        faultPlace = NONE;
        drawn = 1;
    }

    public int feed(int a, int b, int c, int d, int e) {
        if (!tape.hasSpaceFor(20)) {
            return refuse(BY_TAPE);
        }
        tape.add(a);
        tape.add(b);
        tape.add(c);
        tape.add(d);
        tape.add(e);
        return tape.length;
    }

    public boolean end(int n) {
        if (n < 0 || n > tape.length) {
            refuse(BY_TAPE);
            return false;
        }
        tape.length = n;
        return true;
    }

    public int kitchen() {
        int made = reader.readInto(spare);
        tape.length = 0;
        faultKind = reader.tokens.faultKind;
        faultPlace = reader.tokens.faultPlace;
        if (faultKind != 0) {
            return refuse(BY_KITCHEN);
        }
        Plan old = plan;
        plan = spare;
        spare = old;
        now.begin(plan);
        past.forget();
        wheels.forget();
        return made;
    }

    public int fault(int what) {
        if (what == 0) {
            return faultKind;
        }
        return what == 1 ? faultPlace : NONE;
    }

    public int has(int what) {
        switch (what) {
            case 0:
                return plan.columns;
            case 1:
                return plan.rows;
            case 2:
                return plan.boxes;
            case 3:
                return now.blackCells();
            case 4:
                return now.step;
            case 5:
                return now.lamp;
            case 6:
                return now.lostBoxes();
            case 7:
                return now.emptyBoxes();
            case 8:
                return past.told();
            case 9:
                return past.acts;
            case 10:
                return drawn;
            default:
                return NONE;
        }
    }

    public int letter(int box, int k) {
        if (!plan.hasBox(box) || k < 0 || k >= Plan.LETTERS) {
            return NONE;
        }
        return (plan.names[box] >> Plan.shiftOf(k)) & 31;
    }

    public int cell(int column, int row, int what) {
        if (!plan.hasCell(column, row)) {
            return NONE;
        }
        switch (what) {
            case 0:
                return plan.greyAt(column, row);
            case 1:
                return now.isBlack(column, row) ? 1 : 0;
            case 2:
                return now.boxOn(column, row);
            default:
                return NONE;
        }
    }

    public int box(int box, int what) {
        if (!plan.hasBox(box) || what < World.COLUMN || what > World.BIAS) {
            return NONE;
        }
        return now.of(box, what);
    }

    public int sees(int box, int eye) {
        if (!plan.hasBox(box)) {
            return NONE;
        }
        switch (eye) {
            case 0:
                return now.greySeen(box, World.TO_LEFT);
            case 1:
                return now.greySeen(box, World.TO_RIGHT);
            case 2:
                return now.greySeen(box, World.BETWEEN);
            default:
                return NONE;
        }
    }

    public int later(int box, int n, int what) {
        if (!plan.hasBox(box) || !now.mayPass(n, 0, Ahead.MOST) || what < 0 || what > 4) {
            return NONE;
        }
        return coming.stateBehind(now, box, n, what);
    }

    public int round(int box) {
        return plan.hasBox(box) ? coming.stepsRound(now, box) : NONE;
    }

    public int loses(int box, int n) {
        if (!plan.hasBox(box) || n < 1 || n > MOST_LOSS) {
            return NONE;
        }
        return coming.stepsToLoss(now, box, n);
    }

    public int jam() {
        return coming.firstJam(now);
    }

    public int gap(int one, int other, int n) {
        if (!plan.hasBox(one) || !plan.hasBox(other) || one == other) {
            return NONE;
        }
        return now.mayPass(n, 0, Ahead.MOST) ? coming.nearest(now, one, other, n) : NONE;
    }

    public int tuned(int box, int n, int what) {
        if (!plan.hasBox(box) || !now.mayPass(n, 1, MOST_TUNED_STEPS) || what < 0 || what > 2) {
            return NONE;
        }
        return coming.bestEyes(now, box, n, what);
    }

    public int found(int box) {
        return plan.hasBox(box) ? coming.fewestMoves(now, box) : NONE;
    }

    public int spaced(int n) {
        return now.mayPass(n, 1, Ahead.MOST) ? coming.leastDelay(now, n) : NONE;
    }

    public int bright(int n) {
        return now.mayPass(n, 1, MOST_TUNED_STEPS) ? coming.brightestLamp(now, n) : NONE;
    }

    public int track() {
        boolean told = wheels.takeRows(tape, plan);
        tape.length = 0;
        return told ? wheels.rowsTold : refuse(BY_OTHERS);
    }

    public int wheel(int box, int what) {
        if (!plan.hasBox(box)) {
            return NONE;
        }
        if (what == 0) {
            return wheels.biasBits(now, box);
        }
        return what == 1 ? wheels.tellingSteps(now, box) : NONE;
    }

    public int steps(int n) {
        if (!now.mayPass(n, 1, MOST_ACT_STEPS)) {
            return refuse(BY_STEPS);
        }
        past.remember(now);
        int went = 0;
        for (int k = 0; k < n; k++) {
            went += passStep();
        }
        return went;
    }

    public int chance(int n) {
        if (!now.mayPass(n, 1, MOST_ACT_STEPS)) {
            return refuse(BY_STEPS);
        }
        past.remember(now);
        int came = 0;
        for (int k = 0; k < n; k++) {
            came += letCatCome() ? 1 : 0;
            passStep();
        }
        return came;
    }

    public boolean turn(int box, int way) {
        if (!plan.hasBox(box) || way < 0 || way > 3 || now.of(box, World.WAY) == way) {
            refuse(BY_HAND);
            return false;
        }
        past.remember(now);
        now.set(box, World.WAY, way);
        return true;
    }

    public boolean put(int box, int column, int row) {
        if (!plan.hasBox(box) || !plan.hasCell(column, row) || now.boxOn(column, row) != NONE) {
            refuse(BY_HAND);
            return false;
        }
        past.remember(now);
        now.set(box, World.COLUMN, column);
        now.set(box, World.ROW, row);
        return true;
    }

    public boolean shine(int lamp) {
        if (lamp < 0 || lamp > World.MOST_LAMP || lamp == now.lamp) {
            refuse(BY_HAND);
            return false;
        }
        past.remember(now);
        now.lamp = lamp;
        return true;
    }

    public boolean undo() {
        if (past.acts == 0) {
            refuse(BY_UNDO);
            return false;
        }
        past.restore(now);
        return true;
    }

    public boolean seed(int seed) {
        if (seed < 0) {
            refuse(BY_OTHERS);
            return false;
        }
        drawn = seed;
        return true;
    }

    public int kept(int k, int what) {
        return past.keptPart(k, what);
    }

    public int image() {
        return picture.write(now);
    }

    public int octet(int k) {
        return picture.byteAt(k);
    }

    public boolean on() {
        boolean taken = picture.readInto(now, tape);
        tape.length = 0;
        if (!taken) {
            refuse(BY_OTHERS);
            return false;
        }
        past.forget();
        return true;
    }

    public int status(int what) {
        return what < 0 || what >= refused.length ? NONE : refused[what];
    }

    private int refuse(int kind) {
        if (kind >= 0 && kind < refused.length) {
            refused[kind]++;
        }
        return NONE;
    }

    private int passStep() {
        now.pass(0, 0);
        past.keepStep(now);
        return now.wentCount;
    }

    /** The first DRAW is made even where no cat can come, for the seed goes on by it. */
    private boolean letCatCome() {
        if (draw(100) >= plan.cat || plan.boxes == 0) {
            return false;
        }
        now.turnBy(draw(plan.boxes), 2);
        return true;
    }

    private int draw(int m) {
        long x = (1103515245L * drawn + 12345L) % (1L << 31);
        drawn = (int) x;
        return m > 0 ? (int) ((x / 64) % m) : 0;
    }

    /** The bytes that were fed and not yet taken. */
    private static final class Tape {
        static final int MOST = 1600;

        final int[] bytes = new int[MOST];
        int length = 0;

        boolean hasSpaceFor(int more) {
            return length + more <= MOST;
        }

        void add(int number) {
            for (int shift = 24; shift >= 0; shift -= 8) {
                if (length >= 0 && length < MOST) {
                    bytes[length] = (number >> shift) & 255;
                    length++;
                }
            }
        }

        /** NONE where there is no such byte. */
        int at(int k) {
            return k < 0 || k >= length || k >= MOST ? NONE : bytes[k];
        }

        int pairAt(int k) {
            return 256 * at(k) + at(k + 1);
        }
    }

    /** What the text of a KITCHEN tells; nothing in it changes by STEPS or ACTS. */
    private static final class Plan {
        static final int MOST_BOXES = 6;
        static final int MOST_SIDE = 9;
        static final int LETTERS = 6;

        final int[] grey = new int[MOST_SIDE * MOST_SIDE];
        /** Five bits a letter, the first one highest, so that behind a short name zeros stand. */
        final int[] names = new int[MOST_BOXES];
        /** In the order in which a World holds its BOXES. */
        final int[] starts = new int[World.SIZE];
        /** Both formulas; no sign of the text makes more than one entry. */
        final int[] code = new int[Tape.MOST];
        int codeLength;
        int steersFrom;
        int steersTo;
        int goesFrom;
        int goesTo;
        int columns;
        int rows;
        int boxes;
        int power;
        int lamp;
        int cat;

        Plan() {
            clear();
        }

        void clear() {
            Arrays.fill(grey, 0);
            Arrays.fill(names, 0);
            Arrays.fill(starts, 0);
            codeLength = 0;
            steersFrom = 0;
            steersTo = 0;
            goesFrom = 0;
            goesTo = 0;
            columns = 0;
            rows = 0;
            boxes = 0;
            power = 500;
            lamp = 0;
            cat = 0;
        }

        static int shiftOf(int letter) {
            return 5 * (LETTERS - 1 - letter);
        }

        boolean hasSteers() {
            return steersTo > steersFrom;
        }

        boolean hasGoes() {
            return goesTo > goesFrom;
        }

        boolean hasBox(int box) {
            return box >= 0 && box < boxes && box < MOST_BOXES;
        }

        boolean hasCell(int column, int row) {
            return column >= 0 && column < columns && row >= 0 && row < rows;
        }

        int greyAt(int column, int row) {
            int at = row * MOST_SIDE + column;
            return hasCell(column, row) && at < grey.length ? grey[at] : 0;
        }

        void setGrey(int column, int row, int value) {
            int at = row * MOST_SIDE + column;
            if (hasCell(column, row) && at < grey.length) {
                grey[at] = value;
            }
        }

        int boxNamed(int name) {
            for (int k = 0; k < boxes && k < MOST_BOXES; k++) {
                if (names[k] == name) {
                    return k;
                }
            }
            return NONE;
        }

        int boxStartingOn(int column, int row) {
            return World.boxIn(starts, boxes, column, row);
        }

        void addBox(int name, int column, int row, int way) {
            if (boxes < 0 || boxes >= MOST_BOXES) {
                return;
            }
            names[boxes] = name;
            boxes++;
            setStart(boxes - 1, World.COLUMN, column);
            setStart(boxes - 1, World.ROW, row);
            setStart(boxes - 1, World.WAY, way);
            setStart(boxes - 1, World.APART, 1);
            setStart(boxes - 1, World.AHEAD, 1);
        }

        void setStart(int box, int field, int value) {
            int at = box * World.FIELDS + field;
            if (hasBox(box) && at >= 0 && at < starts.length) {
                starts[at] = value;
            }
        }

        void emit(int operation, int argument) {
            if (codeLength >= 0 && codeLength < code.length) {
                code[codeLength] = argument * Machine.OPERATIONS + operation;
                codeLength++;
            }
        }
    }

    /** The text's words, numbers and marks one by one, and the first FAULT along it. */
    private static final class Tokens {
        static final int END = 0;
        static final int NAME = 1;
        static final int OWN = 2;
        static final int NUMBER = 3;
        static final int MARK = 4;
        private static final int BAD = 5;

        static final int FLOOR = 0;
        static final int BY = 1;
        static final int GREY = 2;
        static final int BOX = 3;
        static final int AT = 4;
        static final int WAY = 5;
        static final int EYES = 6;
        static final int APART = 7;
        static final int AHEAD = 8;
        static final int BIAS = 9;
        static final int STEERS = 10;
        static final int GOES = 11;
        static final int POWER = 12;
        static final int LAMP = 13;
        static final int CAT = 14;
        static final int LEFT = 15;
        static final int TURNED = 20;
        static final int IF = 21;
        static final int OR = 22;
        static final int AND = 23;
        static final int NOT = 24;
        static final int ALL = 25;
        static final int MIN = 26;
        static final int MAX = 27;

        private static final int OWN_WORDS = 28;
        /** In the order of the numbers above; each word ends with a blank. */
        private static final String OWN_TEXT = "floor by grey box at way eyes apart ahead bias steers goes power lamp cat left right mid lost step turned if or and not all min max ";
        private static final int DIGITS = 4;

        private final Tape tape;
        private final int[] ownNames = new int[OWN_WORDS];
        private final int[] kinds = new int[Tape.MOST];
        private final int[] starts = new int[Tape.MOST];
        private final int[] values = new int[Tape.MOST];
        private int count;
        private int index;
        /** Of the token at hand, which no rule has taken yet. */
        int kind;
        int start;
        /** A NAME's letters as a Plan holds them, an OWN WORD's number, a NUMBER, a mark's byte. */
        int value;
        int faultKind;
        int faultPlace;

        Tokens(Tape tape) {
            this.tape = tape;
            int word = 0;
            int letter = 0;
            for (int k = 0; k < OWN_TEXT.length(); k++) {
                char sign = OWN_TEXT.charAt(k);
                if (sign == ' ') {
                    word++;
                    letter = 0;
                } else if (word < OWN_WORDS) {
                    ownNames[word] |= (sign - 'a' + 1) << Plan.shiftOf(letter);
                    letter++;
                }
            }
        }

        void open() {
            count = 0;
            boolean good = true;
            for (int k = 0; k < tape.length && good; k++) {
                good = scan(k);
            }
            for (int k = 0; k < count; k++) {
                markOwnWord(k);
            }
            faultKind = 0;
            faultPlace = NONE;
            index = -1;
            next();
        }

        /** False at a sign behind which no token is of use: a rule that comes to it ends there. */
        private boolean scan(int place) {
            int sign = tape.at(place);
            int before = tape.at(place - 1);
            if (isBlank(sign)) {
                return true;
            }
            if (isLetter(sign)) {
                return isLetter(before) ? addLetter(place, sign) : startSolid(NAME, place, before)
                        && addLetter(place, sign);
            }
            if (isDigit(sign)) {
                return isDigit(before) ? addDigit(place, sign) : startSolid(NUMBER, place, before)
                        && addDigit(place, sign);
            }
            add(MARK, place, sign);
            return true;
        }

        /** A word or a number, which needs a blank behind another one. */
        private boolean startSolid(int newKind, int place, int before) {
            boolean joined = isLetter(before) || isDigit(before);
            add(joined ? BAD : newKind, place, joined ? place : 0);
            return !joined;
        }

        private void add(int newKind, int place, int newValue) {
            if (count >= 0 && count < kinds.length) {
                kinds[count] = newKind;
                starts[count] = place;
                values[count] = newValue;
                count++;
            }
        }

        private boolean addLetter(int place, int sign) {
            int last = count - 1;
            if (last < 0 || last >= kinds.length) {
                return false;
            }
            int letters = place - starts[last];
            boolean fits = letters < Plan.LETTERS;
            kinds[last] = fits ? NAME : BAD;
            values[last] = fits ? values[last] | (sign - 'a' + 1) << Plan.shiftOf(letters) : place;
            return fits;
        }

        private boolean addDigit(int place, int sign) {
            int last = count - 1;
            if (last < 0 || last >= kinds.length) {
                return false;
            }
            boolean fits = place - starts[last] < DIGITS;
            kinds[last] = fits ? NUMBER : BAD;
            values[last] = fits ? 10 * values[last] + sign - '0' : place;
            return fits;
        }

        private void markOwnWord(int token) {
            if (token < 0 || token >= kinds.length || kinds[token] != NAME) {
                return;
            }
            for (int k = 0; k < OWN_WORDS; k++) {
                if (kinds[token] == NAME && ownNames[k] == values[token]) {
                    kinds[token] = OWN;
                    values[token] = k;
                }
            }
        }

        private static boolean isBlank(int sign) {
            return sign == 10 || sign == 32;
        }

        private static boolean isLetter(int sign) {
            return sign >= 'a' && sign <= 'z';
        }

        private static boolean isDigit(int sign) {
            return sign >= '0' && sign <= '9';
        }

        /** A FAULT at the token at hand; behind it only the end comes, so that all open rules end. */
        void refuseHere(int fault) {
            if (faultKind == 0) {
                faultKind = fault;
                faultPlace = start;
            }
            kind = END;
            value = 0;
        }

        /** To be called only when all is known of the token at hand: its FAULTS come first. */
        void next() {
            if (faultKind != 0) {
                return;
            }
            index++;
            if (index < 0 || index >= count || index >= kinds.length) {
                kind = END;
                start = tape.length;
                value = 0;
                return;
            }
            kind = kinds[index];
            start = starts[index];
            value = values[index];
            if (kind == BAD) {
                start = value;
                refuseHere(1);
            }
        }

        /** Whatever stands behind the token at hand is a STATEMENT too many, a bad token too. */
        void refuseMore() {
            int more = index + 1;
            if (more >= 0 && more < count && more < starts.length) {
                start = starts[more];
                refuseHere(6);
            }
        }

        boolean isMark(char sign) {
            return kind == MARK && value == sign;
        }

        boolean isWord(int word) {
            return kind == OWN && value == word;
        }

        void takeMark(char sign) {
            if (!isMark(sign)) {
                refuseHere(1);
            }
            next();
        }

        void takeWord(int word) {
            if (!isWord(word)) {
                refuseHere(1);
            }
            next();
        }

        int takeNumber(int least, int most) {
            if (kind != NUMBER) {
                refuseHere(1);
            } else if (value < least || value > most) {
                refuseHere(4);
            }
            int number = value;
            next();
            return number;
        }
    }

    /** Reads a KITCHEN's STATEMENTS into a Plan. */
    private static final class Reader {
        private static final int MOST_STATEMENTS = 80;

        final Tokens tokens;
        private final Formula formula;
        private Plan plan;

        Reader(Tape tape, Plan plan) {
            tokens = new Tokens(tape);
            formula = new Formula(tokens, plan);
            this.plan = plan;
        }

        /** How many STATEMENTS; whether there is a FAULT the tokens tell. */
        int readInto(Plan target) {
            plan = target;
            plan.clear();
            tokens.open();
            int made = 0;
            // The floor must be told, so a STATEMENT is asked for even of a text that has none.
            do {
                readStatement(made == 0);
                made++;
                if (made == MOST_STATEMENTS && tokens.isMark(';')) {
                    tokens.refuseMore();
                }
                tokens.takeMark(';');
            } while (made < MOST_STATEMENTS && tokens.kind != Tokens.END);
            return made;
        }

        private void readStatement(boolean first) {
            int word = tokens.kind == Tokens.OWN ? tokens.value : NONE;
            if (first != (word == Tokens.FLOOR)) {
                tokens.refuseHere(1);
                return;
            }
            refuseOneTooMany(word);
            switch (word) {
                case Tokens.FLOOR:
                    readFloor();
                    break;
                case Tokens.GREY:
                    readGrey();
                    break;
                case Tokens.BOX:
                    readBox();
                    break;
                case Tokens.EYES:
                    readEyes();
                    break;
                case Tokens.BIAS:
                    readBias();
                    break;
                case Tokens.STEERS:
                    formula.readSteers(plan);
                    break;
                case Tokens.GOES:
                    formula.readGoes(plan);
                    break;
                default:
                    readSetting(word);
                    break;
            }
        }

        private void refuseOneTooMany(int word) {
            boolean boxes = word == Tokens.BOX && plan.boxes == Plan.MOST_BOXES;
            boolean steers = word == Tokens.STEERS && plan.hasSteers();
            boolean goes = word == Tokens.GOES && plan.hasGoes();
            if (boxes || steers || goes) {
                tokens.refuseHere(6);
            }
        }

        private void readFloor() {
            tokens.next();
            plan.columns = tokens.takeNumber(2, Plan.MOST_SIDE);
            tokens.takeWord(Tokens.BY);
            plan.rows = tokens.takeNumber(2, Plan.MOST_SIDE);
        }

        private void readGrey() {
            tokens.next();
            int column = tokens.takeNumber(0, plan.columns - 1);
            int row = tokens.takeNumber(0, plan.rows - 1);
            plan.setGrey(column, row, tokens.takeNumber(0, 9));
        }

        private void readBox() {
            tokens.next();
            int name = takeNewName();
            tokens.takeWord(Tokens.AT);
            int column = tokens.takeNumber(0, plan.columns - 1);
            if (tokens.kind == Tokens.NUMBER
                    && plan.boxStartingOn(column, tokens.value) != NONE) {
                tokens.refuseHere(4);
            }
            int row = tokens.takeNumber(0, plan.rows - 1);
            tokens.takeWord(Tokens.WAY);
            plan.addBox(name, column, row, tokens.takeNumber(0, 3));
        }

        private void readEyes() {
            tokens.next();
            int box = takeBoxName();
            tokens.takeWord(Tokens.APART);
            plan.setStart(box, World.APART, tokens.takeNumber(0, World.MOST_APART));
            tokens.takeWord(Tokens.AHEAD);
            plan.setStart(box, World.AHEAD, tokens.takeNumber(0, World.MOST_AHEAD));
        }

        private void readBias() {
            tokens.next();
            int box = takeBoxName();
            plan.setStart(box, World.BIAS, tokens.takeNumber(0, World.MOST_BIAS));
        }

        private void readSetting(int word) {
            if (word == Tokens.POWER) {
                tokens.next();
                plan.power = tokens.takeNumber(0, World.MOST_POWER);
            } else if (word == Tokens.LAMP) {
                tokens.next();
                plan.lamp = tokens.takeNumber(0, World.MOST_LAMP);
            } else if (word == Tokens.CAT) {
                tokens.next();
                plan.cat = tokens.takeNumber(0, 100);
            } else {
                tokens.refuseHere(1);
            }
        }

        private int takeNewName() {
            if (tokens.kind != Tokens.NAME) {
                tokens.refuseHere(1);
            } else if (plan.boxNamed(tokens.value) != NONE) {
                tokens.refuseHere(2);
            }
            int name = tokens.value;
            tokens.next();
            return name;
        }

        private int takeBoxName() {
            int box = plan.boxNamed(tokens.value);
            if (tokens.kind != Tokens.NAME) {
                tokens.refuseHere(1);
            } else if (box == NONE) {
                tokens.refuseHere(3);
            }
            tokens.next();
            return box;
        }
    }

    /** Reads a SUM or a TEST and writes it as code in which values stand ahead of what joins them. */
    private static final class Formula {
        private static final int MOST_OPEN = 7;

        private final Tokens tokens;
        private Plan plan;
        private boolean inGoes;

        Formula(Tokens tokens, Plan plan) {
            this.tokens = tokens;
            this.plan = plan;
            inGoes = false;
        }

        void readSteers(Plan target) {
            plan = target;
            inGoes = false;
            tokens.next();
            plan.steersFrom = plan.codeLength;
            sum(0);
            plan.steersTo = plan.codeLength;
        }

        void readGoes(Plan target) {
            plan = target;
            inGoes = true;
            tokens.next();
            plan.goesFrom = plan.codeLength;
            test(0);
            plan.goesTo = plan.codeLength;
        }

        private void test(int open) {
            both(open);
            for (int k = 0; k < Tape.MOST && tokens.isWord(Tokens.OR); k++) {
                tokens.next();
                both(open);
                plan.emit(Machine.OR, 0);
            }
        }

        private void both(int open) {
            fact(open);
            for (int k = 0; k < Tape.MOST && tokens.isWord(Tokens.AND); k++) {
                tokens.next();
                fact(open);
                plan.emit(Machine.AND, 0);
            }
        }

        private void fact(int open) {
            if (tokens.isWord(Tokens.NOT)) {
                if (passOpening(open)) {
                    fact(open + 1);
                    plan.emit(Machine.NOT, 0);
                }
            } else if (tokens.isMark('[')) {
                if (passOpening(open)) {
                    test(open + 1);
                    tokens.takeMark(']');
                }
            } else if (tokens.isWord(Tokens.ALL)) {
                tokens.next();
                plan.emit(Machine.NUMBER, 1);
            } else {
                comparison(open);
            }
        }

        private void comparison(int open) {
            sum(open);
            int operation = NONE;
            if (tokens.isMark('<')) {
                operation = Machine.LESS;
            } else if (tokens.isMark('>')) {
                operation = Machine.MORE;
            } else if (tokens.isMark('=')) {
                operation = Machine.SAME;
            } else {
                tokens.refuseHere(1);
                return;
            }
            tokens.next();
            sum(open);
            plan.emit(operation, 0);
        }

        private void sum(int open) {
            product(open);
            for (int k = 0; k < Tape.MOST && (tokens.isMark('+') || tokens.isMark('-')); k++) {
                int operation = tokens.isMark('+') ? Machine.PLUS : Machine.LESS_BY;
                tokens.next();
                product(open);
                plan.emit(operation, 0);
            }
        }

        private void product(int open) {
            part(open);
            int operation = productSign();
            for (int k = 0; k < Tape.MOST && operation != NONE; k++) {
                tokens.next();
                part(open);
                plan.emit(operation, 0);
                operation = productSign();
            }
        }

        private int productSign() {
            if (tokens.isMark('*')) {
                return Machine.TIMES;
            }
            if (tokens.isMark('/')) {
                return Machine.OVER;
            }
            return tokens.isMark('%') ? Machine.REST : NONE;
        }

        private void part(int open) {
            if (tokens.kind == Tokens.NUMBER) {
                plan.emit(Machine.NUMBER, tokens.value);
                tokens.next();
            } else if (tokens.isMark('(')) {
                if (passOpening(open)) {
                    sum(open + 1);
                    tokens.takeMark(')');
                }
            } else if (tokens.isWord(Tokens.MIN)) {
                choice(open, Machine.LEAST);
            } else if (tokens.isWord(Tokens.MAX)) {
                choice(open, Machine.GREATEST);
            } else if (tokens.isWord(Tokens.IF)) {
                choice(open, Machine.CHOSEN);
            } else {
                known();
            }
        }

        /** min, max, if: the three are alike but for what stands first in them. */
        private void choice(int open, int operation) {
            tokens.next();
            if (!tokens.isMark('(')) {
                tokens.refuseHere(1);
                return;
            }
            if (!passOpening(open)) {
                return;
            }
            if (operation == Machine.CHOSEN) {
                test(open + 1);
                tokens.takeMark(',');
            }
            sum(open + 1);
            tokens.takeMark(',');
            sum(open + 1);
            tokens.takeMark(')');
            plan.emit(operation, 0);
        }

        private void known() {
            int what = tokens.kind == Tokens.OWN ? knownOf(tokens.value) : NONE;
            boolean onlyInGoes = what == Machine.KNOWN_TURNED || what == Machine.KNOWN_POWER;
            if (what == NONE || (onlyInGoes && !inGoes)) {
                tokens.refuseHere(1);
                return;
            }
            plan.emit(Machine.KNOWN, what);
            tokens.next();
        }

        private static int knownOf(int word) {
            if (word == Tokens.POWER) {
                return Machine.KNOWN_POWER;
            }
            return word >= Tokens.LEFT && word <= Tokens.TURNED ? word - Tokens.LEFT : NONE;
        }

        private boolean passOpening(int open) {
            if (open >= MOST_OPEN) {
                tokens.refuseHere(5);
                return false;
            }
            tokens.next();
            return true;
        }
    }

    /** Works out what a Formula wrote. */
    private static final class Machine {
        static final int NUMBER = 0;
        static final int KNOWN = 1;
        static final int NOT = 2;
        static final int PLUS = 3;
        static final int LESS_BY = 4;
        static final int TIMES = 5;
        static final int OVER = 6;
        static final int REST = 7;
        static final int LEAST = 8;
        static final int GREATEST = 9;
        static final int LESS = 10;
        static final int MORE = 11;
        static final int SAME = 12;
        static final int AND = 13;
        static final int OR = 14;
        static final int CHOSEN = 15;
        static final int OPERATIONS = 16;

        static final int KNOWN_LEFT = 0;
        static final int KNOWN_RIGHT = 1;
        static final int KNOWN_MID = 2;
        static final int KNOWN_LOST = 3;
        static final int KNOWN_STEP = 4;
        static final int KNOWN_TURNED = 5;
        static final int KNOWN_POWER = 6;

        private static final long LIMIT = 1000000L;

        final int[] known = new int[7];
        /** Eight levels, each with at most seven values that wait, need fewer. */
        private final int[] waiting = new int[80];

        int valueOf(Plan plan, int from, int to) {
            int top = 0;
            for (int k = Math.max(from, 0); k < to && k < plan.code.length; k++) {
                int operation = plan.code[k] % OPERATIONS;
                int needs = needsOf(operation);
                if (top < needs || top - needs + 3 > waiting.length) {
                    return 0;
                }
                top -= needs;
                int first = waiting[top];
                int second = waiting[top + 1];
                if (operation < NOT) {
                    first = plan.code[k] / OPERATIONS;
                }
                if (operation == KNOWN) {
                    first = first < known.length ? known[first] : 0;
                }
                if (operation == CHOSEN) {
                    second = first != 0 ? second : waiting[top + 2];
                }
                long result = joined(operation, first, second);
                waiting[top] = (int) Math.max(-LIMIT, Math.min(LIMIT, result));
                top++;
            }
            return top == 1 ? waiting[0] : 0;
        }

        private static int needsOf(int operation) {
            if (operation < NOT) {
                return 0;
            }
            if (operation == NOT) {
                return 1;
            }
            return operation == CHOSEN ? 3 : 2;
        }

        private static long joined(int operation, long a, long b) {
            switch (operation) {
                case PLUS:
                    return a + b;
                case LESS_BY:
                    return a - b;
                case TIMES:
                    return a * b;
                case OVER:
                    return b == 0 ? 0 : Math.floorDiv(a, b);
                case REST:
                    return b == 0 ? 0 : Math.floorMod(a, b);
                case LEAST:
                    return Math.min(a, b);
                case GREATEST:
                    return Math.max(a, b);
                case LESS:
                    return a < b ? 1 : 0;
                case MORE:
                    return a > b ? 1 : 0;
                case SAME:
                    return a == b ? 1 : 0;
                case AND:
                    return a != 0 && b != 0 ? 1 : 0;
                case OR:
                    return a != 0 || b != 0 ? 1 : 0;
                case NOT:
                    return a == 0 ? 1 : 0;
                case CHOSEN:
                    return b;
                default:
                    return a;
            }
        }
    }

    /** The floor as it is at one time: the STEP, the lamp, and all that changes of the BOXES. */
    private static final class World {
        static final int COLUMN = 0;
        static final int ROW = 1;
        static final int WAY = 2;
        static final int POWER = 3;
        static final int LOST = 4;
        static final int APART = 5;
        static final int AHEAD = 6;
        static final int BIAS = 7;
        /** Modulo CYCLE, by which every bias can be told. */
        static final int GONE = 8;
        static final int BLOCKED = 9;
        static final int FIELDS = 10;
        static final int SIZE = Plan.MOST_BOXES * FIELDS;
        /** The BOXES, the STEP, the lamp. */
        static final int SAVED = SIZE + 2;

        static final int TO_LEFT = -1;
        static final int BETWEEN = 0;
        static final int TO_RIGHT = 1;

        static final int MOST_STEP = 999;
        static final int MOST_POWER = 999;
        static final int MOST_LAMP = 9;
        static final int MOST_LOST = 99;
        static final int MOST_APART = 2;
        static final int MOST_AHEAD = 3;
        static final int MOST_BIAS = 9;
        static final int BLACK = 5;
        static final int CYCLE = 9 * 8 * 7 * 5;

        final int[] row = new int[SIZE];
        final boolean[] went = new boolean[Plan.MOST_BOXES];
        private final Machine machine = new Machine();
        Plan plan;
        int step;
        int lamp;
        /** Of the latest STEP. */
        int wentCount;
        int blockedCount;

        World(Plan plan) {
            this.plan = plan;
            step = 0;
            lamp = 0;
            wentCount = 0;
            blockedCount = 0;
        }

        static int columnStep(int way) {
            if (way == 1) {
                return 1;
            }
            return way == 3 ? -1 : 0;
        }

        static int rowStep(int way) {
            if (way == 2) {
                return 1;
            }
            return way == 0 ? -1 : 0;
        }

        /** Over a row of BOXES as a World or a Plan holds it. */
        static int boxIn(int[] row, int boxes, int column, int line) {
            for (int k = 0; k < boxes && k < Plan.MOST_BOXES; k++) {
                int at = k * FIELDS;
                if (at + ROW < row.length && row[at + COLUMN] == column && row[at + ROW] == line) {
                    return k;
                }
            }
            return NONE;
        }

        void begin(Plan told) {
            plan = told;
            step = 0;
            lamp = told.lamp;
            System.arraycopy(told.starts, 0, row, 0, SIZE);
            for (int k = 0; k < told.boxes; k++) {
                set(k, POWER, told.power);
            }
        }

        void copyFrom(World other) {
            plan = other.plan;
            step = other.step;
            lamp = other.lamp;
            System.arraycopy(other.row, 0, row, 0, SIZE);
        }

        void saveTo(int[] saved) {
            if (saved.length >= SAVED) {
                System.arraycopy(row, 0, saved, 0, SIZE);
                saved[SIZE] = step;
                saved[SIZE + 1] = lamp;
            }
        }

        void loadFrom(int[] saved) {
            if (saved.length >= SAVED) {
                System.arraycopy(saved, 0, row, 0, SIZE);
                step = saved[SIZE];
                lamp = saved[SIZE + 1];
            }
        }

        int of(int box, int field) {
            int at = box * FIELDS + field;
            return at >= 0 && at < SIZE ? row[at] : NONE;
        }

        void set(int box, int field, int value) {
            int at = box * FIELDS + field;
            if (at >= 0 && at < SIZE) {
                row[at] = value;
            }
        }

        void turnBy(int box, int quarters) {
            set(box, WAY, (of(box, WAY) + quarters) & 3);
        }

        /** How many STEPS can come, if most is the most that is asked for. */
        int comingSteps(int most) {
            return Math.min(most, MOST_STEP - step);
        }

        boolean mayPass(int n, int least, int most) {
            return n >= least && n <= comingSteps(most);
        }

        int boxOn(int column, int line) {
            return boxIn(row, plan.boxes, column, line);
        }

        boolean isBlack(int column, int line) {
            return plan.greyAt(column, line) - lamp >= BLACK;
        }

        boolean onBlack(int box) {
            return isBlack(of(box, COLUMN), of(box, ROW));
        }

        int blackCells() {
            int count = 0;
            for (int column = 0; column < plan.columns; column++) {
                for (int line = 0; line < plan.rows; line++) {
                    count += isBlack(column, line) ? 1 : 0;
                }
            }
            return count;
        }

        int lostBoxes() {
            int count = 0;
            for (int k = 0; k < plan.boxes; k++) {
                count += of(k, LOST) > 0 ? 1 : 0;
            }
            return count;
        }

        int emptyBoxes() {
            int count = 0;
            for (int k = 0; k < plan.boxes; k++) {
                count += of(k, POWER) == 0 ? 1 : 0;
            }
            return count;
        }

        int greySeen(int box, int side) {
            int way = of(box, WAY);
            int right = (way + 1) & 3;
            int far = of(box, AHEAD);
            int aside = side * of(box, APART);
            int column = of(box, COLUMN) + far * columnStep(way) + aside * columnStep(right);
            int line = of(box, ROW) + far * rowStep(way) + aside * rowStep(right);
            return Math.max(0, plan.greyAt(column, line) - lamp);
        }

        /** One STEP without DRAWS, in which BOX k does nothing while made is below k times delay. */
        void pass(int made, int delay) {
            wentCount = 0;
            blockedCount = 0;
            for (int k = 0; k < plan.boxes && k < went.length; k++) {
                went[k] = false;
                if (made >= k * delay && of(k, POWER) > 0) {
                    moveBox(k);
                }
            }
            step = Math.min(MOST_STEP, step + 1);
        }

        private void moveBox(int box) {
            int left = greySeen(box, TO_LEFT);
            int right = greySeen(box, TO_RIGHT);
            int mid = greySeen(box, BETWEEN);
            boolean seesBlack = left >= BLACK || right >= BLACK || mid >= BLACK;
            set(box, LOST, seesBlack ? 0 : Math.min(MOST_LOST, of(box, LOST) + 1));
            machine.known[Machine.KNOWN_LEFT] = left;
            machine.known[Machine.KNOWN_RIGHT] = right;
            machine.known[Machine.KNOWN_MID] = mid;
            machine.known[Machine.KNOWN_LOST] = of(box, LOST);
            machine.known[Machine.KNOWN_STEP] = step;
            machine.known[Machine.KNOWN_POWER] = of(box, POWER);
            int steered = right - left;
            if (plan.hasSteers()) {
                steered = machine.valueOf(plan, plan.steersFrom, plan.steersTo);
            }
            if (steered != 0) {
                turnBy(box, steered > 0 ? 1 : 3);
            }
            machine.known[Machine.KNOWN_TURNED] = steered != 0 ? 1 : 0;
            if (!plan.hasGoes() || machine.valueOf(plan, plan.goesFrom, plan.goesTo) != 0) {
                goAhead(box);
            }
            set(box, POWER, of(box, POWER) - 1);
        }

        private void goAhead(int box) {
            int column = of(box, COLUMN) + columnStep(of(box, WAY));
            int line = of(box, ROW) + rowStep(of(box, WAY));
            if (!plan.hasCell(column, line) || boxOn(column, line) != NONE) {
                set(box, BLOCKED, of(box, BLOCKED) + 1);
                blockedCount++;
                return;
            }
            set(box, COLUMN, column);
            set(box, ROW, line);
            set(box, GONE, (of(box, GONE) + 1) % CYCLE);
            if (box >= 0 && box < went.length) {
                went[box] = true;
            }
            wentCount++;
            int bias = of(box, BIAS);
            if (bias > 0 && of(box, GONE) % bias == 0) {
                turnBy(box, 1);
            }
        }
    }

    /** What comes, tried on a World that is the present one's copy. */
    private static final class Ahead {
        static final int MOST = 80;

        private static final int MOST_DELAY = 9;
        private static final int PLACES = 4 * Plan.MOST_SIDE * Plan.MOST_SIDE;
        private static final int BLOCKED_TIMES = 4;

        private final World world;
        private final int[] moves = new int[PLACES];
        private final int[] queue = new int[PLACES];
        private int queued;

        Ahead(Plan plan) {
            world = new World(plan);
            queued = 0;
        }

        int stateBehind(World now, int box, int n, int what) {
            world.copyFrom(now);
            world.set(box, World.BLOCKED, 0);
            for (int k = 0; k < n; k++) {
                world.pass(0, 0);
            }
            if (what == BLOCKED_TIMES) {
                return world.of(box, World.BLOCKED);
            }
            return world.of(box, what == 3 ? World.LOST : what);
        }

        int stepsRound(World now, int box) {
            world.copyFrom(now);
            int last = now.comingSteps(MOST);
            for (int k = 1; k <= last; k++) {
                world.pass(0, 0);
                if (isAsIn(now, box)) {
                    return k;
                }
            }
            return NONE;
        }

        private boolean isAsIn(World now, int box) {
            return world.of(box, World.COLUMN) == now.of(box, World.COLUMN)
                    && world.of(box, World.ROW) == now.of(box, World.ROW)
                    && world.of(box, World.WAY) == now.of(box, World.WAY);
        }

        int stepsToLoss(World now, int box, int n) {
            world.copyFrom(now);
            int last = now.comingSteps(MOST);
            for (int k = 0; k <= last; k++) {
                if (k > 0) {
                    world.pass(0, 0);
                }
                if (world.of(box, World.LOST) >= n) {
                    return k;
                }
            }
            return NONE;
        }

        int firstJam(World now) {
            world.copyFrom(now);
            int last = now.comingSteps(MOST);
            for (int k = 1; k <= last; k++) {
                world.pass(0, 0);
                if (world.blockedCount > 0 && world.wentCount == 0) {
                    return k;
                }
            }
            return NONE;
        }

        int nearest(World now, int one, int other, int n) {
            world.copyFrom(now);
            int least = distance(one, other);
            for (int k = 0; k < n; k++) {
                world.pass(0, 0);
                least = Math.min(least, distance(one, other));
            }
            return least;
        }

        private int distance(int one, int other) {
            return Math.abs(world.of(one, World.COLUMN) - world.of(other, World.COLUMN))
                    + Math.abs(world.of(one, World.ROW) - world.of(other, World.ROW));
        }

        int bestEyes(World now, int box, int n, int what) {
            int most = NONE;
            int bestApart = 0;
            int bestAhead = 0;
            for (int apart = 0; apart <= World.MOST_APART; apart++) {
                for (int ahead = 0; ahead <= World.MOST_AHEAD; ahead++) {
                    world.copyFrom(now);
                    world.set(box, World.APART, apart);
                    world.set(box, World.AHEAD, ahead);
                    int count = blackSteps(box, n);
                    if (count > most) {
                        most = count;
                        bestApart = apart;
                        bestAhead = ahead;
                    }
                }
            }
            if (what == 0) {
                return bestApart;
            }
            return what == 1 ? bestAhead : most;
        }

        private int blackSteps(int box, int n) {
            int count = 0;
            for (int k = 0; k < n; k++) {
                world.pass(0, 0);
                count += world.onBlack(box) ? 1 : 0;
            }
            return count;
        }

        int fewestMoves(World now, int box) {
            Arrays.fill(moves, NONE);
            queued = 0;
            reach(now.of(box, World.COLUMN), now.of(box, World.ROW), now.of(box, World.WAY), 0);
            for (int k = 0; k < queued && k < PLACES; k++) {
                int place = queue[k];
                int way = place & 3;
                int column = (place >> 2) % Plan.MOST_SIDE;
                int line = (place >> 2) / Plan.MOST_SIDE;
                if (now.isBlack(column, line)) {
                    return moves[place];
                }
                int made = moves[place] + 1;
                reach(column, line, (way + 3) & 3, made);
                reach(column, line, (way + 1) & 3, made);
                int nextColumn = column + World.columnStep(way);
                int nextLine = line + World.rowStep(way);
                int other = now.boxOn(nextColumn, nextLine);
                if (now.plan.hasCell(nextColumn, nextLine) && (other == NONE || other == box)) {
                    reach(nextColumn, nextLine, way, made);
                }
            }
            return NONE;
        }

        private void reach(int column, int line, int way, int made) {
            int place = 4 * (line * Plan.MOST_SIDE + column) + way;
            if (place >= 0 && place < PLACES && queued < PLACES && moves[place] == NONE) {
                moves[place] = made;
                queue[queued] = place;
                queued++;
            }
        }

        int leastDelay(World now, int n) {
            for (int delay = 0; delay <= MOST_DELAY; delay++) {
                world.copyFrom(now);
                boolean free = true;
                for (int k = 0; k < n && free; k++) {
                    world.pass(k, delay);
                    free = world.blockedCount == 0;
                }
                if (free) {
                    return delay;
                }
            }
            return NONE;
        }

        int brightestLamp(World now, int n) {
            for (int lamp = World.MOST_LAMP; lamp >= 0; lamp--) {
                world.copyFrom(now);
                world.lamp = lamp;
                for (int k = 0; k < n; k++) {
                    world.pass(0, 0);
                }
                if (world.lostBoxes() == 0) {
                    return lamp;
                }
            }
            return NONE;
        }
    }

    /** TRACKS, and which biases they leave. */
    private static final class Wheels {
        private static final int MOST_ROWS = 16;
        private static final int MOST_STEPS = 40;
        private static final int BIASES = World.MOST_BIAS + 1;

        private final World world;
        private final int[] rows = new int[3 * MOST_ROWS];
        /** By bias, by STEPS AHEAD: the CELL's number; NONE beyond the last STEP. */
        private final int[][] places = new int[BIASES][MOST_STEPS + 1];
        int rowsTold;

        Wheels(Plan plan) {
            world = new World(plan);
            rowsTold = 0;
        }

        void forget() {
            rowsTold = 0;
        }

        boolean takeRows(Tape tape, Plan plan) {
            int count = tape.length / 3;
            if (count < 1 || count > MOST_ROWS || count * 3 != tape.length) {
                return false;
            }
            for (int k = 0; k < count; k++) {
                if (tape.at(3 * k) > MOST_STEPS
                        || !plan.hasCell(tape.at(3 * k + 1), tape.at(3 * k + 2))) {
                    return false;
                }
            }
            for (int k = 0; k < 3 * count && k < rows.length; k++) {
                rows[k] = tape.at(k);
            }
            rowsTold = count;
            return true;
        }

        int biasBits(World now, int box) {
            followAll(now, box);
            return bitsLeft();
        }

        private int bitsLeft() {
            int bits = 0;
            for (int bias = 0; bias < BIASES; bias++) {
                bits |= fitsRows(bias) ? 1 << bias : 0;
            }
            return bits;
        }

        int tellingSteps(World now, int box) {
            followAll(now, box);
            int bits = bitsLeft();
            int best = NONE;
            int fewest = BIASES + 1;
            int last = now.comingSteps(MOST_STEPS);
            for (int k = 1; bits != 0 && k <= last; k++) {
                int most = mostLeft(bits, k);
                if (most < fewest) {
                    fewest = most;
                    best = k;
                }
            }
            return best;
        }

        private void followAll(World now, int box) {
            int last = now.comingSteps(MOST_STEPS);
            for (int bias = 0; bias < BIASES; bias++) {
                world.copyFrom(now);
                world.set(box, World.BIAS, bias);
                Arrays.fill(places[bias], NONE);
                for (int k = 0; k <= last && k <= MOST_STEPS; k++) {
                    if (k > 0) {
                        world.pass(0, 0);
                    }
                    places[bias][k] = placeOf(box);
                }
            }
        }

        private int placeOf(int box) {
            return world.of(box, World.ROW) * Plan.MOST_SIDE + world.of(box, World.COLUMN);
        }

        private boolean fitsRows(int bias) {
            boolean fits = bias >= 0 && bias < BIASES;
            for (int k = 0; fits && k < rowsTold && k < MOST_ROWS; k++) {
                int steps = rows[3 * k];
                int place = rows[3 * k + 2] * Plan.MOST_SIDE + rows[3 * k + 1];
                fits = steps >= 0 && steps <= MOST_STEPS && places[bias][steps] == place;
            }
            return fits;
        }

        /** How many biases the least telling place behind these STEPS would leave. */
        private int mostLeft(int bits, int steps) {
            int most = 0;
            for (int one = 0; one < BIASES && steps >= 0 && steps <= MOST_STEPS; one++) {
                int alike = 0;
                for (int other = 0; other < BIASES; other++) {
                    boolean left = ((bits >> one) & (bits >> other) & 1) == 1;
                    alike += left && places[one][steps] == places[other][steps] ? 1 : 0;
                }
                most = Math.max(most, alike);
            }
            return most;
        }
    }

    /** What is KEPT, and what the last ACTS changed. */
    private static final class Past {
        private static final int MOST_ACTS = 20;
        private static final int MOST_KEPT = 60;
        private static final int KEPT_FROM = World.SAVED + 1;

        private final int[][] saved = new int[MOST_ACTS][KEPT_FROM + MOST_KEPT];
        /** Going round; what comes as number k stands at k modulo MOST_KEPT. */
        private final int[] keptRows = new int[MOST_KEPT];
        private int keptTotal;
        private int nextAct;
        int acts;

        Past() {
            forget();
        }

        void forget() {
            keptTotal = 0;
            nextAct = 0;
            acts = 0;
        }

        int told() {
            return Math.min(keptTotal, MOST_KEPT);
        }

        /** To be called ahead of an ACT. */
        void remember(World now) {
            int[] to = saved[Math.floorMod(nextAct, MOST_ACTS)];
            now.saveTo(to);
            to[World.SAVED] = keptTotal;
            System.arraycopy(keptRows, 0, to, KEPT_FROM, MOST_KEPT);
            nextAct = (nextAct + 1) % MOST_ACTS;
            acts = Math.min(MOST_ACTS, acts + 1);
        }

        void restore(World now) {
            if (acts <= 0) {
                return;
            }
            nextAct = Math.floorMod(nextAct - 1, MOST_ACTS);
            int[] from = saved[nextAct];
            now.loadFrom(from);
            keptTotal = from[World.SAVED];
            System.arraycopy(from, KEPT_FROM, keptRows, 0, MOST_KEPT);
            acts--;
        }

        /** To be called behind a STEP, which is one more by then. */
        void keepStep(World now) {
            for (int k = 0; k < now.plan.boxes && k < now.went.length; k++) {
                if (now.went[k]) {
                    int place = (now.of(k, World.ROW) << 4) | now.of(k, World.COLUMN);
                    int packed = ((now.step - 1) << 11) | (k << 8) | place;
                    keptRows[Math.floorMod(keptTotal, MOST_KEPT)] = packed;
                    keptTotal++;
                }
            }
        }

        int keptPart(int k, int what) {
            if (k < 0 || k >= told()) {
                return NONE;
            }
            int packed = keptRows[Math.floorMod(keptTotal - told() + k, MOST_KEPT)];
            switch (what) {
                case 0:
                    return packed >> 11;
                case 1:
                    return (packed >> 8) & 7;
                case 2:
                    return packed & 15;
                case 3:
                    return (packed >> 4) & 15;
                default:
                    return NONE;
            }
        }
    }

    /** IMAGES, written and read. */
    private static final class Picture {
        private static final int HEAD = 3;
        private static final int BOX_BYTES = 8;

        private final int[] bytes = new int[HEAD + BOX_BYTES * Plan.MOST_BOXES + 1];
        private int length;
        /** A World to read into, so that a bad IMAGE changes nothing. */
        private final World world;

        Picture(Plan plan) {
            length = 0;
            world = new World(plan);
        }

        int byteAt(int k) {
            return k < 0 || k >= length || k >= bytes.length ? NONE : bytes[k];
        }

        int write(World now) {
            length = 0;
            addPair(now.step);
            add(now.lamp);
            for (int k = 0; k < now.plan.boxes; k++) {
                add(now.of(k, World.COLUMN));
                add(now.of(k, World.ROW));
                add(now.of(k, World.WAY));
                addPair(now.of(k, World.POWER));
                add(now.of(k, World.LOST));
                addPair(now.of(k, World.GONE));
            }
            int check = 179;
            for (int k = 0; k < length; k++) {
                check = checkedBy(check, byteAt(k));
            }
            add(check);
            return length;
        }

        boolean readInto(World now, Tape tape) {
            int last = tape.length - 1;
            if (last != HEAD + BOX_BYTES * now.plan.boxes) {
                return false;
            }
            int check = 179;
            for (int k = 0; k < last; k++) {
                check = checkedBy(check, tape.at(k));
            }
            if (check != tape.at(last)) {
                return false;
            }
            world.copyFrom(now);
            world.step = tape.pairAt(0);
            world.lamp = tape.at(2);
            boolean fits = world.step <= World.MOST_STEP && world.lamp <= World.MOST_LAMP;
            for (int k = 0; fits && k < now.plan.boxes; k++) {
                fits = readBox(tape, k);
            }
            if (fits) {
                now.copyFrom(world);
            }
            return fits;
        }

        /** A BOX is looked for on the CELL among those read before it alone. */
        private boolean readBox(Tape tape, int box) {
            int at = HEAD + BOX_BYTES * box;
            int column = tape.at(at);
            int line = tape.at(at + 1);
            if (!world.plan.hasCell(column, line)
                    || World.boxIn(world.row, box, column, line) != NONE) {
                return false;
            }
            world.set(box, World.COLUMN, column);
            world.set(box, World.ROW, line);
            world.set(box, World.WAY, tape.at(at + 2));
            world.set(box, World.POWER, tape.pairAt(at + 3));
            world.set(box, World.LOST, tape.at(at + 5));
            world.set(box, World.GONE, tape.pairAt(at + 6));
            return world.of(box, World.WAY) <= 3
                    && world.of(box, World.POWER) <= World.MOST_POWER
                    && world.of(box, World.LOST) <= World.MOST_LOST
                    && world.of(box, World.GONE) < World.CYCLE;
        }

        private static int checkedBy(int check, int octet) {
            return (5 * check + octet) % 251;
        }

        private void addPair(int value) {
            add(value >> 8);
            add(value & 255);
        }

        private void add(int value) {
            if (length >= 0 && length < bytes.length) {
                bytes[length] = value;
                length++;
            }
        }
    }
}
