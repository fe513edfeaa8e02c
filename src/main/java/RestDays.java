import java.util.Arrays;

/**
 * A land in which every law rests one day of the week. The words in capitals are those of the
 * document, ../shared/DOC.md. All rows are made with the object; no call makes another.
 */
public final class RestDays {
    public static final int NONE = -1;
    public static final int GAP = -1000000;

    private static final int SPENT = -2;
    private static final int TAPE_MOST = 1700;
    private static final int HOURS_MOST = 2000;
    private static final int HOURS_AT_ONCE = 60;
    private static final int WILL_MOST = 300;
    private static final int PLAN_MOST = 20;
    private static final int GAIN_MOST = 6;
    private static final int WISH_MOST = 100;
    private static final int BOXES = 3;

    private final byte[] tape;
    private int taped;
    private final Parser parser;
    private Land told;
    private Land draft;
    private final Earnest earnest;
    private final Scene now;
    private final Scene mind;
    private final Acts acts;
    private final int[] boxes;
    private final boolean[] kept;
    private final int[] lying;
    private int lyingCount;
    private final Rounds rounds;
    private final Search search;
    private final Wishes wishes;
    private final Looks looks;
    private final Fits fits;

    public RestDays() {
        tape = new byte[TAPE_MOST];
        told = new Land();
        draft = new Land();
        parser = new Parser(tape, draft);
        earnest = new Earnest(told);
        now = earnest.scene;
        mind = new Scene(told);
        acts = new Acts();
        boxes = new int[BOXES * Earnest.ROW];
        kept = new boolean[BOXES];
        lying = new int[PLAN_MOST];
        rounds = new Rounds();
        search = new Search(mind);
        wishes = new Wishes(now, mind);
        looks = new Looks();
        fits = new Fits(looks, mind);
        beginAnew();
    }

    private void beginAnew() {
        earnest.begin(told);
        acts.forget(earnest);
        looks.count = 0;
        lyingCount = 0;
        for (int box = 0; box < BOXES; box++) {
            kept[box] = false;
        }
    }

    // ---- the text

    public int feed(int a, int b, int c, int d, int e) {
        if (taped + 20 > TAPE_MOST) {
            return NONE;
        }
        putBytes(a);
        putBytes(b);
        putBytes(c);
        putBytes(d);
        putBytes(e);
        return taped;
    }

    private void putBytes(int four) {
        for (int down = 24; down >= 0 && taped < TAPE_MOST; down -= 8) {
            tape[taped] = (byte) (four >> down);
            taped++;
        }
    }

    public int end(int n) {
        if (n < 0 || n > taped) {
            return NONE;
        }
        taped = n;
        return n;
    }

    public int land() {
        int bytes = taped;
        taped = 0;
        if (!parser.reads(bytes, draft)) {
            return NONE;
        }
        Land before = told;
        told = draft;
        draft = before;
        beginAnew();
        return told.counts[Land.THINGS];
    }

    public int fault(int what) {
        if (what == 0) {
            return parser.fault;
        }
        return what == 1 ? parser.place : NONE;
    }

    // ---- what is now

    public int thing(int thing) {
        return told.has(Land.THINGS, thing) ? now.things[thing] : NONE;
    }

    public int feast(int law) {
        return told.has(Land.LAWS, law) ? now.feasts[law] : NONE;
    }

    public int does(int law) {
        if (!told.has(Land.LAWS, law)) {
            return NONE;
        }
        return now.acting(law) ? 1 : 0;
    }

    public int can(int deed) {
        if (!told.has(Land.DEEDS, deed)) {
            return NONE;
        }
        return now.value(Land.OF_DEED + deed) != 0 ? 1 : 0;
    }

    public int broken() {
        return now.brokenBans();
    }

    public int says(int what) {
        if (what == 0) {
            return now.value(Land.GOAL);
        }
        return what == 1 ? now.value(Land.GAIN) : GAP;
    }

    // ---- acts

    public int hours(int n) {
        if (n < 0 || n > HOURS_AT_ONCE || earnest.hours + n > HOURS_MOST) {
            return NONE;
        }
        earnest.passHours(n);
        acts.note(earnest);
        return earnest.hours;
    }

    public boolean deed(int deed) {
        if (can(deed) != 1) {
            return false;
        }
        now.perform(Land.OF_DEED + deed);
        acts.note(earnest);
        return true;
    }

    /** An ACT shifts a FEAST to another DAY, so the DAY on which it is can't be. */
    public int shift(int law, int day) {
        if (!told.has(Land.LAWS, law) || day < 0 || day >= told.days || day == now.feasts[law]) {
            return NONE;
        }
        int before = now.feasts[law];
        now.feasts[law] = day;
        acts.note(earnest);
        return before;
    }

    public boolean leap() {
        if (now.hour != 0 || now.inLeap) {
            return false;
        }
        now.inLeap = true;
        acts.note(earnest);
        return true;
    }

    public boolean undo() {
        return acts.goTo(acts.at - 1, earnest);
    }

    public boolean redo() {
        return acts.goTo(acts.at + 1, earnest);
    }

    public int crime(int i, int what) {
        if (i < 0 || i >= earnest.crimes) {
            return NONE;
        }
        if (what == 0) {
            return earnest.crimeHours[i];
        }
        return what == 1 ? earnest.crimeBans[i] : NONE;
    }

    // ---- what will be

    public int will(int thing, int n) {
        if (!told.has(Land.THINGS, thing) || n < 0 || n > WILL_MOST) {
            return NONE;
        }
        mind.copy(now);
        mind.pass(n);
        return mind.things[thing];
    }

    public int round(int what) {
        if (what != 0 && what != 1) {
            return NONE;
        }
        mind.copy(now);
        if (!rounds.comesRound(mind)) {
            return NONE;
        }
        return what == 0 ? rounds.hour : rounds.hour - rounds.earlier;
    }

    public int clash(int law, int other) {
        if (!told.has(Land.LAWS, law) || !told.has(Land.LAWS, other)) {
            return NONE;
        }
        if (law == other || !now.acting(law) || !now.acting(other)) {
            return 0;
        }
        return outcome(law, other) != outcome(other, law) ? 1 : 0;
    }

    private long outcome(int first, int second) {
        mind.copy(now);
        mind.takeTurn(first);
        mind.takeTurn(second);
        return mind.packed();
    }

    public int plan(int n) {
        lyingCount = 0;
        if (n < 1 || n > PLAN_MOST || !told.tells(Land.GOAL)) {
            return NONE;
        }
        mind.copy(now);
        int found = search.fewestHours(n);
        if (found > 0) {
            lyingCount = search.layDeeds(found, lying);
        }
        return found;
    }

    public int most(int n) {
        lyingCount = 0;
        if (n < 1 || n > GAIN_MOST || !told.tells(Land.GAIN)) {
            return GAP;
        }
        mind.copy(now);
        search.seekGain(n);
        if (search.spent) {
            return GAP - 1;
        }
        if (search.found == NONE) {
            return GAP;
        }
        lyingCount = search.layDeeds(n, lying);
        return search.gain;
    }

    public int loophole(int law, int other) {
        if (!told.has(Land.LAWS, law) || !told.has(Land.LAWS, other) || law == other
                || !told.tells(Land.GAIN)) {
            return GAP;
        }
        int both = gainOfRest(law, other);
        boolean none = search.found == NONE;
        boolean spent = search.spent;
        int one = gainOfRest(law, law);
        none = none || search.found == NONE;
        spent = spent || search.spent;
        int two = gainOfRest(other, other);
        none = none || search.found == NONE;
        spent = spent || search.spent;
        if (spent) {
            return GAP - 1;
        }
        return none ? GAP : both - Math.max(one, two);
    }

    private int gainOfRest(int law, int other) {
        mind.copy(now);
        mind.goToRest(law, other);
        search.seekGain(told.dayHours);
        return search.gain;
    }

    // ---- feasts shifted in thought

    public int amend(int thing, int least, int most, int n) {
        lyingCount = 0;
        if (!canWish(thing, least, most, n)) {
            return NONE;
        }
        int shifts = wishes.fewestShifts(lying);
        lyingCount = Math.max(0, shifts);
        return shifts;
    }

    public int all(int thing, int least, int most, int n) {
        lyingCount = 0;
        if (!canWish(thing, least, most, n)) {
            return NONE;
        }
        int calendars = wishes.countCalendars(lying);
        lyingCount = calendars > 0 ? told.counts[Land.LAWS] : 0;
        return calendars;
    }

    private boolean canWish(int thing, int least, int most, int n) {
        if (!told.has(Land.THINGS, thing) || n < 0 || n > WISH_MOST) {
            return false;
        }
        if (least < 0 || most < least || most > Land.NUMBER_MOST) {
            return false;
        }
        wishes.aim(thing, least, most, n);
        return true;
    }

    public int guilds(int n) {
        lyingCount = 0;
        if (n < 0 || n > WISH_MOST) {
            return NONE;
        }
        int turns = wishes.turnsToRest(n, lying);
        lyingCount = turns == NONE ? 0 : told.counts[Land.LAWS];
        return turns;
    }

    public int more(int what, int law, int n) {
        if (n < 0 || n > WISH_MOST || !told.tells(Land.GAIN)) {
            return GAP;
        }
        if (what != 0 && (what != 1 || !told.has(Land.LAWS, law))) {
            return GAP;
        }
        mind.copy(now);
        if (what == 1) {
            mind.feasts[law] = mind.days;
        }
        mind.days++;
        mind.pass(n);
        return mind.value(Land.GAIN);
    }

    public int lies(int i) {
        return i < 0 || i >= lyingCount ? GAP : lying[i];
    }

    // ---- looks

    public int look(int hours, int thing, int so) {
        if (hours < 0 || hours > Looks.HOURS_MOST || !told.has(Land.THINGS, thing)) {
            return NONE;
        }
        if (so < 0 || so > Land.NUMBER_MOST) {
            return NONE;
        }
        return looks.tell(hours, thing, so);
    }

    public boolean untell(int look) {
        return looks.takeBack(look);
    }

    public int later(int by) {
        return looks.passTime(by);
    }

    public int fit(int k) {
        return fits.sift(told, k, NONE);
    }

    public int rests(int law, int k) {
        if (!told.has(Land.LAWS, law)) {
            return NONE;
        }
        return fits.sift(told, k, NONE) == SPENT ? SPENT : fits.restDays[law];
    }

    public int ask(int n, int what, int k) {
        if (n < 0 || n > Looks.HOURS_MOST || what < 0 || what > 1 || told.counts[Land.THINGS] == 0) {
            return NONE;
        }
        int fitting = fits.sift(told, k, n);
        if (fitting == SPENT) {
            return SPENT;
        }
        if (fitting == 0) {
            return NONE;
        }
        int best = fits.tellingMost(told.counts[Land.THINGS]);
        return what == 0 ? best : fits.leftAtMost(best);
    }

    // ---- images

    public int image(int box) {
        if (box < 0 || box >= BOXES) {
            return NONE;
        }
        earnest.save(boxes, box * Earnest.ROW);
        kept[box] = true;
        return earnest.hours;
    }

    public int back(int box) {
        if (box < 0 || box >= BOXES || !kept[box]) {
            return NONE;
        }
        earnest.load(boxes, box * Earnest.ROW);
        acts.forget(earnest);
        return earnest.hours;
    }

    public int about(int what) {
        if (what >= 0 && what < Land.SORTS) {
            return told.counts[what];
        }
        switch (what) {
            case 5: return told.days;
            case 6: return told.dayHours;
            case 7: return now.dayNumber();
            case 8: return now.hour;
            case 9: return earnest.hours;
            case 10: return earnest.crimes;
            case 11: return acts.at;
            case 12: return acts.last - acts.at;
            case 13: return looks.count;
            case 14: return looks.time;
            case 15: return taped;
            case 16: return told.units;
            case 17: return lyingCount;
            default: return NONE;
        }
    }

    /** A LAND as it is told; its formulas are codes that work on a stack. */
    private static final class Land {
        static final int THINGS = 0;
        static final int LAWS = 1;
        static final int DEEDS = 2;
        static final int BANS = 3;
        static final int GUILDS = 4;
        static final int SORTS = 5;

        static final int THINGS_MOST = 6;
        static final int LAWS_MOST = 5;
        static final int DEEDS_MOST = 6;
        static final int BANS_MOST = 4;
        static final int GUILDS_MOST = 4;
        static final int SETS_MOST = 4;
        static final int NUMBER_MOST = 999;

        // A LAW, a DEED has the number of its formula; its sets' formulas stand from OF_SET on.
        static final int OF_LAW = 0;
        static final int OF_DEED = OF_LAW + LAWS_MOST;
        static final int OF_BAN = OF_DEED + DEEDS_MOST;
        static final int GOAL = OF_BAN + BANS_MOST;
        static final int GAIN = GOAL + 1;
        static final int OF_GUILD = GAIN + 1;
        static final int OF_SET = OF_GUILD + GUILDS_MOST;
        static final int FORMULAS = OF_SET + SETS_MOST * OF_BAN;

        // BANS keep their FEASTS behind those of the LAWS.
        static final int BAN_FEAST = LAWS_MOST;
        static final int FEASTS = LAWS_MOST + BANS_MOST;
        static final int CODES = 1024;

        // What one code of a formula does: the first four put a number on the stack.
        static final int KIND_BITS = 4;
        static final int KIND_MASK = 15;
        static final int PUT_NUMBER = 0;
        static final int PUT_THING = 1;
        static final int PUT_DAY = 2;
        static final int PUT_HOUR = 3;
        static final int NOT = 4;
        static final int PLUS = 5;
        static final int MINUS = 6;
        static final int TIMES = 7;
        static final int OVER = 8;
        static final int REST = 9;
        static final int LESS = 10;
        static final int MORE = 11;
        static final int SAME = 12;
        static final int ALSO = 13;
        static final int OR = 14;

        int days;
        int dayHours;
        int units;
        int codeLength;
        final int[] counts = new int[SORTS];
        final int[] first = new int[THINGS_MOST];
        final int[] greatest = new int[THINGS_MOST];
        final int[] feasts = new int[FEASTS];
        final int[] guildLaws = new int[GUILDS_MOST];
        final int[] setCounts = new int[OF_BAN];
        final int[] setThings = new int[SETS_MOST * OF_BAN];
        final int[] from = new int[FORMULAS];
        final int[] to = new int[FORMULAS];
        final int[] codes = new int[CODES];

        Land() {
            empty();
        }

        void empty() {
            days = 7;
            dayHours = 4;
            units = 0;
            codeLength = 0;
            Arrays.fill(counts, 0);
            Arrays.fill(first, 0);
            Arrays.fill(greatest, 0);
            Arrays.fill(feasts, 0);
            Arrays.fill(setCounts, 0);
            Arrays.fill(from, 0);
            Arrays.fill(to, 0);
        }

        boolean has(int sort, int i) {
            return i >= 0 && i < counts[sort];
        }

        boolean tells(int formula) {
            return to[formula] > from[formula];
        }

        void addCode(int kind, int number) {
            if (codeLength < CODES) {
                codes[codeLength] = number << KIND_BITS | kind;
                codeLength++;
            }
        }
    }

    /** The text's TOKENS; what is none stands among them as BAD. */
    private static final class Tokens {
        // in cells of WORD_MOST signs, by the numbers below
        static final String WORDS = "week    hours   thing   to      law     rests   if      then    and     deed    ban     goal    gain    guild   of      wants   becomes or      also    not     day     hour    ";
        static final int WORD_MOST = 8;
        static final int DIGITS_MOST = 4;

        static final int WEEK = 0;
        static final int HOURS = 1;
        static final int THING = 2;
        static final int TO = 3;
        static final int LAW = 4;
        static final int RESTS = 5;
        static final int IF = 6;
        static final int THEN = 7;
        static final int AND = 8;
        static final int DEED = 9;
        static final int BAN = 10;
        static final int GOAL = 11;
        static final int GAIN = 12;
        static final int GUILD = 13;
        static final int OF = 14;
        static final int WANTS = 15;
        static final int BECOMES = 16;
        static final int OR = 17;
        static final int ALSO = 18;
        static final int NOT = 19;
        static final int DAY = 20;
        static final int HOUR = 21;
        static final int NAME = 22;
        static final int NUMBER = 23;
        static final int END = 24;
        static final int BAD = 25;
        // a sign is its own kind: all of them are above these

        private final byte[] text;
        private int length;
        int count;
        final int[] kinds = new int[TAPE_MOST + 1];
        final int[] places = new int[TAPE_MOST + 1];
        final long[] values = new long[TAPE_MOST + 1];

        Tokens(byte[] text) {
            this.text = text;
        }

        /** n is at most TAPE_MOST, so there is room for END behind as many TOKENS as bytes. */
        void cut(int n) {
            length = n;
            count = 0;
            int at = 0;
            for (int i = 0; i < n && at < n; i++) {
                if (isBlank(text[at])) {
                    at++;
                } else {
                    at = cutOne(at);
                }
            }
            put(END, length, 0);
        }

        private int cutOne(int at) {
            int c = text[at];
            if (isLetter(c)) {
                return cutWord(at);
            }
            if (isDigit(c)) {
                return cutNumber(at);
            }
            put(isSign(c) ? c : BAD, at, 0);
            return at + 1;
        }

        private int cutWord(int at) {
            int end = at;
            long word = 0;
            for (int i = at; i < length && isLetter(text[i]); i++) {
                word = word * 27 + (text[i] - 'a' + 1);
                end = i + 1;
            }
            put(end - at > WORD_MOST ? BAD : wordKind(at, end), at, word);
            return end;
        }

        private int cutNumber(int at) {
            int end = at;
            long number = 0;
            for (int i = at; i < length && isDigit(text[i]); i++) {
                number = number * 10 + (text[i] - '0');
                end = i + 1;
            }
            boolean bad = end - at > DIGITS_MOST || end < length && isLetter(text[end]);
            put(bad ? BAD : NUMBER, at, number);
            return end;
        }

        private void put(int kind, int place, long value) {
            if (count <= TAPE_MOST) {
                kinds[count] = kind;
                places[count] = place;
                values[count] = value;
                count++;
            }
        }

        private int wordKind(int at, int end) {
            for (int kind = 0; kind < NAME; kind++) {
                if (isWord(kind * WORD_MOST, at, end)) {
                    return kind;
                }
            }
            return NAME;
        }

        private boolean isWord(int word, int at, int end) {
            for (int i = 0; i < WORD_MOST; i++) {
                int c = at + i < end ? text[at + i] : ' ';
                if (WORDS.charAt(word + i) != c) {
                    return false;
                }
            }
            return true;
        }

        private static boolean isBlank(int c) {
            return c == ' ' || c == '\n';
        }

        private static boolean isLetter(int c) {
            return c >= 'a' && c <= 'z';
        }

        private static boolean isDigit(int c) {
            return c >= '0' && c <= '9';
        }

        private static boolean isSign(int c) {
            switch (c) {
                case ';': case '(': case ')': case '<': case '>': case '=':
                case '+': case '-': case '*': case '/': case '%':
                    return true;
                default:
                    return false;
            }
        }
    }

    /** Makes a LAND of a text, or tells its first FAULT. */
    private static final class Parser {
        static final int NO_TOKEN = 1;
        static final int OUT_OF_PLACE = 2;
        static final int TOLD_ALREADY = 3;
        static final int BAD_NUMBER = 4;
        static final int UNKNOWN = 5;
        static final int UNITS_MOST = 150;
        static final int UNITS_OF_ONE = 30;
        static final int DEEPEST = 6;

        // the levels of a formula, each made of the next
        static final int ANY = 0;
        static final int ALL = 1;
        static final int BOTH = 2;
        static final int SUM = 3;
        static final int TERM = 4;
        static final int UNIT = 5;

        private final Tokens tokens;
        private final long[] names = new long[Land.SORTS * Land.THINGS_MOST];
        private Land land;
        /** The TOKEN that is looked at. */
        private int at;
        private int kind;
        private long value;
        private int number;
        private int formulaUnits;
        int fault;
        int place = NONE;

        Parser(byte[] text, Land land) {
            tokens = new Tokens(text);
            this.land = land;
        }

        boolean reads(int n, Land into) {
            tokens.cut(n);
            land = into;
            land.empty();
            fault = 0;
            place = NONE;
            at = NONE;
            step();
            for (int line = 0; line <= TAPE_MOST && fault == 0 && kind != Tokens.END; line++) {
                switch (kind) {
                    case Tokens.WEEK: readWeek(line == 0); break;
                    case Tokens.THING: readThing(); break;
                    case Tokens.LAW: readLaw(); break;
                    case Tokens.DEED: readDeed(); break;
                    case Tokens.BAN: readBan(); break;
                    case Tokens.GOAL: readAim(Land.GOAL); break;
                    case Tokens.GAIN: readAim(Land.GAIN); break;
                    case Tokens.GUILD: readGuild(); break;
                    default: refuse(OUT_OF_PLACE);
                }
            }
            return fault == 0;
        }

        private boolean readWeek(boolean first) {
            if (!first) {
                return refuse(OUT_OF_PLACE);
            }
            step();
            if (!readNumber(2, 9)) {
                return false;
            }
            land.days = number;
            if (!accept(Tokens.HOURS) || !readNumber(1, 6)) {
                return false;
            }
            land.dayHours = number;
            return accept(';');
        }

        private boolean readThing() {
            if (!readNewName(Land.THINGS, Land.THINGS_MOST) || !readNumber(0, Land.NUMBER_MOST)) {
                return false;
            }
            int thing = land.counts[Land.THINGS];
            land.first[thing] = number;
            if (!accept(Tokens.TO) || !readNumber(number, Land.NUMBER_MOST)) {
                return false;
            }
            land.greatest[thing] = number;
            land.counts[Land.THINGS]++;
            return accept(';');
        }

        private boolean readLaw() {
            if (!readNewName(Land.LAWS, Land.LAWS_MOST) || !readFeast(land.counts[Land.LAWS])) {
                return false;
            }
            land.counts[Land.LAWS]++;
            return readActor(Land.OF_LAW + land.counts[Land.LAWS] - 1);
        }

        private boolean readDeed() {
            if (!readNewName(Land.DEEDS, Land.DEEDS_MOST)) {
                return false;
            }
            land.counts[Land.DEEDS]++;
            return readActor(Land.OF_DEED + land.counts[Land.DEEDS] - 1);
        }

        private boolean readBan() {
            int ban = land.counts[Land.BANS];
            if (!readNewName(Land.BANS, Land.BANS_MOST) || !readFeast(Land.BAN_FEAST + ban)) {
                return false;
            }
            land.counts[Land.BANS]++;
            return accept(Tokens.IF) && readFormula(Land.OF_BAN + ban) && accept(';');
        }

        private boolean readAim(int formula) {
            if (land.tells(formula)) {
                return refuse(OUT_OF_PLACE);
            }
            step();
            return readFormula(formula) && accept(';');
        }

        private boolean readGuild() {
            int guild = land.counts[Land.GUILDS];
            if (!readNewName(Land.GUILDS, Land.GUILDS_MOST) || !accept(Tokens.OF)
                    || !readKnownName(Land.LAWS)) {
                return false;
            }
            land.guildLaws[guild] = number;
            land.counts[Land.GUILDS]++;
            return accept(Tokens.WANTS) && readFormula(Land.OF_GUILD + guild) && accept(';');
        }

        private boolean readFeast(int feast) {
            if (!accept(Tokens.RESTS) || !readNumber(0, land.days - 1)) {
                return false;
            }
            land.feasts[feast] = number;
            return true;
        }

        private boolean readActor(int actor) {
            if (!accept(Tokens.IF) || !readFormula(actor) || !accept(Tokens.THEN)) {
                return false;
            }
            for (int i = 0; i < Land.SETS_MOST; i++) {
                int set = actor * Land.SETS_MOST + i;
                if (!readKnownName(Land.THINGS)) {
                    return false;
                }
                land.setThings[set] = number;
                if (!accept(Tokens.BECOMES) || !readFormula(Land.OF_SET + set)) {
                    return false;
                }
                land.setCounts[actor] = i + 1;
                if (kind != Tokens.AND) {
                    return accept(';');
                }
                if (i + 1 < Land.SETS_MOST) {
                    step();
                }
            }
            return refuse(OUT_OF_PLACE);
        }

        private boolean readFormula(int formula) {
            formulaUnits = 0;
            land.from[formula] = land.codeLength;
            boolean whole = readLevel(ANY, 0);
            land.to[formula] = land.codeLength;
            return whole;
        }

        /** depth counts the ( ) and nots around; none is opened within more than DEEPEST. */
        private boolean readLevel(int level, int depth) {
            if (level == UNIT) {
                return readUnit(depth);
            }
            if (level == BOTH && kind == Tokens.NOT) {
                return readNot(depth);
            }
            if (!readLevel(level + 1, depth)) {
                return false;
            }
            int joints = level == BOTH ? 1 : UNITS_OF_ONE;
            for (int i = 0; i < joints; i++) {
                int code = joint(level);
                if (code == NONE) {
                    return true;
                }
                step();
                if (!readLevel(level + 1, depth)) {
                    return false;
                }
                land.addCode(code, 0);
            }
            return true;
        }

        private boolean readNot(int depth) {
            if (depth > DEEPEST) {
                return refuse(OUT_OF_PLACE);
            }
            step();
            if (!readLevel(BOTH, depth + 1)) {
                return false;
            }
            land.addCode(Land.NOT, 0);
            return true;
        }

        private boolean readUnit(int depth) {
            if (land.units >= UNITS_MOST || formulaUnits >= UNITS_OF_ONE) {
                return refuse(OUT_OF_PLACE);
            }
            land.units++;
            formulaUnits++;
            switch (kind) {
                case Tokens.NUMBER: land.addCode(Land.PUT_NUMBER, (int) value); break;
                case Tokens.DAY: land.addCode(Land.PUT_DAY, 0); break;
                case Tokens.HOUR: land.addCode(Land.PUT_HOUR, 0); break;
                case Tokens.NAME:
                    int thing = find(Land.THINGS);
                    if (thing == NONE) {
                        return refuse(UNKNOWN);
                    }
                    land.addCode(Land.PUT_THING, thing);
                    break;
                case '(':
                    if (depth > DEEPEST) {
                        return refuse(OUT_OF_PLACE);
                    }
                    step();
                    if (!readLevel(ANY, depth + 1)) {
                        return false;
                    }
                    if (kind != ')') {
                        return refuse(OUT_OF_PLACE);
                    }
                    break;
                default:
                    return refuse(OUT_OF_PLACE);
            }
            step();
            return true;
        }

        /** The code by which the TOKEN joins two parts of a level, if it does. */
        private int joint(int level) {
            switch (kind) {
                case Tokens.OR: return level == ANY ? Land.OR : NONE;
                case Tokens.ALSO: return level == ALL ? Land.ALSO : NONE;
                case '<': return level == BOTH ? Land.LESS : NONE;
                case '>': return level == BOTH ? Land.MORE : NONE;
                case '=': return level == BOTH ? Land.SAME : NONE;
                case '+': return level == SUM ? Land.PLUS : NONE;
                case '-': return level == SUM ? Land.MINUS : NONE;
                case '*': return level == TERM ? Land.TIMES : NONE;
                case '/': return level == TERM ? Land.OVER : NONE;
                case '%': return level == TERM ? Land.REST : NONE;
                default: return NONE;
            }
        }

        /** Behind a line's first word, which is refused if there are as many already. */
        private boolean readNewName(int sort, int most) {
            if (land.counts[sort] >= most) {
                return refuse(OUT_OF_PLACE);
            }
            step();
            if (kind != Tokens.NAME) {
                return refuse(OUT_OF_PLACE);
            }
            if (find(sort) != NONE) {
                return refuse(TOLD_ALREADY);
            }
            names[sort * Land.THINGS_MOST + land.counts[sort]] = value;
            step();
            return true;
        }

        private boolean readKnownName(int sort) {
            if (kind != Tokens.NAME) {
                return refuse(OUT_OF_PLACE);
            }
            number = find(sort);
            if (number == NONE) {
                return refuse(UNKNOWN);
            }
            step();
            return true;
        }

        private int find(int sort) {
            for (int i = 0; i < land.counts[sort]; i++) {
                if (names[sort * Land.THINGS_MOST + i] == value) {
                    return i;
                }
            }
            return NONE;
        }

        private boolean readNumber(int least, int most) {
            if (kind != Tokens.NUMBER) {
                return refuse(OUT_OF_PLACE);
            }
            if (value < least || value > most) {
                return refuse(BAD_NUMBER);
            }
            number = (int) value;
            step();
            return true;
        }

        private boolean accept(int due) {
            if (kind != due) {
                return refuse(OUT_OF_PLACE);
            }
            step();
            return true;
        }

        private void step() {
            if (at + 1 < tokens.count) {
                at++;
                kind = tokens.kinds[at];
                value = tokens.values[at];
            }
        }

        /** Each TOKEN is looked at in its turn, so the first refused is the first by its place. */
        private boolean refuse(int why) {
            fault = kind == Tokens.BAD ? NO_TOKEN : why;
            place = at >= 0 && at < tokens.count ? tokens.places[at] : NONE;
            return false;
        }
    }

    /** THINGS, a clock and FEASTS, in earnest or in thought. */
    private static final class Scene {
        static final int STACK = 32;
        static final int CALENDARS_MOST = 20000;
        static final int THING_BITS = 10;
        static final int THING_MASK = 1023;

        Land land;
        int days;
        int day;
        int hour;
        /** In a LEAP DAY day is the one that was to come. */
        boolean inLeap;
        final int[] things = new int[Land.THINGS_MOST];
        final int[] feasts = new int[Land.FEASTS];
        private final int[] stack = new int[STACK];

        Scene(Land of) {
            begin(of);
        }

        void begin(Land of) {
            land = of;
            days = of.days;
            day = 0;
            hour = 0;
            inLeap = false;
            for (int i = 0; i < Land.THINGS_MOST; i++) {
                things[i] = of.first[i];
            }
            for (int i = 0; i < Land.FEASTS; i++) {
                feasts[i] = of.feasts[i];
            }
        }

        void copy(Scene other) {
            land = other.land;
            days = other.days;
            day = other.day;
            hour = other.hour;
            inLeap = other.inLeap;
            System.arraycopy(other.things, 0, things, 0, Land.THINGS_MOST);
            System.arraycopy(other.feasts, 0, feasts, 0, Land.FEASTS);
        }

        /** To HOUR 0 of a DAY 0 on which these two alone REST. */
        void goToRest(int law, int other) {
            day = 0;
            hour = 0;
            inLeap = false;
            for (int i = 0; i < Land.FEASTS; i++) {
                feasts[i] = i == law || i == other ? 0 : NONE;
            }
        }

        int dayNumber() {
            return inLeap ? days : day;
        }

        boolean resting(int feast) {
            return !inLeap && feasts[feast] == day;
        }

        boolean acting(int law) {
            return !resting(law) && value(Land.OF_LAW + law) != 0;
        }

        /** In one piece, as what is asked most often: what lies behind the top is the second part. */
        int value(int formula) {
            int end = land.to[formula];
            int top = NONE;
            for (int i = land.from[formula]; i < end; i++) {
                int kind = land.codes[i] & Land.KIND_MASK;
                int number = land.codes[i] >> Land.KIND_BITS;
                top += kind < Land.NOT ? 1 : kind == Land.NOT ? 0 : -1;
                if (top < 0 || top + 1 >= STACK) {
                    return 0;
                }
                int a = stack[top];
                int b = stack[top + 1];
                switch (kind) {
                    case Land.PUT_NUMBER: stack[top] = number; break;
                    case Land.PUT_THING: stack[top] = things[number]; break;
                    case Land.PUT_DAY: stack[top] = inLeap ? days : day; break;
                    case Land.PUT_HOUR: stack[top] = hour; break;
                    case Land.NOT: stack[top] = a == 0 ? 1 : 0; break;
                    case Land.PLUS: stack[top] = a + b; break;
                    case Land.MINUS: stack[top] = a - b; break;
                    case Land.TIMES: stack[top] = a * b; break;
                    case Land.OVER: stack[top] = b == 0 ? 0 : a / b; break;
                    case Land.REST: stack[top] = b == 0 ? 0 : a % b; break;
                    case Land.LESS: stack[top] = a < b ? 1 : 0; break;
                    case Land.MORE: stack[top] = a > b ? 1 : 0; break;
                    case Land.SAME: stack[top] = a == b ? 1 : 0; break;
                    case Land.ALSO: stack[top] = a != 0 && b != 0 ? 1 : 0; break;
                    default: stack[top] = a != 0 || b != 0 ? 1 : 0;
                }
            }
            return top < 0 ? 0 : stack[top];
        }

        void perform(int actor) {
            int count = land.setCounts[actor];
            for (int i = 0; i < count; i++) {
                int set = actor * Land.SETS_MOST + i;
                int thing = land.setThings[set];
                int number = value(Land.OF_SET + set);
                things[thing] = Math.max(0, Math.min(number, land.greatest[thing]));
            }
        }

        void takeTurn(int law) {
            if (acting(law)) {
                perform(law);
            }
        }

        void takeTurns() {
            int laws = land.counts[Land.LAWS];
            for (int law = 0; law < laws; law++) {
                if (acting(law)) {
                    perform(law);
                }
            }
        }

        int brokenBans() {
            int bits = 0;
            int bans = land.counts[Land.BANS];
            for (int ban = 0; ban < bans; ban++) {
                if (!resting(Land.BAN_FEAST + ban) && value(Land.OF_BAN + ban) != 0) {
                    bits |= 1 << ban;
                }
            }
            return bits;
        }

        void tick() {
            hour++;
            if (hour < land.dayHours) {
                return;
            }
            hour = 0;
            if (inLeap) {
                inLeap = false;
            } else {
                day = day + 1 < days ? day + 1 : 0;
            }
        }

        void pass(int n) {
            for (int i = 0; i < n; i++) {
                takeTurns();
                tick();
            }
        }

        long packed() {
            long all = 0;
            for (int i = 0; i < Land.THINGS_MOST; i++) {
                all = all << THING_BITS | things[i];
            }
            return all;
        }

        void unpack(long all) {
            long left = all;
            for (int i = Land.THINGS_MOST - 1; i >= 0; i--) {
                things[i] = (int) (left & THING_MASK);
                left >>= THING_BITS;
            }
        }

        /** How many there are; the FEASTS are the first of them then. */
        int startCalendars() {
            int count = 1;
            for (int law = 0; law < land.counts[Land.LAWS]; law++) {
                count *= days;
                feasts[law] = 0;
            }
            return count > CALENDARS_MOST ? SPENT : count;
        }

        void nextCalendar() {
            for (int law = land.counts[Land.LAWS] - 1; law >= 0; law--) {
                feasts[law]++;
                if (feasts[law] < days) {
                    return;
                }
                feasts[law] = 0;
            }
        }
    }

    /** What is in earnest, and how it is kept in a row of numbers. */
    private static final class Earnest {
        static final int CRIMES_MOST = 60;
        static final int CLOCK = Land.THINGS_MOST + Land.FEASTS;
        static final int CRIMES = CLOCK + 5;
        static final int ROW = CRIMES + 2 * CRIMES_MOST;

        final Scene scene;
        int hours;
        int crimes;
        final int[] crimeHours = new int[CRIMES_MOST];
        final int[] crimeBans = new int[CRIMES_MOST];

        Earnest(Land land) {
            scene = new Scene(land);
        }

        void begin(Land land) {
            scene.begin(land);
            hours = 0;
            crimes = 0;
        }

        void passHours(int n) {
            for (int i = 0; i < n; i++) {
                scene.takeTurns();
                noteCrime(scene.brokenBans());
                scene.tick();
                hours++;
            }
        }

        private void noteCrime(int bans) {
            if (bans != 0 && crimes < CRIMES_MOST) {
                crimeHours[crimes] = hours;
                crimeBans[crimes] = bans;
                crimes++;
            }
        }

        void save(int[] rows, int at) {
            if (at < 0 || at + ROW > rows.length) {
                return;
            }
            System.arraycopy(scene.things, 0, rows, at, Land.THINGS_MOST);
            System.arraycopy(scene.feasts, 0, rows, at + Land.THINGS_MOST, Land.FEASTS);
            rows[at + CLOCK] = scene.day;
            rows[at + CLOCK + 1] = scene.hour;
            rows[at + CLOCK + 2] = scene.inLeap ? 1 : 0;
            rows[at + CLOCK + 3] = hours;
            rows[at + CLOCK + 4] = crimes;
            System.arraycopy(crimeHours, 0, rows, at + CRIMES, CRIMES_MOST);
            System.arraycopy(crimeBans, 0, rows, at + CRIMES + CRIMES_MOST, CRIMES_MOST);
        }

        void load(int[] rows, int at) {
            if (at < 0 || at + ROW > rows.length) {
                return;
            }
            System.arraycopy(rows, at, scene.things, 0, Land.THINGS_MOST);
            System.arraycopy(rows, at + Land.THINGS_MOST, scene.feasts, 0, Land.FEASTS);
            scene.day = rows[at + CLOCK];
            scene.hour = rows[at + CLOCK + 1];
            scene.inLeap = rows[at + CLOCK + 2] == 1;
            hours = rows[at + CLOCK + 3];
            crimes = rows[at + CLOCK + 4];
            System.arraycopy(rows, at + CRIMES, crimeHours, 0, CRIMES_MOST);
            System.arraycopy(rows, at + CRIMES + CRIMES_MOST, crimeBans, 0, CRIMES_MOST);
        }
    }

    /** What was ahead of each ACT kept and behind the last, as rows; at is the one that is now. */
    private static final class Acts {
        static final int KEPT_MOST = 40;

        private final int[] rows = new int[(KEPT_MOST + 1) * Earnest.ROW];
        int at;
        int last;

        void forget(Earnest earnest) {
            at = 0;
            last = 0;
            earnest.save(rows, 0);
        }

        void note(Earnest earnest) {
            if (at < KEPT_MOST) {
                at++;
            } else {
                System.arraycopy(rows, Earnest.ROW, rows, 0, KEPT_MOST * Earnest.ROW);
            }
            last = at;
            earnest.save(rows, at * Earnest.ROW);
        }

        boolean goTo(int row, Earnest earnest) {
            if (row < 0 || row > last) {
                return false;
            }
            at = row;
            earnest.load(rows, at * Earnest.ROW);
            return true;
        }
    }

    /** When THINGS and the clock are as they were. */
    private static final class Rounds {
        private final long[] things = new long[WILL_MOST + 1];
        private final int[] clocks = new int[WILL_MOST + 1];
        int hour;
        int earlier;

        boolean comesRound(Scene scene) {
            note(scene, 0);
            for (int h = 1; h <= WILL_MOST; h++) {
                scene.pass(1);
                note(scene, h);
                for (int before = 0; before < h; before++) {
                    if (things[before] == things[h] && clocks[before] == clocks[h]) {
                        hour = h;
                        earlier = before;
                        return true;
                    }
                }
            }
            return false;
        }

        private void note(Scene scene, int h) {
            things[h] = scene.packed();
            clocks[h] = scene.dayNumber() * scene.land.dayHours + scene.hour;
        }
    }

    /** PLAN and MOST: all THINGS-as-they-are that can be come to, HOUR by HOUR. */
    private static final class Search {
        static final int STATES_MOST = 5000;
        static final int TABLE = 8192;

        private final Scene scene;
        private final long[] states = new long[STATES_MOST];
        private final int[] parents = new int[STATES_MOST];
        private final int[] deeds = new int[STATES_MOST];
        private final int[] table = new int[TABLE];
        private int count;
        /** Where the states of the latest HOUR begin. */
        private int latest;
        boolean spent;
        int found;
        int gain;

        Search(Scene scene) {
            this.scene = scene;
        }

        /** From what the scene is; the state that was found is the first of its HOUR. */
        int fewestHours(int n) {
            start();
            for (int h = 0; h <= n; h++) {
                if (h > 0) {
                    widen();
                }
                if (spent) {
                    return SPENT;
                }
                findGoal();
                if (found != NONE) {
                    return h;
                }
            }
            return NONE;
        }

        /** Tells by found, gain and spent, as a gain may be any number. */
        void seekGain(int n) {
            start();
            for (int h = 0; h < n && !spent; h++) {
                widen();
            }
            for (int i = latest; i < count && !spent; i++) {
                scene.unpack(states[i]);
                int here = scene.value(Land.GAIN);
                if (found == NONE || here > gain) {
                    found = i;
                    gain = here;
                }
            }
        }

        private void start() {
            Arrays.fill(table, 0);
            spent = false;
            found = NONE;
            gain = 0;
            latest = 0;
            count = 1;
            states[0] = scene.packed();
            parents[0] = NONE;
            deeds[0] = NONE;
        }

        private void findGoal() {
            for (int i = latest; i < count; i++) {
                scene.unpack(states[i]);
                if (scene.value(Land.GOAL) != 0) {
                    found = i;
                    return;
                }
            }
        }

        /** In the order of the ways, so that the first to a state is the first of all to it. */
        private void widen() {
            int from = latest;
            int to = count;
            int none = scene.land.counts[Land.DEEDS];
            latest = count;
            for (int i = from; i < to && !spent; i++) {
                for (int deed = 0; deed <= none; deed++) {
                    tryDeed(i, deed == none ? NONE : deed);
                }
            }
            scene.tick();
        }

        private void tryDeed(int i, int deed) {
            scene.unpack(states[i]);
            if (deed != NONE) {
                if (scene.value(Land.OF_DEED + deed) == 0) {
                    return;
                }
                scene.perform(Land.OF_DEED + deed);
            }
            scene.takeTurns();
            if (scene.brokenBans() == 0) {
                keep(scene.packed(), i, deed);
            }
        }

        /** What the table has of earlier HOURS is passed over. */
        private void keep(long state, int parent, int deed) {
            int slot = slotOf(state);
            for (int i = 0; i < TABLE; i++) {
                int there = table[slot] - 1;
                if (there < 0) {
                    add(slot, state, parent, deed);
                    return;
                }
                if (there >= latest && states[there] == state) {
                    return;
                }
                slot = slot + 1 & TABLE - 1;
            }
        }

        private static int slotOf(long state) {
            long mixed = state * 0x9E3779B97F4A7C15L;
            return (int) (mixed >>> 40) & TABLE - 1;
        }

        private void add(int slot, long state, int parent, int deed) {
            if (count >= STATES_MOST) {
                spent = true;
                return;
            }
            states[count] = state;
            parents[count] = parent;
            deeds[count] = deed;
            count++;
            table[slot] = count;
        }

        /** From the state found, so many HOURS from the start, back; so many lie there then. */
        int layDeeds(int hours, int[] lying) {
            int at = found;
            for (int step = Math.min(hours, lying.length) - 1; step >= 0 && at >= 0; step--) {
                lying[step] = deeds[at];
                at = parents[at];
            }
            return Math.min(hours, lying.length);
        }
    }

    /** SHIFT, ALL and GUILDS: the trial has other FEASTS than what is now, the mind lives by them. */
    private static final class Wishes {
        static final int TURNS_MOST = 30;

        private final Scene now;
        private final Scene mind;
        private final Scene trial;
        private int thing;
        private int least;
        private int most;
        private int span;

        Wishes(Scene now, Scene mind) {
            this.now = now;
            this.mind = mind;
            trial = new Scene(now.land);
        }

        void aim(int thing, int least, int most, int span) {
            this.thing = thing;
            this.least = least;
            this.most = most;
            this.span = span;
        }

        private boolean comesTrue() {
            mind.copy(trial);
            mind.pass(span);
            return mind.things[thing] >= least && mind.things[thing] <= most;
        }

        int fewestShifts(int[] lying) {
            int laws = now.land.counts[Land.LAWS];
            trial.copy(now);
            if (comesTrue()) {
                return 0;
            }
            for (int law = 0; law < laws; law++) {
                if (oneShiftWill(law)) {
                    lying[0] = shiftOf(law);
                    return 1;
                }
            }
            for (int law = 0; law < laws; law++) {
                for (int day = 0; day < now.days; day++) {
                    trial.feasts[law] = day;
                    for (int other = law + 1; other < laws && day != now.feasts[law]; other++) {
                        if (oneShiftWill(other)) {
                            lying[0] = shiftOf(law);
                            lying[1] = shiftOf(other);
                            return 2;
                        }
                    }
                }
                trial.feasts[law] = now.feasts[law];
            }
            return NONE;
        }

        /** If it will, the trial has it so. */
        private boolean oneShiftWill(int law) {
            for (int day = 0; day < now.days; day++) {
                trial.feasts[law] = day;
                if (day != now.feasts[law] && comesTrue()) {
                    return true;
                }
            }
            trial.feasts[law] = now.feasts[law];
            return false;
        }

        private int shiftOf(int law) {
            return 10 * law + trial.feasts[law];
        }

        private void layFeasts(int[] lying) {
            System.arraycopy(trial.feasts, 0, lying, 0, now.land.counts[Land.LAWS]);
        }

        int countCalendars(int[] lying) {
            trial.copy(now);
            int calendars = trial.startCalendars();
            int count = 0;
            for (int i = 0; i < calendars; i++) {
                if (comesTrue()) {
                    if (count == 0) {
                        layFeasts(lying);
                    }
                    count++;
                }
                trial.nextCalendar();
            }
            return calendars == SPENT ? SPENT : count;
        }

        int turnsToRest(int n, int[] lying) {
            trial.copy(now);
            for (int turn = 1; turn <= TURNS_MOST; turn++) {
                boolean changed = false;
                for (int guild = 0; guild < now.land.counts[Land.GUILDS]; guild++) {
                    int law = now.land.guildLaws[guild];
                    int before = trial.feasts[law];
                    trial.feasts[law] = bestDay(guild, law, n);
                    changed = changed || trial.feasts[law] != before;
                }
                if (!changed) {
                    layFeasts(lying);
                    return turn;
                }
            }
            return NONE;
        }

        private int bestDay(int guild, int law, int n) {
            int best = trial.feasts[law];
            int greatest = wantedBy(guild, law, best, n);
            for (int day = 0; day < now.days; day++) {
                int wanted = wantedBy(guild, law, day, n);
                if (wanted > greatest) {
                    best = day;
                    greatest = wanted;
                }
            }
            return best;
        }

        private int wantedBy(int guild, int law, int day, int n) {
            mind.copy(trial);
            mind.feasts[law] = day;
            mind.pass(n);
            return mind.value(Land.OF_GUILD + guild);
        }
    }

    /** What was told of the beginning, and when. */
    private static final class Looks {
        static final int LOOKS_MOST = 20;
        static final int HOURS_MOST = 60;
        static final int LATER_MOST = 1000;
        static final int TIME_MOST = 100000;

        int count;
        int time;
        private final int[] behind = new int[LOOKS_MOST];
        private final int[] things = new int[LOOKS_MOST];
        private final int[] numbers = new int[LOOKS_MOST];
        private final int[] toldAt = new int[LOOKS_MOST];
        private final int[] untoldAt = new int[LOOKS_MOST];

        int tell(int hours, int thing, int so) {
            if (count >= LOOKS_MOST) {
                return NONE;
            }
            behind[count] = hours;
            things[count] = thing;
            numbers[count] = so;
            toldAt[count] = time;
            untoldAt[count] = NONE;
            count++;
            return count - 1;
        }

        boolean takeBack(int look) {
            if (look < 0 || look >= count || untoldAt[look] != NONE) {
                return false;
            }
            untoldAt[look] = time;
            return true;
        }

        int passTime(int by) {
            if (by < 0 || by > LATER_MOST || time + by > TIME_MOST) {
                return NONE;
            }
            time += by;
            return time;
        }

        private boolean counts(int look, int k) {
            return toldAt[look] <= k && (untoldAt[look] == NONE || untoldAt[look] > k);
        }

        /** The last HOUR behind which a THING is known; NONE: two of these can't both be. */
        int lastKnown(int k, int[] known) {
            Arrays.fill(known, NONE);
            int last = 0;
            for (int look = 0; look < count; look++) {
                int at = behind[look] * Land.THINGS_MOST + things[look];
                if (counts(look, k) && at < known.length) {
                    if (known[at] != NONE && known[at] != numbers[look]) {
                        return NONE;
                    }
                    known[at] = numbers[look];
                    last = Math.max(last, behind[look]);
                }
            }
            return last;
        }
    }

    /** FIT and ASK: calendars lived through from the beginning, as far as they are as known. */
    private static final class Fits {
        static final int NUMBERS = Land.NUMBER_MOST + 1;

        private final Looks looks;
        private final Scene mind;
        private final Scene trial;
        private final int[] known = new int[(Looks.HOURS_MOST + 1) * Land.THINGS_MOST];
        private final int[] seen = new int[Land.THINGS_MOST];
        private final int[] left = new int[Land.THINGS_MOST * NUMBERS];
        final int[] restDays = new int[Land.LAWS_MOST];

        Fits(Looks looks, Scene mind) {
            this.looks = looks;
            this.mind = mind;
            trial = new Scene(mind.land);
        }

        /** How many FIT; seen behind HOUR asked, if it is not NONE, they are counted by THINGS. */
        int sift(Land land, int k, int asked) {
            Arrays.fill(restDays, 0);
            if (asked != NONE) {
                Arrays.fill(left, 0);
            }
            trial.begin(land);
            int calendars = trial.startCalendars();
            if (calendars == SPENT) {
                return SPENT;
            }
            int last = looks.lastKnown(k, known);
            int count = 0;
            for (int i = 0; i < calendars && last != NONE; i++) {
                mind.copy(trial);
                if (fitting(Math.max(last, asked), asked)) {
                    count++;
                    noteFit(asked);
                }
                trial.nextCalendar();
            }
            return count;
        }

        private boolean fitting(int last, int asked) {
            for (int h = 0; h <= last; h++) {
                if (h > 0) {
                    mind.pass(1);
                }
                if (!asKnown(h)) {
                    return false;
                }
                if (h == asked) {
                    System.arraycopy(mind.things, 0, seen, 0, Land.THINGS_MOST);
                }
            }
            return true;
        }

        private boolean asKnown(int h) {
            for (int i = 0; i < Land.THINGS_MOST; i++) {
                int number = known[h * Land.THINGS_MOST + i];
                if (number != NONE && number != mind.things[i]) {
                    return false;
                }
            }
            return true;
        }

        private void noteFit(int asked) {
            for (int law = 0; law < trial.land.counts[Land.LAWS]; law++) {
                restDays[law] |= 1 << trial.feasts[law];
            }
            for (int i = 0; i < Land.THINGS_MOST && asked != NONE; i++) {
                left[i * NUMBERS + seen[i]]++;
            }
        }

        int tellingMost(int things) {
            int best = 0;
            for (int i = 1; i < things; i++) {
                if (leftAtMost(i) < leftAtMost(best)) {
                    best = i;
                }
            }
            return best;
        }

        int leftAtMost(int thing) {
            int greatest = 0;
            for (int number = 0; number < NUMBERS; number++) {
                greatest = Math.max(greatest, left[thing * NUMBERS + number]);
            }
            return greatest;
        }
    }
}
