/**
 * A court of calls: families of types are told as a text, and the court says who overrides whom, which bridges are
 * made, what a call finds, whether the caller may have it, and which body runs for a receiver.
 *
 * All rows are made in the constructor and used again, so that no call makes an object.
 */
public final class CallCourt {
    public static final int UNKNOWN = -11, OUTSIDE = -12, NONE = -13, FULL = -14;

    private static final int TAPE_MOST = 4000;
    private static final int BYTES_A_FEED = 20;
    private static final int FAULT_BASE = -20;

    private static final int TYPES_MOST = 24;
    private static final int MEMBERS_MOST = 120;
    private static final int MEMBERS_A_TYPE = 8;
    private static final int REFS_MOST = 4;
    private static final int VARS_MOST = 2;
    private static final int LOADER_LAST = 2;
    /** The shortest item of a package, "pack p;", has seven bytes. */
    private static final int PACKS_MOST = TAPE_MOST / 7 + 1;
    /** A member above is overridden by one member of a type at most (FAULT 7), so it makes one bridge there at most. */
    private static final int BRIDGES_MOST = TYPES_MOST * MEMBERS_MOST;

    /** What a token is: a sign is its own byte, a word is WORD and its place in WORDS. */
    private static final int END = 0, BAD = 1, NAME = 2, DIGIT = 3;
    private static final int NAME_BYTES = 8;
    private static final int WORD = 200;
    private static final int PACK = 200, LOADER = 201, CLASS = 202, FACE = 203, OF = 204, UNDER = 205, OPEN = 206,
            NEAR = 207, OWN = 208, STATIC = 209, ABSTRACT = 210, LENT = 211, INT = 212, NO_RESULT = 213;
    /** The bytes of each word as one number, as names are held too. */
    private static final long[] WORDS = {
        0x7061636BL, 0x6C6F61646572L, 0x636C617373L, 0x66616365L, 0x6F66L, 0x756E646572L, 0x6F70656EL,
        0x6E656172L, 0x6F776EL, 0x737461746963L, 0x6162737472616374L, 0x6C656E74L, 0x696E74L, 0x6E6F6E65L
    };

    /** Where a text stands between two of its pieces. */
    private static final int BETWEEN_ITEMS = 0, BEHIND_NAME = 1, AT_REF = 2, INSIDE = 3;

    private static final int PLAIN_CLASS = 0, ABSTRACT_CLASS = 1, A_FACE = 2;
    private static final int ACCESS_OWN = 0, ACCESS_NONE = 1, ACCESS_NEAR = 2, ACCESS_OPEN = 3;
    private static final int FORM_BODY = 0, FORM_STATIC = 1, FORM_ABSTRACT = 2, FORM_LENT = 3;

    /** How kinds are told; NO_KIND fills the places that a member has not, so that whole rows can be compared. */
    private static final int KIND_INT = -3, KIND_NONE = -2, KIND_ANY = -1, KIND_VAR = 100, NO_KIND = -9;
    private static final int RESULT = 2;
    private static final int NOT_THERE = -1;

    /** A method is a member's number, or BRIDGE and a bridge's number. */
    private static final int BRIDGE = 1000;
    private static final int HOPS_MOST = 8;

    private static final int OF_CLASS = 0, OF_FACE = 1, OF_ABOVE = 2, OF_STATIC = 3;
    private static final int FOUND_NOTHING = -1, MAY_NOT = -2, TWO_BODIES = -3, NO_BODY = -4, WRONG_SORT = -5,
            WRONG_RECEIVER = -6, TOO_MANY_BRIDGES = -7;

    private final byte[] tape;
    private int length;
    private int latestFault;
    private int latestHops;
    /** The types that are told now, and the rows that the next text is read into: a text with a fault harms none. */
    private Family family;
    private Family spare;
    private final Tokens tokens;
    private final Reader reader;
    private final Docket docket;

    public CallCourt() {
        tape = new byte[TAPE_MOST];
        family = new Family();
        spare = new Family();
        tokens = new Tokens();
        reader = new Reader(tokens, spare);
        docket = new Docket(family);
    }

    // ---- 1 texts

    public int feed(int a, int b, int c, int d, int e) {
        if (length + BYTES_A_FEED > TAPE_MOST) {
            return FULL;
        }
        put(a);
        put(b);
        put(c);
        put(d);
        put(e);
        return length;
    }

    public int trim(int n) {
        if (n < 0 || n > length) {
            return OUTSIDE;
        }
        length = n;
        return n;
    }

    public int compile() {
        tokens.scan(tape, length);
        length = 0;
        boolean right = reader.read(spare);
        latestFault = reader.fault;
        if (!right) {
            return FAULT_BASE - reader.place;
        }
        Family before = family;
        family = spare;
        spare = before;
        return family.typeCount;
    }

    public int fault() {
        return latestFault;
    }

    public int type(int t, int what) {
        if (!isType(t)) {
            return UNKNOWN;
        }
        Type type = family.types[t];
        switch (what) {
            case 0: return type.pack;
            case 1: return type.loader;
            case 2: return type.what;
            case 3: return type.classAbove == NOT_THERE ? NONE : type.classAbove;
            case 4: return type.nest;
            case 5: return type.memberCount;
            case 6: return type.bridgeCount;
            case 7: return type.varCount;
            case 8: return type.aboveCount;
            case 9: return type.memberCount == 0 ? NONE : type.firstMember;
            default: return OUTSIDE;
        }
    }

    public int above(int t, int i) {
        if (!isType(t)) {
            return UNKNOWN;
        }
        Type type = family.types[t];
        return i >= 0 && i < type.aboveCount ? type.aboveOrder[i] : NONE;
    }

    public int under(int t, int of) {
        if (!isType(t) || !isType(of)) {
            return UNKNOWN;
        }
        return yes(family.isUnder(t, of));
    }

    public int member(int m, int what) {
        if (!isMember(m)) {
            return UNKNOWN;
        }
        Member row = family.members[m];
        switch (what) {
            case 0: return row.type;
            case 1: return row.access;
            case 2: return row.form;
            case 3: return row.kindCount;
            default: return OUTSIDE;
        }
    }

    public int seen(int t, int m, int k) {
        if (!isType(t) || !isMember(m)) {
            return UNKNOWN;
        }
        if (k < 0 || k > RESULT) {
            return OUTSIDE;
        }
        Member row = family.members[m];
        if (row.kinds[k] == NO_KIND || !family.isUnder(t, row.type)) {
            return NONE;
        }
        return family.kindSeen(family.types[t], row, k);
    }

    public int erased(int m, int k) {
        if (!isMember(m)) {
            return UNKNOWN;
        }
        if (k < 0 || k > RESULT) {
            return OUTSIDE;
        }
        return orNone(family.members[m].erasedKinds[k]);
    }

    // ---- 2 what overrides, bridges

    public int overrides(int m, int n) {
        if (!isMember(m) || !isMember(n)) {
            return UNKNOWN;
        }
        return yes(family.hasOverride(m, n));
    }

    public int bridge(int t, int i, int what) {
        if (!isType(t)) {
            return UNKNOWN;
        }
        if (what < 0 || what > 4) {
            return OUTSIDE;
        }
        Type type = family.types[t];
        if (i < 0 || i >= type.bridgeCount) {
            return NONE;
        }
        int b = type.firstBridge + i;
        if (what == 0) {
            return family.bridgeTo[b];
        }
        int made = family.bridgeFor[b];
        return what == 1 ? made : orNone(family.members[made].erasedKinds[what - 2]);
    }

    public int same(int t, int u, boolean nest) {
        if (!isType(t) || !isType(u)) {
            return UNKNOWN;
        }
        return yes(nest ? family.sameNest(t, u) : family.samePackage(t, u));
    }

    // ---- 3 calls

    public int lookup(int t, int m) {
        if (!isType(t) || !isMember(m)) {
            return UNKNOWN;
        }
        docket.open(family);
        return tell(docket.find(t, family.members[m].signature));
    }

    public int specific(int t, int m, int i) {
        if (!isType(t) || !isMember(m)) {
            return UNKNOWN;
        }
        docket.open(family);
        int method = docket.specificAt(t, family.members[m].signature, i);
        return method == NOT_THERE ? NONE : tell(method);
    }

    public int may(int caller, int named, int m, int receiver) {
        if (!isType(caller) || !isType(named) || !isMember(m) || !isType(receiver)) {
            return UNKNOWN;
        }
        docket.open(family);
        int method = docket.find(named, family.members[m].signature);
        return method == NOT_THERE ? FOUND_NOTHING : yes(docket.isGranted(caller, named, method, receiver));
    }

    public int rule(int sort, int caller, int named, int m, int receiver) {
        if (!isType(caller) || !isType(named) || !isMember(m) || (sort != OF_STATIC && !isType(receiver))) {
            return UNKNOWN;
        }
        if (sort < OF_CLASS || sort > OF_STATIC) {
            return OUTSIDE;
        }
        docket.open(family);
        int outcome = docket.judge(sort, caller, named, m, receiver);
        latestHops = docket.hops;
        return outcome;
    }

    public int hops() {
        return latestHops;
    }

    public int conflicts(int t) {
        if (!isType(t)) {
            return UNKNOWN;
        }
        if (family.types[t].what != PLAIN_CLASS) {
            return NONE;
        }
        docket.open(family);
        return docket.count(t, TWO_BODIES);
    }

    public int tally(int t, int outcome) {
        if (!isType(t)) {
            return UNKNOWN;
        }
        if (outcome < TOO_MANY_BRIDGES || outcome > 0) {
            return OUTSIDE;
        }
        if (family.types[t].what != PLAIN_CLASS) {
            return NONE;
        }
        docket.open(family);
        return docket.count(t, outcome);
    }

    public int told(int what) {
        switch (what) {
            case 0: return family.typeCount;
            case 1: return family.memberCount;
            case 2: return family.bridgeCount;
            case 3: return family.packCount;
            case 4: return length;
            default: return OUTSIDE;
        }
    }

    // ---- what the calls share

    private void put(int number) {
        for (int shift = 24; shift >= 0 && length < TAPE_MOST; shift -= 8) {
            tape[length] = (byte) (number >>> shift);
            length++;
        }
    }

    private boolean isType(int t) {
        return t >= 0 && t < family.typeCount;
    }

    private boolean isMember(int m) {
        return m >= 0 && m < family.memberCount;
    }

    private int tell(int method) {
        return method < BRIDGE ? method : BRIDGE + family.behind(method);
    }

    private static int yes(boolean so) {
        return so ? 1 : 0;
    }

    private static int orNone(int kind) {
        return kind == NO_KIND ? NONE : kind;
    }

    /** The tape as tokens; the last one is END. */
    private static final class Tokens {
        private final int[] sorts = new int[TAPE_MOST + 1];
        /** The bytes of a name as one number, or what a digit counts. */
        private final long[] values = new long[TAPE_MOST + 1];
        private final int[] places = new int[TAPE_MOST + 1];
        private int count;
        /** How many bytes the word has that is being read; 0 between words. */
        private int wordBytes;

        void scan(byte[] tape, int length) {
            count = 0;
            wordBytes = 0;
            for (int i = 0; i < length && i < tape.length; i++) {
                int c = tape[i] & 255;
                if (wordBytes > 0 && (isLetter(c) || isDigit(c))) {
                    lengthenWord(c);
                } else {
                    endWord();
                    begin(c, i);
                }
            }
            endWord();
            add(END, 0, length);
        }

        private void begin(int c, int place) {
            if (isLetter(c)) {
                wordBytes = 1;
                add(NAME, c, place);
            } else if (isDigit(c)) {
                add(DIGIT, c - '0', place);
            } else if (isSign(c)) {
                add(c, 0, place);
            } else if (c != ' ' && c != '\n') {
                add(BAD, 0, place);
            }
        }

        private void add(int sort, long value, int place) {
            if (count < sorts.length) {
                sorts[count] = sort;
                values[count] = value;
                places[count] = place;
                count++;
            }
        }

        private void lengthenWord(int c) {
            wordBytes++;
            values[count - 1] = values[count - 1] << 8 | c;
        }

        private void endWord() {
            if (wordBytes > NAME_BYTES) {
                sorts[count - 1] = BAD;
            } else if (wordBytes > 0) {
                sorts[count - 1] = sortOfWord(values[count - 1]);
            }
            wordBytes = 0;
        }

        private static int sortOfWord(long value) {
            for (int i = 0; i < WORDS.length; i++) {
                if (WORDS[i] == value) {
                    return WORD + i;
                }
            }
            return NAME;
        }

        private static boolean isLetter(int c) {
            return c >= 'a' && c <= 'z' || c >= 'A' && c <= 'Z';
        }

        private static boolean isDigit(int c) {
            return c >= '0' && c <= '9';
        }

        private static boolean isSign(int c) {
            return c == ';' || c == ',' || c == ':' || c == '{' || c == '}' || c == '(' || c == ')' || c == '<'
                || c == '>';
        }
    }

    /** One type of a family. */
    private static final class Type {
        private final int number;
        private long name;
        private int pack;
        private int loader;
        private int what;
        private int nest;
        private int varCount;
        private final long[] varNames = new long[VARS_MOST];
        private final int[] bounds = new int[VARS_MOST];
        private int refCount;
        private final int[] refs = new int[REFS_MOST];
        private int classAbove;
        private int aboveCount;
        private final int[] aboveOrder = new int[TYPES_MOST];
        /** Bit x: type x is above; while the type is read, its REFS alone. */
        private int aboveBits;
        /** Two for each type above and for itself, as this type sees them. */
        private final int[] arguments = new int[TYPES_MOST * VARS_MOST];
        private int firstMember;
        private int memberCount;
        private int firstBridge;
        private int bridgeCount;

        Type(int number) {
            this.number = number;
        }

        void clear(int what, int pack, int loader, int firstMember) {
            this.what = what;
            this.pack = pack;
            this.loader = loader;
            this.firstMember = firstMember;
            name = 0;
            nest = number;
            varCount = 0;
            refCount = 0;
            classAbove = NOT_THERE;
            aboveCount = 0;
            aboveBits = 0;
            memberCount = 0;
            firstBridge = 0;
            bridgeCount = 0;
        }

        boolean isFace() {
            return what == A_FACE;
        }

        boolean isBelow(int x) {
            return (aboveBits >>> x & 1) != 0;
        }

        /** Its VAR of this name; NOT_THERE. */
        int varNamed(long wanted) {
            for (int k = 0; k < varCount; k++) {
                if (varNames[k] == wanted) {
                    return k;
                }
            }
            return NOT_THERE;
        }

        boolean hasRef(int x) {
            for (int i = 0; i < refCount; i++) {
                if (refs[i] == x) {
                    return true;
                }
            }
            return false;
        }

        int argument(int x, int k) {
            return arguments[x * VARS_MOST + k];
        }

        void setArgument(int x, int k, int kind) {
            arguments[x * VARS_MOST + k] = kind;
        }
    }

    /** One member of a type. */
    private static final class Member {
        private long name;
        private int type;
        private int access;
        private int form;
        private int kindCount;
        /** Two kinds and the result, as its own type sees them. */
        private final int[] kinds = new int[RESULT + 1];
        private final int[] erasedKinds = new int[RESULT + 1];
        /** The first member of this NAME and these ERASED kinds and result: alike for all that one call can mean. */
        private int signature;

        void clear(int type) {
            this.type = type;
            name = 0;
            access = ACCESS_NONE;
            form = FORM_BODY;
            kindCount = 0;
            kinds[0] = NO_KIND;
            kinds[1] = NO_KIND;
            kinds[RESULT] = KIND_NONE;
        }

        boolean isOwn() {
            return access == ACCESS_OWN;
        }

        boolean isStatic() {
            return form == FORM_STATIC;
        }

        /** Neither own nor static: one that others may stand in for. */
        boolean isFree() {
            return access != ACCESS_OWN && form != FORM_STATIC;
        }

        boolean hasErasedKindsOf(Member other) {
            return name == other.name && erasedKinds[0] == other.erasedKinds[0]
                && erasedKinds[1] == other.erasedKinds[1];
        }
    }

    /** The types of one text with their members and bridges. */
    private static final class Family {
        private final Type[] types = new Type[TYPES_MOST];
        private int typeCount;
        /** One row more than may stand, for the member that is one too many while it is read. */
        private final Member[] members = new Member[MEMBERS_MOST + 1];
        private int memberCount;
        /** Two numbers a member: bit n of them says that it overrides member n. */
        private final long[] overrideBits = new long[(MEMBERS_MOST + 1) * 2];
        private final int[] bridgeTo = new int[BRIDGES_MOST];
        private final int[] bridgeFor = new int[BRIDGES_MOST];
        private int bridgeCount;
        private int packCount;

        Family() {
            for (int t = 0; t < types.length; t++) {
                types[t] = new Type(t);
            }
            for (int m = 0; m < members.length; m++) {
                members[m] = new Member();
            }
        }

        void clear() {
            typeCount = 0;
            memberCount = 0;
            bridgeCount = 0;
            packCount = 0;
            for (int i = 0; i < overrideBits.length; i++) {
                overrideBits[i] = 0;
            }
        }

        boolean isUnder(int t, int of) {
            return t == of || (types[t].aboveBits >>> of & 1) != 0;
        }

        boolean samePackage(int t, int u) {
            return types[t].pack == types[u].pack && types[t].loader == types[u].loader;
        }

        boolean sameNest(int t, int u) {
            return types[t].nest == types[u].nest;
        }

        boolean hasOverride(int m, int n) {
            return (overrideBits[m * 2 + (n >> 6)] >>> (n & 63) & 1) != 0;
        }

        void setOverride(int m, int n) {
            overrideBits[m * 2 + (n >> 6)] |= 1L << (n & 63);
        }

        /** KIND k of a member as a type under its own one sees it. */
        int kindSeen(Type seer, Member member, int k) {
            int kind = member.kinds[k];
            return kind >= KIND_VAR ? seer.arguments[member.type * VARS_MOST + kind - KIND_VAR] : kind;
        }

        /** The member that a method is, or that it is a bridge to. */
        int behind(int method) {
            return method < BRIDGE ? method : bridgeTo[method - BRIDGE];
        }

        int signatureOf(int method) {
            return members[method < BRIDGE ? method : bridgeFor[method - BRIDGE]].signature;
        }

        /** The method of a type with this signature; NOT_THERE. */
        int methodIn(Type type, int signature) {
            int lastMember = type.firstMember + type.memberCount;
            for (int m = type.firstMember; m < lastMember; m++) {
                if (members[m].signature == signature) {
                    return m;
                }
            }
            int lastBridge = type.firstBridge + type.bridgeCount;
            for (int b = type.firstBridge; b < lastBridge; b++) {
                if (members[bridgeFor[b]].signature == signature) {
                    return BRIDGE + b;
                }
            }
            return NOT_THERE;
        }
    }

    /** Reads a text into a family, up to the first token that has a fault. */
    private static final class Reader {
        private final Tokens tokens;
        private final Closer closer;
        private final long[] packNames = new long[PACKS_MOST];
        private Family family;
        /** The token that is read now. */
        private int at;
        private int sort;
        private long value;
        private int fault;
        private int place;
        private int pack;
        private int loader;
        private int stage;
        /** The type, the REF and the member that are being read. */
        private Type type;
        private int ref;
        private Member row;

        Reader(Tokens tokens, Family first) {
            this.tokens = tokens;
            family = first;
            closer = new Closer(first);
            type = first.types[0];
            row = first.members[0];
        }

        /** A text is read in pieces, one behind the other, so that calls stay shallow. */
        boolean read(Family into) {
            family = into;
            family.clear();
            start();
            boolean right = true;
            for (int i = 0; i <= TAPE_MOST && right; i++) {
                if (stage == BETWEEN_ITEMS && sort == END) {
                    return true;
                }
                switch (stage) {
                    case BEHIND_NAME:
                        right = readHead();
                        break;
                    case AT_REF:
                        right = readRef() && readArguments();
                        break;
                    case INSIDE:
                        right = sort == '}' ? closeType() : readMember();
                        break;
                    default:
                        right = readItem();
                }
            }
            return false;
        }

        private void start() {
            at = 0;
            sort = tokens.sorts[0];
            value = tokens.values[0];
            fault = 0;
            place = 0;
            pack = 0;
            loader = 0;
            stage = BETWEEN_ITEMS;
        }

        private boolean readItem() {
            switch (sort) {
                case PACK: return readPack();
                case LOADER: return readLoader();
                case ABSTRACT:
                case CLASS:
                case FACE: return readType();
                default: return misfit();
            }
        }

        private boolean closeType() {
            int number = closer.close(family, type);
            if (number != 0) {
                return fail(number);
            }
            stage = BETWEEN_ITEMS;
            advance();
            return true;
        }

        private void advance() {
            if (at < tokens.count - 1) {
                at++;
            }
            sort = tokens.sorts[at];
            value = tokens.values[at];
        }

        private boolean take(int wanted) {
            if (sort != wanted) {
                return misfit();
            }
            advance();
            return true;
        }

        private boolean misfit() {
            return fail(sort == BAD ? 1 : 2);
        }

        private boolean fail(int number) {
            fault = number;
            place = tokens.places[at];
            return false;
        }

        private boolean readPack() {
            advance();
            if (sort != NAME) {
                return misfit();
            }
            pack = packNumber(value);
            advance();
            return take(';');
        }

        private int packNumber(long name) {
            for (int i = 0; i < family.packCount; i++) {
                if (packNames[i] == name) {
                    return i + 1;
                }
            }
            if (family.packCount < packNames.length) {
                packNames[family.packCount] = name;
                family.packCount++;
            }
            return family.packCount;
        }

        private boolean readLoader() {
            advance();
            if (sort != DIGIT || value > LOADER_LAST) {
                return misfit();
            }
            loader = (int) value;
            advance();
            return take(';');
        }

        private boolean readType() {
            if (family.typeCount >= TYPES_MOST) {
                return fail(6);
            }
            type = family.types[family.typeCount];
            int what = sort == FACE ? A_FACE : sort == ABSTRACT ? ABSTRACT_CLASS : PLAIN_CLASS;
            type.clear(what, pack, loader, family.memberCount);
            advance();
            if (what == ABSTRACT_CLASS && !take(CLASS)) {
                return false;
            }
            return readTypeName();
        }

        private boolean readTypeName() {
            if (sort != NAME) {
                return misfit();
            }
            for (int t = 0; t < family.typeCount; t++) {
                if (family.types[t].name == value) {
                    return fail(3);
                }
            }
            type.name = value;
            family.typeCount++;
            stage = BEHIND_NAME;
            advance();
            return true;
        }

        private boolean readHead() {
            if (!readVars() || !readNest()) {
                return false;
            }
            stage = sort == ':' ? AT_REF : INSIDE;
            return take(sort == ':' ? ':' : '{');
        }

        private boolean readVars() {
            if (sort != '<') {
                return true;
            }
            advance();
            for (int k = 0; k < VARS_MOST; k++) {
                if (!readVar(k) || !readBound(k)) {
                    return false;
                }
                if (k == VARS_MOST - 1 || sort != ',') {
                    break;
                }
                advance();
            }
            return take('>');
        }

        private boolean readVar(int k) {
            if (sort != NAME) {
                return misfit();
            }
            if (type.varNamed(value) != NOT_THERE) {
                return fail(3);
            }
            type.varNames[k] = value;
            type.bounds[k] = KIND_ANY;
            type.setArgument(type.number, k, KIND_VAR + k);
            type.varCount = k + 1;
            advance();
            return true;
        }

        private boolean readBound(int k) {
            if (sort != UNDER) {
                return true;
            }
            advance();
            if (sort != NAME) {
                return misfit();
            }
            int bound = typeSeen(value);
            if (bound == NOT_THERE) {
                return fail(3);
            }
            type.bounds[k] = bound;
            advance();
            return true;
        }

        /** The type that a NAME stands for in the one that is read; NOT_THERE. */
        private int typeSeen(long name) {
            for (int t = 0; t < family.typeCount; t++) {
                Type other = family.types[t];
                if (other.name == name) {
                    return other.loader == 0 || other.loader == type.loader ? t : NOT_THERE;
                }
            }
            return NOT_THERE;
        }

        /** Likewise, where the type itself may not stand. */
        private int otherTypeSeen(long name) {
            return name == type.name ? NOT_THERE : typeSeen(name);
        }

        /** What a NAME stands for as a kind: a VAR ahead of a type; NO_KIND. */
        private int kindNamed(long name) {
            int k = type.varNamed(name);
            if (k != NOT_THERE) {
                return KIND_VAR + k;
            }
            int t = typeSeen(name);
            return t == NOT_THERE ? NO_KIND : t;
        }

        private boolean readNest() {
            if (type.isFace() || sort != OF) {
                return true;
            }
            advance();
            if (sort != NAME) {
                return misfit();
            }
            int host = otherTypeSeen(value);
            if (host == NOT_THERE) {
                return fail(3);
            }
            if (!family.samePackage(host, type.number) || family.types[host].nest != host) {
                return fail(4);
            }
            type.nest = host;
            advance();
            return true;
        }

        private boolean readRef() {
            if (sort != NAME) {
                return misfit();
            }
            ref = otherTypeSeen(value);
            if (ref == NOT_THERE) {
                return fail(3);
            }
            boolean isClass = !family.types[ref].isFace();
            if (type.hasRef(ref) || isClass && (type.isFace() || type.refCount > 0)) {
                return fail(4);
            }
            if (type.refCount >= REFS_MOST) {
                return fail(6);
            }
            type.refs[type.refCount] = ref;
            type.refCount++;
            type.aboveBits |= 1 << ref;
            if (isClass) {
                type.classAbove = ref;
            }
            advance();
            return true;
        }

        private boolean readArguments() {
            int count = 0;
            if (sort == '<') {
                for (int k = 0; k < VARS_MOST && (k == 0 || sort == ','); k++) {
                    advance();
                    int kind = sort == NAME ? kindNamed(value) : NO_KIND;
                    if (kind == NO_KIND) {
                        return sort == NAME ? fail(3) : misfit();
                    }
                    type.setArgument(ref, k, kind);
                    count = k + 1;
                    advance();
                }
                if (!take('>')) {
                    return false;
                }
            }
            if (sort != ',' && sort != '{') {
                return misfit();
            }
            if (count != family.types[ref].varCount) {
                return fail(4);
            }
            stage = sort == ',' ? AT_REF : INSIDE;
            advance();
            return true;
        }

        private boolean readMember() {
            row = family.members[family.memberCount];
            row.clear(type.number);
            boolean hasAccess = sort == OPEN || sort == NEAR || sort == OWN;
            if (hasAccess && !readAccess()) {
                return false;
            }
            boolean hasForm = sort == STATIC || sort == ABSTRACT || sort == LENT;
            if (hasForm && !readForm()) {
                return false;
            }
            if (type.isFace() && !hasAccess) {
                row.access = ACCESS_OPEN;
            }
            if (type.isFace() && !hasForm) {
                row.form = FORM_ABSTRACT;
            }
            if (!readResult() || !readMemberName() || !readKinds() || !take(';')) {
                return false;
            }
            keepMember();
            return true;
        }

        /** Ends a token that may be a member's first: a member too many is told there. */
        private boolean passFirst() {
            if (type.memberCount >= MEMBERS_A_TYPE || family.memberCount >= MEMBERS_MOST) {
                return fail(6);
            }
            advance();
            return true;
        }

        private boolean readAccess() {
            if (sort == NEAR && type.isFace()) {
                return fail(5);
            }
            row.access = sort == OPEN ? ACCESS_OPEN : sort == NEAR ? ACCESS_NEAR : ACCESS_OWN;
            return passFirst();
        }

        private boolean readForm() {
            boolean wrongLent = sort == LENT && !type.isFace();
            boolean wrongAbstract = sort == ABSTRACT && (type.what == PLAIN_CLASS || row.isOwn());
            if (wrongLent || wrongAbstract) {
                return fail(5);
            }
            row.form = sort == STATIC ? FORM_STATIC : sort == ABSTRACT ? FORM_ABSTRACT : FORM_LENT;
            return passFirst();
        }

        private boolean readResult() {
            if (sort != NO_RESULT && !seesKind(RESULT)) {
                return false;
            }
            // Own and abstract: only an own one without form in a face comes here so.
            if (row.isOwn() && row.form == FORM_ABSTRACT) {
                return fail(5);
            }
            return passFirst();
        }

        /** Whether the token is a kind, which is kept as KIND k; else the fault is told. */
        private boolean seesKind(int k) {
            if (sort != INT && sort != NAME) {
                return misfit();
            }
            int kind = sort == INT ? KIND_INT : kindNamed(value);
            row.kinds[k] = kind;
            return kind != NO_KIND || fail(3);
        }

        private boolean readMemberName() {
            if (sort != NAME) {
                return misfit();
            }
            row.name = value;
            advance();
            return true;
        }

        private boolean readKinds() {
            if (!take('(')) {
                return false;
            }
            boolean more = sort != ')';
            for (int k = 0; k < RESULT && more; k++) {
                if (!seesKind(k)) {
                    return false;
                }
                row.kindCount = k + 1;
                advance();
                more = k < RESULT - 1 && sort == ',';
                if (more) {
                    advance();
                }
            }
            return take(')');
        }

        private void keepMember() {
            for (int k = 0; k <= RESULT; k++) {
                int kind = row.kinds[k];
                row.erasedKinds[k] = kind >= KIND_VAR ? type.bounds[kind - KIND_VAR] : kind;
            }
            row.signature = signatureOfRow();
            type.memberCount++;
            family.memberCount++;
        }

        private int signatureOfRow() {
            for (int m = 0; m < family.memberCount; m++) {
                Member other = family.members[m];
                if (row.hasErasedKindsOf(other) && row.erasedKinds[RESULT] == other.erasedKinds[RESULT]) {
                    return m;
                }
            }
            return family.memberCount;
        }
    }

    /** What is done at a type's last }: the types above it, the faults 7 to 10, whom its members override, bridges. */
    private static final class Closer {
        private Family family;
        private Type type;
        /** Three for each member of the type and of those above it: its kinds and result as the type sees them. */
        private final int[] kindsSeen = new int[MEMBERS_MOST * (RESULT + 1)];
        /** The members of the types above it that are neither own nor static. */
        private final int[] freeAbove = new int[MEMBERS_MOST];
        private int freeCount;

        Closer(Family first) {
            family = first;
            type = first.types[0];
        }

        /** The fault; 0: none. */
        int close(Family of, Type closed) {
            family = of;
            type = closed;
            if (hasTwins()) {
                return 7;
            }
            if (!gatherAbove()) {
                return 8;
            }
            gatherKinds();
            gatherFree();
            markOverrides();
            if (hasWrongOverride()) {
                return 9;
            }
            if (hasQuarrel()) {
                return 10;
            }
            makeBridges();
            return 0;
        }

        private boolean hasTwins() {
            for (int m = type.firstMember; m < family.memberCount; m++) {
                for (int n = type.firstMember; n < m; n++) {
                    if (family.members[m].hasErasedKindsOf(family.members[n])) {
                        return true;
                    }
                }
            }
            return false;
        }

        /** Whether no type above has unlike arguments by two ways. */
        private boolean gatherAbove() {
            int listed = 0;
            for (int i = 0; i < type.refCount; i++) {
                Type ref = family.types[type.refs[i]];
                listed = list(ref.number, listed);
                for (int j = 0; j < ref.aboveCount; j++) {
                    int x = ref.aboveOrder[j];
                    if (!takeArguments(ref, x)) {
                        return false;
                    }
                    listed = list(x, listed);
                }
            }
            return true;
        }

        private int list(int x, int listed) {
            if ((listed >>> x & 1) == 0 && type.aboveCount < TYPES_MOST) {
                type.aboveOrder[type.aboveCount] = x;
                type.aboveCount++;
            }
            return listed | 1 << x;
        }

        /** The arguments of x by way of a REF; false: those by another way are unlike. */
        private boolean takeArguments(Type ref, int x) {
            boolean known = type.isBelow(x);
            for (int k = 0; k < family.types[x].varCount; k++) {
                int kind = ref.argument(x, k);
                if (kind >= KIND_VAR) {
                    kind = type.argument(ref.number, kind - KIND_VAR);
                }
                if (known && type.argument(x, k) != kind) {
                    return false;
                }
                type.setArgument(x, k, kind);
            }
            type.aboveBits |= 1 << x;
            return true;
        }

        private void gatherKinds() {
            for (int n = 0; n < family.memberCount; n++) {
                Member row = family.members[n];
                if (family.isUnder(type.number, row.type)) {
                    for (int k = 0; k <= RESULT; k++) {
                        kindsSeen[n * (RESULT + 1) + k] = family.kindSeen(type, row, k);
                    }
                }
            }
        }

        private void gatherFree() {
            freeCount = 0;
            for (int n = 0; n < type.firstMember; n++) {
                if (isAbove(n) && family.members[n].isFree()) {
                    freeAbove[freeCount] = n;
                    freeCount++;
                }
            }
        }

        private int resultSeen(int n) {
            return kindsSeen[n * (RESULT + 1) + RESULT];
        }

        /** One NAME, and kinds alike as the type sees them. */
        private boolean isAlike(int m, int n) {
            int i = m * (RESULT + 1);
            int j = n * (RESULT + 1);
            return family.members[m].name == family.members[n].name && kindsSeen[i] == kindsSeen[j]
                && kindsSeen[i + 1] == kindsSeen[j + 1];
        }

        private boolean isAbove(int n) {
            return type.isBelow(family.members[n].type);
        }

        private void markOverrides() {
            for (int m = type.firstMember; m < family.memberCount; m++) {
                if (family.members[m].isFree()) {
                    markOverridesOf(m);
                }
            }
        }

        /** From the last one down: what lies between m and one further above is told behind that one. */
        private void markOverridesOf(int m) {
            for (int i = freeCount - 1; i >= 0; i--) {
                int n = freeAbove[i];
                if (isAlike(m, n) && (isWithinReach(n) || overridesBetween(m, n))) {
                    family.setOverride(m, n);
                }
            }
        }

        private boolean isWithinReach(int n) {
            Member above = family.members[n];
            return above.access >= ACCESS_NEAR || family.samePackage(type.number, above.type);
        }

        private boolean overridesBetween(int m, int n) {
            for (int o = n + 1; o < type.firstMember; o++) {
                if (family.hasOverride(m, o) && family.hasOverride(o, n)) {
                    return true;
                }
            }
            return false;
        }

        private boolean hasWrongOverride() {
            for (int m = type.firstMember; m < family.memberCount; m++) {
                for (int n = 0; n < type.firstMember; n++) {
                    if (standsFor(m, n) && isWrong(m, n)) {
                        return true;
                    }
                }
            }
            return false;
        }

        /** Whether m overrides n, or would if neither were static. */
        private boolean standsFor(int m, int n) {
            if (!isAbove(n) || !isAlike(m, n) || family.members[m].isOwn() || family.members[n].isOwn()) {
                return false;
            }
            return isWithinReach(n) || family.hasOverride(m, n);
        }

        private boolean isWrong(int m, int n) {
            Member below = family.members[m];
            Member above = family.members[n];
            return below.isStatic() != above.isStatic() || below.access < above.access
                || !isNarrow(resultSeen(m), resultSeen(n));
        }

        private boolean isNarrow(int result, int wanted) {
            if (result == wanted) {
                return true;
            }
            int bound = result >= KIND_VAR ? type.bounds[result - KIND_VAR] : result;
            boolean areTypes = bound >= 0 && wanted >= 0 && wanted < KIND_VAR;
            return areTypes && family.isUnder(bound, wanted);
        }

        private boolean hasQuarrel() {
            for (int i = 0; i < freeCount; i++) {
                for (int j = 0; j < i; j++) {
                    if (isQuarrel(freeAbove[i], freeAbove[j])) {
                        return true;
                    }
                }
            }
            return false;
        }

        private boolean isQuarrel(int n, int o) {
            if (!isAlike(n, o) || resultSeen(n) == resultSeen(o) || isOverridden(n) || isOverridden(o)) {
                return false;
            }
            int t = family.members[n].type;
            int u = family.members[o].type;
            return !family.isUnder(t, u) && !family.isUnder(u, t);
        }

        private boolean isOverridden(int n) {
            for (int m = type.firstMember; m < family.memberCount; m++) {
                if (family.hasOverride(m, n)) {
                    return true;
                }
            }
            return false;
        }

        private void makeBridges() {
            type.firstBridge = family.bridgeCount;
            for (int m = type.firstMember; m < family.memberCount; m++) {
                Member row = family.members[m];
                if (row.isFree() && row.form != FORM_ABSTRACT) {
                    makeBridgesTo(m);
                }
            }
        }

        private void makeBridgesTo(int m) {
            for (int i = 0; i < type.aboveCount; i++) {
                Type above = family.types[type.aboveOrder[i]];
                int end = above.firstMember + above.memberCount;
                for (int n = above.firstMember; n < end; n++) {
                    if (family.hasOverride(m, n)) {
                        makeBridge(m, n);
                    }
                }
            }
        }

        /** A like erasure gets none by the same test: then m itself is the method that is there. */
        private void makeBridge(int m, int n) {
            boolean isThere = family.methodIn(type, family.members[n].signature) != NOT_THERE;
            if (!isThere && family.bridgeCount < BRIDGES_MOST) {
                family.bridgeTo[family.bridgeCount] = m;
                family.bridgeFor[family.bridgeCount] = n;
                family.bridgeCount++;
                type.bridgeCount++;
            }
        }
    }

    /** Calls: what they find, who may have it, what runs. */
    private static final class Docket {
        private Family family;
        /** The methods looked for of the faces, by the order above. */
        private final int[] faceMethods = new int[TYPES_MOST];
        private int faceCount;
        /** A receiver's classes upward, and the method looked for of each. */
        private final int[] chainTypes = new int[TYPES_MOST];
        private final int[] chainMethods = new int[TYPES_MOST];
        private final boolean[] replaces = new boolean[TYPES_MOST];
        private int chainCount;
        /** How many bridges the latest use ran through. */
        private int hops;

        Docket(Family first) {
            family = first;
        }

        void open(Family of) {
            family = of;
        }

        private Member memberOf(int method) {
            return family.members[method < BRIDGE ? method : family.bridgeTo[method - BRIDGE]];
        }

        private boolean isAbstract(int method) {
            return memberOf(method).form == FORM_ABSTRACT;
        }

        /** LOOKUP: a method; NOT_THERE. */
        int find(int t, int signature) {
            int c = family.types[t].isFace() ? NOT_THERE : t;
            for (int i = 0; i < TYPES_MOST && c != NOT_THERE; i++) {
                Type type = family.types[c];
                int method = family.methodIn(type, signature);
                if (method != NOT_THERE) {
                    return method;
                }
                c = type.classAbove;
            }
            gatherFaces(t, signature);
            int body = soleBody();
            if (body >= 0) {
                return body;
            }
            return faceCount > 0 ? faceMethods[0] : NOT_THERE;
        }

        private void gatherFaces(int t, int signature) {
            Type type = family.types[t];
            faceCount = 0;
            int own = type.isFace() ? family.methodIn(type, signature) : NOT_THERE;
            if (own != NOT_THERE) {
                faceMethods[0] = own;
                faceCount = 1;
                return;
            }
            for (int i = 0; i < type.aboveCount; i++) {
                Type above = family.types[type.aboveOrder[i]];
                int method = above.isFace() ? family.methodIn(above, signature) : NOT_THERE;
                if (method != NOT_THERE && memberOf(method).isFree()) {
                    faceMethods[faceCount] = method;
                    faceCount++;
                }
            }
        }

        /** Whether no other one gathered is of a face under the i-th one's. */
        private boolean isSpecific(int i) {
            int owner = memberOf(faceMethods[i]).type;
            for (int j = 0; j < faceCount; j++) {
                if (j != i && family.isUnder(memberOf(faceMethods[j]).type, owner)) {
                    return false;
                }
            }
            return true;
        }

        /** Of the SPECIFIC ones gathered the one that is not abstract; NO_BODY, TWO_BODIES. */
        private int soleBody() {
            int body = NO_BODY;
            for (int i = 0; i < faceCount; i++) {
                if (!isAbstract(faceMethods[i]) && isSpecific(i)) {
                    if (body != NO_BODY) {
                        return TWO_BODIES;
                    }
                    body = faceMethods[i];
                }
            }
            return body;
        }

        /** The i-th SPECIFIC method; NOT_THERE. */
        int specificAt(int t, int signature, int i) {
            gatherFaces(t, signature);
            int passed = 0;
            for (int j = 0; j < faceCount; j++) {
                if (isSpecific(j)) {
                    if (passed == i) {
                        return faceMethods[j];
                    }
                    passed++;
                }
            }
            return NOT_THERE;
        }

        /** MAY. */
        boolean isGranted(int caller, int named, int method, int receiver) {
            Member found = memberOf(method);
            switch (found.access) {
                case ACCESS_OPEN: return true;
                case ACCESS_OWN: return family.sameNest(caller, found.type);
                case ACCESS_NONE: return family.samePackage(caller, found.type);
                default: return family.samePackage(caller, found.type) || isNear(caller, named, found, receiver);
            }
        }

        private boolean isNear(int caller, int named, Member found, int receiver) {
            if (!family.isUnder(caller, found.type)) {
                return false;
            }
            boolean isKin = family.isUnder(named, caller) || family.isUnder(caller, named);
            return found.isStatic() || isKin && family.isUnder(receiver, caller);
        }

        /** SELECT: a method; NO_BODY, TWO_BODIES. */
        private int select(int found, int receiver) {
            if (memberOf(found).isOwn()) {
                return found;
            }
            int signature = family.signatureOf(found);
            gatherChain(receiver, signature);
            markReplacing(found);
            for (int i = 0; i < chainCount; i++) {
                if (replaces[i]) {
                    return isAbstract(chainMethods[i]) ? NO_BODY : chainMethods[i];
                }
            }
            gatherFaces(receiver, signature);
            return soleBody();
        }

        private void gatherChain(int receiver, int signature) {
            chainCount = 0;
            int c = receiver;
            for (int i = 0; i < TYPES_MOST && c != NOT_THERE; i++) {
                chainTypes[i] = c;
                chainMethods[i] = family.methodIn(family.types[c], signature);
                chainCount = i + 1;
                c = family.types[c].classAbove;
            }
        }

        /** From the top down, as one class's method may replace the found one by way of others above it. */
        private void markReplacing(int found) {
            boolean isWide = memberOf(found).access >= ACCESS_NEAR;
            for (int i = chainCount - 1; i >= 0; i--) {
                int method = chainMethods[i];
                if (method == NOT_THERE) {
                    replaces[i] = false;
                } else {
                    replaces[i] = method == found || memberOf(method).isFree() && (isWide || replacesBetween(i));
                }
            }
        }

        private boolean replacesBetween(int i) {
            for (int j = i + 1; j < chainCount; j++) {
                if (replaces[j] && (memberOf(chainMethods[j]).access >= ACCESS_NEAR
                    || family.samePackage(chainTypes[i], chainTypes[j]))) {
                    return true;
                }
            }
            return false;
        }

        /** RULE: a member's number, or what is against it. */
        int judge(int sort, int caller, int named, int m, int receiver) {
            hops = 0;
            if (!fitsSort(sort, caller, named)) {
                return WRONG_SORT;
            }
            int found = find(placeOfSearch(sort, caller, named), family.members[m].signature);
            if (found == NOT_THERE) {
                return FOUND_NOTHING;
            }
            if (!isGranted(caller, named, found, sort == OF_STATIC ? caller : receiver)) {
                return MAY_NOT;
            }
            if (memberOf(found).isStatic() != (sort == OF_STATIC)) {
                return WRONG_SORT;
            }
            if (sort == OF_STATIC) {
                return found;
            }
            if (!fitsReceiver(sort, caller, named, receiver)) {
                return WRONG_RECEIVER;
            }
            if (sort == OF_ABOVE) {
                return isAbstract(found) ? NO_BODY : runThroughBridges(found, receiver);
            }
            return runThroughBridges(select(found, receiver), receiver);
        }

        private boolean fitsSort(int sort, int caller, int named) {
            boolean isFace = family.types[named].isFace();
            switch (sort) {
                case OF_CLASS: return !isFace;
                case OF_FACE: return isFace;
                case OF_ABOVE: return !isFace || family.types[caller].hasRef(named);
                default: return true;
            }
        }

        private int placeOfSearch(int sort, int caller, int named) {
            boolean isClassAbove = family.types[caller].isBelow(named) && !family.types[named].isFace();
            int next = family.types[caller].classAbove;
            return sort == OF_ABOVE && isClassAbove && next != NOT_THERE ? next : named;
        }

        private boolean fitsReceiver(int sort, int caller, int named, int receiver) {
            if (family.types[receiver].what != PLAIN_CLASS) {
                return false;
            }
            if (sort != OF_ABOVE) {
                return family.isUnder(receiver, named);
            }
            return family.isUnder(receiver, caller) && family.types[caller].isBelow(named);
        }

        private int runThroughBridges(int first, int receiver) {
            int method = first;
            for (int i = 0; i < HOPS_MOST && method >= BRIDGE; i++) {
                hops++;
                method = select(family.behind(method), receiver);
            }
            return method >= BRIDGE ? TOO_MANY_BRIDGES : method;
        }

        /** How many members of a class and of the types above it give an outcome, the class being the receiver. */
        int count(int t, int outcome) {
            int sum = 0;
            for (int m = 0; m < family.memberCount; m++) {
                Member row = family.members[m];
                if (family.isUnder(t, row.type)) {
                    int sort = row.isStatic() ? OF_STATIC : family.types[row.type].isFace() ? OF_FACE : OF_CLASS;
                    int given = judge(sort, row.type, row.type, m, t);
                    if (Math.min(given, 0) == outcome) {
                        sum++;
                    }
                }
            }
            return sum;
        }
    }
}
