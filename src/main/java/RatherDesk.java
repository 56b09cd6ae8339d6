/**
 * What two sides would rather: variants of a document, lists of ranges with weights for
 * each side, and the variant that is served for them.
 */
public final class RatherDesk {
    /** Returned where there is no such value. */
    public static final int NONE = -1;

    private static final int MOST_VARIANTS = 16;
    private static final int MOST_ENTRIES = 10;
    private static final int MOST_BYTES = 120;
    private static final int MOST_KEPT = 4;
    private static final int MOST_SIZE = 999999;
    private static final int LISTS = 3;
    private static final int SIDES = 2;
    // A slot is a list of a side: 3 * side + list.
    private static final int SLOTS = SIDES * LISTS;
    private static final int RULES = 3;
    // The greatest weight and the greatest quality; a weight is so many thousandths.
    private static final int FULL = 1000;
    // What a text with a fault answers, less the fault.
    private static final int FAULTY = -10;

    private static final int TYPES = 0;
    private static final int LANGUAGES = 1;
    private static final int CODINGS = 2;

    // The tie rules; 0 tells no difference.
    private static final int SMALLER = 1;
    private static final int GREATER = 2;
    private static final int TYPE_PLACE = 3;
    private static final int LANGUAGE_PLACE = 4;
    private static final int BETTER = 5;

    // A name is a number of four letters, 1 to 26 each and 0 behind the last one; the names
    // of a type, a language or a coding stand in one long, the first one on top. So numbers
    // compare as the written texts do ("/" and "-" are below all letters), and a range is
    // compared by its top names alone.
    private static final int NAME_LETTERS = 4;
    private static final int LETTER_BITS = 5;
    private static final int LETTER_MASK = 31;
    private static final int NAME_BITS = NAME_LETTERS * LETTER_BITS;
    private static final long NAME_MASK = (1L << NAME_BITS) - 1;
    private static final int[] MOST_NAMES = {2, 3, 1};
    // The coding "id": letters 9 and 4.
    private static final long ID = (9L << 15) + (4L << 10);

    private final Text text;
    private final Reader reader;
    private final Stand now;
    private final Scores scores;
    private final Scores trial;
    private final Listing listing;
    private final Stand[] kept;
    private int keptCount;
    private boolean stale;

    /** Creates a desk without variants, with empty lists and an empty text. */
    public RatherDesk() {
        text = new Text();
        reader = new Reader(text);
        now = new Stand();
        scores = new Scores(now);
        trial = new Scores(now);
        listing = new Listing(now);
        kept = new Stand[MOST_KEPT];
        for (int place = 0; place < MOST_KEPT; place++) {
            kept[place] = new Stand();
        }
        keptCount = 0;
        stale = true;
    }

    // ---- texts

    /** Appends a byte to the text; returns the length of the text. */
    public int type(int value) throws IllegalArgumentException, IllegalStateException {
        if (value < 0 || value > 127) {
            throw new IllegalArgumentException("value is out of range");
        }
        if (text.length >= MOST_BYTES) {
            throw new IllegalStateException("the text is full");
        }
        return text.append(value);
    }

    /** Empties the text; returns the length that it had. */
    public int clearText() {
        int length = text.length;
        text.length = 0;
        return length;
    }

    /** Returns the fault of the text as a list; NONE if it tells such a list. */
    public int listFault(int list) throws IndexOutOfBoundsException {
        if (!isList(0, list)) {
            throw new IndexOutOfBoundsException("no such list");
        }
        return reader.readList(list);
    }

    /** Returns the fault of the text as a variant; NONE if it tells a variant. */
    public int variantFault() {
        return reader.readVariant();
    }

    /** Takes the list that the text tells, in place of one of a side. */
    public int takeList(int side, int list) throws IndexOutOfBoundsException {
        if (!isList(side, list)) {
            throw new IndexOutOfBoundsException("no such side or list");
        }
        int fault = reader.readList(list);
        if (fault != NONE) {
            return FAULTY - fault;
        }
        save();
        return now.putList(slotOf(side, list), reader);
    }

    /** Adds the variant that the text tells; returns its number. */
    public int addVariant() throws IllegalStateException {
        int fault = reader.readVariant();
        if (fault != NONE) {
            return FAULTY - fault;
        }
        if (now.variants >= MOST_VARIANTS) {
            throw new IllegalStateException("there are 16 variants");
        }
        if (now.hasTwin(reader)) {
            throw new IllegalStateException("there is such a variant");
        }
        save();
        return now.putVariant(reader);
    }

    // ---- changes

    /** Removes a variant; returns the number of variants that are left. */
    public int removeVariant(int variant) throws IndexOutOfBoundsException {
        if (!now.hasVariant(variant)) {
            throw new IndexOutOfBoundsException("no such variant");
        }
        save();
        return now.dropVariant(variant);
    }

    /** Sets the quality of a variant; returns the previous one. */
    public int setQuality(int variant, int quality)
            throws IndexOutOfBoundsException, IllegalArgumentException {
        if (!now.hasVariant(variant)) {
            throw new IndexOutOfBoundsException("no such variant");
        }
        if (quality < 0 || quality > FULL) {
            throw new IllegalArgumentException("quality is out of range");
        }
        save();
        int previous = now.qualities[variant];
        now.qualities[variant] = quality;
        return previous;
    }

    /** Sets the size of a variant; returns the previous one. */
    public int setSize(int variant, int size)
            throws IndexOutOfBoundsException, IllegalArgumentException {
        if (!now.hasVariant(variant)) {
            throw new IndexOutOfBoundsException("no such variant");
        }
        if (size < 0 || size > MOST_SIZE) {
            throw new IllegalArgumentException("size is out of range");
        }
        save();
        int previous = now.sizes[variant];
        now.sizes[variant] = size;
        return previous;
    }

    /** Sets the weight of an entry; returns the previous one. */
    public int setWeight(int side, int list, int entry, int weight)
            throws IndexOutOfBoundsException, IllegalArgumentException {
        if (!hasEntry(side, list, entry)) {
            throw new IndexOutOfBoundsException("no such side, list or entry");
        }
        if (weight < 0 || weight > FULL) {
            throw new IllegalArgumentException("weight is out of range");
        }
        save();
        int row = rowOf(slotOf(side, list), entry);
        int previous = now.weights[row];
        now.weights[row] = weight;
        return previous;
    }

    /** Removes an entry from its list; returns the number of entries that are left. */
    public int removeEntry(int side, int list, int entry) throws IndexOutOfBoundsException {
        if (!hasEntry(side, list, entry)) {
            throw new IndexOutOfBoundsException("no such side, list or entry");
        }
        save();
        return now.dropEntry(slotOf(side, list), entry);
    }

    /** Exchanges both sides; returns the number of entries that the side 0 has then. */
    public int swapSides() {
        save();
        for (int list = 0; list < LISTS; list++) {
            now.exchangeLists(slotOf(0, list), slotOf(1, list));
        }
        return now.entriesOf(0);
    }

    /** Sets the tie rules; returns them as they were, as three digits. */
    public int setTies(int first, int second, int third) throws IllegalArgumentException {
        if (!isRule(first) || !isRule(second) || !isRule(third)) {
            throw new IllegalArgumentException("a tie rule is out of range");
        }
        save();
        int previous = 100 * now.ties[0] + 10 * now.ties[1] + now.ties[2];
        now.ties[0] = first;
        now.ties[1] = second;
        now.ties[2] = third;
        return previous;
    }

    // ---- values

    /** Returns a value of a variant. */
    public int variant(int variant, int what)
            throws IndexOutOfBoundsException, IllegalArgumentException {
        if (!now.hasVariant(variant)) {
            throw new IndexOutOfBoundsException("no such variant");
        }
        if (what < 0 || what > 6) {
            throw new IllegalArgumentException("what is out of range");
        }
        settle();
        return variantValue(variant, what);
    }

    /** Returns the weight of a list for a variant. */
    public int weight(int side, int list, int variant) throws IndexOutOfBoundsException {
        if (!isList(side, list) || !now.hasVariant(variant)) {
            throw new IndexOutOfBoundsException("no such side, list or variant");
        }
        settle();
        return scores.weights[cellOf(variant, slotOf(side, list))];
    }

    /** Returns the place of the entry of a list that counts for a variant. */
    public int counting(int side, int list, int variant) throws IndexOutOfBoundsException {
        if (!isList(side, list) || !now.hasVariant(variant)) {
            throw new IndexOutOfBoundsException("no such side, list or variant");
        }
        settle();
        return scores.places[cellOf(variant, slotOf(side, list))];
    }

    /** Returns a value of an entry. */
    public int entry(int side, int list, int entry, int what)
            throws IndexOutOfBoundsException, IllegalArgumentException {
        if (!hasEntry(side, list, entry)) {
            throw new IndexOutOfBoundsException("no such side, list or entry");
        }
        if (what < 0 || what > 3) {
            throw new IllegalArgumentException("what is out of range");
        }
        settle();
        return entryValue(slotOf(side, list), entry, what);
    }

    /** Returns the variant at a place of the ranking; NONE if there are not so many. */
    public int ranked(int place) throws IllegalArgumentException {
        if (place < 0) {
            throw new IllegalArgumentException("place is negative");
        }
        settle();
        return scores.variantAt(place);
    }

    /** Returns a value of the whole. */
    public int whole(int what) throws IllegalArgumentException {
        if (what < 0 || what > 10) {
            throw new IllegalArgumentException("what is out of range");
        }
        settle();
        return wholeValue(what);
    }

    // ---- listing: what there is

    /** Returns the variant at a place of the listing; NONE if there are not so many. */
    public int listed(int place) throws IllegalArgumentException {
        if (place < 0) {
            throw new IllegalArgumentException("place is negative");
        }
        settle();
        return listing.variantAt(place);
    }

    /** Returns a byte of the listing as it is written; NONE if there are not so many. */
    public int listingByte(int index) throws IllegalArgumentException {
        if (index < 0) {
            throw new IllegalArgumentException("index is negative");
        }
        settle();
        return listing.byteAt(index);
    }

    // ---- what if, which changes nothing

    /** Returns the variant that would be served if the other side's lists were empty. */
    public int servedFor(int side) throws IndexOutOfBoundsException {
        if (side < 0 || side >= SIDES) {
            throw new IndexOutOfBoundsException("no such side");
        }
        return servedWithoutSide(1 - side);
    }

    /** Returns the variant that would be served without another one. */
    public int servedWithout(int variant) throws IndexOutOfBoundsException {
        if (!now.hasVariant(variant)) {
            throw new IndexOutOfBoundsException("no such variant");
        }
        settle();
        int served = scores.variantAt(0);
        return served == variant ? scores.variantAt(1) : served;
    }

    /** Returns the least weight of an entry with which a variant would be served. */
    public int leastWeight(int side, int list, int entry, int variant)
            throws IndexOutOfBoundsException {
        if (!hasEntry(side, list, entry) || !now.hasVariant(variant)) {
            throw new IndexOutOfBoundsException("no such side, list, entry or variant");
        }
        settle();
        return scores.leastLeadingWeight(slotOf(side, list), entry, variant);
    }

    /** Returns the least quality with which a variant would be served. */
    public int leastQuality(int variant) throws IndexOutOfBoundsException {
        if (!now.hasVariant(variant)) {
            throw new IndexOutOfBoundsException("no such variant");
        }
        settle();
        return scores.leastLeadingQuality(variant);
    }

    /** Tells whether both sides would be served the same variant. */
    public boolean agree() {
        return servedWithoutSide(1) == servedWithoutSide(0);
    }

    // ---- undo and checksum

    /** Restores the latest saved state; returns the number of states that are left. */
    public int undo() throws IllegalStateException {
        if (keptCount <= 0) {
            throw new IllegalStateException("nothing is saved");
        }
        keptCount--;
        now.copyFrom(kept[keptCount]);
        stale = true;
        return keptCount;
    }

    /** Returns a hash of the state. */
    public long digest() {
        settle();
        long hash = mix(12856, keptCount);
        for (int what = 0; what <= 10; what++) {
            hash = mix(hash, wholeValue(what));
        }
        hash = mixVariants(hash);
        hash = mixEntries(hash);
        for (int place = 0; place < scores.rankedCount; place++) {
            hash = mix(hash, scores.variantAt(place));
        }
        for (int index = 0; index < listing.length; index++) {
            hash = mix(hash, listing.byteAt(index));
        }
        return hash;
    }

    // ---- behind the face

    private static boolean isList(int side, int list) {
        return side >= 0 && side < SIDES && list >= 0 && list < LISTS;
    }

    private static boolean isRule(int rule) {
        return rule >= 0 && rule <= BETTER;
    }

    private static int slotOf(int side, int list) {
        return side * LISTS + list;
    }

    /** Where an entry stands in the rows of all entries. */
    private static int rowOf(int slot, int place) {
        return slot * MOST_ENTRIES + place;
    }

    /** Where a list's value for a variant stands in the rows of such values. */
    private static int cellOf(int variant, int slot) {
        return variant * SLOTS + slot;
    }

    private boolean hasEntry(int side, int list, int entry) {
        return isList(side, list) && now.hasPlace(slotOf(side, list), entry);
    }

    /** Saves the state ahead of a change; what was worked out of it is stale from then on. */
    private void save() {
        if (keptCount >= MOST_KEPT) {
            dropOldest();
        }
        kept[keptCount].copyFrom(now);
        keptCount++;
        stale = true;
    }

    /** The oldest state's rows go to the end, to be written over. */
    private void dropOldest() {
        Stand oldest = kept[0];
        for (int place = 1; place < MOST_KEPT; place++) {
            kept[place - 1] = kept[place];
        }
        kept[MOST_KEPT - 1] = oldest;
        keptCount = MOST_KEPT - 1;
    }

    /** Works out what a call is about to read, if the state has changed since. */
    private void settle() {
        if (stale) {
            scores.workOut(NONE);
            listing.workOut();
            stale = false;
        }
    }

    private int servedWithoutSide(int side) {
        trial.workOut(side);
        return trial.variantAt(0);
    }

    private int variantValue(int variant, int what) {
        switch (what) {
            case 0:
                return now.sizes[variant];
            case 1:
                return now.qualities[variant];
            case 2:
                return scores.scores[variant];
            case 3:
                return scores.reasonOf(variant);
            case 4:
                return scores.ranks[variant];
            case 5:
                return listing.places[variant];
            default:
                return now.languageNames(variant);
        }
    }

    private int entryValue(int slot, int place, int what) {
        switch (what) {
            case 0:
                return now.weights[rowOf(slot, place)];
            case 1:
                return now.names[rowOf(slot, place)];
            case 2:
                return now.matchCount(slot, place);
            default:
                return scores.countingCount(slot, place);
        }
    }

    private int wholeValue(int what) {
        switch (what) {
            case 0:
                return now.variants;
            case 1:
                return scores.rankedCount;
            case 2:
                return scores.variantAt(0);
            case 3:
                return scores.servedScore();
            case 4:
                return now.entriesOf(0);
            case 5:
                return now.entriesOf(1);
            case 6:
                return text.length;
            case 7:
            case 8:
            case 9:
                return now.ties[what - 7];
            default:
                return listing.length;
        }
    }

    private static long mix(long hash, int value) {
        return 31 * hash + value;
    }

    private long mixVariants(long start) {
        long hash = start;
        for (int variant = 0; variant < now.variants; variant++) {
            for (int what = 0; what <= 6; what++) {
                hash = mix(hash, variantValue(variant, what));
            }
            for (int slot = 0; slot < SLOTS; slot++) {
                hash = mix(hash, scores.weights[cellOf(variant, slot)]);
            }
        }
        return hash;
    }

    private long mixEntries(long start) {
        long hash = start;
        for (int slot = 0; slot < SLOTS; slot++) {
            for (int place = 0; place < now.lengths[slot]; place++) {
                for (int what = 0; what <= 3; what++) {
                    hash = mix(hash, entryValue(slot, place, what));
                }
            }
        }
        return hash;
    }

    /** The bytes that were typed. */
    private static final class Text {
        final byte[] bytes = new byte[MOST_BYTES];
        int length;

        int append(int value) {
            if (length < MOST_BYTES) {
                bytes[length] = (byte) value;
                length++;
            }
            return length;
        }

        /** The byte at an index; NONE behind the end. */
        int byteAt(int index) {
            return index >= 0 && index < length ? bytes[index] : NONE;
        }
    }

    /**
     * Reads a text from the left to the right into its rows. Where a part cannot be read,
     * `at` stays on the first byte that cannot stand there, or on the end of the text.
     */
    private static final class Reader {
        private final Text text;
        private int at;
        // What was read last: a number, and a type, language, coding or a range of them.
        private int number;
        private long key;
        private int keyNames;
        // The list that was read.
        final long[] ranges = new long[MOST_ENTRIES];
        final int[] names = new int[MOST_ENTRIES];
        final int[] weights = new int[MOST_ENTRIES];
        int entries;
        // The variant that was read.
        final long[] keys = new long[LISTS];
        int size;

        Reader(Text text) {
            this.text = text;
        }

        /** Reads the text as a list; returns its fault. */
        int readList(int list) {
            at = 0;
            entries = 0;
            skipSpaces();
            if (atEnd()) {
                return NONE;
            }
            for (int place = 0; place < MOST_ENTRIES; place++) {
                if (!readKey(list, true)) {
                    return at;
                }
                int fault = readWeight();
                if (fault != NONE) {
                    return fault;
                }
                keepEntry(place);
                if (atEnd()) {
                    return NONE;
                }
                if (!skips(',')) {
                    return at;
                }
                skipSpaces();
            }
            return at;
        }

        /** Reads the text as a variant; returns its fault. */
        int readVariant() {
            at = 0;
            skipSpaces();
            for (int list = 0; list < LISTS; list++) {
                if (!readKey(list, false)) {
                    return at;
                }
                keys[list] = key;
                if (peek() != ' ') {
                    return at;
                }
                skipSpaces();
            }
            if (!readNumber(6)) {
                return at;
            }
            size = number;
            skipSpaces();
            return atEnd() ? NONE : at;
        }

        private void keepEntry(int place) {
            ranges[place] = key;
            names[place] = keyNames;
            weights[place] = number;
            entries = place + 1;
        }

        /** Reads ";" and a weight, if they are there, and spaces; returns the fault. */
        private int readWeight() {
            number = FULL;
            skipSpaces();
            if (!skips(';')) {
                return NONE;
            }
            skipSpaces();
            int first = at;
            if (!readNumber(4)) {
                return at;
            }
            if (number > FULL) {
                return isDigit(peek()) ? at : first;
            }
            skipSpaces();
            return NONE;
        }

        private boolean readKey(int list, boolean stars) {
            key = 0;
            keyNames = 0;
            switch (list) {
                case TYPES:
                    return readType(stars);
                case LANGUAGES:
                    return readLanguage(stars);
                default:
                    return (stars && skips('*')) || readName(CODINGS);
            }
        }

        private boolean readType(boolean stars) {
            if (stars && skips('*')) {
                return skips('/') && skips('*');
            }
            if (!readName(TYPES) || !skips('/')) {
                return false;
            }
            return (stars && skips('*')) || readName(TYPES);
        }

        private boolean readLanguage(boolean stars) {
            if (stars && skips('*')) {
                return true;
            }
            for (int name = 0; name < MOST_NAMES[LANGUAGES]; name++) {
                if (name > 0 && !skips('-')) {
                    return true;
                }
                if (!readName(LANGUAGES)) {
                    return false;
                }
            }
            return true;
        }

        /** Reads the next name of the key; tells whether there is one. */
        private boolean readName(int list) {
            long name = 0;
            for (int letter = 0; letter < NAME_LETTERS; letter++) {
                name = name << LETTER_BITS;
                int value = peek();
                if (value >= 'a' && value <= 'z') {
                    name += value - 'a' + 1;
                    at++;
                }
            }
            if (name == 0) {
                return false;
            }
            keyNames++;
            key += name << (NAME_BITS * (MOST_NAMES[list] - keyNames));
            return true;
        }

        private boolean readNumber(int mostDigits) {
            int first = at;
            number = 0;
            for (int digit = 0; digit < mostDigits && isDigit(peek()); digit++) {
                number = 10 * number + peek() - '0';
                at++;
            }
            return at > first;
        }

        private static boolean isDigit(int value) {
            return value >= '0' && value <= '9';
        }

        private int peek() {
            return text.byteAt(at);
        }

        private boolean atEnd() {
            return at >= text.length;
        }

        private boolean skips(int value) {
            if (peek() != value) {
                return false;
            }
            at++;
            return true;
        }

        private void skipSpaces() {
            while (at < text.length && peek() == ' ') {
                at++;
            }
        }
    }

    /** The state that undo saves and restores: the variants, the lists and the tie rules. */
    private static final class Stand {
        int variants;
        // The type, the language and the coding of each variant, one behind the other.
        final long[] keys = new long[MOST_VARIANTS * LISTS];
        final int[] sizes = new int[MOST_VARIANTS];
        final int[] qualities = new int[MOST_VARIANTS];
        // The entries of all lists, ten rows for each.
        final int[] lengths = new int[SLOTS];
        final long[] ranges = new long[SLOTS * MOST_ENTRIES];
        final int[] names = new int[SLOTS * MOST_ENTRIES];
        final int[] weights = new int[SLOTS * MOST_ENTRIES];
        final int[] ties = {SMALLER, 0, 0};

        void copyFrom(Stand other) {
            variants = other.variants;
            System.arraycopy(other.keys, 0, keys, 0, MOST_VARIANTS * LISTS);
            System.arraycopy(other.sizes, 0, sizes, 0, MOST_VARIANTS);
            System.arraycopy(other.qualities, 0, qualities, 0, MOST_VARIANTS);
            System.arraycopy(other.lengths, 0, lengths, 0, SLOTS);
            System.arraycopy(other.ranges, 0, ranges, 0, SLOTS * MOST_ENTRIES);
            System.arraycopy(other.names, 0, names, 0, SLOTS * MOST_ENTRIES);
            System.arraycopy(other.weights, 0, weights, 0, SLOTS * MOST_ENTRIES);
            System.arraycopy(other.ties, 0, ties, 0, RULES);
        }

        boolean hasVariant(int variant) {
            return variant >= 0 && variant < variants;
        }

        boolean hasPlace(int slot, int place) {
            return place >= 0 && place < lengths[slot];
        }

        boolean hasTwin(Reader reader) {
            for (int variant = 0; variant < variants; variant++) {
                if (keyOf(variant, TYPES) == reader.keys[TYPES]
                        && keyOf(variant, LANGUAGES) == reader.keys[LANGUAGES]
                        && keyOf(variant, CODINGS) == reader.keys[CODINGS]) {
                    return true;
                }
            }
            return false;
        }

        long keyOf(int variant, int list) {
            return keys[variant * LISTS + list];
        }

        /** Adds the variant that was read; returns its number. */
        int putVariant(Reader reader) {
            int variant = variants;
            if (variant < MOST_VARIANTS) {
                for (int list = 0; list < LISTS; list++) {
                    keys[variant * LISTS + list] = reader.keys[list];
                }
                sizes[variant] = reader.size;
                qualities[variant] = FULL;
                variants++;
            }
            return variant;
        }

        /** Removes a variant; returns how many are left. */
        int dropVariant(int variant) {
            for (int behind = variant + 1; behind < variants; behind++) {
                for (int list = 0; list < LISTS; list++) {
                    keys[(behind - 1) * LISTS + list] = keys[behind * LISTS + list];
                }
                sizes[behind - 1] = sizes[behind];
                qualities[behind - 1] = qualities[behind];
            }
            variants--;
            return variants;
        }

        /** Puts the list that was read into a slot; returns its number of entries. */
        int putList(int slot, Reader reader) {
            for (int place = 0; place < reader.entries; place++) {
                int row = rowOf(slot, place);
                ranges[row] = reader.ranges[place];
                names[row] = reader.names[place];
                weights[row] = reader.weights[place];
            }
            lengths[slot] = reader.entries;
            return reader.entries;
        }

        /** Removes an entry; returns how many are left in its list. */
        int dropEntry(int slot, int place) {
            for (int behind = place + 1; behind < lengths[slot]; behind++) {
                int row = rowOf(slot, behind);
                ranges[row - 1] = ranges[row];
                names[row - 1] = names[row];
                weights[row - 1] = weights[row];
            }
            lengths[slot]--;
            return lengths[slot];
        }

        void exchangeLists(int slot, int other) {
            int length = lengths[slot];
            lengths[slot] = lengths[other];
            lengths[other] = length;
            for (int place = 0; place < MOST_ENTRIES; place++) {
                exchangeRows(rowOf(slot, place), rowOf(other, place));
            }
        }

        private void exchangeRows(int row, int other) {
            long range = ranges[row];
            ranges[row] = ranges[other];
            ranges[other] = range;
            int count = names[row];
            names[row] = names[other];
            names[other] = count;
            int share = weights[row];
            weights[row] = weights[other];
            weights[other] = share;
        }

        int entriesOf(int side) {
            int sum = 0;
            for (int list = 0; list < LISTS; list++) {
                sum += lengths[slotOf(side, list)];
            }
            return sum;
        }

        int languageNames(int variant) {
            long key = keyOf(variant, LANGUAGES);
            int count = 0;
            for (int name = 0; name < MOST_NAMES[LANGUAGES]; name++) {
                if (((key >>> (NAME_BITS * name)) & NAME_MASK) != 0) {
                    count++;
                }
            }
            return count;
        }

        /** Tells whether an entry's range matches: its names are the top ones of the key. */
        boolean matches(int slot, int place, int variant) {
            int list = slot % LISTS;
            int row = rowOf(slot, place);
            int freeNames = MOST_NAMES[list] - names[row];
            return (keyOf(variant, list) ^ ranges[row]) >>> (NAME_BITS * freeNames) == 0;
        }

        int matchCount(int slot, int place) {
            int count = 0;
            for (int variant = 0; variant < variants; variant++) {
                if (matches(slot, place, variant)) {
                    count++;
                }
            }
            return count;
        }

        /** The place of the first one of the most specific entries that match. */
        int placeThatCounts(int slot, int variant) {
            int best = NONE;
            int bestNames = NONE;
            for (int place = 0; place < lengths[slot]; place++) {
                int count = names[rowOf(slot, place)];
                if (count > bestNames && matches(slot, place, variant)) {
                    best = place;
                    bestNames = count;
                }
            }
            return best;
        }

        /** The weight of a list for a variant, with the place of the entry that counts. */
        int weightAt(int slot, int place, int variant) {
            if (place != NONE) {
                return weights[rowOf(slot, place)];
            }
            if (lengths[slot] == 0) {
                return FULL;
            }
            return slot % LISTS == CODINGS && keyOf(variant, CODINGS) == ID ? FULL : 0;
        }
    }

    /** What the lists make of the variants: their weights, scores and ranking. */
    private static final class Scores {
        // The tie rules know an entry that does not count by this place.
        private static final int NO_PLACE = 100;

        private final Stand stand;
        // Of each variant for each slot: the place of the entry that counts, and the weight.
        final int[] places = new int[MOST_VARIANTS * SLOTS];
        final int[] weights = new int[MOST_VARIANTS * SLOTS];
        final int[] scores = new int[MOST_VARIANTS];
        final int[] ranks = new int[MOST_VARIANTS];
        private final int[] order = new int[MOST_VARIANTS];
        // What each tie rule looks at, of each variant: the smaller one comes first.
        private final int[] tieRanks = new int[MOST_VARIANTS * RULES];
        int rankedCount;

        Scores(Stand stand) {
            this.stand = stand;
        }

        /** Works all out of the state, with the lists of one side taken as empty, or NONE. */
        void workOut(int emptySide) {
            for (int variant = 0; variant < stand.variants; variant++) {
                for (int slot = 0; slot < SLOTS; slot++) {
                    boolean empty = slot / LISTS == emptySide;
                    int place = empty ? NONE : stand.placeThatCounts(slot, variant);
                    places[cellOf(variant, slot)] = place;
                    weights[cellOf(variant, slot)] =
                            empty ? FULL : stand.weightAt(slot, place, variant);
                }
                scores[variant] = scoreOfQuality(variant, stand.qualities[variant]);
                for (int tie = 0; tie < RULES; tie++) {
                    tieRanks[variant * RULES + tie] = tieRank(stand.ties[tie], variant);
                }
            }
            rankAll();
        }

        /** The variant at a place of the ranking; NONE if there are not so many. */
        int variantAt(int place) {
            return place >= 0 && place < rankedCount ? order[place] : NONE;
        }

        int servedScore() {
            return rankedCount > 0 ? scores[order[0]] : 0;
        }

        /** Why a variant is refused; 0 if it is not. */
        int reasonOf(int variant) {
            if (scores[variant] > 0) {
                return 0;
            }
            for (int slot = 0; slot < SLOTS; slot++) {
                if (weights[cellOf(variant, slot)] == 0) {
                    return 1 + slot;
                }
            }
            return stand.qualities[variant] == 0 ? 7 : 8;
        }

        int countingCount(int slot, int place) {
            int count = 0;
            for (int variant = 0; variant < stand.variants; variant++) {
                if (places[cellOf(variant, slot)] == place) {
                    count++;
                }
            }
            return count;
        }

        /** The least weight of an entry with which a variant is first; NONE without one. */
        int leastLeadingWeight(int slot, int place, int variant) {
            int best = 0;
            for (int weight = 0; weight <= FULL; weight++) {
                int score = scoreOfWeight(variant, slot, place, weight);
                // A greater weight never lowers a rival, so a score that was not enough
                // at a smaller weight is not enough now.
                if (score > best) {
                    if (leadsAtWeight(variant, slot, place, weight)) {
                        return weight;
                    }
                    best = score;
                }
            }
            return NONE;
        }

        /** The least quality with which a variant is first; NONE without one. */
        int leastLeadingQuality(int variant) {
            // What leads with some quality leads with each greater one, and none with 0:
            // so the greatest quality that is too small is found by halves.
            int tooSmall = 0;
            for (int step = 512; step > 0; step = step / 2) {
                int quality = tooSmall + step;
                if (quality <= FULL && !leadsAtQuality(variant, quality)) {
                    tooSmall = quality;
                }
            }
            return tooSmall < FULL ? tooSmall + 1 : NONE;
        }

        private boolean leadsAtWeight(int variant, int slot, int place, int weight) {
            int score = scoreOfWeight(variant, slot, place, weight);
            int quality = stand.qualities[variant];
            for (int rival = 0; rival < stand.variants; rival++) {
                int rivalScore = scoreOfWeight(rival, slot, place, weight);
                if (rival != variant && isAhead(rival, rivalScore, variant, score, quality)) {
                    return false;
                }
            }
            return score > 0;
        }

        private boolean leadsAtQuality(int variant, int quality) {
            int score = scoreOfQuality(variant, quality);
            for (int rival = 0; rival < stand.variants; rival++) {
                if (rival != variant && isAhead(rival, scores[rival], variant, score, quality)) {
                    return false;
                }
            }
            return score > 0;
        }

        private int scoreOfQuality(int variant, int quality) {
            int score = quality;
            for (int slot = 0; slot < SLOTS; slot++) {
                score = score * weights[cellOf(variant, slot)] / FULL;
            }
            return score;
        }

        /** The score of a variant if an entry had another weight. */
        private int scoreOfWeight(int variant, int slot, int place, int weight) {
            if (places[cellOf(variant, slot)] != place) {
                return scores[variant];
            }
            int score = stand.qualities[variant];
            for (int other = 0; other < SLOTS; other++) {
                int share = other == slot ? weight : weights[cellOf(variant, other)];
                score = score * share / FULL;
            }
            return score;
        }

        private void rankAll() {
            rankedCount = 0;
            for (int variant = 0; variant < stand.variants; variant++) {
                ranks[variant] = NONE;
                if (scores[variant] > 0) {
                    rankOne(variant);
                }
            }
            for (int place = 0; place < rankedCount; place++) {
                ranks[order[place]] = place;
            }
        }

        private void rankOne(int variant) {
            int score = scores[variant];
            int quality = stand.qualities[variant];
            int place = rankedCount;
            while (place > 0 && !isAhead(order[place - 1], scores[order[place - 1]],
                    variant, score, quality)) {
                order[place] = order[place - 1];
                place--;
            }
            order[place] = variant;
            rankedCount++;
        }

        /** Tells whether a rival with a score is ahead of a variant with a score and a quality. */
        private boolean isAhead(int rival, int rivalScore, int variant, int score, int quality) {
            if (rivalScore != score) {
                return rivalScore > score;
            }
            for (int tie = 0; tie < RULES; tie++) {
                boolean better = stand.ties[tie] == BETTER;
                int rivalRank = tieRanks[rival * RULES + tie];
                int rank = better ? -quality : tieRanks[variant * RULES + tie];
                if (rivalRank != rank) {
                    return rivalRank < rank;
                }
            }
            return rival < variant;
        }

        private int tieRank(int rule, int variant) {
            switch (rule) {
                case SMALLER:
                    return stand.sizes[variant];
                case GREATER:
                    return -stand.sizes[variant];
                case TYPE_PLACE:
                    return placeRank(variant, TYPES);
                case LANGUAGE_PLACE:
                    return placeRank(variant, LANGUAGES);
                case BETTER:
                    return -stand.qualities[variant];
                default:
                    return 0;
            }
        }

        private int placeRank(int variant, int list) {
            int place = places[cellOf(variant, slotOf(0, list))];
            return place == NONE ? NO_PLACE : place;
        }
    }

    /** All variants in the order of their types, languages and codings, and as bytes. */
    private static final class Listing {
        // Type 9, language 14, coding 4, size 6, and five bytes between them and the next.
        private static final int MOST_LISTED = MOST_VARIANTS * 38;

        private final Stand stand;
        private final int[] order = new int[MOST_VARIANTS];
        final int[] places = new int[MOST_VARIANTS];
        private final byte[] bytes = new byte[MOST_LISTED];
        int length;

        Listing(Stand stand) {
            this.stand = stand;
        }

        void workOut() {
            for (int variant = 0; variant < stand.variants; variant++) {
                insert(variant);
            }
            length = 0;
            for (int place = 0; place < stand.variants; place++) {
                places[order[place]] = place;
                if (place > 0) {
                    put(',');
                    put(' ');
                }
                putVariant(order[place]);
            }
        }

        /** The variant at a place; NONE if there are not so many. */
        int variantAt(int place) {
            return place >= 0 && place < stand.variants ? order[place] : NONE;
        }

        /** The byte at an index; NONE if there are not so many. */
        int byteAt(int index) {
            return index >= 0 && index < length ? bytes[index] : NONE;
        }

        /** Puts a variant among those with smaller numbers. */
        private void insert(int variant) {
            int place = variant;
            while (place > 0 && isBefore(variant, order[place - 1])) {
                order[place] = order[place - 1];
                place--;
            }
            order[place] = variant;
        }

        private boolean isBefore(int variant, int other) {
            for (int list = 0; list < LISTS; list++) {
                long key = stand.keyOf(variant, list);
                long otherKey = stand.keyOf(other, list);
                if (key != otherKey) {
                    return key < otherKey;
                }
            }
            return false;
        }

        private void putVariant(int variant) {
            putNames(stand.keyOf(variant, TYPES), TYPES, '/');
            put(' ');
            putNames(stand.keyOf(variant, LANGUAGES), LANGUAGES, '-');
            put(' ');
            putNames(stand.keyOf(variant, CODINGS), CODINGS, ' ');
            put(' ');
            putNumber(stand.sizes[variant]);
        }

        private void putNames(long key, int list, int between) {
            int last = MOST_NAMES[list] - 1;
            for (int name = 0; name <= last; name++) {
                int letters = (int) ((key >>> (NAME_BITS * (last - name))) & NAME_MASK);
                if (name > 0 && letters != 0) {
                    put(between);
                }
                putName(letters);
            }
        }

        private void putName(int letters) {
            for (int letter = NAME_LETTERS - 1; letter >= 0; letter--) {
                int value = (letters >>> (LETTER_BITS * letter)) & LETTER_MASK;
                if (value != 0) {
                    put('a' + value - 1);
                }
            }
        }

        private void putNumber(int number) {
            boolean begun = false;
            for (int unit = 100000; unit > 0; unit = unit / 10) {
                int digit = number / unit % 10;
                begun = begun || digit != 0 || unit == 1;
                if (begun) {
                    put('0' + digit);
                }
            }
        }

        private void put(int value) {
            if (length < MOST_LISTED) {
                bytes[length] = (byte) value;
                length++;
            }
        }
    }
}
